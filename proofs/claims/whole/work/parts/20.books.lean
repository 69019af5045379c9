/-! Orders and books as lists: a book is its orders as they came, and whether it is halted; a side in book order is its stable sorting. -/
theorem bo_snoc {α : Type} (l : List α) : l = [] ∨ ∃ (L : List α) (o : α), l = L ++ [o] := by
  rcases List.eq_nil_or_concat l with h | ⟨L, o, h⟩
  · exact Or.inl h
  · exact Or.inr ⟨L, o, by rw [h, List.concat_eq_append]⟩
/-- id, side, price, size -/
abbrev bo_O : Type := Int32 × Nat × Int32 × Int32
def bo_ge (s : Nat) (a o : bo_O) : Bool := if s = 0 then decide (o.2.2.1 ≤ a.2.2.1) else decide (a.2.2.1 ≤ o.2.2.1)
theorem bo_ge_trans {s : Nat} {a b c : bo_O} (h1 : bo_ge s a b = true) (h2 : bo_ge s b c = true) : bo_ge s a c = true := by
  by_cases hs : s = 0
  · simp only [bo_ge, hs, if_true, decide_eq_true_eq, Int32.le_iff_toInt_le] at *
    omega
  · simp only [bo_ge, hs, if_false, decide_eq_true_eq, Int32.le_iff_toInt_le] at *
    omega
theorem bo_ge_total {s : Nat} {a b : bo_O} (h : ¬ bo_ge s a b = true) : bo_ge s b a = true := by
  by_cases hs : s = 0
  · simp only [bo_ge, hs, if_true, decide_eq_true_eq, Int32.le_iff_toInt_le] at *
    omega
  · simp only [bo_ge, hs, if_false, decide_eq_true_eq, Int32.le_iff_toInt_le] at *
    omega
theorem bo_ge_price {s : Nat} {a a' o o' : bo_O} (h1 : a'.2.2.1 = a.2.2.1) (h2 : o'.2.2.1 = o.2.2.1) : bo_ge s a' o' = bo_ge s a o := by
  simp only [bo_ge, h1, h2]
def bo_ins (s : Nat) (o : bo_O) : List bo_O → List bo_O
  | [] => [o]
  | a :: t => if bo_ge s a o = true then a :: bo_ins s o t else o :: a :: t
def bo_srt (s : Nat) (l : List bo_O) : List bo_O := l.foldl (fun acc o => if o.2.1 = s then bo_ins s o acc else acc) []
def bo_S (s : Nat) (l : List bo_O) : Prop := l.Pairwise (fun a b => bo_ge s a b = true)
theorem bo_ins_mem {s : Nat} {o x : bo_O} : ∀ {l : List bo_O}, x ∈ bo_ins s o l ↔ x = o ∨ x ∈ l
  | [] => by simp [bo_ins]
  | a :: t => by
    unfold bo_ins
    split
    · rw [List.mem_cons, bo_ins_mem, List.mem_cons]
      constructor
      · rintro (h | h | h)
        · exact Or.inr (Or.inl h)
        · exact Or.inl h
        · exact Or.inr (Or.inr h)
      · rintro (h | h | h)
        · exact Or.inr (Or.inl h)
        · exact Or.inl h
        · exact Or.inr (Or.inr h)
    · rw [List.mem_cons]
theorem bo_ins_len {s : Nat} {o : bo_O} : ∀ {l : List bo_O}, (bo_ins s o l).length = l.length + 1
  | [] => rfl
  | a :: t => by
    unfold bo_ins
    split
    · rw [List.length_cons, bo_ins_len, List.length_cons]
    · rfl
theorem bo_ins_S {s : Nat} {o : bo_O} : ∀ {l : List bo_O}, bo_S s l → bo_S s (bo_ins s o l)
  | [], _ => List.pairwise_singleton _ _
  | a :: t, h => by
    obtain ⟨h1, h2⟩ := List.pairwise_cons.mp h
    unfold bo_ins
    split
    · rename_i hg
      refine List.pairwise_cons.mpr ⟨fun b hb => ?_, bo_ins_S h2⟩
      rcases bo_ins_mem.mp hb with rfl | hb
      · exact hg
      · exact h1 b hb
    · rename_i hg
      have hoa := bo_ge_total hg
      refine List.pairwise_cons.mpr ⟨fun b hb => ?_, h⟩
      rcases List.mem_cons.mp hb with rfl | hb
      · exact hoa
      · exact bo_ge_trans hoa (h1 b hb)
theorem bo_ins_none {s : Nat} {o : bo_O} {l : List bo_O} (h : ∀ x ∈ l, ¬ bo_ge s x o = true) : bo_ins s o l = o :: l := by
  cases l with
  | nil => rfl
  | cons a t => rw [bo_ins, if_neg (h a List.mem_cons_self)]
theorem bo_ins_filter {s : Nat} {o : bo_O} (p : bo_O → Bool) : ∀ {l : List bo_O}, bo_S s l → (bo_ins s o l).filter p = if p o = true then bo_ins s o (l.filter p) else l.filter p
  | [], _ => by
    by_cases hp : p o = true <;> simp [bo_ins, hp]
  | a :: t, h => by
    obtain ⟨h1, h2⟩ := List.pairwise_cons.mp h
    by_cases hg : bo_ge s a o = true
    · rw [bo_ins, if_pos hg, List.filter_cons, bo_ins_filter p h2, List.filter_cons]
      by_cases ha : p a = true
      · rw [if_pos ha, if_pos ha]
        by_cases hp : p o = true
        · rw [if_pos hp, if_pos hp, bo_ins, if_pos hg]
        · rw [if_neg hp, if_neg hp]
      · rw [if_neg ha, if_neg ha]
    · rw [bo_ins, if_neg hg, List.filter_cons]
      by_cases hp : p o = true
      · rw [if_pos hp, if_pos hp]
        refine (bo_ins_none (fun x hx => ?_)).symm
        have hx2 := (List.mem_filter.mp hx).1
        rcases List.mem_cons.mp hx2 with rfl | hx3
        · exact hg
        · exact fun q => hg (bo_ge_trans (h1 x hx3) q)
      · rw [if_neg hp, if_neg hp]
theorem bo_ins_map {s : Nat} {o : bo_O} (f : bo_O → bo_O) (hf : ∀ x, (f x).2.2.1 = x.2.2.1) : ∀ {l : List bo_O}, (bo_ins s o l).map f = bo_ins s (f o) (l.map f)
  | [] => rfl
  | a :: t => by
    have e : bo_ge s (f a) (f o) = bo_ge s a o := bo_ge_price (hf a) (hf o)
    by_cases hg : bo_ge s a o = true
    · rw [bo_ins, if_pos hg, List.map_cons, bo_ins_map f hf, List.map_cons, bo_ins, if_pos (e.trans hg)]
    · rw [bo_ins, if_neg hg, List.map_cons, List.map_cons, bo_ins, if_neg (by rw [e]; exact hg)]
def bo_st (s : Nat) (acc : List bo_O) (o : bo_O) : List bo_O := if o.2.1 = s then bo_ins s o acc else acc
theorem bo_srt_eq (s : Nat) (l : List bo_O) : bo_srt s l = l.foldl (bo_st s) [] := rfl
theorem bo_srt_nil (s : Nat) : bo_srt s [] = [] := rfl
theorem bo_srt_app (s : Nat) (l : List bo_O) (o : bo_O) : bo_srt s (l ++ [o]) = if o.2.1 = s then bo_ins s o (bo_srt s l) else bo_srt s l := by
  simp [bo_srt, List.foldl_append]
theorem bo_st_S {s : Nat} {acc : List bo_O} {o : bo_O} (h : bo_S s acc) : bo_S s (bo_st s acc o) := by
  unfold bo_st
  split
  · exact bo_ins_S h
  · exact h
theorem bo_fold_S {s : Nat} : ∀ (l : List bo_O) {acc : List bo_O}, bo_S s acc → bo_S s (l.foldl (bo_st s) acc)
  | [], _, h => h
  | o :: t, _, h => bo_fold_S t (bo_st_S h)
theorem bo_srt_S (s : Nat) (l : List bo_O) : bo_S s (bo_srt s l) := bo_fold_S l List.Pairwise.nil
theorem bo_fold_filter {s : Nat} (p : bo_O → Bool) : ∀ (l : List bo_O) {acc : List bo_O}, bo_S s acc → (l.foldl (bo_st s) acc).filter p = (l.filter p).foldl (bo_st s) (acc.filter p)
  | [], _, _ => rfl
  | o :: t, acc, h => by
    rw [List.foldl_cons, bo_fold_filter p t (bo_st_S h), List.filter_cons]
    have e : (bo_st s acc o).filter p = if p o = true then bo_st s (acc.filter p) o else acc.filter p := by
      unfold bo_st
      by_cases hs : o.2.1 = s
      · rw [if_pos hs, if_pos hs, bo_ins_filter p h]
      · rw [if_neg hs, if_neg hs]
        split <;> rfl
    rw [e]
    by_cases hp : p o = true
    · rw [if_pos hp, if_pos hp, List.foldl_cons]
    · rw [if_neg hp, if_neg hp]
theorem bo_srt_filter (s : Nat) (p : bo_O → Bool) (l : List bo_O) : bo_srt s (l.filter p) = (bo_srt s l).filter p := (bo_fold_filter p l List.Pairwise.nil).symm
theorem bo_fold_map {s : Nat} (f : bo_O → bo_O) (hf : ∀ x, (f x).2.2.1 = x.2.2.1) (hs : ∀ x, (f x).2.1 = x.2.1) : ∀ (l : List bo_O) (acc : List bo_O), (l.foldl (bo_st s) acc).map f = (l.map f).foldl (bo_st s) (acc.map f)
  | [], _ => rfl
  | o :: t, acc => by
    rw [List.foldl_cons, bo_fold_map f hf hs t, List.map_cons, List.foldl_cons]
    congr 1
    unfold bo_st
    rw [hs o]
    split
    · exact bo_ins_map f hf
    · rfl
theorem bo_srt_map (s : Nat) (f : bo_O → bo_O) (hf : ∀ x, (f x).2.2.1 = x.2.2.1) (hs : ∀ x, (f x).2.1 = x.2.1) (l : List bo_O) : bo_srt s (l.map f) = (bo_srt s l).map f := (bo_fold_map f hf hs l []).symm
theorem bo_fold_mem {s : Nat} {x : bo_O} : ∀ (l : List bo_O) (acc : List bo_O), x ∈ l.foldl (bo_st s) acc ↔ (x ∈ l ∧ x.2.1 = s) ∨ x ∈ acc
  | [], acc => by simp
  | o :: t, acc => by
    rw [List.foldl_cons, bo_fold_mem t, List.mem_cons]
    unfold bo_st
    by_cases hs : o.2.1 = s
    · rw [if_pos hs, bo_ins_mem]
      constructor
      · rintro (⟨h1, h2⟩ | h | h)
        · exact Or.inl ⟨Or.inr h1, h2⟩
        · exact Or.inl ⟨Or.inl h, by rw [h]; exact hs⟩
        · exact Or.inr h
      · rintro (⟨h | h, h2⟩ | h)
        · exact Or.inr (Or.inl h)
        · exact Or.inl ⟨h, h2⟩
        · exact Or.inr (Or.inr h)
    · rw [if_neg hs]
      constructor
      · rintro (⟨h1, h2⟩ | h)
        · exact Or.inl ⟨Or.inr h1, h2⟩
        · exact Or.inr h
      · rintro (⟨h | h, h2⟩ | h)
        · exact absurd (by rw [← h]; exact h2) hs
        · exact Or.inl ⟨h, h2⟩
        · exact Or.inr h
theorem bo_srt_mem {s : Nat} {x : bo_O} {l : List bo_O} : x ∈ bo_srt s l ↔ x ∈ l ∧ x.2.1 = s := by
  rw [bo_srt_eq, bo_fold_mem]
  simp
theorem bo_fold_len {s : Nat} : ∀ (l : List bo_O) (acc : List bo_O), (l.foldl (bo_st s) acc).length = (l.filter (fun o => decide (o.2.1 = s))).length + acc.length
  | [], acc => by simp
  | o :: t, acc => by
    rw [List.foldl_cons, bo_fold_len t, List.filter_cons]
    unfold bo_st
    by_cases hs : o.2.1 = s
    · rw [if_pos hs, if_pos (by simp [hs]), bo_ins_len, List.length_cons]
      omega
    · rw [if_neg hs, if_neg (by simp [hs])]
theorem bo_srt_len (s : Nat) (l : List bo_O) : (bo_srt s l).length = (l.filter (fun o => decide (o.2.1 = s))).length := by
  rw [bo_srt_eq, bo_fold_len]
  simp
/-- a book's both sides in book order, buys first -/
def bo_arr (l : List bo_O) : List bo_O := bo_srt 0 l ++ bo_srt 1 l
def bo_two (l : List bo_O) : Prop := ∀ o ∈ l, o.2.1 = 0 ∨ o.2.1 = 1
theorem bo_two_len : ∀ (l : List bo_O), bo_two l → (l.filter (fun o => decide (o.2.1 = 0))).length + (l.filter (fun o => decide (o.2.1 = 1))).length = l.length
  | [], _ => rfl
  | o :: t, h => by
    have ih := bo_two_len t (fun x hx => h x (List.mem_cons_of_mem _ hx))
    rw [List.filter_cons, List.filter_cons]
    rcases h o List.mem_cons_self with h0 | h0 <;> simp [h0] <;> omega
theorem bo_arr_len {l : List bo_O} (h : bo_two l) : (bo_arr l).length = l.length := by
  rw [bo_arr, List.length_append, bo_srt_len, bo_srt_len]
  exact bo_two_len l h
theorem bo_arr_mem {x : bo_O} {l : List bo_O} (h : bo_two l) : x ∈ bo_arr l ↔ x ∈ l := by
  rw [bo_arr, List.mem_append, bo_srt_mem, bo_srt_mem]
  constructor
  · rintro (h | h) <;> exact h.1
  · intro hx
    rcases h x hx with h0 | h0
    · exact Or.inl ⟨hx, h0⟩
    · exact Or.inr ⟨hx, h0⟩
theorem bo_arr_filter (p : bo_O → Bool) (l : List bo_O) : bo_arr (l.filter p) = (bo_arr l).filter p := by
  rw [bo_arr, bo_srt_filter, bo_srt_filter, bo_arr, List.filter_append]
theorem bo_arr_map (f : bo_O → bo_O) (hf : ∀ x, (f x).2.2.1 = x.2.2.1) (hs : ∀ x, (f x).2.1 = x.2.1) (l : List bo_O) : bo_arr (l.map f) = (bo_arr l).map f := by
  rw [bo_arr, bo_srt_map _ f hf hs, bo_srt_map _ f hf hs, bo_arr, List.map_append]
/-- how many stand ahead of a new order -/
def bo_pl (s : Nat) (o : bo_O) : List bo_O → Nat
  | [] => 0
  | a :: t => if bo_ge s a o = true then bo_pl s o t + 1 else 0
theorem bo_pl_le {s : Nat} {o : bo_O} : ∀ {l : List bo_O}, bo_pl s o l ≤ l.length
  | [] => Nat.le_refl _
  | a :: t => by
    unfold bo_pl
    split
    · exact Nat.succ_le_succ bo_pl_le
    · exact Nat.zero_le _
theorem bo_ins_pl {s : Nat} {o : bo_O} : ∀ {l : List bo_O}, bo_ins s o l = l.take (bo_pl s o l) ++ o :: l.drop (bo_pl s o l)
  | [] => rfl
  | a :: t => by
    by_cases hg : bo_ge s a o = true
    · rw [bo_ins, if_pos hg, bo_pl, if_pos hg, List.take_succ_cons, List.drop_succ_cons, List.cons_append, ← bo_ins_pl]
    · rw [bo_ins, if_neg hg, bo_pl, if_neg hg]
      rfl
theorem bo_pl_lt {s : Nat} {o a : bo_O} : ∀ {l : List bo_O} {j : Nat}, j < bo_pl s o l → l[j]? = some a → bo_ge s a o = true
  | [], j, h, _ => by simp [bo_pl] at h
  | b :: t, j, h, ha => by
    unfold bo_pl at h
    split at h
    · rename_i hg
      cases j with
      | zero =>
        rw [List.getElem?_cons_zero] at ha
        cases ha
        exact hg
      | succ j =>
        rw [List.getElem?_cons_succ] at ha
        exact bo_pl_lt (by omega) ha
    · omega
theorem bo_pl_at {s : Nat} {o a : bo_O} : ∀ {l : List bo_O}, l[bo_pl s o l]? = some a → ¬ bo_ge s a o = true
  | [], ha => by simp at ha
  | b :: t, ha => by
    unfold bo_pl at ha
    split at ha
    · rw [List.getElem?_cons_succ] at ha
      exact bo_pl_at ha
    · rename_i hg
      rw [List.getElem?_cons_zero] at ha
      cases ha
      exact hg
/-- the first place where the scan from j on ends -/
theorem bo_pl_unique {s : Nat} {o : bo_O} {l : List bo_O} {j : Nat} (hj : j ≤ l.length) (h1 : ∀ i a, i < j → l[i]? = some a → bo_ge s a o = true) (h2 : ∀ a, l[j]? = some a → ¬ bo_ge s a o = true) : bo_pl s o l = j := by
  rcases Nat.lt_trichotomy (bo_pl s o l) j with h | h | h
  · have hl : bo_pl s o l < l.length := by omega
    have e := List.getElem?_eq_getElem hl
    exact absurd (h1 _ _ h e) (bo_pl_at e)
  · exact h
  · have hl : j < l.length := Nat.lt_of_lt_of_le h bo_pl_le
    have e := List.getElem?_eq_getElem hl
    exact absurd (bo_pl_lt h e) (h2 _ e)
/-! ranks: the place of an order in book order is the number of those ahead of it -/
def bo_ah (l : List bo_O) (s j k : Nat) : Bool := match l[j]?, l[k]? with
  | some a, some b => decide (a.2.1 = s) && (if a.2.2.1 = b.2.2.1 then decide (j < k) else if s = 0 then decide (b.2.2.1 < a.2.2.1) else decide (a.2.2.1 < b.2.2.1))
  | _, _ => false
def bo_rk (l : List bo_O) (s k : Nat) : Nat := ((List.range l.length).filter (fun j => bo_ah l s j k)).length
theorem bo_count (q : bo_O → Bool) : ∀ (l : List bo_O), ((List.range l.length).filter (fun j => match l[j]? with | some a => q a | none => false)).length = (l.filter q).length := by
  intro l
  generalize hn : l.length = n
  induction n generalizing l with
  | zero =>
    cases l with
    | nil => rfl
    | cons a t => simp at hn
  | succ n ih =>
    rcases bo_snoc l with rfl | ⟨L, o, rfl⟩
    · simp at hn
    · simp only [List.length_append, List.length_cons, List.length_nil, Nat.zero_add] at hn
      have hL : L.length = n := by omega
      rw [List.range_succ, List.filter_append, List.filter_append, List.length_append, List.length_append]
      congr 1
      · rw [← ih L hL]
        congr 1
        apply List.filter_congr
        intro j hj
        have hj2 := List.mem_range.mp hj
        rw [List.getElem?_append_left (by omega)]
      · rw [← hL]
        simp [List.filter_cons]
        split <;> rfl
theorem bo_filter_len {α : Type} (p : α → Bool) (l : List α) : (l.filter p).length = (l.filter p).length := rfl
theorem bo_ah_old {L : List bo_O} {o : bo_O} {s j k : Nat} (hj : j < L.length) (hk : k < L.length) : bo_ah (L ++ [o]) s j k = bo_ah L s j k := by
  unfold bo_ah
  rw [List.getElem?_append_left hj, List.getElem?_append_left hk]
theorem bo_ah_new {L : List bo_O} {o b : bo_O} {s k : Nat} (hb : L[k]? = some b) (hs : o.2.1 = s) : bo_ah (L ++ [o]) s L.length k = !(bo_ge s b o) := by
  have hk : k < L.length := (List.getElem?_eq_some_iff.mp hb).1
  unfold bo_ah
  rw [List.getElem?_append_left hk, hb, List.getElem?_append_right (Nat.le_refl _), Nat.sub_self, List.getElem?_cons_zero]
  simp only [hs, decide_true, Bool.true_and]
  unfold bo_ge
  by_cases he : o.2.2.1 = b.2.2.1
  · rw [if_pos he]
    have h1 : ¬ L.length < k := by omega
    by_cases h0 : s = 0
    · rw [if_pos h0, he]
      simp [h1]
    · rw [if_neg h0, he]
      simp [h1]
  · rw [if_neg he]
    have hne : o.2.2.1.toInt ≠ b.2.2.1.toInt := fun q => he (Int32.toInt_inj.mp q)
    by_cases h0 : s = 0
    · rw [if_pos h0, if_pos h0]
      by_cases hlt : b.2.2.1 < o.2.2.1
      · have : ¬ o.2.2.1 ≤ b.2.2.1 := by rw [Int32.le_iff_toInt_le]; rw [Int32.lt_iff_toInt_lt] at hlt; omega
        simp [hlt, this]
      · have : o.2.2.1 ≤ b.2.2.1 := by rw [Int32.le_iff_toInt_le]; rw [Int32.lt_iff_toInt_lt] at hlt; omega
        simp [hlt, this]
    · rw [if_neg h0, if_neg h0]
      by_cases hlt : o.2.2.1 < b.2.2.1
      · have : ¬ b.2.2.1 ≤ o.2.2.1 := by rw [Int32.le_iff_toInt_le]; rw [Int32.lt_iff_toInt_lt] at hlt; omega
        simp [hlt, this]
      · have : b.2.2.1 ≤ o.2.2.1 := by rw [Int32.le_iff_toInt_le]; rw [Int32.lt_iff_toInt_lt] at hlt; omega
        simp [hlt, this]
theorem bo_ah_side {L : List bo_O} {o : bo_O} {s k : Nat} (hs : ¬ o.2.1 = s) : bo_ah (L ++ [o]) s L.length k = false := by
  unfold bo_ah
  rw [List.getElem?_append_right (Nat.le_refl _), Nat.sub_self, List.getElem?_cons_zero]
  cases (L ++ [o])[k]? with
  | none => rfl
  | some b => simp [hs]
theorem bo_ah_self {L : List bo_O} {o a : bo_O} {s j : Nat} (ha : L[j]? = some a) : bo_ah (L ++ [o]) s j L.length = (decide (a.2.1 = s) && bo_ge s a o) := by
  have hj : j < L.length := (List.getElem?_eq_some_iff.mp ha).1
  unfold bo_ah
  rw [List.getElem?_append_left hj, ha, List.getElem?_append_right (Nat.le_refl _), Nat.sub_self, List.getElem?_cons_zero]
  simp only
  congr 1
  unfold bo_ge
  by_cases he : a.2.2.1 = o.2.2.1
  · rw [if_pos he]
    by_cases h0 : s = 0
    · rw [if_pos h0, he]
      simp [hj]
    · rw [if_neg h0, he]
      simp [hj]
  · rw [if_neg he]
    have hne : a.2.2.1.toInt ≠ o.2.2.1.toInt := fun q => he (Int32.toInt_inj.mp q)
    by_cases h0 : s = 0
    · rw [if_pos h0, if_pos h0]
      congr 1
      rw [eq_iff_iff, Int32.le_iff_toInt_le, Int32.lt_iff_toInt_lt]
      omega
    · rw [if_neg h0, if_neg h0]
      congr 1
      rw [eq_iff_iff, Int32.le_iff_toInt_le, Int32.lt_iff_toInt_lt]
      omega
theorem bo_rk_old {L : List bo_O} {o b : bo_O} {s k : Nat} (hb : L[k]? = some b) : bo_rk (L ++ [o]) s k = bo_rk L s k + (if o.2.1 = s ∧ ¬ bo_ge s b o = true then 1 else 0) := by
  have hk : k < L.length := (List.getElem?_eq_some_iff.mp hb).1
  unfold bo_rk
  rw [List.length_append, List.length_cons, List.length_nil, Nat.zero_add, List.range_succ, List.filter_append, List.length_append]
  congr 1
  · congr 1
    apply List.filter_congr
    intro j hj
    exact bo_ah_old (List.mem_range.mp hj) hk
  · by_cases hs : o.2.1 = s
    · rw [List.filter_cons, bo_ah_new hb hs]
      by_cases hg : bo_ge s b o = true
      · simp [hg]
      · simp [hg, hs]
    · rw [List.filter_cons, bo_ah_side hs]
      simp [hs]
theorem bo_pl_filter {s : Nat} {o : bo_O} : ∀ {l : List bo_O}, bo_S s l → bo_pl s o l = (l.filter (fun a => bo_ge s a o)).length
  | [], _ => rfl
  | a :: t, h => by
    obtain ⟨h1, h2⟩ := List.pairwise_cons.mp h
    unfold bo_pl
    rw [List.filter_cons]
    by_cases hg : bo_ge s a o = true
    · rw [if_pos hg, if_pos hg, List.length_cons, bo_pl_filter h2]
    · rw [if_neg hg, if_neg hg]
      have : t.filter (fun a => bo_ge s a o) = [] := by
        apply List.filter_eq_nil_iff.mpr
        intro x hx q
        exact hg (bo_ge_trans (h1 x hx) q)
      rw [this]
      rfl
theorem bo_rk_self {L : List bo_O} {o : bo_O} {s : Nat} : bo_rk (L ++ [o]) s L.length = bo_pl s o (bo_srt s L) := by
  rw [bo_pl_filter (bo_srt_S s L), ← bo_srt_filter, bo_srt_len, List.filter_filter, ← bo_count]
  unfold bo_rk
  rw [List.length_append, List.length_cons, List.length_nil, Nat.zero_add, List.range_succ, List.filter_append, List.length_append]
  have h0 : bo_ah (L ++ [o]) s L.length L.length = false := by
    unfold bo_ah
    rw [List.getElem?_append_right (Nat.le_refl _), Nat.sub_self, List.getElem?_cons_zero]
    simp
  rw [List.filter_cons, h0]
  simp only [Bool.false_eq_true, if_false, List.filter_nil, List.length_nil, Nat.add_zero]
  congr 1
  apply List.filter_congr
  intro j hj
  have hj2 := List.mem_range.mp hj
  have e := List.getElem?_eq_getElem hj2
  rw [bo_ah_self e, e]
theorem bo_S_at {s : Nat} {l : List bo_O} (h : bo_S s l) {i j : Nat} {a b : bo_O} (hij : i < j) (ha : l[i]? = some a) (hb : l[j]? = some b) : bo_ge s a b = true := by
  obtain ⟨h1, h2⟩ := List.getElem?_eq_some_iff.mp ha
  obtain ⟨h3, h4⟩ := List.getElem?_eq_some_iff.mp hb
  have := List.pairwise_iff_getElem.mp h i j h1 h3 hij
  rwa [h2, h4] at this
theorem bo_ins_lo {s : Nat} {o : bo_O} {l : List bo_O} {i : Nat} (h : i < bo_pl s o l) : (bo_ins s o l)[i]? = l[i]? := by
  rw [bo_ins_pl, List.getElem?_append_left (by rw [List.length_take]; have := bo_pl_le (s := s) (o := o) (l := l); omega), List.getElem?_take_of_lt h]
theorem bo_ins_mid {s : Nat} {o : bo_O} {l : List bo_O} : (bo_ins s o l)[bo_pl s o l]? = some o := by
  have := bo_pl_le (s := s) (o := o) (l := l)
  rw [bo_ins_pl, List.getElem?_append_right (by rw [List.length_take]; omega), List.length_take, Nat.min_eq_left this, Nat.sub_self, List.getElem?_cons_zero]
theorem bo_ins_hi {s : Nat} {o : bo_O} {l : List bo_O} {i : Nat} (h : bo_pl s o l ≤ i) : (bo_ins s o l)[i + 1]? = l[i]? := by
  have := bo_pl_le (s := s) (o := o) (l := l)
  rw [bo_ins_pl, List.getElem?_append_right (by rw [List.length_take]; omega), List.length_take, Nat.min_eq_left this, show i + 1 - bo_pl s o l = (i - bo_pl s o l) + 1 by omega, List.getElem?_cons_succ, List.getElem?_drop]
  congr 1
  omega
theorem bo_rank (s : Nat) : ∀ (n : Nat) (l : List bo_O), l.length = n → (∀ k b, l[k]? = some b → b.2.1 = s → (bo_srt s l)[bo_rk l s k]? = some b) ∧ ∀ i, i < (bo_srt s l).length → ∃ k b, l[k]? = some b ∧ b.2.1 = s ∧ bo_rk l s k = i
  | 0, l, hn => by
    have : l = [] := List.eq_nil_of_length_eq_zero hn
    subst this
    exact ⟨fun k b h => by simp at h, fun i h => by simp [bo_srt_nil] at h⟩
  | n + 1, l, hn => by
    rcases bo_snoc l with rfl | ⟨L, o, rfl⟩
    · simp at hn
    · have hL : L.length = n := by simpa using hn
      obtain ⟨ih1, ih2⟩ := bo_rank s n L hL
      have last : ∀ k b, (L ++ [o])[k]? = some b → (k < L.length ∧ L[k]? = some b) ∨ (k = L.length ∧ b = o) := by
        intro k b hb
        by_cases hk : k < L.length
        · rw [List.getElem?_append_left hk] at hb
          exact Or.inl ⟨hk, hb⟩
        · rw [List.getElem?_append_right (by omega)] at hb
          have hz : k - L.length < 1 := (List.getElem?_eq_some_iff.mp hb).1
          have hz2 : k - L.length = 0 := by omega
          rw [hz2, List.getElem?_cons_zero] at hb
          cases hb
          exact Or.inr ⟨by omega, rfl⟩
      rw [bo_srt_app]
      by_cases hs : o.2.1 = s
      · rw [if_pos hs]
        refine ⟨fun k b hb hbs => ?_, fun i hi => ?_⟩
        · rcases last k b hb with ⟨hk, hb2⟩ | ⟨rfl, rfl⟩
          · have h3 := ih1 k b hb2 hbs
            rw [bo_rk_old hb2]
            by_cases hg : bo_ge s b o = true
            · rw [if_neg (fun q => q.2 hg), Nat.add_zero, bo_ins_lo, h3]
              refine Nat.lt_of_not_le (fun hle => ?_)
              have hlt : bo_pl s o (bo_srt s L) < (bo_srt s L).length := Nat.lt_of_le_of_lt hle (List.getElem?_eq_some_iff.mp h3).1
              have e := List.getElem?_eq_getElem hlt
              rcases Nat.lt_or_eq_of_le hle with hlt2 | heq
              · exact bo_pl_at e (bo_ge_trans (bo_S_at (bo_srt_S s L) hlt2 e h3) hg)
              · rw [← heq] at h3
                exact bo_pl_at h3 hg
            · rw [if_pos ⟨hs, hg⟩, bo_ins_hi, h3]
              exact Nat.le_of_not_lt (fun hlt => hg (bo_pl_lt hlt h3))
          · rw [bo_rk_self, bo_ins_mid]
        · rw [bo_ins_len] at hi
          rcases Nat.lt_trichotomy i (bo_pl s o (bo_srt s L)) with h | h | h
          · obtain ⟨k, b, hb, hbs, hr⟩ := ih2 i (Nat.lt_of_lt_of_le h bo_pl_le)
            have hk : k < L.length := (List.getElem?_eq_some_iff.mp hb).1
            refine ⟨k, b, by rw [List.getElem?_append_left hk]; exact hb, hbs, ?_⟩
            have h3 := ih1 k b hb hbs
            rw [hr] at h3
            rw [bo_rk_old hb, if_neg (fun q => q.2 (bo_pl_lt h h3)), hr, Nat.add_zero]
          · exact ⟨L.length, o, by rw [List.getElem?_append_right (Nat.le_refl _), Nat.sub_self, List.getElem?_cons_zero], hs, by rw [bo_rk_self, h]⟩
          · obtain ⟨j, rfl⟩ : ∃ j, i = j + 1 := ⟨i - 1, by omega⟩
            obtain ⟨k, b, hb, hbs, hr⟩ := ih2 j (by omega)
            have hk : k < L.length := (List.getElem?_eq_some_iff.mp hb).1
            refine ⟨k, b, by rw [List.getElem?_append_left hk]; exact hb, hbs, ?_⟩
            have h3 := ih1 k b hb hbs
            rw [hr] at h3
            have hng : ¬ bo_ge s b o = true := by
              intro hg
              have hlt : bo_pl s o (bo_srt s L) < (bo_srt s L).length := by omega
              have e := List.getElem?_eq_getElem hlt
              rcases Nat.lt_or_eq_of_le (show bo_pl s o (bo_srt s L) ≤ j by omega) with hlt2 | heq
              · exact bo_pl_at e (bo_ge_trans (bo_S_at (bo_srt_S s L) hlt2 e h3) hg)
              · rw [← heq] at h3
                exact bo_pl_at h3 hg
            rw [bo_rk_old hb, if_pos ⟨hs, hng⟩, hr]
      · rw [if_neg hs]
        refine ⟨fun k b hb hbs => ?_, fun i hi => ?_⟩
        · rcases last k b hb with ⟨hk, hb2⟩ | ⟨rfl, rfl⟩
          · rw [bo_rk_old hb2, if_neg (fun q => hs q.1)]
            exact ih1 k b hb2 hbs
          · exact absurd hbs hs
        · obtain ⟨k, b, hb, hbs, hr⟩ := ih2 i hi
          have hk : k < L.length := (List.getElem?_eq_some_iff.mp hb).1
          exact ⟨k, b, by rw [List.getElem?_append_left hk]; exact hb, hbs, by rw [bo_rk_old hb, if_neg (fun q => hs q.1)]; exact hr⟩
