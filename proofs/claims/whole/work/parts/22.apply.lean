/-! events, and what they make of a book -/
/-- sort, instrument, number, id, side, price, size -/
abbrev bo_E : Type := Nat × Nat × Nat × Int32 × Nat × Int32 × Int32
abbrev bo_B : Type := List bo_O × Bool
def bo_e0 : bo_E := (0, 0, 0, 0, 0, 0, 0)
def bo_fi (l : List bo_O) (x : Int32) : Option bo_O := l.find? (fun o => decide (o.1 = x))
def bo_del (l : List bo_O) (x : Int32) : List bo_O := l.filter (fun o => decide (o.1 ≠ x))
def bo_siz (l : List bo_O) (x v : Int32) : List bo_O := l.map (fun o => if o.1 = x then (o.1, o.2.1, o.2.2.1, v) else o)
def bo_szo (l : List bo_O) (x : Int32) : Int32 := match bo_fi l x with
  | some o => o.2.2.2
  | none => 0
def bo_apl (b : bo_B) (e : bo_E) : bo_B :=
  if e.1 = 0 then (b.1 ++ [(e.2.2.2.1, e.2.2.2.2.1, e.2.2.2.2.2.1, e.2.2.2.2.2.2)], b.2)
  else if e.1 = 1 then (bo_siz b.1 e.2.2.2.1 e.2.2.2.2.2.2, b.2)
  else if e.1 = 2 then (if bo_szo b.1 e.2.2.2.1 = e.2.2.2.2.2.2 then bo_del b.1 e.2.2.2.1 else bo_siz b.1 e.2.2.2.1 (bo_szo b.1 e.2.2.2.1 - e.2.2.2.2.2.2), b.2)
  else if e.1 = 3 then (bo_del b.1 e.2.2.2.1, b.2)
  else if e.1 = 4 then (b.1, decide (e.2.2.2.2.2.2 = 1))
  else ([], b.2)
/-- does the book allow it -/
def bo_ok (b : bo_B) (sort : Nat) (x v : Int32) : Bool :=
  if sort = 0 then (bo_fi b.1 x).isNone && decide (b.1.length < 24)
  else if sort = 1 then (match bo_fi b.1 x with | some o => decide (v < o.2.2.2) | none => false)
  else if sort = 2 then (match bo_fi b.1 x with | some o => !b.2 && decide (v ≤ o.2.2.2) | none => false)
  else if sort = 3 then (bo_fi b.1 x).isSome
  else if sort = 4 then decide ((v = 1) ≠ (b.2 = true))
  else true
/-- ids differ, sides are two, sizes are above 0, at most 24 -/
def bo_wf (l : List bo_O) : Prop := (l.map (fun o => o.1)).Nodup ∧ bo_two l ∧ (∀ o ∈ l, 0 < o.2.2.2) ∧ l.length ≤ 24
def bo_ewf (e : bo_E) : Prop := e.1 ≤ 5 ∧ e.2.1 < 4 ∧ (e.2.2.2.2.1 = 0 ∨ e.2.2.2.2.1 = 1) ∧ (e.1 ≤ 2 → 0 < e.2.2.2.2.2.2)
theorem bo_fi_some {l : List bo_O} {x : Int32} {o : bo_O} (h : bo_fi l x = some o) : o ∈ l ∧ o.1 = x := ⟨List.mem_of_find?_eq_some h, by simpa using List.find?_some h⟩
theorem bo_fi_none {l : List bo_O} {x : Int32} : bo_fi l x = none ↔ ∀ o ∈ l, o.1 ≠ x := by
  unfold bo_fi
  rw [List.find?_eq_none]
  simp
theorem bo_nodup_eq {l : List bo_O} (h : (l.map (fun o => o.1)).Nodup) {a b : bo_O} (ha : a ∈ l) (hb : b ∈ l) (e : a.1 = b.1) : a = b := by
  obtain ⟨i, hi⟩ := List.getElem?_of_mem ha
  obtain ⟨j, hj⟩ := List.getElem?_of_mem hb
  have h1 : (l.map (fun o => o.1))[i]? = some a.1 := by rw [List.getElem?_map, hi]; rfl
  have h2 : (l.map (fun o => o.1))[j]? = some a.1 := by rw [List.getElem?_map, hj, e]; rfl
  have hij : i = j := by
    obtain ⟨g1, g2⟩ := List.getElem?_eq_some_iff.mp h1
    obtain ⟨g3, g4⟩ := List.getElem?_eq_some_iff.mp h2
    rcases Nat.lt_trichotomy i j with q | q | q
    · exact absurd (g2.trans g4.symm) (List.pairwise_iff_getElem.mp h i j g1 g3 q)
    · exact q
    · exact absurd (g4.trans g2.symm) (List.pairwise_iff_getElem.mp h j i g3 g1 q)
  subst hij
  exact Option.some.inj (hi.symm.trans hj)
theorem bo_fi_of {l : List bo_O} (h : (l.map (fun o => o.1)).Nodup) {o : bo_O} (ho : o ∈ l) : bo_fi l o.1 = some o := by
  cases hf : bo_fi l o.1 with
  | none => exact absurd rfl (bo_fi_none.mp hf o ho)
  | some a =>
    obtain ⟨h1, h2⟩ := bo_fi_some hf
    rw [bo_nodup_eq h h1 ho h2]
theorem bo_map_ids {l : List bo_O} {x v : Int32} : (bo_siz l x v).map (fun o => o.1) = l.map (fun o => o.1) := by
  unfold bo_siz
  rw [List.map_map]
  apply List.map_congr_left
  intro o _
  simp only [Function.comp]
  split <;> rfl
theorem bo_wf_del {l : List bo_O} {x : Int32} (h : bo_wf l) : bo_wf (bo_del l x) := by
  obtain ⟨h1, h2, h3, h4⟩ := h
  unfold bo_del
  refine ⟨?_, fun o ho => h2 o (List.mem_filter.mp ho).1, fun o ho => h3 o (List.mem_filter.mp ho).1, Nat.le_trans (List.length_filter_le _ _) h4⟩
  exact List.Nodup.sublist (List.Sublist.map _ List.filter_sublist) h1
theorem bo_wf_siz {l : List bo_O} {x v : Int32} (h : bo_wf l) (hv : 0 < v) : bo_wf (bo_siz l x v) := by
  obtain ⟨h1, h2, h3, h4⟩ := h
  refine ⟨by rw [bo_map_ids]; exact h1, fun o ho => ?_, fun o ho => ?_, by unfold bo_siz; rw [List.length_map]; exact h4⟩
  · unfold bo_siz at ho
    obtain ⟨a, ha, rfl⟩ := List.mem_map.mp ho
    split
    · exact h2 a ha
    · exact h2 a ha
  · unfold bo_siz at ho
    obtain ⟨a, ha, rfl⟩ := List.mem_map.mp ho
    split
    · exact hv
    · exact h3 a ha
theorem bo_sub_pos {a b : Int32} (ha : 0 < a) (hb : 0 < b) (hle : b ≤ a) (hne : a ≠ b) : 0 < a - b := by
  rw [Int32.lt_iff_toInt_lt] at *
  rw [Int32.le_iff_toInt_le] at hle
  have h1 := a.toInt_lt
  have hn : a.toInt ≠ b.toInt := fun q => hne (Int32.toInt_inj.mp q)
  rw [Int32.toInt_zero] at *
  have e : (a - b).toInt = a.toInt - b.toInt := by
    rw [Int32.toInt_sub]
    apply Int.bmod_eq_of_le <;> omega
  rw [e]
  omega
theorem bo_wf_apl {b : bo_B} {e : bo_E} (h : bo_wf b.1) (he : bo_ewf e) (hok : bo_ok b e.1 e.2.2.2.1 e.2.2.2.2.2.2 = true) : bo_wf (bo_apl b e).1 := by
  obtain ⟨e1, e2, e3, e4⟩ := he
  unfold bo_apl
  unfold bo_ok at hok
  by_cases c0 : e.1 = 0
  · rw [if_pos c0]
    rw [if_pos c0] at hok
    simp only [Bool.and_eq_true, Option.isNone_iff_eq_none, decide_eq_true_eq] at hok
    obtain ⟨h1, h2, h3, h4⟩ := h
    refine ⟨?_, fun o ho => ?_, fun o ho => ?_, by simp; omega⟩
    · rw [List.map_append, List.nodup_append]
      refine ⟨h1, by simp, fun a ha c hc => ?_⟩
      simp only [List.map_cons, List.map_nil, List.mem_singleton] at hc
      obtain ⟨o, ho, rfl⟩ := List.mem_map.mp ha
      rw [hc]
      exact bo_fi_none.mp hok.1 o ho
    · rcases List.mem_append.mp ho with ho | ho
      · exact h2 o ho
      · rw [List.mem_singleton.mp ho]; exact e3
    · rcases List.mem_append.mp ho with ho | ho
      · exact h3 o ho
      · rw [List.mem_singleton.mp ho]; exact e4 (by omega)
  · rw [if_neg c0]
    rw [if_neg c0] at hok
    by_cases c1 : e.1 = 1
    · rw [if_pos c1]
      exact bo_wf_siz h (e4 (by omega))
    · rw [if_neg c1]
      rw [if_neg c1] at hok
      by_cases c2 : e.1 = 2
      · rw [if_pos c2]
        rw [if_pos c2] at hok
        by_cases hz : bo_szo b.1 e.2.2.2.1 = e.2.2.2.2.2.2
        · simp only [if_pos hz]
          exact bo_wf_del h
        · simp only [if_neg hz]
          refine bo_wf_siz h ?_
          cases hf : bo_fi b.1 e.2.2.2.1 with
          | none => rw [hf] at hok; simp at hok
          | some o =>
            rw [hf] at hok
            simp only [Bool.and_eq_true, decide_eq_true_eq] at hok
            have hs : bo_szo b.1 e.2.2.2.1 = o.2.2.2 := by simp [bo_szo, hf]
            rw [hs] at hz ⊢
            exact bo_sub_pos (h.2.2.1 o (bo_fi_some hf).1) (e4 (by omega)) hok.2 hz
      · rw [if_neg c2]
        by_cases c3 : e.1 = 3
        · rw [if_pos c3]
          exact bo_wf_del h
        · rw [if_neg c3]
          by_cases c4 : e.1 = 4
          · rw [if_pos c4]
            exact h
          · rw [if_neg c4]
            exact ⟨List.nodup_nil, fun o ho => (by cases ho), fun o ho => (by cases ho), Nat.zero_le _⟩
/-! arrays that hold a list of orders -/
def bo_AR (ids pri siz : Nat → Int32) (a : List bo_O) : Prop := ∀ (j : Nat) (o : bo_O), a[j]? = some o → ids j = o.1 ∧ pri j = o.2.2.1 ∧ siz j = o.2.2.2
theorem bo_AR_ins {ids pri siz : Nat → Int32} {a : List bo_O} {p : Nat} {o : bo_O} (h : bo_AR ids pri siz a) (hp : p ≤ a.length) :
    bo_AR (upd (va_cpy ids ids p (p + 1) (a.length - p)) p o.1) (upd (va_cpy pri pri p (p + 1) (a.length - p)) p o.2.2.1) (upd (va_cpy siz siz p (p + 1) (a.length - p)) p o.2.2.2) (a.take p ++ o :: a.drop p) := by
  intro j q hq
  rcases Nat.lt_trichotomy j p with hj | hj | hj
  · rw [List.getElem?_append_left (by rw [List.length_take]; omega), List.getElem?_take_of_lt hj] at hq
    obtain ⟨h1, h2, h3⟩ := h j q hq
    have n1 : ¬ j = p := by omega
    have n2 : ¬ (p + 1 ≤ j ∧ j < p + 1 + (a.length - p)) := by omega
    simp only [upd, va_cpy, if_neg n1, if_neg n2]
    exact ⟨h1, h2, h3⟩
  · subst hj
    rw [List.getElem?_append_right (by rw [List.length_take]; omega), List.length_take, Nat.min_eq_left hp, Nat.sub_self, List.getElem?_cons_zero] at hq
    cases hq
    simp [upd]
  · obtain ⟨i, rfl⟩ : ∃ i, j = i + 1 := ⟨j - 1, by omega⟩
    rw [List.getElem?_append_right (by rw [List.length_take]; omega), List.length_take, Nat.min_eq_left hp, show i + 1 - p = (i - p) + 1 by omega, List.getElem?_cons_succ, List.getElem?_drop, show p + (i - p) = i by omega] at hq
    have hl : i < a.length := (List.getElem?_eq_some_iff.mp hq).1
    obtain ⟨h1, h2, h3⟩ := h i q hq
    have n1 : ¬ i + 1 = p := by omega
    have n2 : p + 1 ≤ i + 1 ∧ i + 1 < p + 1 + (a.length - p) := by omega
    simp only [upd, va_cpy, if_neg n1, if_pos n2]
    rw [show p + (i + 1 - (p + 1)) = i by omega]
    exact ⟨h1, h2, h3⟩
theorem bo_AR_del {ids pri siz : Nat → Int32} {a : List bo_O} {k : Nat} (h : bo_AR ids pri siz a) (hk : k < a.length) :
    bo_AR (va_cpy ids ids (k + 1) k (a.length - 1 - k)) (va_cpy pri pri (k + 1) k (a.length - 1 - k)) (va_cpy siz siz (k + 1) k (a.length - 1 - k)) (a.eraseIdx k) := by
  intro j q hq
  rw [List.getElem?_eraseIdx] at hq
  by_cases hj : j < k
  · rw [if_pos hj] at hq
    have n2 : ¬ (k ≤ j ∧ j < k + (a.length - 1 - k)) := by omega
    simp only [va_cpy, if_neg n2]
    exact h j q hq
  · rw [if_neg hj] at hq
    have hl : j + 1 < a.length := (List.getElem?_eq_some_iff.mp hq).1
    have n2 : k ≤ j ∧ j < k + (a.length - 1 - k) := by omega
    simp only [va_cpy, if_pos n2]
    rw [show k + 1 + (j - k) = j + 1 by omega]
    exact h (j + 1) q hq
theorem bo_AR_set {ids pri siz : Nat → Int32} {a : List bo_O} {k : Nat} {o : bo_O} {v : Int32} (h : bo_AR ids pri siz a) (hk : a[k]? = some o) : bo_AR ids pri (upd siz k v) (a.set k (o.1, o.2.1, o.2.2.1, v)) := by
  intro j q hq
  have hl : k < a.length := (List.getElem?_eq_some_iff.mp hk).1
  by_cases hj : j = k
  · subst hj
    rw [List.getElem?_set_self hl] at hq
    cases hq
    obtain ⟨h1, h2, h3⟩ := h j o hk
    exact ⟨h1, h2, by simp [upd]⟩
  · rw [List.getElem?_set_ne (Ne.symm hj)] at hq
    obtain ⟨h1, h2, h3⟩ := h j q hq
    exact ⟨h1, h2, by simp [upd, hj]; exact h3⟩
theorem bo_erase_del : ∀ {a : List bo_O} {k : Nat} {o : bo_O}, (a.map (fun o => o.1)).Nodup → a[k]? = some o → a.eraseIdx k = bo_del a o.1
  | [], k, o, _, h => by simp at h
  | b :: t, 0, o, hn, h => by
    rw [List.getElem?_cons_zero] at h
    cases h
    rw [List.map_cons, List.nodup_cons] at hn
    unfold bo_del
    rw [List.eraseIdx_cons_zero, List.filter_cons, if_neg (by simp)]
    symm
    apply List.filter_eq_self.mpr
    intro x hx
    simp only [decide_eq_true_eq]
    exact fun q => hn.1 (List.mem_map.mpr ⟨x, hx, q⟩)
  | b :: t, k + 1, o, hn, h => by
    rw [List.getElem?_cons_succ] at h
    rw [List.map_cons, List.nodup_cons] at hn
    have hne : b.1 ≠ o.1 := fun q => hn.1 (List.mem_map.mpr ⟨o, List.mem_of_getElem? h, q.symm⟩)
    have ih := bo_erase_del hn.2 h
    unfold bo_del at ih ⊢
    rw [List.eraseIdx_cons_succ, ih, List.filter_cons, if_pos (by simp [hne])]
theorem bo_set_siz : ∀ {a : List bo_O} {k : Nat} {o : bo_O} {v : Int32}, (a.map (fun o => o.1)).Nodup → a[k]? = some o → a.set k (o.1, o.2.1, o.2.2.1, v) = bo_siz a o.1 v
  | [], k, o, v, _, h => by simp at h
  | b :: t, 0, o, v, hn, h => by
    rw [List.getElem?_cons_zero] at h
    cases h
    rw [List.map_cons, List.nodup_cons] at hn
    unfold bo_siz
    rw [List.set_cons_zero, List.map_cons, if_pos rfl]
    congr 1
    symm
    have : t.map (fun o => if o.1 = b.1 then (o.1, o.2.1, o.2.2.1, v) else o) = t.map id := by
      apply List.map_congr_left
      intro x hx
      rw [if_neg (fun q => hn.1 (List.mem_map.mpr ⟨x, hx, q⟩))]
      rfl
    rw [this, List.map_id]
  | b :: t, k + 1, o, v, hn, h => by
    rw [List.getElem?_cons_succ] at h
    rw [List.map_cons, List.nodup_cons] at hn
    have hne : b.1 ≠ o.1 := fun q => hn.1 (List.mem_map.mpr ⟨o, List.mem_of_getElem? h, q.symm⟩)
    have ih := bo_set_siz (v := v) hn.2 h
    unfold bo_siz at ih ⊢
    rw [List.set_cons_succ, ih, List.map_cons, if_neg hne]
theorem bo_arr_siz (l : List bo_O) (x v : Int32) : bo_arr (bo_siz l x v) = bo_siz (bo_arr l) x v := by
  unfold bo_siz
  apply bo_arr_map
  · intro o
    split <;> rfl
  · intro o
    split <;> rfl
theorem bo_arr_del (l : List bo_O) (x : Int32) : bo_arr (bo_del l x) = bo_del (bo_arr l) x := bo_arr_filter _ l
theorem bo_fold_ids {s : Nat} {x : Int32} : ∀ (l acc : List bo_O), x ∈ (l.foldl (bo_st s) acc).map (fun o => o.1) → x ∈ l.map (fun o => o.1) ∨ x ∈ acc.map (fun o => o.1) := by
  intro l acc h
  obtain ⟨o, ho, rfl⟩ := List.mem_map.mp h
  rcases (bo_fold_mem l acc).mp ho with h | h
  · exact Or.inl (List.mem_map.mpr ⟨o, h.1, rfl⟩)
  · exact Or.inr (List.mem_map.mpr ⟨o, h, rfl⟩)
theorem bo_ins_perm (s : Nat) (o : bo_O) : ∀ (l : List bo_O), (bo_ins s o l).Perm (o :: l)
  | [] => List.Perm.refl _
  | a :: t => by
    unfold bo_ins
    split
    · exact ((bo_ins_perm s o t).cons a).trans (List.Perm.swap o a t)
    · exact List.Perm.refl _
theorem bo_arr_perm : ∀ (n : Nat) (l : List bo_O), l.length = n → bo_two l → (bo_arr l).Perm l
  | 0, l, hn, _ => by
    have : l = [] := List.eq_nil_of_length_eq_zero hn
    subst this
    exact List.Perm.refl _
  | n + 1, l, hn, h2 => by
    rcases bo_snoc l with rfl | ⟨L, o, rfl⟩
    · simp at hn
    · have hL : L.length = n := by simpa using hn
      have ih := bo_arr_perm n L hL (fun x hx => h2 x (List.mem_append_left _ hx))
      have key : (bo_arr (L ++ [o])).Perm (o :: bo_arr L) := by
        unfold bo_arr
        rw [bo_srt_app, bo_srt_app]
        rcases h2 o (List.mem_append_right _ (List.mem_singleton.mpr rfl)) with h0 | h0
        · rw [if_pos h0, if_neg (by omega)]
          exact ((bo_ins_perm 0 o _).append_right _)
        · rw [if_neg (by omega), if_pos h0]
          exact ((bo_ins_perm 1 o _).append_left _).trans List.perm_middle
      refine key.trans ((ih.cons o).trans ?_)
      exact (List.perm_append_singleton o L).symm
theorem bo_arr_nodup {l : List bo_O} (h : bo_wf l) : ((bo_arr l).map (fun o => o.1)).Nodup := ((bo_arr_perm _ l rfl h.2.1).map _).nodup_iff.mpr h.1
theorem bo_arr_fi {l : List bo_O} (h : bo_wf l) (x : Int32) : bo_fi (bo_arr l) x = bo_fi l x := by
  cases hf : bo_fi l x with
  | none =>
    rw [bo_fi_none] at hf ⊢
    exact fun o ho => hf o ((bo_arr_mem h.2.1).mp ho)
  | some o =>
    obtain ⟨h1, rfl⟩ := bo_fi_some hf
    exact bo_fi_of (bo_arr_nodup h) ((bo_arr_mem h.2.1).mpr h1)
