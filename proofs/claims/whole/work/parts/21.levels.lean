/-! levels of a side: the prices in book order, each once; sums and counts of a price -/
def bo_dps (acc : List Int32) (o : bo_O) : List Int32 := if acc.getLast? = some o.2.2.1 then acc else acc ++ [o.2.2.1]
def bo_dp (l : List bo_O) : List Int32 := l.foldl bo_dps []
def bo_sum (p : Int32) (l : List bo_O) : Int32 := l.foldl (fun acc o => if o.2.2.1 = p then acc + o.2.2.2 else acc) 0
def bo_cnt (p : Int32) (l : List bo_O) : Nat := (l.filter (fun o => decide (o.2.2.1 = p))).length
/-- level's value of a side in book order: 0 price, 1 sum, 2 how many -/
def bo_lv (l : List bo_O) (lev what : Nat) : Int32 := match (bo_dp l)[lev]? with
  | none => -2000000
  | some p => if what = 0 then p else if what = 1 then bo_sum p l else nI (bo_cnt p l)
theorem bo_dp_nil : bo_dp [] = [] := rfl
theorem bo_dp_app (l : List bo_O) (o : bo_O) : bo_dp (l ++ [o]) = bo_dps (bo_dp l) o := by simp [bo_dp, List.foldl_append]
theorem bo_sum_app (p : Int32) (l : List bo_O) (o : bo_O) : bo_sum p (l ++ [o]) = if o.2.2.1 = p then bo_sum p l + o.2.2.2 else bo_sum p l := by simp [bo_sum, List.foldl_append]
theorem bo_cnt_app (p : Int32) (l : List bo_O) (o : bo_O) : bo_cnt p (l ++ [o]) = if o.2.2.1 = p then bo_cnt p l + 1 else bo_cnt p l := by
  by_cases h : o.2.2.1 = p <;> simp [bo_cnt, List.filter_append, h]
theorem bo_dp_last (l : List bo_O) : (bo_dp l).getLast? = l.getLast?.map (fun o => o.2.2.1) := by
  rcases bo_snoc l with rfl | ⟨L, o, rfl⟩
  · rfl
  · rw [bo_dp_app]
    unfold bo_dps
    split
    · rename_i h
      rw [h]
      simp
    · simp
theorem bo_dp_len (l : List bo_O) : (bo_dp l).length ≤ l.length := by
  generalize hn : l.length = n
  induction n generalizing l with
  | zero =>
    have : l = [] := List.eq_nil_of_length_eq_zero hn
    subst this
    exact Nat.le_refl _
  | succ n ih =>
    rcases bo_snoc l with rfl | ⟨L, o, rfl⟩
    · simp at hn
    · have hL : L.length = n := by simpa using hn
      have := ih L hL
      rw [bo_dp_app]
      unfold bo_dps
      split
      · omega
      · rw [List.length_append]
        simp
        omega
theorem bo_dps_pre (acc : List Int32) (o : bo_O) : ∃ r, bo_dps acc o = acc ++ r := by
  unfold bo_dps
  split
  · exact ⟨[], by simp⟩
  · exact ⟨_, rfl⟩
theorem bo_dp_fold_pre : ∀ (r : List bo_O) (acc : List Int32), ∃ q, r.foldl bo_dps acc = acc ++ q
  | [], acc => ⟨[], by simp⟩
  | o :: t, acc => by
    obtain ⟨r1, h1⟩ := bo_dps_pre acc o
    obtain ⟨r2, h2⟩ := bo_dp_fold_pre t (bo_dps acc o)
    exact ⟨r1 ++ r2, by rw [List.foldl_cons, h2, h1, List.append_assoc]⟩
/-- what stands in a beginning's levels stands in the whole's -/
theorem bo_dp_ext {l r : List bo_O} {i : Nat} {p : Int32} (h : (bo_dp l)[i]? = some p) : (bo_dp (l ++ r))[i]? = some p := by
  obtain ⟨q, hq⟩ := bo_dp_fold_pre r (bo_dp l)
  have e : bo_dp (l ++ r) = bo_dp l ++ q := by
    rw [← hq]
    simp [bo_dp, List.foldl_append]
  rw [e, List.getElem?_append_left (List.getElem?_eq_some_iff.mp h).1, h]
def bo_gt (s : Nat) (p q : Int32) : Prop := if s = 0 then q < p else p < q
theorem bo_gt_trans {s : Nat} {p q r : Int32} (h1 : bo_gt s p q) (h2 : bo_gt s q r) : bo_gt s p r := by
  by_cases hs : s = 0
  · simp only [bo_gt, hs, if_true, Int32.lt_iff_toInt_lt] at *
    omega
  · simp only [bo_gt, hs, if_false, Int32.lt_iff_toInt_lt] at *
    omega
theorem bo_gt_ne {s : Nat} {p q : Int32} (h : bo_gt s p q) : p ≠ q := by
  intro e
  subst e
  by_cases hs : s = 0
  · simp only [bo_gt, hs, if_true, Int32.lt_iff_toInt_lt] at h
    omega
  · simp only [bo_gt, hs, if_false, Int32.lt_iff_toInt_lt] at h
    omega
theorem bo_ge_gt {s : Nat} {a b : bo_O} (h : bo_ge s a b = true) (hne : a.2.2.1 ≠ b.2.2.1) : bo_gt s a.2.2.1 b.2.2.1 := by
  have hn : a.2.2.1.toInt ≠ b.2.2.1.toInt := fun q => hne (Int32.toInt_inj.mp q)
  by_cases hs : s = 0
  · simp only [bo_ge, bo_gt, hs, if_true, decide_eq_true_eq, Int32.lt_iff_toInt_lt, Int32.le_iff_toInt_le] at *
    omega
  · simp only [bo_ge, bo_gt, hs, if_false, decide_eq_true_eq, Int32.lt_iff_toInt_lt, Int32.le_iff_toInt_le] at *
    omega
theorem bo_S_app {s : Nat} {l : List bo_O} {o : bo_O} (h : bo_S s (l ++ [o])) : bo_S s l ∧ ∀ a ∈ l, bo_ge s a o = true := by
  obtain ⟨h1, -, h3⟩ := List.pairwise_append.mp h
  exact ⟨h1, fun a ha => h3 a ha o (List.mem_singleton.mpr rfl)⟩
theorem bo_last_mem {l : List bo_O} {x : Int32} (h : (bo_dp l).getLast? = some x) : ∃ b ∈ l, b.2.2.1 = x ∧ ∀ s, bo_S s l → ∀ a ∈ l, a = b ∨ bo_ge s a b = true := by
  rcases bo_snoc l with rfl | ⟨L, o, rfl⟩
  · simp [bo_dp] at h
  · rw [bo_dp_last] at h
    simp at h
    refine ⟨o, List.mem_append_right _ (List.mem_singleton.mpr rfl), h, fun s hS a ha => ?_⟩
    rcases List.mem_append.mp ha with ha | ha
    · exact Or.inr ((bo_S_app hS).2 a ha)
    · exact Or.inl (List.mem_singleton.mp ha)
theorem bo_dp_S (s : Nat) : ∀ (n : Nat) (l : List bo_O), l.length = n → bo_S s l → (bo_dp l).Pairwise (bo_gt s) ∧ ∀ p, p ∈ bo_dp l ↔ ∃ a ∈ l, a.2.2.1 = p
  | 0, l, hn, _ => by
    have : l = [] := List.eq_nil_of_length_eq_zero hn
    subst this
    exact ⟨List.Pairwise.nil, fun p => by simp [bo_dp]⟩
  | n + 1, l, hn, hS => by
    rcases bo_snoc l with rfl | ⟨L, o, rfl⟩
    · simp at hn
    · have hL : L.length = n := by simpa using hn
      obtain ⟨hS1, hS2⟩ := bo_S_app hS
      obtain ⟨ih1, ih2⟩ := bo_dp_S s n L hL hS1
      rw [bo_dp_app]
      unfold bo_dps
      by_cases hl : (bo_dp L).getLast? = some o.2.2.1
      · rw [if_pos hl]
        refine ⟨ih1, fun p => ?_⟩
        rw [ih2]
        constructor
        · rintro ⟨a, ha, e⟩
          exact ⟨a, List.mem_append_left _ ha, e⟩
        · rintro ⟨a, ha, e⟩
          rcases List.mem_append.mp ha with ha | ha
          · exact ⟨a, ha, e⟩
          · rw [List.mem_singleton.mp ha] at e
            obtain ⟨b, hb, hb2, -⟩ := bo_last_mem hl
            exact ⟨b, hb, hb2.trans e⟩
      · rw [if_neg hl]
        refine ⟨List.pairwise_append.mpr ⟨ih1, List.pairwise_singleton _ _, fun p hp q hq => ?_⟩, fun p => ?_⟩
        · rw [List.mem_singleton.mp hq]
          obtain ⟨a, ha, e⟩ := (ih2 p).mp hp
          subst e
          refine bo_ge_gt (hS2 a ha) (fun he => hl ?_)
          cases hx : (bo_dp L).getLast? with
          | none =>
            rw [List.getLast?_eq_none_iff.mp hx] at hp
            cases hp
          | some x =>
            obtain ⟨b, hb, hb2, hb3⟩ := bo_last_mem hx
            rw [← hb2]
            congr 1
            rcases hb3 s hS1 a ha with e | e
            · rw [← e]; exact he
            · by_cases hbo : b.2.2.1 = o.2.2.1
              · exact hbo
              · have g1 := bo_ge_gt (hS2 b hb) hbo
                by_cases hab : a.2.2.1 = b.2.2.1
                · exact hab.symm.trans he
                · exact absurd he (bo_gt_ne (bo_gt_trans (bo_ge_gt e hab) g1))
        · rw [List.mem_append, List.mem_singleton, ih2]
          constructor
          · rintro (⟨a, ha, e⟩ | e)
            · exact ⟨a, List.mem_append_left _ ha, e⟩
            · exact ⟨o, List.mem_append_right _ (List.mem_singleton.mpr rfl), e.symm⟩
          · rintro ⟨a, ha, e⟩
            rcases List.mem_append.mp ha with ha | ha
            · exact Or.inl ⟨a, ha, e⟩
            · rw [List.mem_singleton.mp ha] at e
              exact Or.inr e.symm
/-- a new price is on none of those before it -/
theorem bo_new_price {s : Nat} {l : List bo_O} {o : bo_O} (hS : bo_S s (l ++ [o])) (h : ¬ (bo_dp l).getLast? = some o.2.2.1) : ∀ a ∈ l, a.2.2.1 ≠ o.2.2.1 := by
  have h1 := (bo_dp_S s _ _ rfl hS).1
  rw [bo_dp_app, bo_dps, if_neg h] at h1
  obtain ⟨-, -, h3⟩ := List.pairwise_append.mp h1
  intro a ha
  exact bo_gt_ne (h3 _ (((bo_dp_S s _ _ rfl (bo_S_app hS).1).2 _).mpr ⟨a, ha, rfl⟩) _ (List.mem_singleton.mpr rfl))
theorem bo_sum_zero {p : Int32} {l : List bo_O} (h : ∀ a ∈ l, a.2.2.1 ≠ p) : bo_sum p l = 0 ∧ bo_cnt p l = 0 := by
  refine ⟨?_, ?_⟩
  · unfold bo_sum
    have : ∀ (l : List bo_O) (z : Int32), (∀ a ∈ l, a.2.2.1 ≠ p) → l.foldl (fun acc o => if o.2.2.1 = p then acc + o.2.2.2 else acc) z = z := by
      intro l
      induction l with
      | nil => intro z _; rfl
      | cons a t ih =>
        intro z hz
        rw [List.foldl_cons, if_neg (hz a List.mem_cons_self)]
        exact ih z (fun x hx => hz x (List.mem_cons_of_mem _ hx))
    exact this l 0 h
  · unfold bo_cnt
    rw [List.length_eq_zero_iff, List.filter_eq_nil_iff]
    intro a ha
    simp [h a ha]
theorem bo_sum_more {p : Int32} {l r : List bo_O} (h : ∀ a ∈ r, a.2.2.1 ≠ p) : bo_sum p (l ++ r) = bo_sum p l ∧ bo_cnt p (l ++ r) = bo_cnt p l := by
  refine ⟨?_, ?_⟩
  · unfold bo_sum
    rw [List.foldl_append]
    have : ∀ (l : List bo_O) (z : Int32), (∀ a ∈ l, a.2.2.1 ≠ p) → l.foldl (fun acc o => if o.2.2.1 = p then acc + o.2.2.2 else acc) z = z := by
      intro l
      induction l with
      | nil => intro z _; rfl
      | cons a t ih =>
        intro z hz
        rw [List.foldl_cons, if_neg (hz a List.mem_cons_self)]
        exact ih z (fun x hx => hz x (List.mem_cons_of_mem _ hx))
    exact this r _ h
  · unfold bo_cnt
    rw [List.filter_append, List.length_append, (List.filter_eq_nil_iff (l := r)).mpr (fun a ha => by simp [h a ha])]
    rfl
/-- the scan of a side from its best order on, as the class does it: after the orders l, at level lev -/
def bo_tri (lev : Nat) (l : List bo_O) : Int32 × Int32 × Nat := match (bo_dp l)[lev]? with
  | none => (0, 0, 0)
  | some p => (p, bo_sum p l, bo_cnt p l)
theorem bo_cnt_pos {p : Int32} {l : List bo_O} (h : ∃ a ∈ l, a.2.2.1 = p) : 0 < bo_cnt p l := by
  obtain ⟨a, ha, e⟩ := h
  unfold bo_cnt
  exact List.length_pos_of_mem (List.mem_filter.mpr ⟨ha, by simp [e]⟩)
theorem bo_get_last {α : Type} {l : List α} {n : Nat} (h : l.length = n + 1) : l.getLast? = l[n]? := by
  rw [List.getLast?_eq_getElem?, h]
  rfl
theorem bo_tri_step {s lev : Nat} {l : List bo_O} {o : bo_O} (hS : bo_S s (l ++ [o])) (hd : (bo_dp l).length ≤ lev + 1) :
    bo_tri lev (l ++ [o]) = if (bo_dp (l ++ [o])).length = lev + 1 then (o.2.2.1, (bo_tri lev l).2.1 + o.2.2.2, (bo_tri lev l).2.2 + 1) else bo_tri lev l := by
  have hlast : (bo_dp (l ++ [o])).getLast? = some o.2.2.1 := by rw [bo_dp_last]; simp
  by_cases hg : (bo_dp l).getLast? = some o.2.2.1
  · have e : bo_dp (l ++ [o]) = bo_dp l := by rw [bo_dp_app, bo_dps, if_pos hg]
    by_cases hL : (bo_dp l).length = lev + 1
    · rw [e, if_pos hL]
      have hget : (bo_dp l)[lev]? = some o.2.2.1 := by rw [← bo_get_last hL]; exact hg
      unfold bo_tri
      rw [e, hget]
      simp only [bo_sum_app, bo_cnt_app, if_true]
    · rw [e, if_neg hL]
      have hget : (bo_dp l)[lev]? = none := by rw [List.getElem?_eq_none_iff]; omega
      unfold bo_tri
      rw [e, hget]
  · have e : bo_dp (l ++ [o]) = bo_dp l ++ [o.2.2.1] := by rw [bo_dp_app, bo_dps, if_neg hg]
    have hnew := bo_new_price hS hg
    have hlen : (bo_dp (l ++ [o])).length = (bo_dp l).length + 1 := by rw [e]; simp
    by_cases hL : (bo_dp l).length = lev
    · rw [if_pos (by omega)]
      have h1 : (bo_dp (l ++ [o]))[lev]? = some o.2.2.1 := by rw [← bo_get_last (by omega)]; exact hlast
      have h2 : (bo_dp l)[lev]? = none := by rw [List.getElem?_eq_none_iff]; omega
      obtain ⟨z1, z2⟩ := bo_sum_zero hnew
      unfold bo_tri
      rw [h1, h2]
      simp only [bo_sum_app, bo_cnt_app, if_true, z1, z2]
    · rw [if_neg (by omega)]
      by_cases hL2 : (bo_dp l).length = lev + 1
      · obtain ⟨p, hp⟩ : ∃ p, (bo_dp l)[lev]? = some p := ⟨_, List.getElem?_eq_getElem (by omega)⟩
        have hp2 : (bo_dp (l ++ [o]))[lev]? = some p := bo_dp_ext hp
        have hpl : (bo_dp l).getLast? = some p := by rw [bo_get_last hL2]; exact hp
        have hne : ¬ o.2.2.1 = p := fun q => hg (by rw [hpl, q])
        unfold bo_tri
        rw [hp2, hp]
        simp only [bo_sum_app, bo_cnt_app, if_neg hne]
      · have h1 : (bo_dp (l ++ [o]))[lev]? = none := by rw [List.getElem?_eq_none_iff]; omega
        have h2 : (bo_dp l)[lev]? = none := by rw [List.getElem?_eq_none_iff]; omega
        unfold bo_tri
        rw [h1, h2]
theorem bo_dp_grow (l : List bo_O) (o : bo_O) : (bo_dp (l ++ [o])).length = if (bo_dp l).getLast? = some o.2.2.1 then (bo_dp l).length else (bo_dp l).length + 1 := by
  rw [bo_dp_app, bo_dps]
  split
  · rfl
  · simp
/-- once the scan is past the level, the rest adds nothing -/
theorem bo_tri_past {s lev : Nat} {l r : List bo_O} (hS : bo_S s (l ++ r)) (hd : lev + 1 < (bo_dp l).length) : bo_tri lev (l ++ r) = bo_tri lev l := by
  obtain ⟨h1, -, h3⟩ := List.pairwise_append.mp hS
  obtain ⟨p, hp⟩ : ∃ p, (bo_dp l)[lev]? = some p := ⟨_, List.getElem?_eq_getElem (by omega)⟩
  have hp2 : (bo_dp (l ++ r))[lev]? = some p := bo_dp_ext hp
  have hP := (bo_dp_S s _ _ rfl h1).1
  obtain ⟨x, hx⟩ : ∃ x, (bo_dp l).getLast? = some x := by
    cases hc : (bo_dp l).getLast? with
    | none =>
      rw [List.getLast?_eq_none_iff.mp hc] at hd
      simp at hd
    | some x => exact ⟨x, rfl⟩
  have hgt : bo_gt s p x := by
    obtain ⟨i1, i2⟩ := List.getElem?_eq_some_iff.mp hp
    rw [List.getLast?_eq_getElem?] at hx
    obtain ⟨j1, j2⟩ := List.getElem?_eq_some_iff.mp hx
    have := List.pairwise_iff_getElem.mp hP lev _ i1 j1 (by omega)
    rwa [i2, j2] at this
  obtain ⟨b, hb, hb2, -⟩ := bo_last_mem hx
  have hr : ∀ a ∈ r, a.2.2.1 ≠ p := by
    intro a ha e
    have hge := h3 b hb a ha
    by_cases hba : b.2.2.1 = a.2.2.1
    · exact bo_gt_ne hgt (by rw [← hb2, hba, e])
    · have g := bo_ge_gt hge hba
      rw [hb2, e] at g
      exact bo_gt_ne (bo_gt_trans hgt g) rfl
  obtain ⟨z1, z2⟩ := bo_sum_more (l := l) hr
  unfold bo_tri
  rw [hp2, hp]
  simp only [z1, z2]
theorem bo_tri_lv {s lev what : Nat} {l : List bo_O} (hS : bo_S s l) : bo_lv l lev what = if (bo_tri lev l).2.2 = 0 then -2000000 else if what = 0 then (bo_tri lev l).1 else if what = 1 then (bo_tri lev l).2.1 else nI (bo_tri lev l).2.2 := by
  unfold bo_lv bo_tri
  cases hp : (bo_dp l)[lev]? with
  | none => rfl
  | some p =>
    have hpos : 0 < bo_cnt p l := bo_cnt_pos (((bo_dp_S s _ _ rfl hS).2 p).mp (List.mem_of_getElem? hp))
    simp only
    rw [if_neg (show ¬ bo_cnt p l = 0 by omega)]
theorem bo_cnt_le (p : Int32) (l : List bo_O) : bo_cnt p l ≤ l.length := List.length_filter_le _ _
theorem bo_tri_cnt (lev : Nat) (l : List bo_O) : (bo_tri lev l).2.2 ≤ l.length := by
  unfold bo_tri
  cases (bo_dp l)[lev]? with
  | none => exact Nat.zero_le _
  | some p => exact bo_cnt_le p l
/-! sums and counts over the orders as they came -/
def bo_asum (s : Nat) (p : Int32) (l : List bo_O) : Int32 := l.foldl (fun acc o => if o.2.1 = s ∧ o.2.2.1 = p then acc + o.2.2.2 else acc) 0
def bo_acnt (s : Nat) (p : Int32) (l : List bo_O) : Nat := (l.filter (fun o => decide (o.2.1 = s ∧ o.2.2.1 = p))).length
theorem bo_asum_app (s : Nat) (p : Int32) (l : List bo_O) (o : bo_O) : bo_asum s p (l ++ [o]) = if o.2.1 = s ∧ o.2.2.1 = p then bo_asum s p l + o.2.2.2 else bo_asum s p l := by simp [bo_asum, List.foldl_append]
theorem bo_acnt_app (s : Nat) (p : Int32) (l : List bo_O) (o : bo_O) : bo_acnt s p (l ++ [o]) = if o.2.1 = s ∧ o.2.2.1 = p then bo_acnt s p l + 1 else bo_acnt s p l := by
  by_cases h : o.2.1 = s ∧ o.2.2.1 = p <;> simp [bo_acnt, List.filter_append, h]
theorem bo_fold_add (p : Int32) : ∀ (l : List bo_O) (z w : Int32), l.foldl (fun acc o => if o.2.2.1 = p then acc + o.2.2.2 else acc) (z + w) = l.foldl (fun acc o => if o.2.2.1 = p then acc + o.2.2.2 else acc) z + w
  | [], z, w => rfl
  | a :: t, z, w => by
    rw [List.foldl_cons, List.foldl_cons]
    split
    · rw [show z + w + a.2.2.2 = (z + a.2.2.2) + w by rw [Int32.add_assoc, Int32.add_comm w, ← Int32.add_assoc], bo_fold_add p t]
    · exact bo_fold_add p t z w
theorem bo_sum_ins (s : Nat) (p : Int32) (o : bo_O) : ∀ (l : List bo_O) (z : Int32), (bo_ins s o l).foldl (fun acc o => if o.2.2.1 = p then acc + o.2.2.2 else acc) z = if o.2.2.1 = p then l.foldl (fun acc o => if o.2.2.1 = p then acc + o.2.2.2 else acc) z + o.2.2.2 else l.foldl (fun acc o => if o.2.2.1 = p then acc + o.2.2.2 else acc) z
  | [], z => rfl
  | a :: t, z => by
    unfold bo_ins
    split
    · rw [List.foldl_cons, bo_sum_ins s p o t, List.foldl_cons]
    · rw [List.foldl_cons]
      by_cases h : o.2.2.1 = p
      · rw [if_pos h, if_pos h, bo_fold_add]
      · rw [if_neg h, if_neg h]
theorem bo_sum_srt (s : Nat) (p : Int32) : ∀ (n : Nat) (l : List bo_O), l.length = n → bo_sum p (bo_srt s l) = bo_asum s p l ∧ bo_cnt p (bo_srt s l) = bo_acnt s p l
  | 0, l, hn => by
    have : l = [] := List.eq_nil_of_length_eq_zero hn
    subst this
    exact ⟨rfl, rfl⟩
  | n + 1, l, hn => by
    rcases bo_snoc l with rfl | ⟨L, o, rfl⟩
    · simp at hn
    · have hL : L.length = n := by simpa using hn
      obtain ⟨ih1, ih2⟩ := bo_sum_srt s p n L hL
      rw [bo_srt_app, bo_asum_app, bo_acnt_app]
      by_cases hs : o.2.1 = s
      · rw [if_pos hs]
        have hc : bo_cnt p (bo_ins s o (bo_srt s L)) = if o.2.2.1 = p then bo_cnt p (bo_srt s L) + 1 else bo_cnt p (bo_srt s L) := by
          unfold bo_cnt
          rw [bo_ins_filter _ (bo_srt_S s L)]
          by_cases h : o.2.2.1 = p
          · rw [if_pos h, if_pos (by simp [h]), bo_ins_len]
          · rw [if_neg h, if_neg (by simp [h])]
        refine ⟨?_, ?_⟩
        · rw [bo_sum, bo_sum_ins, ← bo_sum, ih1]
          by_cases h : o.2.2.1 = p
          · rw [if_pos h, if_pos ⟨hs, h⟩]
          · rw [if_neg h, if_neg (fun q => h q.2)]
        · rw [hc, ih2]
          by_cases h : o.2.2.1 = p
          · rw [if_pos h, if_pos ⟨hs, h⟩]
          · rw [if_neg h, if_neg (fun q => h q.2)]
      · rw [if_neg hs, if_neg (fun q => hs q.1), if_neg (fun q => hs q.1)]
        exact ⟨ih1, ih2⟩
