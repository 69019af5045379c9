/-! a book's cells hold a book -/
def BL (dA : Nat → ClassId) (h : fv_H) (a : Nat) (b : bo_B) (n : Nat) : Prop := ∃ ids pri siz : Nat → Int32, BK dA h a ids pri siz (bo_srt 0 b.1).length b.1.length b.2 n ∧ bo_AR ids pri siz (bo_arr b.1) ∧ bo_wf b.1
theorem BL.fr {dA : Nat → ClassId} {h h' : fv_H} {a : Nat} {b : bo_B} {n c k : Nat} (q : BL dA h a b n) (hf : fr h h' c k) (hd : a + 4 ≤ c ∨ c + k ≤ a) : BL dA h' a b n := by
  obtain ⟨ids, pri, siz, hB, hA, hw⟩ := q
  exact ⟨ids, pri, siz, hB.fr hf hd, hA, hw⟩
theorem BL.wf {dA : Nat → ClassId} {h : fv_H} {a : Nat} {b : bo_B} {n : Nat} (q : BL dA h a b n) : bo_wf b.1 := by
  obtain ⟨ids, pri, siz, hB, hA, hw⟩ := q
  exact hw
theorem bk_pl_aux {ids pri siz : Nat → Int32} {arr : List bo_O} {x : Int32} (hA : bo_AR ids pri siz arr) : ∀ (n j : Nat), j + n = arr.length → (bo_fi (arr.drop j) x = none → bk_pl ids x n j = -1) ∧ ∀ o, bo_fi (arr.drop j) x = some o → ∃ k, arr[k]? = some o ∧ bk_pl ids x n j = nI k
  | 0, j, hj => by
    have e : arr.drop j = [] := List.drop_eq_nil_of_le (by omega)
    rw [e]
    exact ⟨fun _ => rfl, fun o ho => by simp [bo_fi] at ho⟩
  | n + 1, j, hj => by
    have hl : j < arr.length := by omega
    have hg := List.getElem?_eq_getElem hl
    obtain ⟨h1, -, -⟩ := hA j _ hg
    obtain ⟨i1, i2⟩ := bk_pl_aux (x := x) hA n (j + 1) (by omega)
    rw [List.drop_eq_getElem_cons hl]
    unfold bk_pl
    unfold bo_fi
    rw [List.find?_cons]
    by_cases hx : arr[j].1 = x
    · rw [if_pos (h1.trans hx)]
      simp only [hx, decide_true]
      exact ⟨fun q => (by cases q), fun o ho => ⟨j, (by rw [hg]; exact ho), rfl⟩⟩
    · rw [if_neg (by rw [h1]; exact hx)]
      simp only [hx, decide_false]
      exact ⟨i1, i2⟩
theorem bk_pl_none {ids pri siz : Nat → Int32} {l : List bo_O} {x : Int32} (hA : bo_AR ids pri siz (bo_arr l)) (hw : bo_wf l) (hf : bo_fi l x = none) : bk_pl ids x l.length 0 = -1 := by
  have h := (bk_pl_aux (x := x) hA l.length 0 (by rw [bo_arr_len hw.2.1]; omega)).1
  rw [List.drop_zero, bo_arr_fi hw] at h
  exact h hf
theorem bk_pl_some {ids pri siz : Nat → Int32} {l : List bo_O} {x : Int32} {o : bo_O} (hA : bo_AR ids pri siz (bo_arr l)) (hw : bo_wf l) (hf : bo_fi l x = some o) : ∃ k, k < l.length ∧ (bo_arr l)[k]? = some o ∧ bk_pl ids x l.length 0 = nI k := by
  have h := (bk_pl_aux (x := x) hA l.length 0 (by rw [bo_arr_len hw.2.1]; omega)).2
  rw [List.drop_zero, bo_arr_fi hw] at h
  obtain ⟨k, h1, h2⟩ := h o hf
  refine ⟨k, ?_, h1, h2⟩
  have := (List.getElem?_eq_some_iff.mp h1).1
  rw [bo_arr_len hw.2.1] at this
  exact this
theorem nI_nm1 {k : Nat} (h : k < 2 ^ 31) : ¬ nI k = -1 := by
  intro q
  have h1 := nI_toInt h
  rw [q] at h1
  have h2 : (-1 : Int32).toInt = -1 := by decide +kernel
  omega
theorem bo_arr_lo {l : List bo_O} {j : Nat} (hj : j < (bo_srt 0 l).length) : (bo_arr l)[j]? = (bo_srt 0 l)[j]? := by
  rw [bo_arr, List.getElem?_append_left hj]
theorem bo_arr_hi {l : List bo_O} {j : Nat} : (bo_arr l)[(bo_srt 0 l).length + j]? = (bo_srt 1 l)[j]? := by
  rw [bo_arr, List.getElem?_append_right (by omega), Nat.add_sub_cancel_left]
theorem bo_len_sum {l : List bo_O} (h : bo_two l) : (bo_srt 0 l).length + (bo_srt 1 l).length = l.length := by
  have := bo_arr_len h
  rw [bo_arr, List.length_append] at this
  exact this
/-- the start of a side in the arrays -/
def bo_st0 (l : List bo_O) (s : Nat) : Nat := if s = 0 then 0 else (bo_srt 0 l).length
def bo_en0 (l : List bo_O) (s : Nat) : Nat := if s = 0 then (bo_srt 0 l).length else l.length
theorem bo_en_st {l : List bo_O} (h : bo_two l) {s : Nat} (hs : s < 2) : bo_en0 l s = bo_st0 l s + (bo_srt s l).length := by
  have := bo_len_sum h
  unfold bo_en0 bo_st0
  rcases (show s = 0 ∨ s = 1 by omega) with rfl | rfl
  · simp
  · simp
    omega
theorem bo_en_le {l : List bo_O} (h : bo_two l) {s : Nat} (hs : s < 2) : bo_en0 l s ≤ l.length := by
  have := bo_len_sum h
  unfold bo_en0
  split <;> omega
theorem bo_arr_side {l : List bo_O} {s j : Nat} (hs : s < 2) (hj : j < (bo_srt s l).length) : (bo_arr l)[bo_st0 l s + j]? = (bo_srt s l)[j]? := by
  unfold bo_st0
  rcases (show s = 0 ∨ s = 1 by omega) with rfl | rfl
  · simp only [if_true, Nat.zero_add]
    exact bo_arr_lo hj
  · simp only [Nat.one_ne_zero, if_false]
    exact bo_arr_hi
theorem cur_gt {d lv : Nat} (hd : d < 2 ^ 30) (hl : lv < 2 ^ 31) : nI lv < nI d + (-1) ↔ lv + 1 < d := by
  have e : (nI d + (-1)).toInt = (d : Int) - 1 := by
    have h1 := nI_toInt (n := d) (by omega)
    have h2 : (-1 : Int32).toInt = -1 := by decide +kernel
    rw [Int32.toInt_add, h1, h2]
    apply Int.bmod_eq_of_le <;> omega
  rw [Int32.lt_iff_toInt_lt, e, nI_toInt hl]
  omega
theorem cur_eq {d lv : Nat} (hd : d < 2 ^ 30) (hl : lv < 2 ^ 31) : nI d + (-1) = nI lv ↔ d = lv + 1 := by
  have e : (nI d + (-1)).toInt = (d : Int) - 1 := by
    have h1 := nI_toInt (n := d) (by omega)
    have h2 : (-1 : Int32).toInt = -1 := by decide +kernel
    rw [Int32.toInt_add, h1, h2]
    apply Int.bmod_eq_of_le <;> omega
  rw [← Int32.toInt_inj, e, nI_toInt hl]
  omega
theorem cur_inc (d : Nat) : nI d + (-1) + Int32.ofInt 1 = nI (d + 1) + (-1) := by
  rw [kI_1, Int32.add_assoc, Int32.add_comm (-1), ← Int32.add_assoc, nI_add]
theorem bo_take_succ {l : List bo_O} {t : Nat} {o : bo_O} (h : l[t]? = some o) : l.take (t + 1) = l.take t ++ [o] := by
  rw [List.take_succ, h]
  rfl
theorem bo_S_take {s : Nat} {l : List bo_O} (t : Nat) (h : bo_S s l) : bo_S s (l.take t) := List.Pairwise.sublist (List.take_sublist t l) h
