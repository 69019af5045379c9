/-! the log, books after so many events of an instrument, views; what a receiver does with an event -/
def fe_li (log : List bo_E) (i : Nat) : List bo_E := log.filter (fun e => decide (e.2.1 = i))
def fe_bk (log : List bo_E) (i n : Nat) : bo_B := ((fe_li log i).take n).foldl bo_apl ([], false)
def fe_vw (b : bo_B) : Nat → Int32 := fun c => if c < 18 then bo_lv (bo_srt (c / 9) b.1) (c % 9 / 3) (c % 3) else if b.2 = true then 1 else 0
/-- every event was allowed as it came, is well made, and bears its number -/
def fe_ok (log : List bo_E) : Prop := ∀ (i j : Nat) (e : bo_E), (fe_li log i)[j]? = some e → e.2.2.1 = j + 1 ∧ bo_ewf e ∧ bo_ok (fe_bk log i j) e.1 e.2.2.2.1 e.2.2.2.2.2.2 = true
theorem fe_li_app (log : List bo_E) (e : bo_E) (i : Nat) : fe_li (log ++ [e]) i = if e.2.1 = i then fe_li log i ++ [e] else fe_li log i := by
  unfold fe_li
  rw [List.filter_append]
  by_cases h : e.2.1 = i <;> simp [h]
theorem fe_li_len (log : List bo_E) (i : Nat) : (fe_li log i).length ≤ log.length := List.length_filter_le _ _
theorem fe_bk_0 (log : List bo_E) (i : Nat) : fe_bk log i 0 = ([], false) := rfl
theorem fe_bk_succ {log : List bo_E} {i n : Nat} {e : bo_E} (h : (fe_li log i)[n]? = some e) : fe_bk log i (n + 1) = bo_apl (fe_bk log i n) e := by
  unfold fe_bk
  rw [List.take_succ, h]
  simp [List.foldl_append]
theorem fe_bk_app {log : List bo_E} {e : bo_E} {i n : Nat} (hn : n ≤ (fe_li log i).length) : fe_bk (log ++ [e]) i n = fe_bk log i n := by
  unfold fe_bk
  rw [fe_li_app]
  by_cases h : e.2.1 = i
  · rw [if_pos h, List.take_append_of_le_length hn]
  · rw [if_neg h]
theorem fe_bk_wf {log : List bo_E} (h : fe_ok log) (i : Nat) : ∀ n, n ≤ (fe_li log i).length → bo_wf (fe_bk log i n).1
  | 0, _ => ⟨List.nodup_nil, fun o ho => (by cases ho), fun o ho => (by cases ho), Nat.zero_le _⟩
  | n + 1, hn => by
    have hl : n < (fe_li log i).length := by omega
    have e := List.getElem?_eq_getElem hl
    obtain ⟨-, h2, h3⟩ := h i n _ e
    rw [fe_bk_succ e]
    exact bo_wf_apl (fe_bk_wf h i n (by omega)) h2 h3
theorem fe_ok_nil : fe_ok [] := fun i j e h => by simp [fe_li] at h
theorem fe_ok_app {log : List bo_E} {e : bo_E} (h : fe_ok log) (h1 : e.2.2.1 = (fe_li log e.2.1).length + 1) (h2 : bo_ewf e) (h3 : bo_ok (fe_bk log e.2.1 (fe_li log e.2.1).length) e.1 e.2.2.2.1 e.2.2.2.2.2.2 = true) : fe_ok (log ++ [e]) := by
  intro i j x hx
  rw [fe_li_app] at hx
  by_cases hi : e.2.1 = i
  · rw [if_pos hi] at hx
    subst hi
    by_cases hj : j < (fe_li log e.2.1).length
    · rw [List.getElem?_append_left hj] at hx
      obtain ⟨g1, g2, g3⟩ := h _ j x hx
      exact ⟨g1, g2, by rw [fe_bk_app (by omega)]; exact g3⟩
    · rw [List.getElem?_append_right (by omega)] at hx
      have hz : j - (fe_li log e.2.1).length < 1 := (List.getElem?_eq_some_iff.mp hx).1
      have hz2 : j = (fe_li log e.2.1).length := by omega
      subst hz2
      rw [Nat.sub_self, List.getElem?_cons_zero] at hx
      cases hx
      exact ⟨h1, h2, by rw [fe_bk_app (Nat.le_refl _)]; exact h3⟩
  · rw [if_neg hi] at hx
    obtain ⟨g1, g2, g3⟩ := h i j x hx
    have hj : j < (fe_li log i).length := (List.getElem?_eq_some_iff.mp hx).1
    exact ⟨g1, g2, by rw [fe_bk_app (by omega)]; exact g3⟩
/-! one instrument of a receiver: how many events are applied, the numbers held, the reader's row -/
abbrev tr_T : Type := Nat × List Nat × List Nat
def tr_mark (i : Nat) (row : List Nat) : List Nat := if i ∈ row then row else row ++ [i]
def tr_dif (f g : Nat → Int32) : Bool := (List.range 19).any (fun c => decide (f c ≠ g c))
def tr_bec (log : List bo_E) (i m : Nat) (t : tr_T) : tr_T := (m, t.2.1, if tr_dif (fe_vw (fe_bk log i t.1)) (fe_vw (fe_bk log i m)) = true then tr_mark i t.2.2 else t.2.2)
def tr_fol (log : List bo_E) (i : Nat) : Nat → tr_T → tr_T
  | 0, t => t
  | k + 1, t => if t.1 + 1 ∈ t.2.1 then tr_fol log i k (tr_bec log i (t.1 + 1) (t.1, t.2.1.erase (t.1 + 1), t.2.2)) else t
def tr_take (log : List bo_E) (i num : Nat) (t : tr_T) : tr_T := if num = t.1 + 1 then tr_fol log i t.2.1.length (tr_bec log i num t) else if t.1 + 1 < num ∧ num ∉ t.2.1 ∧ t.2.1.length < 30 then (t.1, t.2.1 ++ [num], t.2.2) else t
/-- what holds of it -/
def tr_I (log : List bo_E) (i : Nat) (t : tr_T) : Prop := t.1 ≤ (fe_li log i).length ∧ t.2.1.Nodup ∧ (∀ n ∈ t.2.1, t.1 + 1 < n ∧ n ≤ (fe_li log i).length) ∧ t.2.1.length ≤ 30 ∧ t.2.2.Nodup ∧ ∀ j ∈ t.2.2, j < 4
/-- the same while events are being applied: the next may be held -/
def tr_J (log : List bo_E) (i : Nat) (t : tr_T) : Prop := t.1 ≤ (fe_li log i).length ∧ t.2.1.Nodup ∧ (∀ n ∈ t.2.1, t.1 < n ∧ n ≤ (fe_li log i).length) ∧ t.2.1.length ≤ 30 ∧ t.2.2.Nodup ∧ ∀ j ∈ t.2.2, j < 4
theorem tr_mark_I {i : Nat} {row : List Nat} (hi : i < 4) (h1 : row.Nodup) (h2 : ∀ j ∈ row, j < 4) : (tr_mark i row).Nodup ∧ ∀ j ∈ tr_mark i row, j < 4 := by
  unfold tr_mark
  split
  · exact ⟨h1, h2⟩
  · rename_i hn
    refine ⟨List.nodup_append.mpr ⟨h1, by simp, fun a ha b hb => ?_⟩, fun j hj => ?_⟩
    · rw [List.mem_singleton.mp hb]
      exact fun q => hn (by rw [← q]; exact ha)
    · rcases List.mem_append.mp hj with hj | hj
      · exact h2 j hj
      · rw [List.mem_singleton.mp hj]; exact hi
theorem tr_bec_J {log : List bo_E} {i m : Nat} {t : tr_T} (hi : i < 4) (hm : m ≤ (fe_li log i).length) (h : tr_J log i t) (hl : ∀ n ∈ t.2.1, m < n) : tr_J log i (tr_bec log i m t) := by
  obtain ⟨h1, h2, h3, h4, h5, h6⟩ := h
  unfold tr_bec
  refine ⟨hm, h2, fun n hn => ⟨hl n hn, (h3 n hn).2⟩, h4, ?_⟩
  dsimp only
  split
  · exact tr_mark_I hi h5 h6
  · exact ⟨h5, h6⟩
theorem tr_fol_I {log : List bo_E} {i : Nat} (hi : i < 4) : ∀ (k : Nat) (t : tr_T), t.2.1.length ≤ k → tr_J log i t → tr_I log i (tr_fol log i k t)
  | 0, t, hk, h => by
    obtain ⟨h1, h2, h3, h4, h5, h6⟩ := h
    have e : t.2.1 = [] := List.eq_nil_of_length_eq_zero (by omega)
    unfold tr_fol
    exact ⟨h1, h2, fun n hn => (by rw [e] at hn; cases hn), h4, h5, h6⟩
  | k + 1, t, hk, h => by
    unfold tr_fol
    by_cases hc : t.1 + 1 ∈ t.2.1
    · rw [if_pos hc]
      obtain ⟨h1, h2, h3, h4, h5, h6⟩ := h
      have hlen := List.length_erase_of_mem hc
      have hpos : 0 < t.2.1.length := List.length_pos_of_mem hc
      refine tr_fol_I hi k _ (by show (t.2.1.erase (t.1 + 1)).length ≤ k; omega) (tr_bec_J hi (h3 _ hc).2 ⟨h1, h2.erase _, fun n hn => h3 n (List.mem_of_mem_erase hn), by show (t.2.1.erase (t.1 + 1)).length ≤ 30; omega, h5, h6⟩ (fun n hn => ?_))
      have hn1 := h3 n (List.mem_of_mem_erase hn)
      have hn2 : n ≠ t.1 + 1 := fun q => by
        rw [q] at hn
        exact (List.Nodup.not_mem_erase h2) hn
      omega
    · rw [if_neg hc]
      obtain ⟨h1, h2, h3, h4, h5, h6⟩ := h
      refine ⟨h1, h2, fun n hn => ⟨?_, (h3 n hn).2⟩, h4, h5, h6⟩
      have hn1 := (h3 n hn).1
      have hn2 : n ≠ t.1 + 1 := fun q => hc (by rw [← q]; exact hn)
      omega
theorem tr_I.J {log : List bo_E} {i : Nat} {t : tr_T} (h : tr_I log i t) : tr_J log i t := ⟨h.1, h.2.1, fun n hn => ⟨by have := (h.2.2.1 n hn).1; omega, (h.2.2.1 n hn).2⟩, h.2.2.2⟩
theorem tr_take_I {log : List bo_E} {i num : Nat} {t : tr_T} (hi : i < 4) (hm : num ≤ (fe_li log i).length) (h : tr_I log i t) : tr_I log i (tr_take log i num t) := by
  unfold tr_take
  by_cases hc : num = t.1 + 1
  · rw [if_pos hc]
    exact tr_fol_I hi _ _ (Nat.le_refl _) (tr_bec_J hi hm h.J (fun n hn => by have := (h.2.2.1 n hn).1; omega))
  · rw [if_neg hc]
    by_cases hd : t.1 + 1 < num ∧ num ∉ t.2.1 ∧ t.2.1.length < 30
    · rw [if_pos hd]
      obtain ⟨h1, h2, h3, h4, h5, h6⟩ := h
      refine ⟨h1, List.nodup_append.mpr ⟨h2, by simp, fun a ha b hb => ?_⟩, fun n hn => ?_, by simp; omega, h5, h6⟩
      · rw [List.mem_singleton.mp hb]
        exact fun q => hd.2.1 (by rw [← q]; exact ha)
      · rcases List.mem_append.mp hn with hn | hn
        · exact h3 n hn
        · rw [List.mem_singleton.mp hn]; exact ⟨hd.1, hm⟩
    · rw [if_neg hd]
      exact h
