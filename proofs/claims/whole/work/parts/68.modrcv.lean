/-! one receiver of the reference changes -/
def OT (F F' : Nat → Nat → Int32) (r : Nat) : Prop := (∀ k, k = 16 ∨ k = 17 ∨ k = 19 ∨ k = 27 → ∀ j, j / 4 ≠ r → F' k j = F k j) ∧ (∀ j, j / 1604 ≠ r → F' 18 j = F 18 j) ∧ (∀ k, k = 20 ∨ k = 21 ∨ k = 23 ∨ k = 28 → ∀ j, j ≠ r → F' k j = F k j) ∧ ∀ j, j / 402 ≠ r → F' 22 j = F 22 j
theorem OT.tr {F F1 F2 : Nat → Nat → Int32} {r : Nat} (h1 : OT F F1 r) (h2 : OT F1 F2 r) : OT F F2 r := ⟨fun k hk j hj => (h2.1 k hk j hj).trans (h1.1 k hk j hj), fun j hj => (h2.2.1 j hj).trans (h1.2.1 j hj), fun k hk j hj => (h2.2.2.1 k hk j hj).trans (h1.2.2.1 k hk j hj), fun j hj => (h2.2.2.2 j hj).trans (h1.2.2.2 j hj)⟩
theorem OT.one {F F' : Nat → Nat → Int32} {r k j : Nat} {x : Int32} (g1 : F' k = upd (F k) j x) (g2 : ∀ q, q ≠ k → F' q = F q) (h1 : k = 16 ∨ k = 17 ∨ k = 19 ∨ k = 27 → j / 4 = r) (h2 : k = 18 → j / 1604 = r) (h3 : k = 20 ∨ k = 21 ∨ k = 23 ∨ k = 28 → j = r) (h4 : k = 22 → j / 402 = r) : OT F F' r := by
  have key : ∀ q t, (q = k → t ≠ j) → F' q t = F q t := fun q t ht => by
    by_cases c : q = k
    · subst c
      rw [g1]
      unfold upd
      rw [if_neg (ht rfl)]
    · rw [g2 q c]
  refine ⟨fun q hq t ht => key q t (fun e => ?_), fun t ht => key 18 t (fun e => ?_), fun q hq t ht => key q t (fun e => ?_), fun t ht => key 22 t (fun e => ?_)⟩
  · intro e2
    rw [e] at hq
    rw [e2] at ht
    exact ht (h1 hq)
  · intro e2
    rw [e2] at ht
    exact ht (h2 e.symm)
  · intro e2
    rw [e] at hq
    rw [e2] at ht
    exact ht (h3 hq)
  · intro e2
    rw [e2] at ht
    exact ht (h4 e.symm)
theorem RV.ot {F F' : Nat → Nat → Int32} {r r2 : Nat} {R : rc_T} (h : RV F r2 R) (hO : OT F F' r) (hne : r2 ≠ r) (hl : (rc_rw R).length ≤ 4) : RV F' r2 R := by
  obtain ⟨a1, a2, a3, a4, a5, a6, a7⟩ := h
  refine ⟨fun i hi => ?_, ?_, ?_, fun p hp => ?_, ?_, fun j i hj => ?_, ?_⟩
  · obtain ⟨b1, b2, b3, b4⟩ := a1 i hi
    refine ⟨(hO.1 16 (by omega) _ (by omega)).trans b1, (hO.1 17 (by omega) _ (by omega)).trans b2, fun n hn => (hO.2.1 _ (by omega)).trans (b3 n hn), (hO.1 19 (by omega) _ (by omega)).trans b4⟩
  · exact (hO.2.2.1 20 (by omega) _ hne).trans a2
  · exact (hO.2.2.1 21 (by omega) _ hne).trans a3
  · exact (hO.2.2.2 _ (by omega)).trans (a4 p hp)
  · rw [hO.2.2.1 23 (by omega) _ hne]
    exact a5
  · have := (List.getElem?_eq_some_iff.mp hj).1
    exact (hO.1 27 (by omega) _ (by omega)).trans (a6 j i hj)
  · exact (hO.2.2.1 28 (by omega) _ hne).trans a7
theorem rw_len {log : List bo_E} {ends : List Nat} {R : rc_T} (h : rc_J log ends R) : (rc_rw R).length ≤ 4 := row_len 4 _ (h.2.2.2.2.1 0 (by omega)).2.2.2.2.1 (h.2.2.2.2.1 0 (by omega)).2.2.2.2.2
theorem mr_rcv {F F' : Nat → Nat → Int32} {S : sp_T} {r : Nat} {R R' : rc_T} (hr : r < 2) (hI : sp_I S) (h : MR F (sp_setR S r R)) (h1 : ∀ k, k < 10 ∨ (24 ≤ k ∧ k ≤ 26) ∨ k = 29 ∨ k = 30 → F' k = F k) (hO : OT F F' r) (h2 : RV F r R → RV F' r R') : MR F' (sp_setR S r R') := by
  obtain ⟨a1, a2, a3, a4, a5, a6⟩ := h
  refine ⟨fun e ev he => ?_, ?_, ?_, fun j hj => ?_, a5.eq (h1 24 (by omega)) (h1 25 (by omega)) (h1 26 (by omega)), fun j hj => (a6 j hj).eq (h1 29 (by omega)) (h1 30 (by omega))⟩
  · rw [h1 1 (by omega), h1 2 (by omega), h1 3 (by omega), h1 4 (by omega), h1 5 (by omega), h1 6 (by omega), h1 7 (by omega)]
    exact a1 e ev he
  · rw [h1 8 (by omega)]
    exact a2
  · rw [h1 9 (by omega)]
    exact a3
  · have h9 := a4 j hj
    by_cases c : j = r
    · subst c
      have e1 : sp_R (sp_setR S j R) j = R := va_up_self _ _ _
      have e2 : sp_R (sp_setR S j R') j = R' := va_up_self _ _ _
      rw [e1] at h9
      rw [e2]
      exact h2 h9
    · have e1 : sp_R (sp_setR S r R) j = sp_R S j := va_up_ne _ _ c
      have e2 : sp_R (sp_setR S r R') j = sp_R S j := va_up_ne _ _ c
      rw [e1] at h9
      rw [e2]
      exact h9.ot hO c (rw_len (hI.2.2.2.1 j hj).1)
theorem MR.rv {F : Nat → Nat → Int32} {S : sp_T} {r : Nat} {R : rc_T} (h : MR F (sp_setR S r R)) (hr : r < 2) : RV F r R := by
  have h9 := h.2.2.2.1 r hr
  have e1 : sp_R (sp_setR S r R) r = R := va_up_self _ _ _
  rw [e1] at h9
  exact h9
theorem upd_at {f : Nat → Int32} {j t : Nat} {x : Int32} : upd f j x t = if t = j then x else f t := rfl
/-- applied -/
theorem rv_ap {F F' : Nat → Nat → Int32} {r i m : Nat} {R : rc_T} (hi : i < 4) (h : RV F r R) (g1 : F' 16 = upd (F 16) (4 * r + i) (nI m)) (g2 : ∀ q, q ≠ 16 → F' q = F q) : RV F' r (R.1, R.2.1, R.2.2.1, rc_kp R, va_up (rc_ap R) i m, rc_hl R, rc_rw R, rc_nd R) := by
  obtain ⟨a1, a2, a3, a4, a5, a6, a7⟩ := h
  refine ⟨fun j hj => ?_, by rw [g2 20 (by decide)]; exact a2, by rw [g2 21 (by decide)]; exact a3, by rw [g2 22 (by decide)]; exact a4, by rw [g2 23 (by decide)]; exact a5, by rw [g2 27 (by decide)]; exact a6, by rw [g2 28 (by decide)]; exact a7⟩
  obtain ⟨b1, b2, b3, b4⟩ := a1 j hj
  refine ⟨?_, by rw [g2 17 (by decide)]; exact b2, by rw [g2 18 (by decide)]; exact b3, by rw [g2 19 (by decide)]; exact b4⟩
  rw [g1, upd_at]
  show _ = nI (va_up (rc_ap R) i m j)
  by_cases c : j = i
  · rw [if_pos (by omega), c, va_up_self]
  · rw [if_neg (by omega), va_up_ne _ _ c]
    exact b1
/-- needed -/
theorem rv_nd {F F' : Nat → Nat → Int32} {r i m : Nat} {R : rc_T} (hi : i < 4) (h : RV F r R) (g1 : F' 17 = upd (F 17) (4 * r + i) (nI m)) (g2 : ∀ q, q ≠ 17 → F' q = F q) : RV F' r (R.1, R.2.1, R.2.2.1, rc_kp R, rc_ap R, rc_hl R, rc_rw R, va_up (rc_nd R) i m) := by
  obtain ⟨a1, a2, a3, a4, a5, a6, a7⟩ := h
  refine ⟨fun j hj => ?_, by rw [g2 20 (by decide)]; exact a2, by rw [g2 21 (by decide)]; exact a3, by rw [g2 22 (by decide)]; exact a4, by rw [g2 23 (by decide)]; exact a5, by rw [g2 27 (by decide)]; exact a6, by rw [g2 28 (by decide)]; exact a7⟩
  obtain ⟨b1, b2, b3, b4⟩ := a1 j hj
  refine ⟨by rw [g2 16 (by decide)]; exact b1, ?_, by rw [g2 18 (by decide)]; exact b3, by rw [g2 19 (by decide)]; exact b4⟩
  rw [g1, upd_at]
  show _ = nI (va_up (rc_nd R) i m j)
  by_cases c : j = i
  · rw [if_pos (by omega), c, va_up_self]
  · rw [if_neg (by omega), va_up_ne _ _ c]
    exact b2
/-- held -/
theorem rv_hl {F F1 F' : Nat → Nat → Int32} {r i n m : Nat} {b : Bool} {R : rc_T} {l' : List Nat} (hi : i < 4) (hn : n ≤ 400) (h : RV F r R) (g1 : F1 18 = upd (F 18) (401 * (4 * r + i) + n) (fv_b b)) (g2 : ∀ q, q ≠ 18 → F1 q = F q) (g3 : F' 19 = upd (F1 19) (4 * r + i) (nI m)) (g4 : ∀ q, q ≠ 19 → F' q = F1 q) (hm : m = l'.length) (hl : ∀ t, decide (t ∈ l') = if t = n then b else decide (t ∈ rc_hl R i)) : RV F' r (R.1, R.2.1, R.2.2.1, rc_kp R, rc_ap R, va_up (rc_hl R) i l', rc_rw R, rc_nd R) := by
  obtain ⟨a1, a2, a3, a4, a5, a6, a7⟩ := h
  refine ⟨fun j hj => ?_, by rw [g4 20 (by decide), g2 20 (by decide)]; exact a2, by rw [g4 21 (by decide), g2 21 (by decide)]; exact a3, by rw [g4 22 (by decide), g2 22 (by decide)]; exact a4, by rw [g4 23 (by decide), g2 23 (by decide)]; exact a5, by rw [g4 27 (by decide), g2 27 (by decide)]; exact a6, by rw [g4 28 (by decide), g2 28 (by decide)]; exact a7⟩
  obtain ⟨b1, b2, b3, b4⟩ := a1 j hj
  refine ⟨by rw [g4 16 (by decide), g2 16 (by decide)]; exact b1, by rw [g4 17 (by decide), g2 17 (by decide)]; exact b2, fun t ht => ?_, ?_⟩
  · rw [g4 18 (by decide), g1, upd_at]
    show _ = fv_b (decide (t ∈ va_up (rc_hl R) i l' j))
    by_cases c : j = i
    · subst c
      rw [va_up_self, hl]
      by_cases c2 : t = n
      · rw [if_pos (by omega), if_pos c2]
      · rw [if_neg (by omega), if_neg c2]
        exact b3 t ht
    · rw [va_up_ne _ _ c, if_neg (by omega)]
      exact b3 t ht
  · rw [g3, upd_at, g2 19 (by decide)]
    show _ = nI (va_up (rc_hl R) i l' j).length
    by_cases c : j = i
    · subst c
      rw [if_pos rfl, va_up_self, hm]
    · rw [if_neg (by omega), va_up_ne _ _ c]
      exact b4
/-- the row grows -/
theorem rv_rw {F F1 F' : Nat → Nat → Int32} {r i : Nat} {R : rc_T} (h : RV F r R) (g1 : F1 27 = upd (F 27) (4 * r + (rc_rw R).length) (nI i)) (g2 : ∀ q, q ≠ 27 → F1 q = F q) (g3 : F' 28 = upd (F1 28) r (nI ((rc_rw R).length + 1))) (g4 : ∀ q, q ≠ 28 → F' q = F1 q) : RV F' r (R.1, R.2.1, R.2.2.1, rc_kp R, rc_ap R, rc_hl R, rc_rw R ++ [i], rc_nd R) := by
  obtain ⟨a1, a2, a3, a4, a5, a6, a7⟩ := h
  refine ⟨?_, by rw [g4 20 (by decide), g2 20 (by decide)]; exact a2, by rw [g4 21 (by decide), g2 21 (by decide)]; exact a3, by rw [g4 22 (by decide), g2 22 (by decide)]; exact a4, by rw [g4 23 (by decide), g2 23 (by decide)]; exact a5, fun j t hj => ?_, ?_⟩
  · rw [g4 16 (by decide), g2 16 (by decide), g4 17 (by decide), g2 17 (by decide), g4 18 (by decide), g2 18 (by decide), g4 19 (by decide), g2 19 (by decide)]
    exact a1
  · have hj : (rc_rw R ++ [i])[j]? = some t := hj
    rw [g4 27 (by decide), g1, upd_at]
    by_cases c : j < (rc_rw R).length
    · rw [List.getElem?_append_left c] at hj
      rw [if_neg (by omega)]
      exact a6 j t hj
    · rw [List.getElem?_append_right (by omega)] at hj
      have hz : j - (rc_rw R).length < 1 := (List.getElem?_eq_some_iff.mp hj).1
      have hz2 : j = (rc_rw R).length := by omega
      rw [hz2, Nat.sub_self, List.getElem?_cons_zero] at hj
      cases hj
      rw [if_pos (by omega)]
  · rw [g3, upd_at, if_pos rfl]
    show _ = nI (rc_rw R ++ [i]).length
    rw [List.length_append]
    rfl
/-- next, highest, kept, asked -/
theorem rv_nx {F F' : Nat → Nat → Int32} {r m : Nat} {R : rc_T} (h : RV F r R) (g1 : F' 20 = upd (F 20) r (nI m)) (g2 : ∀ q, q ≠ 20 → F' q = F q) (hq : ∃ q, F 23 r = nI q ∧ (q = R.2.2.1 ∨ (q < m ∧ R.2.2.1 < m))) : RV F' r (m, R.2) := by
  obtain ⟨a1, a2, a3, a4, a5, a6, a7⟩ := h
  refine ⟨?_, ?_, by rw [g2 21 (by decide)]; exact a3, by rw [g2 22 (by decide)]; exact a4, by rw [g2 23 (by decide)]; exact hq, by rw [g2 27 (by decide)]; exact a6, by rw [g2 28 (by decide)]; exact a7⟩
  · rw [g2 16 (by decide), g2 17 (by decide), g2 18 (by decide), g2 19 (by decide)]
    exact a1
  · rw [g1, upd_at, if_pos rfl]
theorem rv_hg {F F' : Nat → Nat → Int32} {r m : Nat} {R : rc_T} (h : RV F r R) (g1 : F' 21 = upd (F 21) r (nI m)) (g2 : ∀ q, q ≠ 21 → F' q = F q) : RV F' r (R.1, m, R.2.2) := by
  obtain ⟨a1, a2, a3, a4, a5, a6, a7⟩ := h
  refine ⟨?_, by rw [g2 20 (by decide)]; exact a2, ?_, by rw [g2 22 (by decide)]; exact a4, by rw [g2 23 (by decide)]; exact a5, by rw [g2 27 (by decide)]; exact a6, by rw [g2 28 (by decide)]; exact a7⟩
  · rw [g2 16 (by decide), g2 17 (by decide), g2 18 (by decide), g2 19 (by decide)]
    exact a1
  · rw [g1, upd_at, if_pos rfl]
theorem rv_kp {F F' : Nat → Nat → Int32} {r p : Nat} {b : Bool} {R : rc_T} (h : RV F r R) (hp9 : p ≤ 401) (g1 : F' 22 = upd (F 22) (402 * r + p) (fv_b b)) (g2 : ∀ q, q ≠ 22 → F' q = F q) : RV F' r (R.1, R.2.1, R.2.2.1, va_up (rc_kp R) p b, R.2.2.2.2) := by
  obtain ⟨a1, a2, a3, a4, a5, a6, a7⟩ := h
  refine ⟨?_, by rw [g2 20 (by decide)]; exact a2, by rw [g2 21 (by decide)]; exact a3, fun q hq => ?_, by rw [g2 23 (by decide)]; exact a5, by rw [g2 27 (by decide)]; exact a6, by rw [g2 28 (by decide)]; exact a7⟩
  · rw [g2 16 (by decide), g2 17 (by decide), g2 18 (by decide), g2 19 (by decide)]
    exact a1
  · rw [g1, upd_at]
    show _ = fv_b (va_up (rc_kp R) p b q)
    by_cases c : q = p
    · rw [if_pos (by omega), c, va_up_self]
    · rw [if_neg (by omega), va_up_ne _ _ c]
      exact a4 q hq
theorem rv_ak {F F' : Nat → Nat → Int32} {r m k : Nat} {R : rc_T} (h : RV F r R) (g1 : F' 23 = upd (F 23) r (nI m)) (g2 : ∀ q, q ≠ 23 → F' q = F q) (hq : m = k ∨ (m < R.1 ∧ k < R.1)) : RV F' r (rc_ak R k) := by
  obtain ⟨a1, a2, a3, a4, a5, a6, a7⟩ := h
  refine ⟨?_, by rw [g2 20 (by decide)]; exact a2, by rw [g2 21 (by decide)]; exact a3, by rw [g2 22 (by decide)]; exact a4, ⟨m, by rw [g1, upd_at, if_pos rfl], hq⟩, by rw [g2 27 (by decide)]; exact a6, by rw [g2 28 (by decide)]; exact a7⟩
  rw [g2 16 (by decide), g2 17 (by decide), g2 18 (by decide), g2 19 (by decide)]
  exact a1
