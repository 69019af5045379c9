/-! more of the desk as a value -/
theorem dk_setR2 {dA : Nat → ClassId} {h h' : fv_H} {b0 aE : Nat} {S : sp_T} {r : Nat} {R : rc_T} {o : Option (Nat → Int32)} {fx : Nat → Int32} (hr : r < 2) (haE : b0 + 132 ≤ aE) (q : DK dA h b0 aE S) (hf : fs h h' (fun x => b0 + 64 + 34 * r ≤ x ∧ x < b0 + 64 + 34 * r + 34)) (hV : VC dA h' (b0 + 64 + 34 * r) (b0 + 3) aE S.1 R fx) (hfx : FXO fx o) : DK dA h' b0 aE (S.1, S.2.1, sp_sh S, va_up (sp_R S) r R, va_up (sp_fx S) r o) := by
  obtain ⟨h1, h2, h3, h4, h5, h6⟩ := q
  refine ⟨h1.fs hf ⟨by omega, by omega, by omega⟩, h2.fs hf ⟨by omega, by omega, by omega, by omega, by omega⟩, fun i hi => (h3 i hi).fs hf ⟨by omega, by omega, by omega, by omega⟩, fun k hk => (h4 k hk).fs hf (fun x a1 a2 => by omega), fun j hj => ?_, h6.fs hf (fun x hx => by omega)⟩
  by_cases c : j = r
  · subst c
    refine ⟨fx, ?_, ?_⟩
    · show VC dA h' _ _ aE S.1 (va_up (sp_R S) j R j) fx
      rw [va_up_self]
      exact hV
    · show FXO fx (va_up (sp_fx S) j o j)
      rw [va_up_self]
      exact hfx
  · obtain ⟨fx2, a1, a2⟩ := h5 j hj
    refine ⟨fx2, ?_, ?_⟩
    · show VC dA h' _ _ aE S.1 (va_up (sp_R S) r R j) fx2
      rw [va_up_ne _ _ c]
      exact a1.fs hf (fun x b1 b2 => by omega)
    · show FXO fx2 (va_up (sp_fx S) r o j)
      rw [va_up_ne _ _ c]
      exact a2
theorem va_up_id {α : Type} (f : Nat → α) (k : Nat) : va_up f k (f k) = f := by
  funext j
  unfold va_up
  split
  · rename_i e
    rw [e]
  · rfl
theorem dk_setR3 {dA : Nat → ClassId} {h h' : fv_H} {b0 aE : Nat} {S : sp_T} {r : Nat} {R : rc_T} {fx : Nat → Int32} (hr : r < 2) (haE : b0 + 132 ≤ aE) (q : DK dA h b0 aE S) (hf : fs h h' (fun x => b0 + 64 + 34 * r ≤ x ∧ x < b0 + 64 + 34 * r + 34)) (hV : VC dA h' (b0 + 64 + 34 * r) (b0 + 3) aE S.1 R fx) (hfx : FXO fx (sp_fx S r)) : DK dA h' b0 aE (sp_setR S r R) := by
  have h9 := dk_setR2 hr haE q hf hV hfx
  rw [va_up_id] at h9
  exact h9
/-! calls that change a receiver -/
def sp_lnA (S : sp_T) (w p r : Int32) : Int32 := if (iv w 0 1 && fe_cl p S.2.1.length && iv r 0 1) = true then nI (rc_ha (sp_R S r.toNatClampNeg) p.toNatClampNeg) else -2
def sp_lnS (S : sp_T) (w p r : Int32) : sp_T := if (iv w 0 1 && fe_cl p S.2.1.length && iv r 0 1) = true then sp_setR S r.toNatClampNeg (rc_hear S.1 S.2.1 p.toNatClampNeg (sp_R S r.toNatClampNeg)) else S
def sp_akA (S : sp_T) (r : Int32) : Int32 := if iv r 0 1 = true then nI (rc_gap (sp_R S r.toNatClampNeg) + 1 - (sp_R S r.toNatClampNeg).1) else -2
def sp_akS (S : sp_T) (r : Int32) : sp_T := if iv r 0 1 = true then sp_setR S r.toNatClampNeg (rc_ak (sp_R S r.toNatClampNeg) (rc_gap (sp_R S r.toNatClampNeg))) else S
def sp_svA (S : sp_T) (r : Int32) : Int32 := if iv r 0 1 = true then nI (rc_sa S.2.1 (sp_R S r.toNatClampNeg)) else -2
def sp_svS (S : sp_T) (r : Int32) : sp_T := if iv r 0 1 = true then sp_setR S r.toNatClampNeg (rc_serve S.1 S.2.1 (sp_R S r.toNatClampNeg)) else S
theorem sp_ln_I {S : sp_T} {w p r : Int32} (hI : sp_I S) : sp_I (sp_lnS S w p r) := by
  unfold sp_lnS
  split
  · rename_i hc
    simp only [Bool.and_eq_true] at hc
    have hl := fe_ends_len hI.2.2.1
    obtain ⟨k, -, hk, rfl⟩ := iv_of (by decide) (by decide) hc.2
    obtain ⟨q, hq1, hq2, rfl⟩ := fe_cl_of (by omega) hc.1.2
    rw [nI_clamp (by omega), nI_clamp (show q < 2 ^ 31 by omega)]
    exact sp_I_setR hI (rc_hear_I hI.1 (hI.2.2.2.1 k (by omega)) hq2)
  · exact hI
theorem sp_ak_I {S : sp_T} {r : Int32} (hI : sp_I S) : sp_I (sp_akS S r) := by
  unfold sp_akS
  split
  · rename_i hc
    obtain ⟨k, -, hk, rfl⟩ := iv_of (by decide) (by decide) hc
    rw [nI_clamp (by omega)]
    have h1 := hI.2.2.2.1 k (by omega)
    exact sp_I_setR hI (rc_ak_I h1 (rc_ga_le h1.1 _ _))
  · exact hI
theorem sp_sv_I {S : sp_T} {r : Int32} (hI : sp_I S) : sp_I (sp_svS S r) := by
  unfold sp_svS
  split
  · rename_i hc
    obtain ⟨k, -, hk, rfl⟩ := iv_of (by decide) (by decide) hc
    rw [nI_clamp (by omega)]
    exact sp_I_setR hI (rc_serve_I hI.1 (hI.2.2.2.1 k (by omega)))
  · exact hI
/-! snapshots -/
def sp_snS (S : sp_T) : sp_T := (S.1, S.2.1, sp_sh S ++ [((sp_sh S).length % 4, sp_len S ((sp_sh S).length % 4), S.2.1.length)], S.2.2.2)
theorem sp_sn_I {S : sp_T} (hI : sp_I S) : sp_I (sp_snS S) := by
  obtain ⟨g1, g2, g3, g4, g5⟩ := hI
  refine ⟨g1, g2, g3, g4, fun k q hq => ?_⟩
  have hq : (sp_sh S ++ [_])[k]? = some q := hq
  by_cases c : k < (sp_sh S).length
  · rw [List.getElem?_append_left c] at hq
    exact g5 k q hq
  · rw [List.getElem?_append_right (by omega)] at hq
    have hz : k - (sp_sh S).length < 1 := (List.getElem?_eq_some_iff.mp hq).1
    have hz2 : k = (sp_sh S).length := by omega
    subst hz2
    rw [Nat.sub_self, List.getElem?_cons_zero] at hq
    cases hq
    exact ⟨rfl, Nat.le_refl _, Nat.le_refl _⟩
theorem dk_snap {dA : Nat → ClassId} {h h' : fv_H} {b0 aE : Nat} {S : sp_T} {n0 : Nat} (hn0 : n0 = (sp_sh S).length) (haE : b0 + 132 ≤ aE) (q : DK dA h b0 aE S) (hP : PB dA h' (b0 + 3) aE S.1 S.2.1 (n0 + 1)) (hS : SNr dA h' (b0 + 24 + 5 * ((n0 + 1) % 8)) (n0 % 4) S.2.1.length) (hL : BL dA h' (b0 + 24 + 5 * ((n0 + 1) % 8) + 1) (fe_bk S.1 (n0 % 4) (sp_len S (n0 % 4))) (sp_len S (n0 % 4))) (hf : fs h h' (fun x => x = b0 + 3 ∨ (b0 + 24 + 5 * ((n0 + 1) % 8) ≤ x ∧ x < b0 + 24 + 5 * ((n0 + 1) % 8) + 5))) : DK dA h' b0 aE (sp_snS S) := by
  obtain ⟨h1, h2, h3, h4, h5, h6⟩ := q
  have hl : (sp_sh (sp_snS S)).length = n0 + 1 := by
    show (sp_sh S ++ [_]).length = _
    simp [hn0]
  refine ⟨h1.fs hf ⟨by omega, by omega, by omega⟩, by rw [hl]; exact hP, fun i hi => (h3 i hi).fs hf ⟨by omega, by omega, by omega, by omega⟩, fun k hk => ?_, fun r hr => ?_, h6.fs hf (fun x hx => by omega)⟩
  · have old : ∀ (m : Nat) (q : Nat × Nat × Nat), m ≠ n0 → (sp_sh (sp_snS S))[m]? = some q → m < n0 ∧ (sp_sh S)[m]? = some q := by
      intro m q hm hq
      have hlt := (List.getElem?_eq_some_iff.mp hq).1
      rw [hl] at hlt
      have hq : (sp_sh S ++ [_])[m]? = some q := hq
      rw [List.getElem?_append_left (by omega)] at hq
      exact ⟨by omega, hq⟩
    by_cases c : k = (n0 + 1) % 8
    · subst c
      refine ⟨_, _, _, _, hS, hL, fun m q hq hm hml => ?_⟩
      rw [hl] at hml
      by_cases c2 : m = n0
      · have hq : (sp_sh S ++ [((sp_sh S).length % 4, sp_len S ((sp_sh S).length % 4), S.2.1.length)])[m]? = some q := hq
        rw [c2, hn0, List.getElem?_append_right (Nat.le_refl _), Nat.sub_self, List.getElem?_cons_zero] at hq
        cases hq
        rw [hn0]
        exact ⟨rfl, rfl, rfl, rfl⟩
      · have := (old m q c2 hq).1
        omega
    · obtain ⟨si, cov, b, n, a1, a2, a3⟩ := (h4 k hk).fs hf (fun x a1 a2 => by omega)
      refine ⟨si, cov, b, n, a1, a2, fun m q hq hm hml => ?_⟩
      rw [hl] at hml
      by_cases c2 : m = n0
      · subst c2
        exact absurd hm.symm c
      · obtain ⟨o1, o2⟩ := old m q c2 hq
        exact a3 m q o2 hm (by omega)
  · obtain ⟨fx, a1, a2⟩ := h5 r hr
    exact ⟨fx, a1.fs hf (fun x b1 b2 => by omega), a2⟩
/-! a snapshot is heard -/
def rc_rs (log : List bo_E) (R : rc_T) (i ns cov : Nat) : rc_T := (R.1, R.2.1, R.2.2.1, rc_kp R, va_up (rc_ap R) i (rs_t log i ns (rc_tr R i)).1, va_up (rc_hl R) i (rs_t log i ns (rc_tr R i)).2.1, (rs_t log i ns (rc_tr R i)).2.2, va_up (rc_nd R) i (rs_nd (rc_nd R i) cov))
theorem rs_t_I {log : List bo_E} {i ns : Nat} {t : tr_T} (hi : i < 4) (hns : ns ≤ (fe_li log i).length) (h : tr_I log i t) : tr_I log i (rs_t log i ns t) := by
  unfold rs_t
  split
  · refine tr_fol_I hi _ _ (Nat.le_refl _) (tr_bec_J hi hns ⟨h.1, h.2.1.filter _, fun n hn => ?_, Nat.le_trans (List.length_filter_le _ _) h.2.2.2.1, h.2.2.2.2⟩ (fun n hn => ?_))
    · have h1 := h.2.2.1 n (List.mem_filter.mp hn).1
      exact ⟨by dsimp only; omega, h1.2⟩
    · simpa using (List.mem_filter.mp hn).2
  · exact h
theorem rs_nd_le (nd cov : Nat) : rs_nd nd cov ≤ nd := by
  unfold rs_nd
  split <;> omega
theorem rc_rs_I {log : List bo_E} {ends : List Nat} {R : rc_T} {i ns cov : Nat} (hi : i < 4) (hns : ns ≤ (fe_li log i).length) (h : rc_I log ends R) : rc_I log ends (rc_rs log R i ns cov) := by
  obtain ⟨⟨h1, h2, h3, h4, h5, h6⟩, h7, h8⟩ := h
  refine ⟨⟨h1, h2, h3, h4, ?_, fun j hj => ?_⟩, h7, h8⟩
  · exact rc_set_W (R := R) h5 (rs_t_I hi hns (h5 i hi))
  · show va_up (rc_nd R) i (rs_nd (rc_nd R i) cov) j < R.1
    by_cases c : j = i
    · subst c
      rw [va_up_self]
      exact Nat.lt_of_le_of_lt (rs_nd_le _ _) (h6 j hj)
    · rw [va_up_ne _ _ c]
      exact h6 j hj
theorem vc_rs {dA : Nat → ClassId} {h h' : fv_H} {ar pub aE : Nat} {log : List bo_E} {R : rc_T} {fx : Nat → Int32} {i ns cov : Nat} (hi : i < 4) (q : VC dA h ar pub aE log R fx) (hp : TRP dA h (ar + 6 + 7 * i) i ar aE log (rs_nd (rc_nd R i) cov) fx (rs_t log i ns (rc_tr R i)) h') : VC dA h' ar pub aE log (rc_rs log R i ns cov) fx := by
  obtain ⟨kp, h1, h2, h3, h4⟩ := q
  obtain ⟨hs, sv, q1, q2, q3, q4, q5, q6⟩ := hp
  refine ⟨kp, h1.fs q6 ⟨?_, ?_, ?_⟩, h2, fun j hj => ?_, q4⟩
  · unfold SX; omega
  · unfold SX; omega
  · unfold SX; omega
  · show TS dA h' ar aE log j (va_up (rc_ap R) i _ j) (va_up (rc_hl R) i _ j) (va_up (rc_nd R) i _ j)
    by_cases hji : j = i
    · subst hji
      rw [va_up_self, va_up_self, va_up_self]
      exact ⟨hs, sv, q1, q2, q3, q5⟩
    · rw [va_up_ne _ _ hji, va_up_ne _ _ hji, va_up_ne _ _ hji]
      exact (h3 j hj).fs q6 (fun x h5 h6 => by unfold SX; omega)
def sp_q (S : sp_T) (x : Int32) : Nat × Nat × Nat := (sp_sh S).getD (x.toNatClampNeg - 1) (0, 0, 0)
def sp_hp (S : sp_T) (x y : Int32) : Bool := sn_has y (fe_bk S.1 (sp_q S x).1 (sp_q S x).2.1).1.length
def sp_hsA (S : sp_T) (x r y : Int32) : Int32 := if (fe_hr x (sp_sh S).length && iv r 0 1) = true then (if sp_hp S x y = true then nI 0 else nI (rs_a (rc_nd (sp_R S r.toNatClampNeg) (sp_q S x).1) (sp_q S x).2.2 (rc_ap (sp_R S r.toNatClampNeg) (sp_q S x).1) (sp_q S x).2.1)) else -2
def sp_hsS (S : sp_T) (x r y : Int32) : sp_T := if (fe_hr x (sp_sh S).length && iv r 0 1) = true then (if sp_hp S x y = true then S else sp_setR S r.toNatClampNeg (rc_rs S.1 (sp_R S r.toNatClampNeg) (sp_q S x).1 (sp_q S x).2.1 (sp_q S x).2.2)) else S
theorem fe_hr_of {x : Int32} {n : Nat} (hn : n < 1000) (h : fe_hr x n = true) : ∃ k, 1 ≤ k ∧ k ≤ n ∧ n < k + 8 ∧ x = nI k := by
  obtain ⟨h1, h2, h3⟩ := of_decide_eq_true h
  obtain ⟨k, hk1, hk2, rfl⟩ := fe_cl_of (n := n) (by omega) (decide_eq_true ⟨h1, h2⟩)
  refine ⟨k, hk1, hk2, ?_, rfl⟩
  rw [Int32.lt_iff_toInt_lt, pk_sub_toInt (by omega) (by omega), nI_toInt (by omega)] at h3
  omega
theorem sp_q_at {S : sp_T} {k : Nat} (hk1 : 1 ≤ k) (hk2 : k ≤ (sp_sh S).length) (hn : (sp_sh S).length < 1000) : (sp_sh S)[k - 1]? = some (sp_q S (nI k)) := by
  unfold sp_q
  rw [nI_clamp (by omega), List.getD_eq_getElem?_getD]
  have h9 := List.getElem?_eq_getElem (l := sp_sh S) (show k - 1 < (sp_sh S).length by omega)
  rw [h9]
  rfl
theorem sp_hs_I {S : sp_T} {x r y : Int32} (hI : sp_I S) (hn : (sp_sh S).length < 1000) : sp_I (sp_hsS S x r y) := by
  unfold sp_hsS
  split
  · rename_i hc
    simp only [Bool.and_eq_true] at hc
    split
    · exact hI
    · obtain ⟨k, hk1, hk2, hk3, rfl⟩ := fe_hr_of hn hc.1
      obtain ⟨j, -, hj, rfl⟩ := iv_of (by decide) (by decide) hc.2
      obtain ⟨a1, a2, a3⟩ := hI.2.2.2.2 _ _ (sp_q_at hk1 hk2 hn)
      rw [nI_clamp (show j < 2 ^ 31 by omega)]
      exact sp_I_setR hI (rc_rs_I (by omega) a2 (hI.2.2.2.1 j (by omega)))
  · exact hI
/-! what is read off -/
def sp_atA (S : sp_T) (r i : Int32) : Int32 := if hb2 r i = true then nI (sp_n S r i) else -2
def sp_sdA (S : sp_T) (r i : Int32) : Int32 := if (iv r 0 1 && iv i 0 3) = true then fv_b (rc_snd (sp_R S r.toNatClampNeg) i.toNatClampNeg) else -2
def sp_rvA (S : sp_T) (r w : Int32) : Int32 := if iv r 0 1 = true then (if w = nI 0 then nI (sp_R S r.toNatClampNeg).1 else if w = nI 1 then nI (sp_R S r.toNatClampNeg).2.1 else if w = nI 2 then nI (rc_ck (sp_R S r.toNatClampNeg)) else if w = nI 3 then nI (rc_ch (sp_R S r.toNatClampNeg)) else -2) else -2
def sp_bsA (S : sp_T) (r i s lv wh : Int32) : Int32 := if (hb2 r i && iv s 0 1 && decide (¬ lv < 0) && iv wh 0 2) = true then bo_lv (bo_srt s.toNatClampNeg (sp_b S r i).1) lv.toNatClampNeg wh.toNatClampNeg else -4000000
def sp_orA (S : sp_T) (r i s k : Int32) : Int32 := if (hb2 r i && iv s 0 1 && iv k 0 23) = true then (match (bo_srt s.toNatClampNeg (sp_b S r i).1)[k.toNatClampNeg]? with | some o => o.1 | none => -1) else -2
def sp_haA (S : sp_T) (r i : Int32) : Int32 := if hb2 r i = true then fv_b (sp_b S r i).2 else -2
def sp_diA (S : sp_T) (r : Int32) : Int32 := if iv r 0 1 = true then nI (rc_rw (sp_R S r.toNatClampNeg)).length else -2
def rc_rr (R : rc_T) (row : List Nat) : rc_T := (R.1, R.2.1, R.2.2.1, rc_kp R, rc_ap R, rc_hl R, row, rc_nd R)
def sp_rdA (S : sp_T) (r : Int32) : Int32 := if iv r 0 1 = true then (match rc_rw (sp_R S r.toNatClampNeg) with | [] => -1 | i :: _ => nI i) else -2
def sp_rdS (S : sp_T) (r : Int32) : sp_T := if iv r 0 1 = true then (match rc_rw (sp_R S r.toNatClampNeg) with | [] => S | i :: t => (S.1, S.2.1, sp_sh S, va_up (sp_R S) r.toNatClampNeg (rc_rr (sp_R S r.toNatClampNeg) t), va_up (sp_fx S) r.toNatClampNeg (some (fe_vw (fe_bk S.1 i (rc_ap (sp_R S r.toNatClampNeg) i)))))) else S
def sp_vh (s lv wh : Int32) : Bool := decide (s = nI 2 ∧ lv = 0 ∧ wh = 0)
def sp_vl (s lv wh : Int32) : Bool := iv s 0 1 && iv lv 0 2 && iv wh 0 2
def sp_vwA (S : sp_T) (r s lv wh : Int32) : Int32 := if (iv r 0 1 && (sp_vh s lv wh || sp_vl s lv wh)) = true then (match sp_fx S r.toNatClampNeg with | none => -2000000 | some g => g (s.toNatClampNeg * 9 + lv.toNatClampNeg * 3 + wh.toNatClampNeg)) else -4000000
theorem rc_rr_I {log : List bo_E} {ends : List Nat} {R : rc_T} {i : Nat} {t : List Nat} (h : rc_I log ends R) (hr : rc_rw R = i :: t) : rc_I log ends (rc_rr R t) := by
  obtain ⟨⟨h1, h2, h3, h4, h5, h6⟩, h7, h8⟩ := h
  refine ⟨⟨h1, h2, h3, h4, fun j hj => ?_, h6⟩, h7, h8⟩
  obtain ⟨a1, a2, a3, a4, a5, a6⟩ := h5 j hj
  have a5 : (rc_rw R).Nodup := a5
  have a6 : ∀ x ∈ rc_rw R, x < 4 := a6
  rw [hr] at a5 a6
  exact ⟨a1, a2, a3, a4, (List.nodup_cons.mp a5).2, fun x hx => a6 x (List.mem_cons_of_mem _ hx)⟩
theorem sp_rd_I {S : sp_T} {r : Int32} (hI : sp_I S) : sp_I (sp_rdS S r) := by
  unfold sp_rdS
  split
  · rename_i hc
    obtain ⟨k, -, hk, rfl⟩ := iv_of (by decide) (by decide) hc
    rw [nI_clamp (by omega)]
    split
    · exact hI
    · rename_i i t hr
      have h9 := sp_I_setR (r := k) hI (rc_rr_I (hI.2.2.2.1 k (by omega)) hr)
      exact h9
  · exact hI
theorem hb2_of {r i : Int32} (h : hb2 r i = true) : ∃ j, j < 4 ∧ i = nI j ∧ (r = -1 ∨ ∃ k, k < 2 ∧ r = nI k) := by
  unfold hb2 at h
  simp only [Bool.and_eq_true, Bool.or_eq_true, decide_eq_true_eq] at h
  obtain ⟨j, -, hj, rfl⟩ := iv_of (by decide) (by decide) h.2
  refine ⟨j, by omega, rfl, ?_⟩
  rcases h.1 with h1 | h1
  · exact Or.inl h1
  · obtain ⟨k, -, hk, rfl⟩ := iv_of (by decide) (by decide) h1
    exact Or.inr ⟨k, by omega, rfl⟩
def bk_ad (b0 : Nat) (r i : Int32) : Nat := if r = -1 then b0 + 8 + 4 * i.toNatClampNeg else b0 + 64 + 34 * r.toNatClampNeg + 6 + 7 * i.toNatClampNeg + 1
theorem dk_book {dA : Nat → ClassId} {h : fv_H} {b0 aE : Nat} {S : sp_T} {r i : Int32} (q : DK dA h b0 aE S) (hb : hb2 r i = true) : BL dA h (bk_ad b0 r i) (sp_b S r i) (sp_n S r i) := by
  obtain ⟨j, hj, rfl, hr⟩ := hb2_of hb
  have e1 : (nI j).toNatClampNeg = j := nI_clamp (by omega)
  rcases hr with rfl | ⟨k, hk, rfl⟩
  · have e2 : bk_ad b0 (-1) (nI j) = b0 + 8 + 4 * j := by unfold bk_ad; rw [if_pos rfl, e1]
    have e3 : sp_n S (-1) (nI j) = sp_len S j := by unfold sp_n; rw [if_pos rfl, e1]
    unfold sp_b
    rw [e2, e3, e1]
    exact q.2.2.1 j hj
  · have hn : ¬ nI k = -1 := nI_nm1 (by omega)
    have e0 : (nI k).toNatClampNeg = k := nI_clamp (by omega)
    have e2 : bk_ad b0 (nI k) (nI j) = b0 + 64 + 34 * k + 6 + 7 * j + 1 := by unfold bk_ad; rw [if_neg hn, e0, e1]
    have e3 : sp_n S (nI k) (nI j) = rc_ap (sp_R S k) j := by unfold sp_n; rw [if_neg hn, e0, e1]
    unfold sp_b
    rw [e2, e3, e1]
    obtain ⟨fx, hV, -⟩ := q.2.2.2.2.1 k hk
    obtain ⟨kp, -, -, hTS, -⟩ := hV
    obtain ⟨hs, sv, -, -, hB, -⟩ := hTS j hj
    exact hB
