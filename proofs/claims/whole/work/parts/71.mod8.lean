/-! FeedDeskModel: more of its calls -/
theorem sp_setR_id (S : sp_T) (r : Nat) : sp_setR S r (sp_R S r) = S := by
  unfold sp_setR
  rw [va_up_id]
theorem RM.at {dA : Nat → ClassId} {h : fv_H} {m0 : Nat} {S : sp_T} (q : RM dA h m0 S) (r : Nat) : RM dA h m0 (sp_setR S r (sp_R S r)) := by
  rw [sp_setR_id]
  exact q
theorem ib_eq (r : Int32) : decide (-1 ≤ r ∧ r ≤ nI 1) = (decide (r = -1) || iv r 0 1) := by
  rw [Bool.eq_iff_iff]
  simp only [iv, Bool.or_eq_true, decide_eq_true_eq, Int32.le_iff_toInt_le, ← Int32.toInt_inj]
  rw [nI_toInt (by decide), nI_toInt (by decide), show (-1 : Int32).toInt = -1 by decide +kernel]
  omega
theorem ga_none {R : rc_T} : ∀ (k p : Nat), (∀ t, p ≤ t → rc_kp R t = false) → rc_ga R k p = R.2.1
  | 0, p, _ => rfl
  | k + 1, p, h => by
    unfold rc_ga
    rw [if_neg (by rw [h p (Nat.le_refl _)]; decide)]
    exact ga_none k (p + 1) (fun t ht => h t (by omega))
theorem ga_at {R : rc_T} {q : Nat} (hq : rc_kp R q = true) : ∀ (k p : Nat), p ≤ q → q < p + k → (∀ t, p ≤ t → t < q → rc_kp R t = false) → rc_ga R k p = q - 1
  | 0, p, h1, h2, _ => by omega
  | k + 1, p, h1, h2, h => by
    unfold rc_ga
    by_cases c : p = q
    · rw [c, if_pos hq]
    · rw [if_neg (by rw [h p (Nat.le_refl _) (by omega)]; decide)]
      exact ga_at hq k (p + 1) (by omega) (by omega) (fun t a b => h t (by omega) b)
def ksum (kp : Nat → Bool) : Nat → Nat
  | 0 => 0
  | j + 1 => ksum kp j + rc_b (kp (j + 1))
theorem ksum_const {kp : Nat → Bool} {a : Nat} : ∀ (d : Nat), (∀ t, a < t → t ≤ a + d → kp t = false) → ksum kp (a + d) = ksum kp a
  | 0, _ => rfl
  | d + 1, h => by
    have h1 := ksum_const d (fun t x y => h t x (by omega))
    show ksum kp (a + d) + rc_b (kp (a + d + 1)) = _
    rw [h1, h (a + d + 1) (by omega) (by omega)]
    rfl
theorem ksum_ck {log : List bo_E} {ends : List Nat} {R : rc_T} (h : rc_J log ends R) : ksum (rc_kp R) ends.length = rc_ck R := by
  have h1 := h.1
  have hf : ∀ t, ¬ (R.1 ≤ t ∧ t ≤ R.1 + 6 ∧ t ≤ R.2.1) → rc_kp R t = false := fun t ht => by
    cases c : rc_kp R t with
    | false => rfl
    | true => exact absurd (h.2.2.2.1 t c) ht
  have hg := h.2.2.1
  have e0 : ksum (rc_kp R) (R.1 - 1) = 0 := by
    have := ksum_const (kp := rc_kp R) (a := 0) (R.1 - 1) (fun t x y => hf t (by omega))
    rw [Nat.zero_add] at this
    exact this
  have e1 : ksum (rc_kp R) (R.1 + 7) = rc_ck R := by
    have e2 : R.1 + 7 = (R.1 - 1) + 8 := by omega
    rw [e2]
    show ksum (rc_kp R) (R.1 - 1) + rc_b (rc_kp R (R.1 - 1 + 1)) + rc_b (rc_kp R (R.1 - 1 + 2)) + rc_b (rc_kp R (R.1 - 1 + 3)) + rc_b (rc_kp R (R.1 - 1 + 4)) + rc_b (rc_kp R (R.1 - 1 + 5)) + rc_b (rc_kp R (R.1 - 1 + 6)) + rc_b (rc_kp R (R.1 - 1 + 7)) + rc_b (rc_kp R (R.1 - 1 + 8)) = _
    rw [e0, Nat.zero_add, show R.1 - 1 + 1 = R.1 by omega, show R.1 - 1 + 2 = R.1 + 1 by omega, show R.1 - 1 + 3 = R.1 + 2 by omega, show R.1 - 1 + 4 = R.1 + 3 by omega, show R.1 - 1 + 5 = R.1 + 4 by omega, show R.1 - 1 + 6 = R.1 + 5 by omega, show R.1 - 1 + 7 = R.1 + 6 by omega, show R.1 - 1 + 8 = R.1 + 7 by omega]
    rfl
  rw [← e1]
  by_cases c : ends.length ≤ R.1 + 7
  · have := ksum_const (kp := rc_kp R) (a := ends.length) (R.1 + 7 - ends.length) (fun t x y => hf t (by omega))
    rw [show ends.length + (R.1 + 7 - ends.length) = R.1 + 7 by omega] at this
    exact this.symm
  · have := ksum_const (kp := rc_kp R) (a := R.1 + 7) (ends.length - (R.1 + 7)) (fun t x y => hf t (by omega))
    rw [show R.1 + 7 + (ends.length - (R.1 + 7)) = ends.length by omega] at this
    exact this
def hsum (hl : Nat → List Nat) : Nat → Nat
  | 0 => 0
  | j + 1 => hsum hl j + (hl j).length
theorem hsum_4 (R : rc_T) : hsum (rc_hl R) 4 = rc_ch R := by
  show 0 + _ + _ + _ + _ = _
  rw [Nat.zero_add]
  rfl
theorem ksum_le (kp : Nat → Bool) : ∀ n, ksum kp n ≤ n
  | 0 => Nat.le_refl _
  | n + 1 => Nat.add_le_add (ksum_le kp n) (rc_b_le _)
section MD8
variable {l : Launch} {D : va_G} {dA : Nat → ClassId} {Bs sz : Nat} {h : fv_H} {m0 : Nat} {S : sp_T}
theorem ct_M_line {w p r : Int32} (hBs : Bs ≤ m0) (hM0 : RM dA h m0 S) (hI : sp_I S) : fv_T l (fk D dA) Bs WA m_M_line [.ref m0, .int w, .int p, .int r] sz h 0 0 (fp_i sz (fun r0 h' => r0 = sp_lnA S w p r ∧ RM dA h' m0 (sp_lnS S w p r) ∧ fs h h' (MS m0))) := by
  obtain ⟨F, bl, bh, hM, hR⟩ := id hM0
  have hF : fs h h (MS m0) := fs_rf _ _
  have hl4 := hI.2.1.1
  have hel := fe_ends_len hI.2.2.1
  refine fv_of (L := [_, _, _, _]) (by decide +kernel) rfl (Nat.le_of_ble_eq_true rfl) rfl ?_
  intro X hX C
  subst hX
  refine fv_iload_n C d_M_line_0 (n := 1) rfl (i := 1) rfl rfl ?_
  refine fv_iconst C d_M_line_1 (n := 2) rfl kI_0 ?_
  refine fv_iconst C d_M_line_2 (n := 3) rfl kI_1 ?_
  refine fv_callS_r C (ml_M_101 D dA) sm_M_within ct_M_within d_M_line_3 (n := 6) rfl rfl rfl rfl (Nat.le_of_ble_eq_true rfl) (Nat.le_of_ble_eq_true rfl) (Nat.le_of_ble_eq_true rfl) (Nat.le_refl _) (Nat.le_refl _) ?_
  refine fv_ifB_eq C d_M_line_6 (tgt := 37) rfl (n := 9) rfl (fun hc6 => ?_) (fun hc6 => ?_)
  · have hw : iv w 0 1 = false := hc6
    have hbad : ¬ (iv w 0 1 && fe_cl p S.2.1.length && iv r 0 1) = true := by simp [hw]
    refine fv_bipush C d_M_line_37 (n := 39) rfl kB_m2 ?_
    refine fv_iret C rfl d_M_line_39 (Nat.le_refl _) (Nat.le_refl _) ?_
    first | exact ⟨_, rfl, rfl, by unfold sp_lnA; rw [if_neg hbad], by unfold sp_lnS; rw [if_neg hbad]; exact hM0, fs_rf _ _⟩ | exact ⟨_, rfl, rfl, by unfold sp_lnA; rw [if_pos hgood, hcl, hclq], by unfold sp_lnS; rw [if_pos hgood, hcl, hclq]; exact q1, q2⟩
  · have hw : iv w 0 1 = true := hc6
    refine fv_iload_n C d_M_line_9 (n := 10) rfl (i := 2) rfl rfl ?_
    refine fv_iconst C d_M_line_10 (n := 11) rfl kI_1 ?_
    refine fv_aload_n C d_M_line_11 (n := 12) rfl (i := 0) rfl rfl ?_
    refine fv_get C (fl_M_148 D dA) d_M_line_12 (n := 15) rfl hM.1 rfl ?_
    refine fv_callS_r C (ml_M_101 D dA) sm_M_within ct_M_within d_M_line_15 (n := 18) rfl rfl rfl rfl (Nat.le_of_ble_eq_true rfl) (Nat.le_of_ble_eq_true rfl) (Nat.le_of_ble_eq_true rfl) (Nat.le_refl _) (Nat.le_refl _) ?_
    refine fv_ifB_eq C d_M_line_18 (tgt := 37) rfl (n := 21) rfl (fun hc18 => ?_) (fun hc18 => ?_)
    · have hp9 : fe_cl p S.2.1.length = false := hc18
      have hbad : ¬ (iv w 0 1 && fe_cl p S.2.1.length && iv r 0 1) = true := by simp [hp9]
      refine fv_bipush C d_M_line_37 (n := 39) rfl kB_m2 ?_
      refine fv_iret C rfl d_M_line_39 (Nat.le_refl _) (Nat.le_refl _) ?_
      first | exact ⟨_, rfl, rfl, by unfold sp_lnA; rw [if_neg hbad], by unfold sp_lnS; rw [if_neg hbad]; exact hM0, fs_rf _ _⟩ | exact ⟨_, rfl, rfl, by unfold sp_lnA; rw [if_pos hgood, hcl, hclq], by unfold sp_lnS; rw [if_pos hgood, hcl, hclq]; exact q1, q2⟩
    · have hp9 : fe_cl p S.2.1.length = true := hc18
      refine fv_iload_n C d_M_line_21 (n := 22) rfl (i := 3) rfl rfl ?_
      refine fv_callS_r C (ml_M_192 D dA) sm_M_isReceiver ct_M_isReceiver d_M_line_22 (n := 25) rfl rfl rfl rfl (Nat.le_of_ble_eq_true rfl) (Nat.le_of_ble_eq_true rfl) (Nat.le_of_ble_eq_true rfl) (Nat.le_refl _) (Nat.le_refl _) ?_
      refine fv_ifB_eq C d_M_line_25 (tgt := 37) rfl (n := 28) rfl (fun hc25 => ?_) (fun hc25 => ?_)
      · have hbad : ¬ (iv w 0 1 && fe_cl p S.2.1.length && iv r 0 1) = true := by simp [hc25]
        refine fv_bipush C d_M_line_37 (n := 39) rfl kB_m2 ?_
        refine fv_iret C rfl d_M_line_39 (Nat.le_refl _) (Nat.le_refl _) ?_
        first | exact ⟨_, rfl, rfl, by unfold sp_lnA; rw [if_neg hbad], by unfold sp_lnS; rw [if_neg hbad]; exact hM0, fs_rf _ _⟩ | exact ⟨_, rfl, rfl, by unfold sp_lnA; rw [if_pos hgood, hcl, hclq], by unfold sp_lnS; rw [if_pos hgood, hcl, hclq]; exact q1, q2⟩
      · have hgood : (iv w 0 1 && fe_cl p S.2.1.length && iv r 0 1) = true := by simp [hw, hp9, hc25]
        obtain ⟨k, -, hk, rfl⟩ := iv_of (by decide) (by decide) hc25
        have hcl : (nI k).toNatClampNeg = k := nI_clamp (by omega)
        have hRI := hI.2.2.2.1 k (by omega)
        have hRV : RV F k (sp_R S k) := hR.2.2.2.1 k (by omega)
        have hj1 := hRI.1.2.1
        have hj2 := hRI.1.2.2.1
        have hj0 := hRI.1.1
        obtain ⟨q, hq1, hq2, rfl⟩ := fe_cl_of (by omega) hp9
        have hclq : (nI q).toNatClampNeg = q := nI_clamp (by omega)
        refine fv_aload_n C d_M_line_28 (n := 29) rfl (i := 0) rfl rfl ?_
        refine fv_iload_n C d_M_line_29 (n := 30) rfl (i := 3) rfl rfl ?_
        refine fv_iload_n C d_M_line_30 (n := 31) rfl (i := 2) rfl rfl ?_
        refine fv_callV_i C (ml_M_195 D dA) im_M_hear se_M_hear hM.1 rfl (ct_M_hear hBs (by omega) (hM0.at k) hI hRI.1 hq1 hq2) d_M_line_31 (n := 34) rfl rfl rfl rfl (Nat.le_of_ble_eq_true rfl) (Nat.le_of_ble_eq_true rfl) (Nat.le_of_ble_eq_true rfl) (Nat.le_refl _) (Nat.le_refl _) (fun r0 h1 hp => ?_)
        obtain ⟨rfl, q1, q2⟩ := hp
        refine fv_goto C d_M_line_34 (tgt := 39) rfl ?_
        refine fv_iret C rfl d_M_line_39 (Nat.le_refl _) (Nat.le_refl _) ?_
        first | exact ⟨_, rfl, rfl, by unfold sp_lnA; rw [if_neg hbad], by unfold sp_lnS; rw [if_neg hbad]; exact hM0, fs_rf _ _⟩ | exact ⟨_, rfl, rfl, by unfold sp_lnA; rw [if_pos hgood, hcl, hclq], by unfold sp_lnS; rw [if_pos hgood, hcl, hclq]; exact q1, q2⟩
theorem ct_M_gapEnd {k : Nat} (hk : k < 2) (hM0 : RM dA h m0 S) (hI : sp_I S) : fv_T l (fk D dA) Bs WA m_M_gapEnd [.ref m0, .int (nI k)] sz h 0 0 (fp_r (.int (nI (rc_gap (sp_R S k)))) sz h) := by
  obtain ⟨F, bl, bh, hM, hR⟩ := id hM0
  have hF : fs h h (MS m0) := fs_rf _ _
  have hl4 := hI.2.1.1
  have hel := fe_ends_len hI.2.2.1
  have hRI := hI.2.2.2.1 k hk
  have hRV : RV F k (sp_R S k) := hR.2.2.2.1 k hk
  generalize sp_R S k = R at *
  obtain ⟨⟨hj0, hj1, hj2, hj3, -, -⟩, hj4, -⟩ := hRI
  refine fv_of (L := [_, _, _]) (by decide +kernel) rfl (Nat.le_of_ble_eq_true rfl) rfl ?_
  intro X hX C
  subst hX
  have loop : ∀ m p, p + m = R.1 + R.2.1 + 1 → R.1 ≤ p → p ≤ 401 → (∀ t, R.1 ≤ t → t < p → rc_kp R t = false) → fv_V (fk D dA) Bs X 3 (fv_MQ (fk D dA) Bs X (fp_r (.int (nI (rc_gap R))) sz h) 0 0) 7 [some (.ref m0), some (.int (nI k)), some (.int (nI p))] [] sz h 0 0 := by
    intro m
    induction m with
    | zero =>
      intro p hm hp hp4 hno
      have hgap : rc_gap R = R.2.1 := ga_none 6 (R.1 + 1) (fun t ht => by
        cases c : rc_kp R t with
        | false => rfl
        | true => have h9 := hj3 t c; rw [hno t h9.1 (by omega)] at c; exact absurd c (by decide))
      refine fv_iload_n C d_M_gapEnd_7 (n := 8) rfl (i := 2) rfl rfl ?_
      refine fv_aload_n C d_M_gapEnd_8 (n := 9) rfl (i := 0) rfl rfl ?_
      refine fv_get C (fl_M_71 D dA) d_M_gapEnd_9 (n := 12) rfl hM.1 rfl ?_
      refine fv_iload_n C d_M_gapEnd_12 (n := 13) rfl (i := 1) rfl rfl ?_
      refine fv_ialdN C (t0 := 0) rfl d_M_gapEnd_13 (n := 14) rfl (mc_21 hM) (by omega) (by decide) ?_
      rw [hRV.2.2.1]
      refine fv_icmpN_gt C (by omega) (by omega) d_M_gapEnd_14 (tgt := 42) rfl (n := 17) rfl (fun hc14 => ?_) (fun hc14 => ?_)
      · refine fv_aload_n C d_M_gapEnd_42 (n := 43) rfl (i := 0) rfl rfl ?_
        refine fv_get C (fl_M_71 D dA) d_M_gapEnd_43 (n := 46) rfl hM.1 rfl ?_
        refine fv_iload_n C d_M_gapEnd_46 (n := 47) rfl (i := 1) rfl rfl ?_
        refine fv_ialdN C (t0 := 0) rfl d_M_gapEnd_47 (n := 48) rfl (mc_21 hM) (by omega) (by decide) ?_
        rw [hRV.2.2.1]
        refine fv_iret C rfl d_M_gapEnd_48 (Nat.le_refl _) (Nat.le_refl _) ?_
        exact ⟨by rw [hgap], rfl, rfl⟩
      · exact absurd hc14 (by omega)
    | succ m ih =>
      intro p hm hp hp4 hno
      have h22 := hRV.2.2.2.1 p (by omega)
      refine fv_iload_n C d_M_gapEnd_7 (n := 8) rfl (i := 2) rfl rfl ?_
      refine fv_aload_n C d_M_gapEnd_8 (n := 9) rfl (i := 0) rfl rfl ?_
      refine fv_get C (fl_M_71 D dA) d_M_gapEnd_9 (n := 12) rfl hM.1 rfl ?_
      refine fv_iload_n C d_M_gapEnd_12 (n := 13) rfl (i := 1) rfl rfl ?_
      refine fv_ialdN C (t0 := 0) rfl d_M_gapEnd_13 (n := 14) rfl (mc_21 hM) (by omega) (by decide) ?_
      rw [hRV.2.2.1]
      refine fv_icmpN_gt C (by omega) (by omega) d_M_gapEnd_14 (tgt := 42) rfl (n := 17) rfl (fun hc14 => ?_) (fun hc14 => ?_)
      · have hgap : rc_gap R = R.2.1 := ga_none 6 (R.1 + 1) (fun t ht => by
          cases c : rc_kp R t with
          | false => rfl
          | true => have h9 := hj3 t c; rw [hno t h9.1 (by omega)] at c; exact absurd c (by decide))
        refine fv_aload_n C d_M_gapEnd_42 (n := 43) rfl (i := 0) rfl rfl ?_
        refine fv_get C (fl_M_71 D dA) d_M_gapEnd_43 (n := 46) rfl hM.1 rfl ?_
        refine fv_iload_n C d_M_gapEnd_46 (n := 47) rfl (i := 1) rfl rfl ?_
        refine fv_ialdN C (t0 := 0) rfl d_M_gapEnd_47 (n := 48) rfl (mc_21 hM) (by omega) (by decide) ?_
        rw [hRV.2.2.1]
        refine fv_iret C rfl d_M_gapEnd_48 (Nat.le_refl _) (Nat.le_refl _) ?_
        exact ⟨by rw [hgap], rfl, rfl⟩
      · refine fv_aload_n C d_M_gapEnd_17 (n := 18) rfl (i := 0) rfl rfl ?_
        refine fv_get C (fl_M_74 D dA) d_M_gapEnd_18 (n := 21) rfl hM.1 rfl ?_
        refine fv_sipush C d_M_gapEnd_21 (n := 24) rfl kS_402 ?_
        refine fv_iload_n C d_M_gapEnd_24 (n := 25) rfl (i := 1) rfl rfl ?_
        first | refine fv_imulN C d_M_gapEnd_25 (n := 26) rfl ?_ | refine fv_imul C d_M_gapEnd_25 (n := 26) rfl ?_
        refine fv_iload_n C d_M_gapEnd_26 (n := 27) rfl (i := 2) rfl rfl ?_
        first | refine fv_iaddN C d_M_gapEnd_27 (n := 28) rfl ?_ | refine fv_iadd C d_M_gapEnd_27 (n := 28) rfl ?_
        refine fv_zaldJ C d_M_gapEnd_28 (n := 29) rfl (mc_22 hM) (by omega) (by decide) ?_
        rw [h22]
        refine fv_ifB_eq C d_M_gapEnd_29 (tgt := 36) rfl (n := 32) rfl (fun hc29 => ?_) (fun hc29 => ?_)
        · refine fv_iincN C d_M_gapEnd_36 (n := 39) rfl rfl (by decide) (L' := [_, _, _]) rfl ?_
          refine fv_goto C d_M_gapEnd_39 (tgt := 7) rfl ?_
          refine ih (p + 1) (by omega) (by omega) (by omega) (fun t a b => ?_)
          by_cases c : t = p
          · rw [c]; exact hc29
          · exact hno t a (by omega)
        · have h9 := hj3 p hc29
          have hne : p ≠ R.1 := fun e => by rw [e, hj4] at hc29; exact absurd hc29 (by decide)
          have hgap : rc_gap R = p - 1 := ga_at hc29 6 (R.1 + 1) (by omega) (by omega) (fun t a b => hno t (by omega) b)
          refine fv_iload_n C d_M_gapEnd_32 (n := 33) rfl (i := 2) rfl rfl ?_
          refine fv_iconst C d_M_gapEnd_33 (n := 34) rfl kI_1 ?_
          refine fv_isubN C (by omega) d_M_gapEnd_34 (n := 35) rfl ?_
          refine fv_iret C rfl d_M_gapEnd_35 (Nat.le_refl _) (Nat.le_refl _) ?_
          exact ⟨by rw [hgap], rfl, rfl⟩
  refine fv_aload_n C d_M_gapEnd_0 (n := 1) rfl (i := 0) rfl rfl ?_
  refine fv_get C (fl_M_68 D dA) d_M_gapEnd_1 (n := 4) rfl hM.1 rfl ?_
  refine fv_iload_n C d_M_gapEnd_4 (n := 5) rfl (i := 1) rfl rfl ?_
  refine fv_ialdN C (t0 := 0) rfl d_M_gapEnd_5 (n := 6) rfl (mc_20 hM) (by omega) (by decide) ?_
  rw [hRV.2.1]
  refine fv_istore_n C d_M_gapEnd_6 (n := 7) rfl (i := 2) rfl (by decide) (L' := [_, _, _]) rfl ?_
  exact loop (R.2.1 + 1) R.1 (by omega) (Nat.le_refl _) (by omega) (fun t a b => absurd b (by omega))
theorem ct_M_askReplay {r : Int32} (hBs : Bs ≤ m0) (hM0 : RM dA h m0 S) (hI : sp_I S) : fv_T l (fk D dA) Bs WA m_M_askReplay [.ref m0, .int r] sz h 0 0 (fp_i sz (fun r0 h' => r0 = sp_akA S r ∧ RM dA h' m0 (sp_akS S r) ∧ fs h h' (MS m0))) := by
  obtain ⟨F, bl, bh, hM, hR⟩ := id hM0
  have hF : fs h h (MS m0) := fs_rf _ _
  have hl4 := hI.2.1.1
  have hel := fe_ends_len hI.2.2.1
  refine fv_of (L := [_, _, _]) (by decide +kernel) rfl (Nat.le_of_ble_eq_true rfl) rfl ?_
  intro X hX C
  subst hX
  refine fv_iload_n C d_M_askReplay_0 (n := 1) rfl (i := 1) rfl rfl ?_
  refine fv_callS_r C (ml_M_192 D dA) sm_M_isReceiver ct_M_isReceiver d_M_askReplay_1 (n := 4) rfl rfl rfl rfl (Nat.le_of_ble_eq_true rfl) (Nat.le_of_ble_eq_true rfl) (Nat.le_of_ble_eq_true rfl) (Nat.le_refl _) (Nat.le_refl _) ?_
  refine fv_ifB_ne C d_M_askReplay_4 (tgt := 10) rfl (n := 7) rfl (fun hc4 => ?_) (fun hc4 => ?_)
  · have hgood := hc4
    obtain ⟨k, -, hk, rfl⟩ := iv_of (by decide) (by decide) hc4
    have hcl : (nI k).toNatClampNeg = k := nI_clamp (by omega)
    have hRI := hI.2.2.2.1 k (by omega)
    have hRV : RV F k (sp_R S k) := hR.2.2.2.1 k (by omega)
    have hj1 := hRI.1.2.1
    have hj2 := hRI.1.2.2.1
    have hj0 := hRI.1.1
    have hgl : rc_gap (sp_R S k) ≤ (sp_R S k).2.1 := rc_ga_le hRI.1 _ _
    refine fv_aload_n C d_M_askReplay_10 (n := 11) rfl (i := 0) rfl rfl ?_
    refine fv_iload_n C d_M_askReplay_11 (n := 12) rfl (i := 1) rfl rfl ?_
    refine fv_callV_r C (ml_M_198 D dA) im_M_gapEnd se_M_gapEnd hM.1 rfl (ct_M_gapEnd (by omega) hM0 hI) d_M_askReplay_12 (n := 15) rfl rfl rfl rfl (Nat.le_of_ble_eq_true rfl) (Nat.le_of_ble_eq_true rfl) (Nat.le_of_ble_eq_true rfl) (Nat.le_refl _) (Nat.le_refl _) ?_
    refine fv_istore_n C d_M_askReplay_15 (n := 16) rfl (i := 2) rfl (by decide) (L' := [_, _, _]) rfl ?_
    refine fv_aload_n C d_M_askReplay_16 (n := 17) rfl (i := 0) rfl rfl ?_
    refine fv_get C (fl_M_77 D dA) d_M_askReplay_17 (n := 20) rfl hM.1 rfl ?_
    refine fv_iload_n C d_M_askReplay_20 (n := 21) rfl (i := 1) rfl rfl ?_
    refine fv_iload_n C d_M_askReplay_21 (n := 22) rfl (i := 2) rfl rfl ?_
    refine fv_aload_n C d_M_askReplay_22 (n := 23) rfl (i := 0) rfl rfl ?_
    refine fv_get C (fl_M_68 D dA) d_M_askReplay_23 (n := 26) rfl hM.1 rfl ?_
    refine fv_iload_n C d_M_askReplay_26 (n := 27) rfl (i := 1) rfl rfl ?_
    refine fv_ialdN C (t0 := 0) rfl d_M_askReplay_27 (n := 28) rfl (mc_20 hM) (by omega) (by decide) ?_
    rw [hRV.2.1]
    refine fv_icmpN_ge C (by omega) (by omega) d_M_askReplay_28 (tgt := 35) rfl (n := 31) rfl (fun hc28 => ?_) (fun hc28 => ?_)
    · refine fv_iload_n C d_M_askReplay_35 (n := 36) rfl (i := 2) rfl rfl ?_
      refine mc_ia C 23 (by decide) (by decide) rfl d_M_askReplay_36 (n := 37) rfl hM hBs (by decide) (show _ < 2 by omega) (fun h1 F1 hM g1 g2 f1 => ?_)
      have hF := hF.tr f1 (U := MS m0) (fun x hx => hx) (fun x hx => hx)
      have hfin : RM dA h1 m0 (sp_akS S (nI k)) := by unfold sp_akS; rw [if_pos hgood, hcl]; exact ⟨F1, bl, bh, hM, mr_rcv (by omega) hI (by rw [sp_setR_id]; exact hR) (fun q hq => g2 q (by omega)) (OT.one g1 g2 (fun e => by omega) (fun e => by omega) (fun e => by omega) (fun e => by omega)) (fun hv => rv_ak hv g1 g2 (by omega))⟩
      refine fv_iload_n C d_M_askReplay_37 (n := 38) rfl (i := 2) rfl rfl ?_
      refine fv_aload_n C d_M_askReplay_38 (n := 39) rfl (i := 0) rfl rfl ?_
      refine fv_get C (fl_M_68 D dA) d_M_askReplay_39 (n := 42) rfl hM.1 rfl ?_
      refine fv_iload_n C d_M_askReplay_42 (n := 43) rfl (i := 1) rfl rfl ?_
      refine fv_ialdN C (t0 := 0) rfl d_M_askReplay_43 (n := 44) rfl (mc_20 hM) (by omega) (by decide) ?_
      rw [show F1 20 k = nI (sp_R S k).1 by rw [g2 20 (by decide)]; exact hRV.2.1]
      refine fv_icmpN_ge C (by omega) (by omega) d_M_askReplay_44 (tgt := 51) rfl (n := 47) rfl (fun hd44 => ?_) (fun hd44 => ?_)
      · refine fv_iload_n C d_M_askReplay_51 (n := 52) rfl (i := 2) rfl rfl ?_
        refine fv_aload_n C d_M_askReplay_52 (n := 53) rfl (i := 0) rfl rfl ?_
        refine fv_get C (fl_M_68 D dA) d_M_askReplay_53 (n := 56) rfl hM.1 rfl ?_
        refine fv_iload_n C d_M_askReplay_56 (n := 57) rfl (i := 1) rfl rfl ?_
        refine fv_ialdN C (t0 := 0) rfl d_M_askReplay_57 (n := 58) rfl (mc_20 hM) (by omega) (by decide) ?_
        rw [show F1 20 k = nI (sp_R S k).1 by rw [g2 20 (by decide)]; exact hRV.2.1]
        refine fv_isubN C (by omega) d_M_askReplay_58 (n := 59) rfl ?_
        refine fv_iconst C d_M_askReplay_59 (n := 60) rfl kI_1 ?_
        first | refine fv_iaddN C d_M_askReplay_60 (n := 61) rfl ?_ | refine fv_iadd C d_M_askReplay_60 (n := 61) rfl ?_
        refine fv_iret C rfl d_M_askReplay_61 (Nat.le_refl _) (Nat.le_refl _) ?_
        exact ⟨_, rfl, rfl, by unfold sp_akA; rw [if_pos hgood, hcl]; congr 1; omega, hfin, hF⟩
      · refine fv_iconst C d_M_askReplay_47 (n := 48) rfl kI_0 ?_
        refine fv_goto C d_M_askReplay_48 (tgt := 61) rfl ?_
        refine fv_iret C rfl d_M_askReplay_61 (Nat.le_refl _) (Nat.le_refl _) ?_
        exact ⟨_, rfl, rfl, by unfold sp_akA; rw [if_pos hgood, hcl]; congr 1; omega, hfin, hF⟩
    · refine fv_iconst C d_M_askReplay_31 (n := 32) rfl kI_0 ?_
      refine fv_goto C d_M_askReplay_32 (tgt := 36) rfl ?_
      refine mc_ia C 23 (by decide) (by decide) rfl d_M_askReplay_36 (n := 37) rfl hM hBs (by decide) (show _ < 2 by omega) (fun h1 F1 hM g1 g2 f1 => ?_)
      have hF := hF.tr f1 (U := MS m0) (fun x hx => hx) (fun x hx => hx)
      have hfin : RM dA h1 m0 (sp_akS S (nI k)) := by unfold sp_akS; rw [if_pos hgood, hcl]; exact ⟨F1, bl, bh, hM, mr_rcv (by omega) hI (by rw [sp_setR_id]; exact hR) (fun q hq => g2 q (by omega)) (OT.one g1 g2 (fun e => by omega) (fun e => by omega) (fun e => by omega) (fun e => by omega)) (fun hv => rv_ak hv g1 g2 (by omega))⟩
      refine fv_iload_n C d_M_askReplay_37 (n := 38) rfl (i := 2) rfl rfl ?_
      refine fv_aload_n C d_M_askReplay_38 (n := 39) rfl (i := 0) rfl rfl ?_
      refine fv_get C (fl_M_68 D dA) d_M_askReplay_39 (n := 42) rfl hM.1 rfl ?_
      refine fv_iload_n C d_M_askReplay_42 (n := 43) rfl (i := 1) rfl rfl ?_
      refine fv_ialdN C (t0 := 0) rfl d_M_askReplay_43 (n := 44) rfl (mc_20 hM) (by omega) (by decide) ?_
      rw [show F1 20 k = nI (sp_R S k).1 by rw [g2 20 (by decide)]; exact hRV.2.1]
      refine fv_icmpN_ge C (by omega) (by omega) d_M_askReplay_44 (tgt := 51) rfl (n := 47) rfl (fun hd44 => ?_) (fun hd44 => ?_)
      · refine fv_iload_n C d_M_askReplay_51 (n := 52) rfl (i := 2) rfl rfl ?_
        refine fv_aload_n C d_M_askReplay_52 (n := 53) rfl (i := 0) rfl rfl ?_
        refine fv_get C (fl_M_68 D dA) d_M_askReplay_53 (n := 56) rfl hM.1 rfl ?_
        refine fv_iload_n C d_M_askReplay_56 (n := 57) rfl (i := 1) rfl rfl ?_
        refine fv_ialdN C (t0 := 0) rfl d_M_askReplay_57 (n := 58) rfl (mc_20 hM) (by omega) (by decide) ?_
        rw [show F1 20 k = nI (sp_R S k).1 by rw [g2 20 (by decide)]; exact hRV.2.1]
        refine fv_isubN C (by omega) d_M_askReplay_58 (n := 59) rfl ?_
        refine fv_iconst C d_M_askReplay_59 (n := 60) rfl kI_1 ?_
        first | refine fv_iaddN C d_M_askReplay_60 (n := 61) rfl ?_ | refine fv_iadd C d_M_askReplay_60 (n := 61) rfl ?_
        refine fv_iret C rfl d_M_askReplay_61 (Nat.le_refl _) (Nat.le_refl _) ?_
        exact ⟨_, rfl, rfl, by unfold sp_akA; rw [if_pos hgood, hcl]; congr 1; omega, hfin, hF⟩
      · refine fv_iconst C d_M_askReplay_47 (n := 48) rfl kI_0 ?_
        refine fv_goto C d_M_askReplay_48 (tgt := 61) rfl ?_
        refine fv_iret C rfl d_M_askReplay_61 (Nat.le_refl _) (Nat.le_refl _) ?_
        exact ⟨_, rfl, rfl, by unfold sp_akA; rw [if_pos hgood, hcl]; congr 1; omega, hfin, hF⟩
  · have hbad : ¬ iv r 0 1 = true := by rw [hc4]; decide
    refine fv_bipush C d_M_askReplay_7 (n := 9) rfl kB_m2 ?_
    refine fv_iret C rfl d_M_askReplay_9 (Nat.le_refl _) (Nat.le_refl _) ?_
    exact ⟨_, rfl, rfl, by unfold sp_akA; rw [if_neg hbad], by unfold sp_akS; rw [if_neg hbad]; exact hM0, fs_rf _ _⟩
theorem MR.shot {F F1 F2 F' : Nat → Nat → Int32} {S : sp_T} {i n c : Nat} (h : MR F S) (a1 : F1 24 = upd (F 24) ((sp_sh S).length + 1) (nI i)) (a2 : ∀ q, q ≠ 24 → F1 q = F q) (b1 : F2 25 = upd (F1 25) ((sp_sh S).length + 1) (nI n)) (b2 : ∀ q, q ≠ 25 → F2 q = F1 q) (c1 : F' 26 = upd (F2 26) ((sp_sh S).length + 1) (nI c)) (c2 : ∀ q, q ≠ 26 → F' q = F2 q) : MR F' (S.1, S.2.1, sp_sh S ++ [(i, n, c)], S.2.2.2) := by
  obtain ⟨h1, h2, h3, h4, h5, h6⟩ := h
  have hk : ∀ k, k < 24 ∨ 26 < k → F' k = F k := fun k hk => by rw [c2 k (by omega), b2 k (by omega), a2 k (by omega)]
  have e24 : F' 24 = upd (F 24) ((sp_sh S).length + 1) (nI i) := by rw [c2 24 (by decide), b2 24 (by decide), a1]
  have e25 : F' 25 = upd (F 25) ((sp_sh S).length + 1) (nI n) := by rw [c2 25 (by decide), b1, a2 25 (by decide)]
  have e26 : F' 26 = upd (F 26) ((sp_sh S).length + 1) (nI c) := by rw [c1, b2 26 (by decide), a2 26 (by decide)]
  refine ⟨h1.ke (lo := 24) (hi := 26) hk (by decide), ?_, ?_, fun r hr => (h4 r hr).eq (fun k x y => hk k (by omega)) (hk 27 (by omega)) (hk 28 (by omega)), fun k q hq => ?_, fun r hr => (h6 r hr).eq (hk 29 (by omega)) (hk 30 (by omega))⟩
  · rw [hk 8 (by omega)]; exact h2
  · rw [hk 9 (by omega)]; exact h3
  · have hq : (sp_sh S ++ [(i, n, c)])[k]? = some q := hq
    rw [e24, e25, e26, upd_at, upd_at, upd_at]
    by_cases z : k < (sp_sh S).length
    · rw [List.getElem?_append_left z] at hq
      rw [if_neg (by omega), if_neg (by omega), if_neg (by omega)]
      exact h5 k q hq
    · rw [List.getElem?_append_right (by omega)] at hq
      have hz : k - (sp_sh S).length < 1 := (List.getElem?_eq_some_iff.mp hq).1
      have hz2 : k = (sp_sh S).length := by omega
      rw [hz2, Nat.sub_self, List.getElem?_cons_zero] at hq
      cases hq
      rw [if_pos (by omega), if_pos (by omega), if_pos (by omega)]
      exact ⟨rfl, rfl, rfl⟩
theorem ct_M_snapshotTurn (hsc : (sp_sh S).length < 512) (hBs : Bs ≤ m0) (hM0 : RM dA h m0 S) (hI : sp_I S) : fv_T l (fk D dA) Bs WA m_M_snapshotTurn [.ref m0] sz h 0 0 (fp_i sz (fun r0 h' => r0 = nI ((sp_sh S).length + 1) ∧ RM dA h' m0 (sp_snS S) ∧ fs h h' (MS m0))) := by
  obtain ⟨F, bl, bh, hM, hR⟩ := id hM0
  have hF : fs h h (MS m0) := fs_rf _ _
  have hl4 := hI.2.1.1
  have hel := fe_ends_len hI.2.2.1
  refine fv_of (L := [_, _]) (by decide +kernel) rfl (Nat.le_of_ble_eq_true rfl) rfl ?_
  intro X hX C
  subst hX
  refine fv_aload_n C d_M_snapshotTurn_0 (n := 1) rfl (i := 0) rfl rfl ?_
  refine fv_dup C d_M_snapshotTurn_1 (n := 2) rfl rfl ?_
  refine fv_get C (fl_M_201 D dA) d_M_snapshotTurn_2 (n := 5) rfl hM.1 rfl ?_
  refine fv_iconst C d_M_snapshotTurn_5 (n := 6) rfl kI_1 ?_
  first | refine fv_iaddN C d_M_snapshotTurn_6 (n := 7) rfl ?_ | refine fv_iadd C d_M_snapshotTurn_6 (n := 7) rfl ?_
  refine mc_psh C (fl_M_201 D dA) d_M_snapshotTurn_7 (n := 10) rfl hM hBs (fun h1 hM f1 => ?_)
  have hF := hF.tr f1 (U := MS m0) (fun x hx => hx) (fun x hx => hx)
  refine fv_aload_n C d_M_snapshotTurn_10 (n := 11) rfl (i := 0) rfl rfl ?_
  refine fv_get C (fl_M_201 D dA) d_M_snapshotTurn_11 (n := 14) rfl hM.1 rfl ?_
  refine fv_iconst C d_M_snapshotTurn_14 (n := 15) rfl kI_1 ?_
  refine fv_isubN C (by omega) d_M_snapshotTurn_15 (n := 16) rfl ?_
  refine fv_iconst C d_M_snapshotTurn_16 (n := 17) rfl kI_4 ?_
  refine fv_iremN C (by omega) (by omega) (by omega) d_M_snapshotTurn_17 (n := 18) rfl ?_
  refine fv_istore_n C d_M_snapshotTurn_18 (n := 19) rfl (i := 1) rfl (by decide) (L' := [_, _]) rfl ?_
  refine fv_aload_n C d_M_snapshotTurn_19 (n := 20) rfl (i := 0) rfl rfl ?_
  refine fv_get C (fl_M_80 D dA) d_M_snapshotTurn_20 (n := 23) rfl hM.1 rfl ?_
  refine fv_aload_n C d_M_snapshotTurn_23 (n := 24) rfl (i := 0) rfl rfl ?_
  refine fv_get C (fl_M_201 D dA) d_M_snapshotTurn_24 (n := 27) rfl hM.1 rfl ?_
  refine fv_iload_n C d_M_snapshotTurn_27 (n := 28) rfl (i := 1) rfl rfl ?_
  rw [show (sp_sh S).length + 1 - 1 = (sp_sh S).length by omega]
  refine mc_ia C 24 (by decide) (by decide) rfl d_M_snapshotTurn_28 (n := 29) rfl hM hBs (by decide) (show _ < 513 by omega) (fun h1 Fa hM a1 a2 f1 => ?_)
  have hF := hF.tr f1 (U := MS m0) (fun x hx => hx) (fun x hx => hx)
  refine fv_aload_n C d_M_snapshotTurn_29 (n := 30) rfl (i := 0) rfl rfl ?_
  refine fv_get C (fl_M_83 D dA) d_M_snapshotTurn_30 (n := 33) rfl hM.1 rfl ?_
  refine fv_aload_n C d_M_snapshotTurn_33 (n := 34) rfl (i := 0) rfl rfl ?_
  refine fv_get C (fl_M_201 D dA) d_M_snapshotTurn_34 (n := 37) rfl hM.1 rfl ?_
  refine fv_aload_n C d_M_snapshotTurn_37 (n := 38) rfl (i := 0) rfl rfl ?_
  refine fv_get C (fl_M_31 D dA) d_M_snapshotTurn_38 (n := 41) rfl hM.1 rfl ?_
  refine fv_iload_n C d_M_snapshotTurn_41 (n := 42) rfl (i := 1) rfl rfl ?_
  refine fv_ialdN C (t0 := 0) rfl d_M_snapshotTurn_42 (n := 43) rfl (mc_8 hM) (by omega) (by decide) ?_
  rw [show Fa 8 ((sp_sh S).length % 4) = nI (sp_len S ((sp_sh S).length % 4)) by rw [a2 8 (by decide)]; exact hR.2.1 _ (by omega)]
  refine mc_ia C 25 (by decide) (by decide) rfl d_M_snapshotTurn_43 (n := 44) rfl hM hBs (by decide) (show _ < 513 by omega) (fun h1 Fb hM b1 b2 f1 => ?_)
  have hF := hF.tr f1 (U := MS m0) (fun x hx => hx) (fun x hx => hx)
  refine fv_aload_n C d_M_snapshotTurn_44 (n := 45) rfl (i := 0) rfl rfl ?_
  refine fv_get C (fl_M_86 D dA) d_M_snapshotTurn_45 (n := 48) rfl hM.1 rfl ?_
  refine fv_aload_n C d_M_snapshotTurn_48 (n := 49) rfl (i := 0) rfl rfl ?_
  refine fv_get C (fl_M_201 D dA) d_M_snapshotTurn_49 (n := 52) rfl hM.1 rfl ?_
  refine fv_aload_n C d_M_snapshotTurn_52 (n := 53) rfl (i := 0) rfl rfl ?_
  refine fv_get C (fl_M_148 D dA) d_M_snapshotTurn_53 (n := 56) rfl hM.1 rfl ?_
  refine mc_ia C 26 (by decide) (by decide) rfl d_M_snapshotTurn_56 (n := 57) rfl hM hBs (by decide) (show _ < 513 by omega) (fun h1 Fc hM c1 c2 f1 => ?_)
  have hF := hF.tr f1 (U := MS m0) (fun x hx => hx) (fun x hx => hx)
  refine fv_aload_n C d_M_snapshotTurn_57 (n := 58) rfl (i := 0) rfl rfl ?_
  refine fv_get C (fl_M_201 D dA) d_M_snapshotTurn_58 (n := 61) rfl hM.1 rfl ?_
  refine fv_iret C rfl d_M_snapshotTurn_61 (Nat.le_refl _) (Nat.le_refl _) ?_
  refine ⟨_, rfl, rfl, rfl, ⟨Fc, bl, bh, ?_, hR.shot a1 a2 b1 b2 c1 c2⟩, hF⟩
  show MC dA h1 m0 S.1.length S.2.1.length bl bh (sp_sh S ++ [_]).length Fc
  rw [List.length_append]
  exact hM
end MD8
