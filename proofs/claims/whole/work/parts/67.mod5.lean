/-! FeedDeskModel: the publisher's calls -/
section MD5
variable {l : Launch} {D : va_G} {dA : Nat → ClassId} {Bs sz : Nat} {h : fv_H} {m0 : Nat} {S : sp_T}
theorem ct_M_change {i id v : Int32} (hBs : Bs ≤ m0) (hM0 : RM dA h m0 S) (hI : sp_I S) : fv_T l (fk D dA) Bs WA m_M_change [.ref m0, .int i, .int id, .int v] sz h 0 0 (fp_i sz (fun r0 h' => r0 = sp_chgA S 1 i id v ∧ RM dA h' m0 (sp_chgS S 1 i id v) ∧ fs h h' (MS m0))) := by
  have hM1 := hM0
  obtain ⟨F, bl, bh, hM, hR⟩ := hM1
  refine fv_of (L := [_, _, _, _]) (by decide +kernel) rfl (Nat.le_of_ble_eq_true rfl) rfl ?_
  intro X hX C
  subst hX
  refine fv_iload_n C d_M_change_0 (n := 1) rfl (i := 1) rfl rfl ?_
  refine fv_callS_r C (ml_M_151 D dA) sm_M_isInstrument ct_M_isInstrument d_M_change_1 (n := 4) rfl rfl rfl rfl (Nat.le_of_ble_eq_true rfl) (Nat.le_of_ble_eq_true rfl) (Nat.le_of_ble_eq_true rfl) (Nat.le_refl _) (Nat.le_refl _) ?_
  refine fv_ifB_eq C d_M_change_4 (tgt := 37) rfl (n := 7) rfl (fun hc4 => ?_) (fun hc4 => ?_)
  · have hbad : ¬ (iv i 0 3 && iv id 1 1000000 && iv v 1 1000000) = true := by simp [hc4]
    refine fv_bipush C d_M_change_37 (n := 39) rfl kB_m2 ?_
    refine fv_iret C rfl d_M_change_39 (Nat.le_refl _) (Nat.le_refl _) ?_
    first | exact ⟨_, rfl, rfl, by unfold sp_chgA; rw [if_neg hbad], by unfold sp_chgS; rw [if_neg hbad]; exact hM0, fs_rf _ _⟩ | exact ⟨_, rfl, rfl, by unfold sp_chgA; rw [if_pos hgood, hcl], by unfold sp_chgS; rw [if_pos hgood, hcl]; exact q1, q2⟩
  · refine fv_iload_n C d_M_change_7 (n := 8) rfl (i := 2) rfl rfl ?_
    refine fv_callS_r C (ml_M_155 D dA) sm_M_isId ct_M_isId d_M_change_8 (n := 11) rfl rfl rfl rfl (Nat.le_of_ble_eq_true rfl) (Nat.le_of_ble_eq_true rfl) (Nat.le_of_ble_eq_true rfl) (Nat.le_refl _) (Nat.le_refl _) ?_
    refine fv_ifB_eq C d_M_change_11 (tgt := 37) rfl (n := 14) rfl (fun hc11 => ?_) (fun hc11 => ?_)
    · have hbad : ¬ (iv i 0 3 && iv id 1 1000000 && iv v 1 1000000) = true := by simp [hc11]
      refine fv_bipush C d_M_change_37 (n := 39) rfl kB_m2 ?_
      refine fv_iret C rfl d_M_change_39 (Nat.le_refl _) (Nat.le_refl _) ?_
      first | exact ⟨_, rfl, rfl, by unfold sp_chgA; rw [if_neg hbad], by unfold sp_chgS; rw [if_neg hbad]; exact hM0, fs_rf _ _⟩ | exact ⟨_, rfl, rfl, by unfold sp_chgA; rw [if_pos hgood, hcl], by unfold sp_chgS; rw [if_pos hgood, hcl]; exact q1, q2⟩
    · refine fv_iload_n C d_M_change_14 (n := 15) rfl (i := 3) rfl rfl ?_
      refine fv_iconst C d_M_change_15 (n := 16) rfl kI_1 ?_
      refine fv_ldc C d_M_change_16 (n := 18) rfl kc_M_105 ?_
      rw [show ((1000000 : Int32)) = nI 1000000 from rfl]
      refine fv_callS_r C (ml_M_101 D dA) sm_M_within ct_M_within d_M_change_18 (n := 21) rfl rfl rfl rfl (Nat.le_of_ble_eq_true rfl) (Nat.le_of_ble_eq_true rfl) (Nat.le_of_ble_eq_true rfl) (Nat.le_refl _) (Nat.le_refl _) ?_
      refine fv_ifB_eq C d_M_change_21 (tgt := 37) rfl (n := 24) rfl (fun hc21 => ?_) (fun hc21 => ?_)
      · have hv9 : iv v 1 1000000 = false := hc21
        have hbad : ¬ (iv i 0 3 && iv id 1 1000000 && iv v 1 1000000) = true := by simp [hv9]
        refine fv_bipush C d_M_change_37 (n := 39) rfl kB_m2 ?_
        refine fv_iret C rfl d_M_change_39 (Nat.le_refl _) (Nat.le_refl _) ?_
        first | exact ⟨_, rfl, rfl, by unfold sp_chgA; rw [if_neg hbad], by unfold sp_chgS; rw [if_neg hbad]; exact hM0, fs_rf _ _⟩ | exact ⟨_, rfl, rfl, by unfold sp_chgA; rw [if_pos hgood, hcl], by unfold sp_chgS; rw [if_pos hgood, hcl]; exact q1, q2⟩
      · have hv9 : iv v 1 1000000 = true := hc21
        have hgood : (iv i 0 3 && iv id 1 1000000 && iv v 1 1000000) = true := by simp [hc4, hc11, hv9]
        obtain ⟨k, -, hk, rfl⟩ := iv_of (by decide) (by decide) hc4
        have hcl : (nI k).toNatClampNeg = k := nI_clamp (by omega)
        refine fv_aload_n C d_M_change_24 (n := 25) rfl (i := 0) rfl rfl ?_
        refine fv_iconst C d_M_change_25 (n := 26) rfl kI_1 ?_
        refine fv_iload_n C d_M_change_26 (n := 27) rfl (i := 1) rfl rfl ?_
        refine fv_iload_n C d_M_change_27 (n := 28) rfl (i := 2) rfl rfl ?_
        refine fv_iconst C d_M_change_28 (n := 29) rfl kI_0 ?_
        refine fv_iconst C d_M_change_29 (n := 30) rfl kI_0 ?_
        refine fv_iload_n C d_M_change_30 (n := 31) rfl (i := 3) rfl rfl ?_
        refine fv_callV_i C (ml_M_159 D dA) im_M_take se_M_take hM.1 rfl (ct_M_take (so := 1) (s := 0) (id := id) (pr := 0) (v := v) hBs hM0 hI (by decide) (by omega)) d_M_change_31 (n := 34) rfl rfl rfl rfl (Nat.le_of_ble_eq_true rfl) (Nat.le_of_ble_eq_true rfl) (Nat.le_of_ble_eq_true rfl) (Nat.le_refl _) (Nat.le_refl _) (fun r0 h1 hp => ?_)
        obtain ⟨rfl, q1, q2⟩ := hp
        refine fv_goto C d_M_change_34 (tgt := 39) rfl ?_
        refine fv_iret C rfl d_M_change_39 (Nat.le_refl _) (Nat.le_refl _) ?_
        first | exact ⟨_, rfl, rfl, by unfold sp_chgA; rw [if_neg hbad], by unfold sp_chgS; rw [if_neg hbad]; exact hM0, fs_rf _ _⟩ | exact ⟨_, rfl, rfl, by unfold sp_chgA; rw [if_pos hgood, hcl], by unfold sp_chgS; rw [if_pos hgood, hcl]; exact q1, q2⟩
theorem ct_M_execute {i id v : Int32} (hBs : Bs ≤ m0) (hM0 : RM dA h m0 S) (hI : sp_I S) : fv_T l (fk D dA) Bs WA m_M_execute [.ref m0, .int i, .int id, .int v] sz h 0 0 (fp_i sz (fun r0 h' => r0 = sp_chgA S 2 i id v ∧ RM dA h' m0 (sp_chgS S 2 i id v) ∧ fs h h' (MS m0))) := by
  have hM1 := hM0
  obtain ⟨F, bl, bh, hM, hR⟩ := hM1
  refine fv_of (L := [_, _, _, _]) (by decide +kernel) rfl (Nat.le_of_ble_eq_true rfl) rfl ?_
  intro X hX C
  subst hX
  refine fv_iload_n C d_M_execute_0 (n := 1) rfl (i := 1) rfl rfl ?_
  refine fv_callS_r C (ml_M_151 D dA) sm_M_isInstrument ct_M_isInstrument d_M_execute_1 (n := 4) rfl rfl rfl rfl (Nat.le_of_ble_eq_true rfl) (Nat.le_of_ble_eq_true rfl) (Nat.le_of_ble_eq_true rfl) (Nat.le_refl _) (Nat.le_refl _) ?_
  refine fv_ifB_eq C d_M_execute_4 (tgt := 37) rfl (n := 7) rfl (fun hc4 => ?_) (fun hc4 => ?_)
  · have hbad : ¬ (iv i 0 3 && iv id 1 1000000 && iv v 1 1000000) = true := by simp [hc4]
    refine fv_bipush C d_M_execute_37 (n := 39) rfl kB_m2 ?_
    refine fv_iret C rfl d_M_execute_39 (Nat.le_refl _) (Nat.le_refl _) ?_
    first | exact ⟨_, rfl, rfl, by unfold sp_chgA; rw [if_neg hbad], by unfold sp_chgS; rw [if_neg hbad]; exact hM0, fs_rf _ _⟩ | exact ⟨_, rfl, rfl, by unfold sp_chgA; rw [if_pos hgood, hcl], by unfold sp_chgS; rw [if_pos hgood, hcl]; exact q1, q2⟩
  · refine fv_iload_n C d_M_execute_7 (n := 8) rfl (i := 2) rfl rfl ?_
    refine fv_callS_r C (ml_M_155 D dA) sm_M_isId ct_M_isId d_M_execute_8 (n := 11) rfl rfl rfl rfl (Nat.le_of_ble_eq_true rfl) (Nat.le_of_ble_eq_true rfl) (Nat.le_of_ble_eq_true rfl) (Nat.le_refl _) (Nat.le_refl _) ?_
    refine fv_ifB_eq C d_M_execute_11 (tgt := 37) rfl (n := 14) rfl (fun hc11 => ?_) (fun hc11 => ?_)
    · have hbad : ¬ (iv i 0 3 && iv id 1 1000000 && iv v 1 1000000) = true := by simp [hc11]
      refine fv_bipush C d_M_execute_37 (n := 39) rfl kB_m2 ?_
      refine fv_iret C rfl d_M_execute_39 (Nat.le_refl _) (Nat.le_refl _) ?_
      first | exact ⟨_, rfl, rfl, by unfold sp_chgA; rw [if_neg hbad], by unfold sp_chgS; rw [if_neg hbad]; exact hM0, fs_rf _ _⟩ | exact ⟨_, rfl, rfl, by unfold sp_chgA; rw [if_pos hgood, hcl], by unfold sp_chgS; rw [if_pos hgood, hcl]; exact q1, q2⟩
    · refine fv_iload_n C d_M_execute_14 (n := 15) rfl (i := 3) rfl rfl ?_
      refine fv_iconst C d_M_execute_15 (n := 16) rfl kI_1 ?_
      refine fv_ldc C d_M_execute_16 (n := 18) rfl kc_M_105 ?_
      rw [show ((1000000 : Int32)) = nI 1000000 from rfl]
      refine fv_callS_r C (ml_M_101 D dA) sm_M_within ct_M_within d_M_execute_18 (n := 21) rfl rfl rfl rfl (Nat.le_of_ble_eq_true rfl) (Nat.le_of_ble_eq_true rfl) (Nat.le_of_ble_eq_true rfl) (Nat.le_refl _) (Nat.le_refl _) ?_
      refine fv_ifB_eq C d_M_execute_21 (tgt := 37) rfl (n := 24) rfl (fun hc21 => ?_) (fun hc21 => ?_)
      · have hv9 : iv v 1 1000000 = false := hc21
        have hbad : ¬ (iv i 0 3 && iv id 1 1000000 && iv v 1 1000000) = true := by simp [hv9]
        refine fv_bipush C d_M_execute_37 (n := 39) rfl kB_m2 ?_
        refine fv_iret C rfl d_M_execute_39 (Nat.le_refl _) (Nat.le_refl _) ?_
        first | exact ⟨_, rfl, rfl, by unfold sp_chgA; rw [if_neg hbad], by unfold sp_chgS; rw [if_neg hbad]; exact hM0, fs_rf _ _⟩ | exact ⟨_, rfl, rfl, by unfold sp_chgA; rw [if_pos hgood, hcl], by unfold sp_chgS; rw [if_pos hgood, hcl]; exact q1, q2⟩
      · have hv9 : iv v 1 1000000 = true := hc21
        have hgood : (iv i 0 3 && iv id 1 1000000 && iv v 1 1000000) = true := by simp [hc4, hc11, hv9]
        obtain ⟨k, -, hk, rfl⟩ := iv_of (by decide) (by decide) hc4
        have hcl : (nI k).toNatClampNeg = k := nI_clamp (by omega)
        refine fv_aload_n C d_M_execute_24 (n := 25) rfl (i := 0) rfl rfl ?_
        refine fv_iconst C d_M_execute_25 (n := 26) rfl kI_2 ?_
        refine fv_iload_n C d_M_execute_26 (n := 27) rfl (i := 1) rfl rfl ?_
        refine fv_iload_n C d_M_execute_27 (n := 28) rfl (i := 2) rfl rfl ?_
        refine fv_iconst C d_M_execute_28 (n := 29) rfl kI_0 ?_
        refine fv_iconst C d_M_execute_29 (n := 30) rfl kI_0 ?_
        refine fv_iload_n C d_M_execute_30 (n := 31) rfl (i := 3) rfl rfl ?_
        refine fv_callV_i C (ml_M_159 D dA) im_M_take se_M_take hM.1 rfl (ct_M_take (so := 2) (s := 0) (id := id) (pr := 0) (v := v) hBs hM0 hI (by decide) (by omega)) d_M_execute_31 (n := 34) rfl rfl rfl rfl (Nat.le_of_ble_eq_true rfl) (Nat.le_of_ble_eq_true rfl) (Nat.le_of_ble_eq_true rfl) (Nat.le_refl _) (Nat.le_refl _) (fun r0 h1 hp => ?_)
        obtain ⟨rfl, q1, q2⟩ := hp
        refine fv_goto C d_M_execute_34 (tgt := 39) rfl ?_
        refine fv_iret C rfl d_M_execute_39 (Nat.le_refl _) (Nat.le_refl _) ?_
        first | exact ⟨_, rfl, rfl, by unfold sp_chgA; rw [if_neg hbad], by unfold sp_chgS; rw [if_neg hbad]; exact hM0, fs_rf _ _⟩ | exact ⟨_, rfl, rfl, by unfold sp_chgA; rw [if_pos hgood, hcl], by unfold sp_chgS; rw [if_pos hgood, hcl]; exact q1, q2⟩
theorem ct_M_cancel {i id : Int32} (hBs : Bs ≤ m0) (hM0 : RM dA h m0 S) (hI : sp_I S) : fv_T l (fk D dA) Bs WA m_M_cancel [.ref m0, .int i, .int id] sz h 0 0 (fp_i sz (fun r0 h' => r0 = sp_canA S i id ∧ RM dA h' m0 (sp_canS S i id) ∧ fs h h' (MS m0))) := by
  have hM1 := hM0
  obtain ⟨F, bl, bh, hM, hR⟩ := hM1
  refine fv_of (L := [_, _, _]) (by decide +kernel) rfl (Nat.le_of_ble_eq_true rfl) rfl ?_
  intro X hX C
  subst hX
  refine fv_iload_n C d_M_cancel_0 (n := 1) rfl (i := 1) rfl rfl ?_
  refine fv_callS_r C (ml_M_151 D dA) sm_M_isInstrument ct_M_isInstrument d_M_cancel_1 (n := 4) rfl rfl rfl rfl (Nat.le_of_ble_eq_true rfl) (Nat.le_of_ble_eq_true rfl) (Nat.le_of_ble_eq_true rfl) (Nat.le_refl _) (Nat.le_refl _) ?_
  refine fv_ifB_eq C d_M_cancel_4 (tgt := 27) rfl (n := 7) rfl (fun hc4 => ?_) (fun hc4 => ?_)
  · have hbad : ¬ (iv i 0 3 && iv id 1 1000000) = true := by simp [hc4]
    refine fv_bipush C d_M_cancel_27 (n := 29) rfl kB_m2 ?_
    refine fv_iret C rfl d_M_cancel_29 (Nat.le_refl _) (Nat.le_refl _) ?_
    first | exact ⟨_, rfl, rfl, by unfold sp_canA; rw [if_neg hbad], by unfold sp_canS; rw [if_neg hbad]; exact hM0, fs_rf _ _⟩ | exact ⟨_, rfl, rfl, by unfold sp_canA; rw [if_pos hgood, hcl], by unfold sp_canS; rw [if_pos hgood, hcl]; exact q1, q2⟩
  · refine fv_iload_n C d_M_cancel_7 (n := 8) rfl (i := 2) rfl rfl ?_
    refine fv_callS_r C (ml_M_155 D dA) sm_M_isId ct_M_isId d_M_cancel_8 (n := 11) rfl rfl rfl rfl (Nat.le_of_ble_eq_true rfl) (Nat.le_of_ble_eq_true rfl) (Nat.le_of_ble_eq_true rfl) (Nat.le_refl _) (Nat.le_refl _) ?_
    refine fv_ifB_eq C d_M_cancel_11 (tgt := 27) rfl (n := 14) rfl (fun hc11 => ?_) (fun hc11 => ?_)
    · have hbad : ¬ (iv i 0 3 && iv id 1 1000000) = true := by simp [hc11]
      refine fv_bipush C d_M_cancel_27 (n := 29) rfl kB_m2 ?_
      refine fv_iret C rfl d_M_cancel_29 (Nat.le_refl _) (Nat.le_refl _) ?_
      first | exact ⟨_, rfl, rfl, by unfold sp_canA; rw [if_neg hbad], by unfold sp_canS; rw [if_neg hbad]; exact hM0, fs_rf _ _⟩ | exact ⟨_, rfl, rfl, by unfold sp_canA; rw [if_pos hgood, hcl], by unfold sp_canS; rw [if_pos hgood, hcl]; exact q1, q2⟩
    · have hgood : (iv i 0 3 && iv id 1 1000000) = true := by simp [hc4, hc11]
      obtain ⟨k, -, hk, rfl⟩ := iv_of (by decide) (by decide) hc4
      have hcl : (nI k).toNatClampNeg = k := nI_clamp (by omega)
      refine fv_aload_n C d_M_cancel_14 (n := 15) rfl (i := 0) rfl rfl ?_
      refine fv_iconst C d_M_cancel_15 (n := 16) rfl kI_3 ?_
      refine fv_iload_n C d_M_cancel_16 (n := 17) rfl (i := 1) rfl rfl ?_
      refine fv_iload_n C d_M_cancel_17 (n := 18) rfl (i := 2) rfl rfl ?_
      refine fv_iconst C d_M_cancel_18 (n := 19) rfl kI_0 ?_
      refine fv_iconst C d_M_cancel_19 (n := 20) rfl kI_0 ?_
      refine fv_iconst C d_M_cancel_20 (n := 21) rfl kI_0 ?_
      refine fv_callV_i C (ml_M_159 D dA) im_M_take se_M_take hM.1 rfl (ct_M_take (so := 3) (s := 0) (id := id) (pr := 0) (v := 0) hBs hM0 hI (by decide) (by omega)) d_M_cancel_21 (n := 24) rfl rfl rfl rfl (Nat.le_of_ble_eq_true rfl) (Nat.le_of_ble_eq_true rfl) (Nat.le_of_ble_eq_true rfl) (Nat.le_refl _) (Nat.le_refl _) (fun r0 h1 hp => ?_)
      obtain ⟨rfl, q1, q2⟩ := hp
      refine fv_goto C d_M_cancel_24 (tgt := 29) rfl ?_
      refine fv_iret C rfl d_M_cancel_29 (Nat.le_refl _) (Nat.le_refl _) ?_
      first | exact ⟨_, rfl, rfl, by unfold sp_canA; rw [if_neg hbad], by unfold sp_canS; rw [if_neg hbad]; exact hM0, fs_rf _ _⟩ | exact ⟨_, rfl, rfl, by unfold sp_canA; rw [if_pos hgood, hcl], by unfold sp_canS; rw [if_pos hgood, hcl]; exact q1, q2⟩
theorem ct_M_clear {i : Int32} (hBs : Bs ≤ m0) (hM0 : RM dA h m0 S) (hI : sp_I S) : fv_T l (fk D dA) Bs WA m_M_clear [.ref m0, .int i] sz h 0 0 (fp_i sz (fun r0 h' => r0 = sp_clrA S i ∧ RM dA h' m0 (sp_clrS S i) ∧ fs h h' (MS m0))) := by
  have hM1 := hM0
  obtain ⟨F, bl, bh, hM, hR⟩ := hM1
  refine fv_of (L := [_, _]) (by decide +kernel) rfl (Nat.le_of_ble_eq_true rfl) rfl ?_
  intro X hX C
  subst hX
  refine fv_iload_n C d_M_clear_0 (n := 1) rfl (i := 1) rfl rfl ?_
  refine fv_callS_r C (ml_M_151 D dA) sm_M_isInstrument ct_M_isInstrument d_M_clear_1 (n := 4) rfl rfl rfl rfl (Nat.le_of_ble_eq_true rfl) (Nat.le_of_ble_eq_true rfl) (Nat.le_of_ble_eq_true rfl) (Nat.le_refl _) (Nat.le_refl _) ?_
  refine fv_ifB_eq C d_M_clear_4 (tgt := 20) rfl (n := 7) rfl (fun hc4 => ?_) (fun hc4 => ?_)
  · have hbad : ¬ iv i 0 3 = true := by rw [hc4]; decide
    refine fv_bipush C d_M_clear_20 (n := 22) rfl kB_m2 ?_
    refine fv_iret C rfl d_M_clear_22 (Nat.le_refl _) (Nat.le_refl _) ?_
    first | exact ⟨_, rfl, rfl, by unfold sp_clrA; rw [if_neg hbad], by unfold sp_clrS; rw [if_neg hbad]; exact hM0, fs_rf _ _⟩ | exact ⟨_, rfl, rfl, by unfold sp_clrA; rw [if_pos hgood, hcl], by unfold sp_clrS; rw [if_pos hgood, hcl]; exact q1, q2⟩
  · have hgood := hc4
    obtain ⟨k, -, hk, rfl⟩ := iv_of (by decide) (by decide) hc4
    have hcl : (nI k).toNatClampNeg = k := nI_clamp (by omega)
    refine fv_aload_n C d_M_clear_7 (n := 8) rfl (i := 0) rfl rfl ?_
    refine fv_iconst C d_M_clear_8 (n := 9) rfl kI_5 ?_
    refine fv_iload_n C d_M_clear_9 (n := 10) rfl (i := 1) rfl rfl ?_
    refine fv_iconst C d_M_clear_10 (n := 11) rfl kI_0 ?_
    refine fv_iconst C d_M_clear_11 (n := 12) rfl kI_0 ?_
    refine fv_iconst C d_M_clear_12 (n := 13) rfl kI_0 ?_
    refine fv_iconst C d_M_clear_13 (n := 14) rfl kI_0 ?_
    refine fv_callV_i C (ml_M_159 D dA) im_M_take se_M_take hM.1 rfl (ct_M_take (so := 5) (s := 0) (id := 0) (pr := 0) (v := 0) hBs hM0 hI (by decide) (by omega)) d_M_clear_14 (n := 17) rfl rfl rfl rfl (Nat.le_of_ble_eq_true rfl) (Nat.le_of_ble_eq_true rfl) (Nat.le_of_ble_eq_true rfl) (Nat.le_refl _) (Nat.le_refl _) (fun r0 h1 hp => ?_)
    obtain ⟨rfl, q1, q2⟩ := hp
    refine fv_goto C d_M_clear_17 (tgt := 22) rfl ?_
    refine fv_iret C rfl d_M_clear_22 (Nat.le_refl _) (Nat.le_refl _) ?_
    first | exact ⟨_, rfl, rfl, by unfold sp_clrA; rw [if_neg hbad], by unfold sp_clrS; rw [if_neg hbad]; exact hM0, fs_rf _ _⟩ | exact ⟨_, rfl, rfl, by unfold sp_clrA; rw [if_pos hgood, hcl], by unfold sp_clrS; rw [if_pos hgood, hcl]; exact q1, q2⟩
theorem ct_M_halt {i : Int32} {on : Bool} (hBs : Bs ≤ m0) (hM0 : RM dA h m0 S) (hI : sp_I S) : fv_T l (fk D dA) Bs WA m_M_halt [.ref m0, .int i, .int (fv_b on)] sz h 0 0 (fp_i sz (fun r0 h' => r0 = sp_hltA S i on ∧ RM dA h' m0 (sp_hltS S i on) ∧ fs h h' (MS m0))) := by
  have hM1 := hM0
  obtain ⟨F, bl, bh, hM, hR⟩ := hM1
  refine fv_of (L := [_, _, _]) (by decide +kernel) rfl (Nat.le_of_ble_eq_true rfl) rfl ?_
  intro X hX C
  subst hX
  refine fv_iload_n C d_M_halt_0 (n := 1) rfl (i := 1) rfl rfl ?_
  refine fv_callS_r C (ml_M_151 D dA) sm_M_isInstrument ct_M_isInstrument d_M_halt_1 (n := 4) rfl rfl rfl rfl (Nat.le_of_ble_eq_true rfl) (Nat.le_of_ble_eq_true rfl) (Nat.le_of_ble_eq_true rfl) (Nat.le_refl _) (Nat.le_refl _) ?_
  refine fv_ifB_eq C d_M_halt_4 (tgt := 28) rfl (n := 7) rfl (fun hc4 => ?_) (fun hc4 => ?_)
  · have hbad : ¬ iv i 0 3 = true := by rw [hc4]; decide
    refine fv_bipush C d_M_halt_28 (n := 30) rfl kB_m2 ?_
    refine fv_iret C rfl d_M_halt_30 (Nat.le_refl _) (Nat.le_refl _) ?_
    first | exact ⟨_, rfl, rfl, by unfold sp_hltA; rw [if_neg hbad], by unfold sp_hltS; rw [if_neg hbad]; exact hM0, fs_rf _ _⟩ | exact ⟨_, rfl, rfl, by unfold sp_hltA; rw [if_pos hgood, hcl], by unfold sp_hltS; rw [if_pos hgood, hcl]; exact q1, q2⟩
  · have hgood := hc4
    obtain ⟨k, -, hk, rfl⟩ := iv_of (by decide) (by decide) hc4
    have hcl : (nI k).toNatClampNeg = k := nI_clamp (by omega)
    refine fv_aload_n C d_M_halt_7 (n := 8) rfl (i := 0) rfl rfl ?_
    refine fv_iconst C d_M_halt_8 (n := 9) rfl kI_4 ?_
    refine fv_iload_n C d_M_halt_9 (n := 10) rfl (i := 1) rfl rfl ?_
    refine fv_iconst C d_M_halt_10 (n := 11) rfl kI_0 ?_
    refine fv_iconst C d_M_halt_11 (n := 12) rfl kI_0 ?_
    refine fv_iconst C d_M_halt_12 (n := 13) rfl kI_0 ?_
    refine fv_iload_n C d_M_halt_13 (n := 14) rfl (i := 2) rfl rfl ?_
    refine fv_ifB_eq C d_M_halt_14 (tgt := 21) rfl (n := 17) rfl (fun hc14 => ?_) (fun hc14 => ?_)
    · refine fv_iconst C d_M_halt_21 (n := 22) rfl kI_0 ?_
      refine fv_eq (st' := [.int (fv_b on), .int 0, .int (nI 0), .int 0, .int (nI k), .int (nI 4), .ref m0]) (by rw [hc14]; rfl) rfl ?_
      refine fv_callV_i C (ml_M_159 D dA) im_M_take se_M_take hM.1 rfl (ct_M_take (so := 4) (s := 0) (id := 0) (pr := 0) (v := fv_b on) hBs hM0 hI (by decide) (by omega)) d_M_halt_22 (n := 25) rfl rfl rfl rfl (Nat.le_of_ble_eq_true rfl) (Nat.le_of_ble_eq_true rfl) (Nat.le_of_ble_eq_true rfl) (Nat.le_refl _) (Nat.le_refl _) (fun r0 h1 hp => ?_)
      obtain ⟨rfl, q1, q2⟩ := hp
      refine fv_goto C d_M_halt_25 (tgt := 30) rfl ?_
      refine fv_iret C rfl d_M_halt_30 (Nat.le_refl _) (Nat.le_refl _) ?_
      first | exact ⟨_, rfl, rfl, by unfold sp_hltA; rw [if_neg hbad], by unfold sp_hltS; rw [if_neg hbad]; exact hM0, fs_rf _ _⟩ | exact ⟨_, rfl, rfl, by unfold sp_hltA; rw [if_pos hgood, hcl], by unfold sp_hltS; rw [if_pos hgood, hcl]; exact q1, q2⟩
    · refine fv_iconst C d_M_halt_17 (n := 18) rfl kI_1 ?_
      refine fv_goto C d_M_halt_18 (tgt := 22) rfl ?_
      refine fv_eq (st' := [.int (fv_b on), .int 0, .int (nI 0), .int 0, .int (nI k), .int (nI 4), .ref m0]) (by rw [hc14]; rfl) rfl ?_
      refine fv_callV_i C (ml_M_159 D dA) im_M_take se_M_take hM.1 rfl (ct_M_take (so := 4) (s := 0) (id := 0) (pr := 0) (v := fv_b on) hBs hM0 hI (by decide) (by omega)) d_M_halt_22 (n := 25) rfl rfl rfl rfl (Nat.le_of_ble_eq_true rfl) (Nat.le_of_ble_eq_true rfl) (Nat.le_of_ble_eq_true rfl) (Nat.le_refl _) (Nat.le_refl _) (fun r0 h1 hp => ?_)
      obtain ⟨rfl, q1, q2⟩ := hp
      refine fv_goto C d_M_halt_25 (tgt := 30) rfl ?_
      refine fv_iret C rfl d_M_halt_30 (Nat.le_refl _) (Nat.le_refl _) ?_
      first | exact ⟨_, rfl, rfl, by unfold sp_hltA; rw [if_neg hbad], by unfold sp_hltS; rw [if_neg hbad]; exact hM0, fs_rf _ _⟩ | exact ⟨_, rfl, rfl, by unfold sp_hltA; rw [if_pos hgood, hcl], by unfold sp_hltS; rw [if_pos hgood, hcl]; exact q1, q2⟩
theorem ct_M_add {i id s p v : Int32} (hBs : Bs ≤ m0) (hM0 : RM dA h m0 S) (hI : sp_I S) : fv_T l (fk D dA) Bs WA m_M_add [.ref m0, .int i, .int id, .int s, .int p, .int v] sz h 0 0 (fp_i sz (fun r0 h' => r0 = sp_addA S i id s p v ∧ RM dA h' m0 (sp_addS S i id s p v) ∧ fs h h' (MS m0))) := by
  have hM1 := hM0
  obtain ⟨F, bl, bh, hM, hR⟩ := hM1
  refine fv_of (L := [_, _, _, _, _, _, _]) (by decide +kernel) rfl (Nat.le_of_ble_eq_true rfl) rfl ?_
  intro X hX C
  subst hX
  have t51 : ∀ b6, b6 = (iv i 0 3 && iv id 1 1000000 && iv s 0 1 && iv v 1 1000000 && sp_pv p) → fv_V (fk D dA) Bs X 7 (fv_MQ (fk D dA) Bs X (fp_i sz (fun r0 h' => r0 = sp_addA S i id s p v ∧ RM dA h' m0 (sp_addS S i id s p v) ∧ fs h h' (MS m0))) 0 0) 51 [some (.ref m0), some (.int i), some (.int id), some (.int s), some (.int p), some (.int v), none] [.int (fv_b b6)] sz h 0 0 := by
    intro b6 e6
    refine fv_istore C d_M_add_51 (n := 53) rfl (by decide) (L' := [_, _, _, _, _, _, _]) rfl ?_
    refine fv_iload C d_M_add_53 (n := 55) rfl rfl ?_
    refine fv_ifB_eq C d_M_add_55 (tgt := 73) rfl (n := 58) rfl (fun hc55 => ?_) (fun hc55 => ?_)
    · have hbad : ¬ (iv i 0 3 && iv id 1 1000000 && iv s 0 1 && iv v 1 1000000 && sp_pv p) = true := by rw [← e6, hc55]; decide
      refine fv_bipush C d_M_add_73 (n := 75) rfl kB_m2 ?_
      refine fv_iret C rfl d_M_add_75 (Nat.le_refl _) (Nat.le_refl _) ?_
      first | exact ⟨_, rfl, rfl, by unfold sp_addA; rw [if_neg hbad], by unfold sp_addS; rw [if_neg hbad]; exact hM0, fs_rf _ _⟩ | exact ⟨_, rfl, rfl, by unfold sp_addA; rw [if_pos hgood, hcl], by unfold sp_addS; rw [if_pos hgood, hcl, hcs]; exact q1, q2⟩
    · have hgood : (iv i 0 3 && iv id 1 1000000 && iv s 0 1 && iv v 1 1000000 && sp_pv p) = true := by rw [← e6, hc55]
      have hg2 := hgood
      simp only [Bool.and_eq_true] at hg2
      obtain ⟨k, -, hk, rfl⟩ := iv_of (by decide) (by decide) hg2.1.1.1.1
      have hcl : (nI k).toNatClampNeg = k := nI_clamp (by omega)
      obtain ⟨s2, -, hs2, rfl⟩ := iv_of (by decide) (by decide) hg2.1.1.2
      have hcs : (nI s2).toNatClampNeg = s2 := nI_clamp (by omega)
      refine fv_aload_n C d_M_add_58 (n := 59) rfl (i := 0) rfl rfl ?_
      refine fv_iconst C d_M_add_59 (n := 60) rfl kI_0 ?_
      refine fv_iload_n C d_M_add_60 (n := 61) rfl (i := 1) rfl rfl ?_
      refine fv_iload_n C d_M_add_61 (n := 62) rfl (i := 2) rfl rfl ?_
      refine fv_iload_n C d_M_add_62 (n := 63) rfl (i := 3) rfl rfl ?_
      refine fv_iload C d_M_add_63 (n := 65) rfl rfl ?_
      refine fv_iload C d_M_add_65 (n := 67) rfl rfl ?_
      refine fv_callV_i C (ml_M_159 D dA) im_M_take se_M_take hM.1 rfl (ct_M_take (so := 0) (s := s2) (id := id) (pr := p) (v := v) hBs hM0 hI (by decide) (by omega)) d_M_add_67 (n := 70) rfl rfl rfl rfl (Nat.le_of_ble_eq_true rfl) (Nat.le_of_ble_eq_true rfl) (Nat.le_of_ble_eq_true rfl) (Nat.le_refl _) (Nat.le_refl _) (fun r0 h1 hp => ?_)
      obtain ⟨rfl, q1, q2⟩ := hp
      refine fv_goto C d_M_add_70 (tgt := 75) rfl ?_
      refine fv_iret C rfl d_M_add_75 (Nat.le_refl _) (Nat.le_refl _) ?_
      first | exact ⟨_, rfl, rfl, by unfold sp_addA; rw [if_neg hbad], by unfold sp_addS; rw [if_neg hbad]; exact hM0, fs_rf _ _⟩ | exact ⟨_, rfl, rfl, by unfold sp_addA; rw [if_pos hgood, hcl], by unfold sp_addS; rw [if_pos hgood, hcl, hcs]; exact q1, q2⟩
  refine fv_iload_n C d_M_add_0 (n := 1) rfl (i := 1) rfl rfl ?_
  refine fv_callS_r C (ml_M_151 D dA) sm_M_isInstrument ct_M_isInstrument d_M_add_1 (n := 4) rfl rfl rfl rfl (Nat.le_of_ble_eq_true rfl) (Nat.le_of_ble_eq_true rfl) (Nat.le_of_ble_eq_true rfl) (Nat.le_refl _) (Nat.le_refl _) ?_
  refine fv_ifB_eq C d_M_add_4 (tgt := 50) rfl (n := 7) rfl (fun hc4 => ?_) (fun hc4 => ?_)
  · have e6 : false = (iv i 0 3 && iv id 1 1000000 && iv s 0 1 && iv v 1 1000000 && sp_pv p) := by simp [hc4]
    refine fv_iconst C d_M_add_50 (n := 51) rfl kI_0 ?_
    exact t51 _ e6
  · refine fv_iload_n C d_M_add_7 (n := 8) rfl (i := 2) rfl rfl ?_
    refine fv_callS_r C (ml_M_155 D dA) sm_M_isId ct_M_isId d_M_add_8 (n := 11) rfl rfl rfl rfl (Nat.le_of_ble_eq_true rfl) (Nat.le_of_ble_eq_true rfl) (Nat.le_of_ble_eq_true rfl) (Nat.le_refl _) (Nat.le_refl _) ?_
    refine fv_ifB_eq C d_M_add_11 (tgt := 50) rfl (n := 14) rfl (fun hc11 => ?_) (fun hc11 => ?_)
    · have e6 : false = (iv i 0 3 && iv id 1 1000000 && iv s 0 1 && iv v 1 1000000 && sp_pv p) := by simp [hc11]
      refine fv_iconst C d_M_add_50 (n := 51) rfl kI_0 ?_
      exact t51 _ e6
    · refine fv_iload_n C d_M_add_14 (n := 15) rfl (i := 3) rfl rfl ?_
      refine fv_iconst C d_M_add_15 (n := 16) rfl kI_0 ?_
      refine fv_iconst C d_M_add_16 (n := 17) rfl kI_1 ?_
      refine fv_callS_r C (ml_M_101 D dA) sm_M_within ct_M_within d_M_add_17 (n := 20) rfl rfl rfl rfl (Nat.le_of_ble_eq_true rfl) (Nat.le_of_ble_eq_true rfl) (Nat.le_of_ble_eq_true rfl) (Nat.le_refl _) (Nat.le_refl _) ?_
      refine fv_ifB_eq C d_M_add_20 (tgt := 50) rfl (n := 23) rfl (fun hc20 => ?_) (fun hc20 => ?_)
      · have hs9 : iv s 0 1 = false := hc20
        have e6 : false = (iv i 0 3 && iv id 1 1000000 && iv s 0 1 && iv v 1 1000000 && sp_pv p) := by simp [hs9]
        refine fv_iconst C d_M_add_50 (n := 51) rfl kI_0 ?_
        exact t51 _ e6
      · have hs9 : iv s 0 1 = true := hc20
        refine fv_iload C d_M_add_23 (n := 25) rfl rfl ?_
        refine fv_ldc C d_M_add_25 (n := 27) rfl kc_M_158 ?_
        refine fv_ldc C d_M_add_27 (n := 29) rfl kc_M_105 ?_
        refine fv_callS_r C (ml_M_101 D dA) sm_M_within ct_M_within d_M_add_29 (n := 32) rfl rfl rfl rfl (Nat.le_of_ble_eq_true rfl) (Nat.le_of_ble_eq_true rfl) (Nat.le_of_ble_eq_true rfl) (Nat.le_refl _) (Nat.le_refl _) ?_
        refine fv_ifB_eq C d_M_add_32 (tgt := 50) rfl (n := 35) rfl (fun hc32 => ?_) (fun hc32 => ?_)
        · have hp9 : sp_pv p = false := hc32
          have e6 : false = (iv i 0 3 && iv id 1 1000000 && iv s 0 1 && iv v 1 1000000 && sp_pv p) := by simp [hp9]
          refine fv_iconst C d_M_add_50 (n := 51) rfl kI_0 ?_
          exact t51 _ e6
        · have hp9 : sp_pv p = true := hc32
          refine fv_iload C d_M_add_35 (n := 37) rfl rfl ?_
          refine fv_iconst C d_M_add_37 (n := 38) rfl kI_1 ?_
          refine fv_ldc C d_M_add_38 (n := 40) rfl kc_M_105 ?_
          rw [show ((1000000 : Int32)) = nI 1000000 from rfl]
          refine fv_callS_r C (ml_M_101 D dA) sm_M_within ct_M_within d_M_add_40 (n := 43) rfl rfl rfl rfl (Nat.le_of_ble_eq_true rfl) (Nat.le_of_ble_eq_true rfl) (Nat.le_of_ble_eq_true rfl) (Nat.le_refl _) (Nat.le_refl _) ?_
          refine fv_ifB_eq C d_M_add_43 (tgt := 50) rfl (n := 46) rfl (fun hc43 => ?_) (fun hc43 => ?_)
          · have hv9 : iv v 1 1000000 = false := hc43
            have e6 : false = (iv i 0 3 && iv id 1 1000000 && iv s 0 1 && iv v 1 1000000 && sp_pv p) := by simp [hv9]
            refine fv_iconst C d_M_add_50 (n := 51) rfl kI_0 ?_
            exact t51 _ e6
          · have hv9 : iv v 1 1000000 = true := hc43
            have e6 : true = (iv i 0 3 && iv id 1 1000000 && iv s 0 1 && iv v 1 1000000 && sp_pv p) := by simp [hc4, hc11, hs9, hp9, hv9]
            refine fv_iconst C d_M_add_46 (n := 47) rfl kI_1 ?_
            refine fv_goto C d_M_add_47 (tgt := 51) rfl ?_
            exact t51 _ e6
theorem MR.pub {F F' : Nat → Nat → Int32} {S : sp_T} (h : MR F S) (e9 : F' 9 = upd (F 9) (S.2.1.length + 2) (nI S.1.length)) (hk : ∀ k, k ≠ 9 → F' k = F k) : MR F' (S.1, S.2.1 ++ [S.1.length], S.2.2) := by
  obtain ⟨h1, h2, h3, h4, h5, h6⟩ := h
  refine ⟨fun e ev he => ?_, ?_, fun p hp => ?_, fun r hr => (h4 r hr).eq (fun k a b => hk k (by omega)) (hk 27 (by decide)) (hk 28 (by decide)), h5.eq (hk 24 (by decide)) (hk 25 (by decide)) (hk 26 (by decide)), fun r hr => (h6 r hr).eq (hk 29 (by decide)) (hk 30 (by decide))⟩
  · rw [hk 1 (by decide), hk 2 (by decide), hk 3 (by decide), hk 4 (by decide), hk 5 (by decide), hk 6 (by decide), hk 7 (by decide)]
    exact h1 e ev he
  · rw [hk 8 (by decide)]
    exact h2
  · have hp : p ≤ (S.2.1 ++ [S.1.length]).length := hp
    rw [List.length_append] at hp
    have hp : p ≤ S.2.1.length + 1 := hp
    show F' 9 (p + 1) = nI (fe_E (S.2.1 ++ [S.1.length]) p)
    rw [e9]
    unfold upd
    by_cases c : p = S.2.1.length + 1
    · rw [if_pos (by omega), c, fe_E_new]
    · rw [if_neg (by omega), fe_E_app (by omega)]
      exact h3 p (by omega)
theorem ct_M_publish (hBs : Bs ≤ m0) (hM0 : RM dA h m0 S) (hI : sp_I S) : fv_T l (fk D dA) Bs WA m_M_publish [.ref m0] sz h 0 0 (fp_i sz (fun r0 h' => r0 = nI (sp_pubA S) ∧ RM dA h' m0 (sp_pubS S) ∧ fs h h' (MS m0))) := by
  have hM1 := hM0
  obtain ⟨F, bl, bh, hM, hR⟩ := hM1
  have hF : fs h h (MS m0) := fs_rf _ _
  have hl4 := hI.2.1.1
  have hel := fe_ends_len hI.2.2.1
  have hmo := fe_ends_mono hI.2.2.1 _ (Nat.le_refl _)
  have h9 : F 9 (S.2.1.length + 1) = nI (fe_E S.2.1 S.2.1.length) := hR.2.2.1 _ (Nat.le_refl _)
  refine fv_of (L := [_]) (by decide +kernel) rfl (Nat.le_of_ble_eq_true rfl) rfl ?_
  intro X hX C
  subst hX
  refine fv_aload_n C d_M_publish_0 (n := 1) rfl (i := 0) rfl rfl ?_
  refine fv_get C (fl_M_122 D dA) d_M_publish_1 (n := 4) rfl hM.1 rfl ?_
  refine fv_aload_n C d_M_publish_4 (n := 5) rfl (i := 0) rfl rfl ?_
  refine fv_get C (fl_M_34 D dA) d_M_publish_5 (n := 8) rfl hM.1 rfl ?_
  refine fv_aload_n C d_M_publish_8 (n := 9) rfl (i := 0) rfl rfl ?_
  refine fv_get C (fl_M_148 D dA) d_M_publish_9 (n := 12) rfl hM.1 rfl ?_
  refine fv_iconst C d_M_publish_12 (n := 13) rfl kI_1 ?_
  first | refine fv_iaddN C d_M_publish_13 (n := 14) rfl ?_ | refine fv_iadd C d_M_publish_13 (n := 14) rfl ?_
  refine fv_ialdN C (t0 := 0) rfl d_M_publish_14 (n := 15) rfl (mc_9 hM) (by omega) (by decide) ?_
  rw [h9]
  refine fv_icmpN_ne C (by omega) (by omega) d_M_publish_15 (tgt := 20) rfl (n := 18) rfl (fun hc15 => ?_) (fun hc15 => ?_)
  · refine fv_aload_n C d_M_publish_20 (n := 21) rfl (i := 0) rfl rfl ?_
    refine fv_dup C d_M_publish_21 (n := 22) rfl rfl ?_
    refine fv_get C (fl_M_148 D dA) d_M_publish_22 (n := 25) rfl hM.1 rfl ?_
    refine fv_iconst C d_M_publish_25 (n := 26) rfl kI_1 ?_
    first | refine fv_iaddN C d_M_publish_26 (n := 27) rfl ?_ | refine fv_iadd C d_M_publish_26 (n := 27) rfl ?_
    refine mc_ppk C (fl_M_148 D dA) d_M_publish_27 (n := 30) rfl hM hBs (fun h1 hM f1 => ?_)
    have hF := hF.tr f1 (U := MS m0) (fun x hx => hx) (fun x hx => hx)
    refine fv_aload_n C d_M_publish_30 (n := 31) rfl (i := 0) rfl rfl ?_
    refine fv_get C (fl_M_34 D dA) d_M_publish_31 (n := 34) rfl hM.1 rfl ?_
    refine fv_aload_n C d_M_publish_34 (n := 35) rfl (i := 0) rfl rfl ?_
    refine fv_get C (fl_M_148 D dA) d_M_publish_35 (n := 38) rfl hM.1 rfl ?_
    refine fv_iconst C d_M_publish_38 (n := 39) rfl kI_1 ?_
    first | refine fv_iaddN C d_M_publish_39 (n := 40) rfl ?_ | refine fv_iadd C d_M_publish_39 (n := 40) rfl ?_
    refine fv_aload_n C d_M_publish_40 (n := 41) rfl (i := 0) rfl rfl ?_
    refine fv_get C (fl_M_122 D dA) d_M_publish_41 (n := 44) rfl hM.1 rfl ?_
    refine mc_ia C 9 (by decide) (by decide) rfl d_M_publish_44 (n := 45) rfl hM hBs (by decide) (show _ < 402 by omega) (fun h1 F1 hM g1 g2 f1 => ?_)
    have hF := hF.tr f1 (U := MS m0) (fun x hx => hx) (fun x hx => hx)
    refine fv_aload_n C d_M_publish_45 (n := 46) rfl (i := 0) rfl rfl ?_
    refine fv_get C (fl_M_148 D dA) d_M_publish_46 (n := 49) rfl hM.1 rfl ?_
    refine fv_iret C rfl d_M_publish_49 (Nat.le_refl _) (Nat.le_refl _) ?_
    refine ⟨_, rfl, rfl, by unfold sp_pubA; rw [if_neg hc15], ?_, hF⟩
    unfold sp_pubS
    rw [if_neg hc15]
    refine ⟨F1, bl, bh, ?_, hR.pub g1 g2⟩
    show MC dA h1 m0 S.1.length (S.2.1 ++ [S.1.length]).length bl bh _ F1
    rw [List.length_append]
    exact hM
  · refine fv_iconst C d_M_publish_18 (n := 19) rfl kI_0 ?_
    refine fv_iret C rfl d_M_publish_19 (Nat.le_refl _) (Nat.le_refl _) ?_
    exact ⟨_, rfl, rfl, by unfold sp_pubA; rw [if_pos hc15], by unfold sp_pubS; rw [if_pos hc15]; exact hM0, fs_rf _ _⟩
theorem ct_M_byteOf {x i : Int32} : fv_T l (fk D dA) Bs WA m_M_byteOf [.int x, .int i] sz h 0 0 (fp_r (.int (ev_by x i)) sz h) := by
  refine fv_of (L := [_, _]) (by decide +kernel) rfl (Nat.le_of_ble_eq_true rfl) rfl ?_
  intro X hX C
  subst hX
  refine fv_iload_n C d_M_byteOf_0 (n := 1) rfl (i := 0) rfl rfl ?_
  refine fv_bipush C d_M_byteOf_1 (n := 3) rfl kB_24 ?_
  refine fv_bipush C d_M_byteOf_3 (n := 5) rfl kB_8 ?_
  refine fv_iload_n C d_M_byteOf_5 (n := 6) rfl (i := 1) rfl rfl ?_
  refine fv_imul C d_M_byteOf_6 (n := 7) rfl ?_
  refine fv_isub C d_M_byteOf_7 (n := 8) rfl ?_
  refine fv_iushr C d_M_byteOf_8 (n := 9) rfl rfl ?_
  refine fv_sipush C d_M_byteOf_9 (n := 12) rfl kS_255 ?_
  refine fv_iand C d_M_byteOf_12 (n := 13) rfl ?_
  refine fv_iret C rfl d_M_byteOf_13 (Nat.le_refl _) (Nat.le_refl _) ?_
  exact ⟨rfl, rfl, rfl⟩
theorem ct_M_eventByte {ev pk bl sh : Nat} {bh : Bool} {F : Nat → Nat → Int32} {E0 : bo_E} {e j : Nat} (hM : MC dA h m0 ev pk bl bh sh F) (he : e < 400) (hj : j < 19) (hE : F 1 e = nI E0.1 ∧ F 2 e = nI E0.2.1 ∧ F 3 e = nI E0.2.2.1 ∧ F 4 e = E0.2.2.2.1 ∧ F 5 e = nI E0.2.2.2.2.1 ∧ F 6 e = E0.2.2.2.2.2.1 ∧ F 7 e = E0.2.2.2.2.2.2) : fv_T l (fk D dA) Bs WA m_M_eventByte [.ref m0, .int (nI e), .int (nI j)] sz h 0 0 (fp_r (.int (ev_bt E0 j)) sz h) := by
  obtain ⟨l1, l2, l3, l4, l5, l6, l7⟩ := hE
  refine fv_of (L := [_, _, _]) (by decide +kernel) rfl (Nat.le_of_ble_eq_true rfl) rfl ?_
  intro X hX C
  subst hX
  refine fv_iload_n C d_M_eventByte_0 (n := 1) rfl (i := 2) rfl rfl ?_
  refine fv_ifN_ne C (by omega) d_M_eventByte_1 (tgt := 11) rfl (n := 4) rfl (fun hc1 => ?_) (fun hc1 => ?_)
  · refine fv_iload_n C d_M_eventByte_11 (n := 12) rfl (i := 2) rfl rfl ?_
    refine fv_iconst C d_M_eventByte_12 (n := 13) rfl kI_1 ?_
    refine fv_icmpN_ne C (by omega) (by omega) d_M_eventByte_13 (tgt := 23) rfl (n := 16) rfl (fun hc13 => ?_) (fun hc13 => ?_)
    · refine fv_iload_n C d_M_eventByte_23 (n := 24) rfl (i := 2) rfl rfl ?_
      refine fv_bipush C d_M_eventByte_24 (n := 26) rfl kB_6 ?_
      refine fv_icmpN_ge C (by omega) (by omega) d_M_eventByte_26 (tgt := 42) rfl (n := 29) rfl (fun hc26 => ?_) (fun hc26 => ?_)
      · refine fv_iload_n C d_M_eventByte_42 (n := 43) rfl (i := 2) rfl rfl ?_
        refine fv_bipush C d_M_eventByte_43 (n := 45) rfl kB_10 ?_
        refine fv_icmpN_ge C (by omega) (by omega) d_M_eventByte_45 (tgt := 62) rfl (n := 48) rfl (fun hc45 => ?_) (fun hc45 => ?_)
        · refine fv_iload_n C d_M_eventByte_62 (n := 63) rfl (i := 2) rfl rfl ?_
          refine fv_bipush C d_M_eventByte_63 (n := 65) rfl kB_10 ?_
          refine fv_icmpN_ne C (by omega) (by omega) d_M_eventByte_65 (tgt := 75) rfl (n := 68) rfl (fun hc65 => ?_) (fun hc65 => ?_)
          · refine fv_iload_n C d_M_eventByte_75 (n := 76) rfl (i := 2) rfl rfl ?_
            refine fv_bipush C d_M_eventByte_76 (n := 78) rfl kB_15 ?_
            refine fv_icmpN_ge C (by omega) (by omega) d_M_eventByte_78 (tgt := 97) rfl (n := 81) rfl (fun hc78 => ?_) (fun hc78 => ?_)
            · refine fv_aload_n C d_M_eventByte_97 (n := 98) rfl (i := 0) rfl rfl ?_
              refine fv_get C (fl_M_28 D dA) d_M_eventByte_98 (n := 101) rfl hM.1 rfl ?_
              refine fv_iload_n C d_M_eventByte_101 (n := 102) rfl (i := 1) rfl rfl ?_
              refine fv_ialdN C (t0 := 0) rfl d_M_eventByte_102 (n := 103) rfl (mc_7 hM) (by omega) (by decide) ?_
              rw [l7]
              refine fv_iload_n C d_M_eventByte_103 (n := 104) rfl (i := 2) rfl rfl ?_
              refine fv_bipush C d_M_eventByte_104 (n := 106) rfl kB_15 ?_
              refine fv_isubN C (by omega) d_M_eventByte_106 (n := 107) rfl ?_
              refine fv_callS_r C (ml_M_163 D dA) sm_M_byteOf ct_M_byteOf d_M_eventByte_107 (n := 110) rfl rfl rfl rfl (Nat.le_of_ble_eq_true rfl) (Nat.le_of_ble_eq_true rfl) (Nat.le_of_ble_eq_true rfl) (Nat.le_refl _) (Nat.le_refl _) ?_
              refine fv_iret C rfl d_M_eventByte_110 (Nat.le_refl _) (Nat.le_refl _) ?_
              unfold ev_bt
              first | rw [if_neg (by omega), if_neg (by omega), if_neg (by omega), if_neg (by omega), if_neg (by omega), if_pos (by omega)] | rw [if_neg (by omega), if_neg (by omega), if_neg (by omega), if_neg (by omega), if_neg (by omega), if_neg (by omega)]
              exact ⟨rfl, rfl, rfl⟩
            · refine fv_aload_n C d_M_eventByte_81 (n := 82) rfl (i := 0) rfl rfl ?_
              refine fv_get C (fl_M_25 D dA) d_M_eventByte_82 (n := 85) rfl hM.1 rfl ?_
              refine fv_iload_n C d_M_eventByte_85 (n := 86) rfl (i := 1) rfl rfl ?_
              refine fv_ialdN C (t0 := 0) rfl d_M_eventByte_86 (n := 87) rfl (mc_6 hM) (by omega) (by decide) ?_
              rw [l6]
              refine fv_iload_n C d_M_eventByte_87 (n := 88) rfl (i := 2) rfl rfl ?_
              refine fv_bipush C d_M_eventByte_88 (n := 90) rfl kB_11 ?_
              refine fv_isubN C (by omega) d_M_eventByte_90 (n := 91) rfl ?_
              refine fv_callS_r C (ml_M_163 D dA) sm_M_byteOf ct_M_byteOf d_M_eventByte_91 (n := 94) rfl rfl rfl rfl (Nat.le_of_ble_eq_true rfl) (Nat.le_of_ble_eq_true rfl) (Nat.le_of_ble_eq_true rfl) (Nat.le_refl _) (Nat.le_refl _) ?_
              refine fv_goto C d_M_eventByte_94 (tgt := 110) rfl ?_
              refine fv_iret C rfl d_M_eventByte_110 (Nat.le_refl _) (Nat.le_refl _) ?_
              unfold ev_bt
              first | rw [if_neg (by omega), if_neg (by omega), if_neg (by omega), if_neg (by omega), if_neg (by omega), if_pos (by omega)] | rw [if_neg (by omega), if_neg (by omega), if_neg (by omega), if_neg (by omega), if_neg (by omega), if_neg (by omega)]
              exact ⟨rfl, rfl, rfl⟩
          · refine fv_aload_n C d_M_eventByte_68 (n := 69) rfl (i := 0) rfl rfl ?_
            refine fv_get C (fl_M_22 D dA) d_M_eventByte_69 (n := 72) rfl hM.1 rfl ?_
            refine fv_iload_n C d_M_eventByte_72 (n := 73) rfl (i := 1) rfl rfl ?_
            refine fv_ialdN C (t0 := 0) rfl d_M_eventByte_73 (n := 74) rfl (mc_5 hM) (by omega) (by decide) ?_
            rw [l5]
            refine fv_iret C rfl d_M_eventByte_74 (Nat.le_refl _) (Nat.le_refl _) ?_
            unfold ev_bt
            rw [if_neg (by omega), if_neg (by omega), if_neg (by omega), if_neg (by omega), if_pos (by omega)]
            exact ⟨rfl, rfl, rfl⟩
        · refine fv_aload_n C d_M_eventByte_48 (n := 49) rfl (i := 0) rfl rfl ?_
          refine fv_get C (fl_M_19 D dA) d_M_eventByte_49 (n := 52) rfl hM.1 rfl ?_
          refine fv_iload_n C d_M_eventByte_52 (n := 53) rfl (i := 1) rfl rfl ?_
          refine fv_ialdN C (t0 := 0) rfl d_M_eventByte_53 (n := 54) rfl (mc_4 hM) (by omega) (by decide) ?_
          rw [l4]
          refine fv_iload_n C d_M_eventByte_54 (n := 55) rfl (i := 2) rfl rfl ?_
          refine fv_bipush C d_M_eventByte_55 (n := 57) rfl kB_6 ?_
          refine fv_isubN C (by omega) d_M_eventByte_57 (n := 58) rfl ?_
          refine fv_callS_r C (ml_M_163 D dA) sm_M_byteOf ct_M_byteOf d_M_eventByte_58 (n := 61) rfl rfl rfl rfl (Nat.le_of_ble_eq_true rfl) (Nat.le_of_ble_eq_true rfl) (Nat.le_of_ble_eq_true rfl) (Nat.le_refl _) (Nat.le_refl _) ?_
          refine fv_iret C rfl d_M_eventByte_61 (Nat.le_refl _) (Nat.le_refl _) ?_
          unfold ev_bt
          rw [if_neg (by omega), if_neg (by omega), if_neg (by omega), if_pos (by omega)]
          exact ⟨rfl, rfl, rfl⟩
      · refine fv_aload_n C d_M_eventByte_29 (n := 30) rfl (i := 0) rfl rfl ?_
        refine fv_get C (fl_M_16 D dA) d_M_eventByte_30 (n := 33) rfl hM.1 rfl ?_
        refine fv_iload_n C d_M_eventByte_33 (n := 34) rfl (i := 1) rfl rfl ?_
        refine fv_ialdN C (t0 := 0) rfl d_M_eventByte_34 (n := 35) rfl (mc_3 hM) (by omega) (by decide) ?_
        rw [l3]
        refine fv_iload_n C d_M_eventByte_35 (n := 36) rfl (i := 2) rfl rfl ?_
        refine fv_iconst C d_M_eventByte_36 (n := 37) rfl kI_2 ?_
        refine fv_isubN C (by omega) d_M_eventByte_37 (n := 38) rfl ?_
        refine fv_callS_r C (ml_M_163 D dA) sm_M_byteOf ct_M_byteOf d_M_eventByte_38 (n := 41) rfl rfl rfl rfl (Nat.le_of_ble_eq_true rfl) (Nat.le_of_ble_eq_true rfl) (Nat.le_of_ble_eq_true rfl) (Nat.le_refl _) (Nat.le_refl _) ?_
        refine fv_iret C rfl d_M_eventByte_41 (Nat.le_refl _) (Nat.le_refl _) ?_
        unfold ev_bt
        rw [if_neg (by omega), if_neg (by omega), if_pos (by omega)]
        exact ⟨rfl, rfl, rfl⟩
    · refine fv_aload_n C d_M_eventByte_16 (n := 17) rfl (i := 0) rfl rfl ?_
      refine fv_get C (fl_M_13 D dA) d_M_eventByte_17 (n := 20) rfl hM.1 rfl ?_
      refine fv_iload_n C d_M_eventByte_20 (n := 21) rfl (i := 1) rfl rfl ?_
      refine fv_ialdN C (t0 := 0) rfl d_M_eventByte_21 (n := 22) rfl (mc_2 hM) (by omega) (by decide) ?_
      rw [l2]
      refine fv_iret C rfl d_M_eventByte_22 (Nat.le_refl _) (Nat.le_refl _) ?_
      unfold ev_bt
      rw [if_neg (by omega), if_pos (by omega)]
      exact ⟨rfl, rfl, rfl⟩
  · refine fv_aload_n C d_M_eventByte_4 (n := 5) rfl (i := 0) rfl rfl ?_
    refine fv_get C (fl_M_7 D dA) d_M_eventByte_5 (n := 8) rfl hM.1 rfl ?_
    refine fv_iload_n C d_M_eventByte_8 (n := 9) rfl (i := 1) rfl rfl ?_
    refine fv_ialdN C (t0 := 0) rfl d_M_eventByte_9 (n := 10) rfl (mc_1 hM) (by omega) (by decide) ?_
    rw [l1]
    refine fv_iret C rfl d_M_eventByte_10 (Nat.le_refl _) (Nat.le_refl _) ?_
    unfold ev_bt
    rw [if_pos (by omega)]
    exact ⟨rfl, rfl, rfl⟩
theorem ct_M_packetByte {x y : Int32} (hM0 : RM dA h m0 S) (hI : sp_I S) : fv_T l (fk D dA) Bs WA m_M_packetByte [.ref m0, .int x, .int y] sz h 0 0 (fp_r (.int (fe_pb S.1 S.2.1 x y)) sz h) := by
  obtain ⟨F, bl, bh, hM, hR⟩ := hM0
  have hl4 := hI.2.1.1
  have hel := fe_ends_len hI.2.2.1
  have hmo := fe_ends_mono hI.2.2.1
  refine fv_of (L := [_, _, _, _]) (by decide +kernel) rfl (Nat.le_of_ble_eq_true rfl) rfl ?_
  intro X hX C
  subst hX
  by_cases hcx : fe_cl x S.2.1.length = true
  · by_cases hy : y < 0
    · obtain ⟨p, hp1, hp2, rfl⟩ := fe_cl_of (by omega) hcx
      have m1 := hmo (p - 1) (by omega)
      have m2 := hmo p hp2
      have m4 := hI.2.2.1.1 (p - 1) (by omega)
      rw [Nat.sub_add_cancel hp1] at m4
      have h9 : F 9 (p + 1) = nI (fe_E S.2.1 p) := hR.2.2.1 p hp2
      have h8 : F 9 p = nI (fe_E S.2.1 (p - 1)) := by have := hR.2.2.1 (p - 1) (by omega); rw [Nat.sub_add_cancel hp1] at this; exact this
      refine fv_iload_n C d_M_packetByte_0 (n := 1) rfl (i := 1) rfl rfl ?_
      refine fv_iconst C d_M_packetByte_1 (n := 2) rfl kI_1 ?_
      refine fv_aload_n C d_M_packetByte_2 (n := 3) rfl (i := 0) rfl rfl ?_
      refine fv_get C (fl_M_148 D dA) d_M_packetByte_3 (n := 6) rfl hM.1 rfl ?_
      refine fv_callS_r C (ml_M_101 D dA) sm_M_within ct_M_within d_M_packetByte_6 (n := 9) rfl rfl rfl rfl (Nat.le_of_ble_eq_true rfl) (Nat.le_of_ble_eq_true rfl) (Nat.le_of_ble_eq_true rfl) (Nat.le_refl _) (Nat.le_refl _) ?_
      refine fv_ifB_ne C d_M_packetByte_9 (tgt := 14) rfl (n := 12) rfl (fun hc9 => ?_) (fun hc9 => ?_)
      · refine fv_aload_n C d_M_packetByte_14 (n := 15) rfl (i := 0) rfl rfl ?_
        refine fv_get C (fl_M_34 D dA) d_M_packetByte_15 (n := 18) rfl hM.1 rfl ?_
        refine fv_iload_n C d_M_packetByte_18 (n := 19) rfl (i := 1) rfl rfl ?_
        refine fv_iconst C d_M_packetByte_19 (n := 20) rfl kI_1 ?_
        first | refine fv_iaddN C d_M_packetByte_20 (n := 21) rfl ?_ | refine fv_iadd C d_M_packetByte_20 (n := 21) rfl ?_
        refine fv_ialdN C (t0 := 0) rfl d_M_packetByte_21 (n := 22) rfl (mc_9 hM) (by omega) (by decide) ?_
        rw [h9]
        refine fv_aload_n C d_M_packetByte_22 (n := 23) rfl (i := 0) rfl rfl ?_
        refine fv_get C (fl_M_34 D dA) d_M_packetByte_23 (n := 26) rfl hM.1 rfl ?_
        refine fv_iload_n C d_M_packetByte_26 (n := 27) rfl (i := 1) rfl rfl ?_
        refine fv_ialdN C (t0 := 0) rfl d_M_packetByte_27 (n := 28) rfl (mc_9 hM) (by omega) (by decide) ?_
        rw [h8]
        refine fv_isubN C (by omega) d_M_packetByte_28 (n := 29) rfl ?_
        refine fv_istore_n C d_M_packetByte_29 (n := 30) rfl (i := 3) rfl (by decide) (L' := [_, _, _, _]) rfl ?_
        refine fv_iload_n C d_M_packetByte_30 (n := 31) rfl (i := 2) rfl rfl ?_
        refine fv_if_lt C d_M_packetByte_31 (tgt := 44) rfl (n := 34) rfl (fun hc31 => ?_) (fun hc31 => ?_)
        · refine fv_iconst C d_M_packetByte_44 (n := 45) rfl kI_m1 ?_
          refine fv_iret C rfl d_M_packetByte_45 (Nat.le_refl _) (Nat.le_refl _) ?_
          unfold fe_pb
          rw [if_neg (fun q => q.2 hy)]
          exact ⟨rfl, rfl, rfl⟩
        · exact absurd hy hc31
      · exact absurd hcx (by unfold fe_cl; rw [hc9]; decide)
    · obtain ⟨p, hp1, hp2, rfl⟩ := fe_cl_of (by omega) hcx
      obtain ⟨j, hj, rfl⟩ := nI_of hy
      have m1 := hmo (p - 1) (by omega)
      have m2 := hmo p hp2
      have m4 := hI.2.2.1.1 (p - 1) (by omega)
      rw [Nat.sub_add_cancel hp1] at m4
      have h9 : F 9 (p + 1) = nI (fe_E S.2.1 p) := hR.2.2.1 p hp2
      have h8 : F 9 p = nI (fe_E S.2.1 (p - 1)) := by have := hR.2.2.1 (p - 1) (by omega); rw [Nat.sub_add_cancel hp1] at this; exact this
      have hpb : fe_pb S.1 S.2.1 (nI p) (nI j) = if j < 4 then ev_by (nI p) (nI j) else if j < 5 then nI (fe_E S.2.1 p - fe_E S.2.1 (p - 1)) else if fe_E S.2.1 (p - 1) + (j - 5) / 19 < fe_E S.2.1 p then ev_bt (S.1.getD (fe_E S.2.1 (p - 1) + (j - 5) / 19) bo_e0) ((j - 5) % 19) else -1 := by
        unfold fe_pb
        rw [if_pos ⟨hcx, hy⟩, nI_clamp hj, nI_clamp (show p < 2 ^ 31 by omega)]
      rw [hpb]
      refine fv_iload_n C d_M_packetByte_0 (n := 1) rfl (i := 1) rfl rfl ?_
      refine fv_iconst C d_M_packetByte_1 (n := 2) rfl kI_1 ?_
      refine fv_aload_n C d_M_packetByte_2 (n := 3) rfl (i := 0) rfl rfl ?_
      refine fv_get C (fl_M_148 D dA) d_M_packetByte_3 (n := 6) rfl hM.1 rfl ?_
      refine fv_callS_r C (ml_M_101 D dA) sm_M_within ct_M_within d_M_packetByte_6 (n := 9) rfl rfl rfl rfl (Nat.le_of_ble_eq_true rfl) (Nat.le_of_ble_eq_true rfl) (Nat.le_of_ble_eq_true rfl) (Nat.le_refl _) (Nat.le_refl _) ?_
      refine fv_ifB_ne C d_M_packetByte_9 (tgt := 14) rfl (n := 12) rfl (fun hc9 => ?_) (fun hc9 => ?_)
      · refine fv_aload_n C d_M_packetByte_14 (n := 15) rfl (i := 0) rfl rfl ?_
        refine fv_get C (fl_M_34 D dA) d_M_packetByte_15 (n := 18) rfl hM.1 rfl ?_
        refine fv_iload_n C d_M_packetByte_18 (n := 19) rfl (i := 1) rfl rfl ?_
        refine fv_iconst C d_M_packetByte_19 (n := 20) rfl kI_1 ?_
        first | refine fv_iaddN C d_M_packetByte_20 (n := 21) rfl ?_ | refine fv_iadd C d_M_packetByte_20 (n := 21) rfl ?_
        refine fv_ialdN C (t0 := 0) rfl d_M_packetByte_21 (n := 22) rfl (mc_9 hM) (by omega) (by decide) ?_
        rw [h9]
        refine fv_aload_n C d_M_packetByte_22 (n := 23) rfl (i := 0) rfl rfl ?_
        refine fv_get C (fl_M_34 D dA) d_M_packetByte_23 (n := 26) rfl hM.1 rfl ?_
        refine fv_iload_n C d_M_packetByte_26 (n := 27) rfl (i := 1) rfl rfl ?_
        refine fv_ialdN C (t0 := 0) rfl d_M_packetByte_27 (n := 28) rfl (mc_9 hM) (by omega) (by decide) ?_
        rw [h8]
        refine fv_isubN C (by omega) d_M_packetByte_28 (n := 29) rfl ?_
        refine fv_istore_n C d_M_packetByte_29 (n := 30) rfl (i := 3) rfl (by decide) (L' := [_, _, _, _]) rfl ?_
        refine fv_iload_n C d_M_packetByte_30 (n := 31) rfl (i := 2) rfl rfl ?_
        refine fv_ifN_lt C (by omega) d_M_packetByte_31 (tgt := 44) rfl (n := 34) rfl ?_
        refine fv_iload_n C d_M_packetByte_34 (n := 35) rfl (i := 2) rfl rfl ?_
        refine fv_iconst C d_M_packetByte_35 (n := 36) rfl kI_5 ?_
        refine fv_bipush C d_M_packetByte_36 (n := 38) rfl kB_19 ?_
        refine fv_iload_n C d_M_packetByte_38 (n := 39) rfl (i := 3) rfl rfl ?_
        first | refine fv_imulN C d_M_packetByte_39 (n := 40) rfl ?_ | refine fv_imul C d_M_packetByte_39 (n := 40) rfl ?_
        first | refine fv_iaddN C d_M_packetByte_40 (n := 41) rfl ?_ | refine fv_iadd C d_M_packetByte_40 (n := 41) rfl ?_
        refine fv_icmpN_lt C (by omega) (by omega) d_M_packetByte_41 (tgt := 46) rfl (n := 44) rfl (fun hc41 => ?_) (fun hc41 => ?_)
        · refine fv_iload_n C d_M_packetByte_46 (n := 47) rfl (i := 2) rfl rfl ?_
          refine fv_iconst C d_M_packetByte_47 (n := 48) rfl kI_4 ?_
          refine fv_icmpN_ge C (by omega) (by omega) d_M_packetByte_48 (tgt := 57) rfl (n := 51) rfl (fun hc48 => ?_) (fun hc48 => ?_)
          · refine fv_iload_n C d_M_packetByte_57 (n := 58) rfl (i := 2) rfl rfl ?_
            refine fv_iconst C d_M_packetByte_58 (n := 59) rfl kI_4 ?_
            refine fv_icmpN_ne C (by omega) (by omega) d_M_packetByte_59 (tgt := 66) rfl (n := 62) rfl (fun hc59 => ?_) (fun hc59 => ?_)
            · obtain ⟨ev, hevn⟩ : ∃ ev, S.1[fe_E S.2.1 (p - 1) + (j - 5) / 19]? = some ev := ⟨_, List.getElem?_eq_getElem (by omega)⟩
              have hgd : S.1.getD (fe_E S.2.1 (p - 1) + (j - 5) / 19) bo_e0 = ev := by rw [List.getD_eq_getElem?_getD, hevn]; rfl
              refine fv_aload_n C d_M_packetByte_66 (n := 67) rfl (i := 0) rfl rfl ?_
              refine fv_aload_n C d_M_packetByte_67 (n := 68) rfl (i := 0) rfl rfl ?_
              refine fv_get C (fl_M_34 D dA) d_M_packetByte_68 (n := 71) rfl hM.1 rfl ?_
              refine fv_iload_n C d_M_packetByte_71 (n := 72) rfl (i := 1) rfl rfl ?_
              refine fv_ialdN C (t0 := 0) rfl d_M_packetByte_72 (n := 73) rfl (mc_9 hM) (by omega) (by decide) ?_
              rw [h8]
              refine fv_iload_n C d_M_packetByte_73 (n := 74) rfl (i := 2) rfl rfl ?_
              refine fv_iconst C d_M_packetByte_74 (n := 75) rfl kI_5 ?_
              refine fv_isubN C (by omega) d_M_packetByte_75 (n := 76) rfl ?_
              refine fv_bipush C d_M_packetByte_76 (n := 78) rfl kB_19 ?_
              refine fv_idivN C (by omega) (by omega) (by omega) d_M_packetByte_78 (n := 79) rfl ?_
              first | refine fv_iaddN C d_M_packetByte_79 (n := 80) rfl ?_ | refine fv_iadd C d_M_packetByte_79 (n := 80) rfl ?_
              refine fv_iload_n C d_M_packetByte_80 (n := 81) rfl (i := 2) rfl rfl ?_
              refine fv_iconst C d_M_packetByte_81 (n := 82) rfl kI_5 ?_
              refine fv_isubN C (by omega) d_M_packetByte_82 (n := 83) rfl ?_
              refine fv_bipush C d_M_packetByte_83 (n := 85) rfl kB_19 ?_
              refine fv_iremN C (by omega) (by omega) (by omega) d_M_packetByte_85 (n := 86) rfl ?_
              refine fv_callV_r C (ml_M_166 D dA) im_M_eventByte se_M_eventByte hM.1 rfl (ct_M_eventByte hM (by omega) (by omega) (hR.1 _ ev hevn)) d_M_packetByte_86 (n := 89) rfl rfl rfl rfl (Nat.le_of_ble_eq_true rfl) (Nat.le_of_ble_eq_true rfl) (Nat.le_of_ble_eq_true rfl) (Nat.le_refl _) (Nat.le_refl _) ?_
              refine fv_iret C rfl d_M_packetByte_89 (Nat.le_refl _) (Nat.le_refl _) ?_
              first | (rw [if_neg (by omega), if_pos (by omega)]; exact ⟨rfl, rfl, rfl⟩) | (rw [if_neg (by omega), if_neg (by omega), if_pos (by omega), hgd]; exact ⟨rfl, rfl, rfl⟩)
            · refine fv_iload_n C d_M_packetByte_62 (n := 63) rfl (i := 3) rfl rfl ?_
              refine fv_goto C d_M_packetByte_63 (tgt := 89) rfl ?_
              refine fv_iret C rfl d_M_packetByte_89 (Nat.le_refl _) (Nat.le_refl _) ?_
              first | (rw [if_neg (by omega), if_pos (by omega)]; exact ⟨rfl, rfl, rfl⟩) | (rw [if_neg (by omega), if_neg (by omega), if_pos (by omega), hgd]; exact ⟨rfl, rfl, rfl⟩)
          · refine fv_iload_n C d_M_packetByte_51 (n := 52) rfl (i := 1) rfl rfl ?_
            refine fv_iload_n C d_M_packetByte_52 (n := 53) rfl (i := 2) rfl rfl ?_
            refine fv_callS_r C (ml_M_163 D dA) sm_M_byteOf ct_M_byteOf d_M_packetByte_53 (n := 56) rfl rfl rfl rfl (Nat.le_of_ble_eq_true rfl) (Nat.le_of_ble_eq_true rfl) (Nat.le_of_ble_eq_true rfl) (Nat.le_refl _) (Nat.le_refl _) ?_
            refine fv_iret C rfl d_M_packetByte_56 (Nat.le_refl _) (Nat.le_refl _) ?_
            rw [if_pos (by omega)]
            exact ⟨rfl, rfl, rfl⟩
        · refine fv_iconst C d_M_packetByte_44 (n := 45) rfl kI_m1 ?_
          refine fv_iret C rfl d_M_packetByte_45 (Nat.le_refl _) (Nat.le_refl _) ?_
          rw [if_neg (by omega), if_neg (by omega), if_neg (by omega)]
          exact ⟨rfl, rfl, rfl⟩
      · exact absurd hcx (by unfold fe_cl; rw [hc9]; decide)
  · skip
    refine fv_iload_n C d_M_packetByte_0 (n := 1) rfl (i := 1) rfl rfl ?_
    refine fv_iconst C d_M_packetByte_1 (n := 2) rfl kI_1 ?_
    refine fv_aload_n C d_M_packetByte_2 (n := 3) rfl (i := 0) rfl rfl ?_
    refine fv_get C (fl_M_148 D dA) d_M_packetByte_3 (n := 6) rfl hM.1 rfl ?_
    refine fv_callS_r C (ml_M_101 D dA) sm_M_within ct_M_within d_M_packetByte_6 (n := 9) rfl rfl rfl rfl (Nat.le_of_ble_eq_true rfl) (Nat.le_of_ble_eq_true rfl) (Nat.le_of_ble_eq_true rfl) (Nat.le_refl _) (Nat.le_refl _) ?_
    refine fv_ifB_ne C d_M_packetByte_9 (tgt := 14) rfl (n := 12) rfl (fun hc9 => ?_) (fun hc9 => ?_)
    · exact absurd hc9 hcx
    · refine fv_iconst C d_M_packetByte_12 (n := 13) rfl kI_m1 ?_
      refine fv_iret C rfl d_M_packetByte_13 (Nat.le_refl _) (Nat.le_refl _) ?_
      unfold fe_pb
      rw [if_neg (fun q => hcx q.1)]
      exact ⟨rfl, rfl, rfl⟩
end MD5
