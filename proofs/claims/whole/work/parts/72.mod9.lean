/-! FeedDeskModel: what is read off -/
theorem kB_23 : (Int8.ofInt 23).toInt32 = nI 23 := by decide +kernel
section MD9
variable {l : Launch} {D : va_G} {dA : Nat → ClassId} {Bs sz : Nat} {h : fv_H} {m0 : Nat} {S : sp_T}
theorem ct_M_sound {r i : Int32} (hM0 : RM dA h m0 S) (hI : sp_I S) : fv_T l (fk D dA) Bs WA m_M_sound [.ref m0, .int r, .int i] sz h 0 0 (fp_r (.int (sp_sdA S r i)) sz h) := by
  obtain ⟨F, bl, bh, hM, hR⟩ := id hM0
  have hF : fs h h (MS m0) := fs_rf _ _
  have hl4 := hI.2.1.1
  have hel := fe_ends_len hI.2.2.1
  refine fv_of (L := [_, _, _]) (by decide +kernel) rfl (Nat.le_of_ble_eq_true rfl) rfl ?_
  intro X hX C
  subst hX
  refine fv_iload_n C d_M_sound_0 (n := 1) rfl (i := 1) rfl rfl ?_
  refine fv_callS_r C (ml_M_192 D dA) sm_M_isReceiver ct_M_isReceiver d_M_sound_1 (n := 4) rfl rfl rfl rfl (Nat.le_of_ble_eq_true rfl) (Nat.le_of_ble_eq_true rfl) (Nat.le_of_ble_eq_true rfl) (Nat.le_refl _) (Nat.le_refl _) ?_
  refine fv_ifB_eq C d_M_sound_4 (tgt := 14) rfl (n := 7) rfl (fun hc4 => ?_) (fun hc4 => ?_)
  · have hbad : ¬ (iv r 0 1 && iv i 0 3) = true := by simp [hc4]
    refine fv_bipush C d_M_sound_14 (n := 16) rfl kB_m2 ?_
    refine fv_iret C rfl d_M_sound_16 (Nat.le_refl _) (Nat.le_refl _) ?_
    exact ⟨by unfold sp_sdA; rw [if_neg hbad], rfl, rfl⟩
  · refine fv_iload_n C d_M_sound_7 (n := 8) rfl (i := 2) rfl rfl ?_
    refine fv_callS_r C (ml_M_151 D dA) sm_M_isInstrument ct_M_isInstrument d_M_sound_8 (n := 11) rfl rfl rfl rfl (Nat.le_of_ble_eq_true rfl) (Nat.le_of_ble_eq_true rfl) (Nat.le_of_ble_eq_true rfl) (Nat.le_refl _) (Nat.le_refl _) ?_
    refine fv_ifB_ne C d_M_sound_11 (tgt := 17) rfl (n := 14) rfl (fun hc11 => ?_) (fun hc11 => ?_)
    · have hgood : (iv r 0 1 && iv i 0 3) = true := by simp [hc4, hc11]
      obtain ⟨k, -, hk, rfl⟩ := iv_of (by decide) (by decide) hc4
      have hcl : (nI k).toNatClampNeg = k := nI_clamp (by omega)
      have hRI := hI.2.2.2.1 k (by omega)
      have hRV : RV F k (sp_R S k) := hR.2.2.2.1 k (by omega)
      have hj1 := hRI.1.2.1
      have hj2 := hRI.1.2.2.1
      have hj0 := hRI.1.1
      obtain ⟨j, -, hj, rfl⟩ := iv_of (by decide) (by decide) hc11
      have hclj : (nI j).toNatClampNeg = j := nI_clamp (by omega)
      have hndl := hRI.1.2.2.2.2.2 j (by omega)
      have hans : sp_sdA S (nI k) (nI j) = fv_b (decide (rc_nd (sp_R S k) j = 0 ∧ (sp_R S k).2.1 < (sp_R S k).1)) := by unfold sp_sdA; rw [if_pos hgood, hcl, hclj]; rfl
      have v2 := (hRV.1 j (by omega)).2.1
      refine fv_aload_n C d_M_sound_17 (n := 18) rfl (i := 0) rfl rfl ?_
      refine fv_get C (fl_M_58 D dA) d_M_sound_18 (n := 21) rfl hM.1 rfl ?_
      refine fv_iconst C d_M_sound_21 (n := 22) rfl kI_4 ?_
      refine fv_iload_n C d_M_sound_22 (n := 23) rfl (i := 1) rfl rfl ?_
      first | refine fv_imulN C d_M_sound_23 (n := 24) rfl ?_ | refine fv_imul C d_M_sound_23 (n := 24) rfl ?_
      refine fv_iload_n C d_M_sound_24 (n := 25) rfl (i := 2) rfl rfl ?_
      first | refine fv_iaddN C d_M_sound_25 (n := 26) rfl ?_ | refine fv_iadd C d_M_sound_25 (n := 26) rfl ?_
      refine fv_ialdN C (t0 := 0) rfl d_M_sound_26 (n := 27) rfl (mc_17 hM) (by omega) (by decide) ?_
      rw [v2]
      refine fv_ifN_ne C (by omega) d_M_sound_27 (tgt := 49) rfl (n := 30) rfl (fun hc27 => ?_) (fun hc27 => ?_)
      · have e : decide (rc_nd (sp_R S k) j = 0 ∧ (sp_R S k).2.1 < (sp_R S k).1) = false := decide_eq_false (fun q => hc27 q.1)
        refine fv_iconst C d_M_sound_49 (n := 50) rfl kI_0 ?_
        refine fv_iret C rfl d_M_sound_50 (Nat.le_refl _) (Nat.le_refl _) ?_
        exact ⟨by rw [hans, e]; rfl, rfl, rfl⟩
      · refine fv_aload_n C d_M_sound_30 (n := 31) rfl (i := 0) rfl rfl ?_
        refine fv_get C (fl_M_71 D dA) d_M_sound_31 (n := 34) rfl hM.1 rfl ?_
        refine fv_iload_n C d_M_sound_34 (n := 35) rfl (i := 1) rfl rfl ?_
        refine fv_ialdN C (t0 := 0) rfl d_M_sound_35 (n := 36) rfl (mc_21 hM) (by omega) (by decide) ?_
        rw [hRV.2.2.1]
        refine fv_aload_n C d_M_sound_36 (n := 37) rfl (i := 0) rfl rfl ?_
        refine fv_get C (fl_M_68 D dA) d_M_sound_37 (n := 40) rfl hM.1 rfl ?_
        refine fv_iload_n C d_M_sound_40 (n := 41) rfl (i := 1) rfl rfl ?_
        refine fv_ialdN C (t0 := 0) rfl d_M_sound_41 (n := 42) rfl (mc_20 hM) (by omega) (by decide) ?_
        rw [hRV.2.1]
        refine fv_icmpN_ge C (by omega) (by omega) d_M_sound_42 (tgt := 49) rfl (n := 45) rfl (fun hc42 => ?_) (fun hc42 => ?_)
        · have e : decide (rc_nd (sp_R S k) j = 0 ∧ (sp_R S k).2.1 < (sp_R S k).1) = false := decide_eq_false (fun q => by omega)
          refine fv_iconst C d_M_sound_49 (n := 50) rfl kI_0 ?_
          refine fv_iret C rfl d_M_sound_50 (Nat.le_refl _) (Nat.le_refl _) ?_
          exact ⟨by rw [hans, e]; rfl, rfl, rfl⟩
        · have e : decide (rc_nd (sp_R S k) j = 0 ∧ (sp_R S k).2.1 < (sp_R S k).1) = true := decide_eq_true ⟨hc27, by omega⟩
          refine fv_iconst C d_M_sound_45 (n := 46) rfl kI_1 ?_
          refine fv_goto C d_M_sound_46 (tgt := 50) rfl ?_
          refine fv_iret C rfl d_M_sound_50 (Nat.le_refl _) (Nat.le_refl _) ?_
          exact ⟨by rw [hans, e]; rfl, rfl, rfl⟩
    · have hbad : ¬ (iv r 0 1 && iv i 0 3) = true := by simp [hc11]
      refine fv_bipush C d_M_sound_14 (n := 16) rfl kB_m2 ?_
      refine fv_iret C rfl d_M_sound_16 (Nat.le_refl _) (Nat.le_refl _) ?_
      exact ⟨by unfold sp_sdA; rw [if_neg hbad], rfl, rfl⟩
theorem ct_M_isBook {r i : Int32} : fv_T l (fk D dA) Bs WA m_M_isBook [.int r, .int i] sz h 0 0 (fp_r (.int (fv_b (hb2 r i))) sz h) := by
  refine fv_of (L := [_, _]) (by decide +kernel) rfl (Nat.le_of_ble_eq_true rfl) rfl ?_
  intro X hX C
  subst hX
  refine fv_iload_n C d_M_isBook_0 (n := 1) rfl (i := 0) rfl rfl ?_
  refine fv_iconst C d_M_isBook_1 (n := 2) rfl kI_m1 ?_
  refine fv_iconst C d_M_isBook_2 (n := 3) rfl kI_1 ?_
  refine fv_callS_r C (ml_M_101 D dA) sm_M_within ct_M_within d_M_isBook_3 (n := 6) rfl rfl rfl rfl (Nat.le_of_ble_eq_true rfl) (Nat.le_of_ble_eq_true rfl) (Nat.le_of_ble_eq_true rfl) (Nat.le_refl _) (Nat.le_refl _) ?_
  refine fv_ifB_eq C d_M_isBook_6 (tgt := 20) rfl (n := 9) rfl (fun hc6 => ?_) (fun hc6 => ?_)
  · rw [ib_eq] at hc6
    have e : hb2 r i = false := by unfold hb2; rw [hc6]; rfl
    refine fv_iconst C d_M_isBook_20 (n := 21) rfl kI_0 ?_
    refine fv_zret C rfl d_M_isBook_21 rfl (Nat.le_refl _) (Nat.le_refl _) ?_
    exact ⟨by rw [e]; rfl, rfl, rfl⟩
  · rw [ib_eq] at hc6
    refine fv_iload_n C d_M_isBook_9 (n := 10) rfl (i := 1) rfl rfl ?_
    refine fv_callS_r C (ml_M_151 D dA) sm_M_isInstrument ct_M_isInstrument d_M_isBook_10 (n := 13) rfl rfl rfl rfl (Nat.le_of_ble_eq_true rfl) (Nat.le_of_ble_eq_true rfl) (Nat.le_of_ble_eq_true rfl) (Nat.le_refl _) (Nat.le_refl _) ?_
    refine fv_ifB_eq C d_M_isBook_13 (tgt := 20) rfl (n := 16) rfl (fun hc13 => ?_) (fun hc13 => ?_)
    · have e : hb2 r i = false := by unfold hb2; rw [hc13, Bool.and_false]
      refine fv_iconst C d_M_isBook_20 (n := 21) rfl kI_0 ?_
      refine fv_zret C rfl d_M_isBook_21 rfl (Nat.le_refl _) (Nat.le_refl _) ?_
      exact ⟨by rw [e]; rfl, rfl, rfl⟩
    · have e : hb2 r i = true := by unfold hb2; rw [hc6, hc13]; rfl
      refine fv_iconst C d_M_isBook_16 (n := 17) rfl kI_1 ?_
      refine fv_goto C d_M_isBook_17 (tgt := 21) rfl ?_
      refine fv_zret C rfl d_M_isBook_21 rfl (Nat.le_refl _) (Nat.le_refl _) ?_
      exact ⟨by rw [e]; rfl, rfl, rfl⟩
theorem ct_M_manyOf {r i : Int32} {ev pk bl sh : Nat} {bh : Bool} {F : Nat → Nat → Int32} (hM : MC dA h m0 ev pk bl bh sh F) (hR : MR F S) (hb : hb2 r i = true) : fv_T l (fk D dA) Bs WA m_M_manyOf [.ref m0, .int r, .int i] sz h 0 0 (fp_r (.int (nI (sp_n S r i))) sz h) := by
  obtain ⟨j, hj, rfl, hr⟩ := hb2_of hb
  have e1 : (nI j).toNatClampNeg = j := nI_clamp (by omega)
  refine fv_of (L := [_, _, _]) (by decide +kernel) rfl (Nat.le_of_ble_eq_true rfl) rfl ?_
  intro X hX C
  subst hX
  rcases hr with rfl | ⟨k, hk, rfl⟩
  · have e3 : sp_n S (-1) (nI j) = sp_len S j := by unfold sp_n; rw [if_pos rfl, e1]
    refine fv_iload_n C d_M_manyOf_0 (n := 1) rfl (i := 1) rfl rfl ?_
    refine fv_iconst C d_M_manyOf_1 (n := 2) rfl kI_m1 ?_
    refine fv_icmp_ne C d_M_manyOf_2 (tgt := 14) rfl (n := 5) rfl (fun hc2 => ?_) (fun hc2 => ?_)
    · exact absurd rfl hc2
    · refine fv_aload_n C d_M_manyOf_5 (n := 6) rfl (i := 0) rfl rfl ?_
      refine fv_get C (fl_M_31 D dA) d_M_manyOf_6 (n := 9) rfl hM.1 rfl ?_
      refine fv_iload_n C d_M_manyOf_9 (n := 10) rfl (i := 2) rfl rfl ?_
      refine fv_ialdN C (t0 := 0) rfl d_M_manyOf_10 (n := 11) rfl (mc_8 hM) (by omega) (by decide) ?_
      rw [hR.2.1 j hj]
      refine fv_goto C d_M_manyOf_11 (tgt := 24) rfl ?_
      refine fv_iret C rfl d_M_manyOf_24 (Nat.le_refl _) (Nat.le_refl _) ?_
      exact ⟨by rw [e3], rfl, rfl⟩
  · have hn : ¬ nI k = -1 := nI_nm1 (by omega)
    have e0 : (nI k).toNatClampNeg = k := nI_clamp (by omega)
    have e3 : sp_n S (nI k) (nI j) = rc_ap (sp_R S k) j := by unfold sp_n; rw [if_neg hn, e0, e1]
    refine fv_iload_n C d_M_manyOf_0 (n := 1) rfl (i := 1) rfl rfl ?_
    refine fv_iconst C d_M_manyOf_1 (n := 2) rfl kI_m1 ?_
    refine fv_icmp_ne C d_M_manyOf_2 (tgt := 14) rfl (n := 5) rfl (fun hc2 => ?_) (fun hc2 => ?_)
    · refine fv_aload_n C d_M_manyOf_14 (n := 15) rfl (i := 0) rfl rfl ?_
      refine fv_get C (fl_M_55 D dA) d_M_manyOf_15 (n := 18) rfl hM.1 rfl ?_
      refine fv_iconst C d_M_manyOf_18 (n := 19) rfl kI_4 ?_
      refine fv_iload_n C d_M_manyOf_19 (n := 20) rfl (i := 1) rfl rfl ?_
      first | refine fv_imulN C d_M_manyOf_20 (n := 21) rfl ?_ | refine fv_imul C d_M_manyOf_20 (n := 21) rfl ?_
      refine fv_iload_n C d_M_manyOf_21 (n := 22) rfl (i := 2) rfl rfl ?_
      first | refine fv_iaddN C d_M_manyOf_22 (n := 23) rfl ?_ | refine fv_iadd C d_M_manyOf_22 (n := 23) rfl ?_
      refine fv_ialdN C (t0 := 0) rfl d_M_manyOf_23 (n := 24) rfl (mc_16 hM) (by omega) (by decide) ?_
      rw [((hR.2.2.2.1 k hk).1 j hj).1]
      refine fv_iret C rfl d_M_manyOf_24 (Nat.le_refl _) (Nat.le_refl _) ?_
      exact ⟨by rw [e3], rfl, rfl⟩
    · exact absurd hc2 hn
theorem sp_n_le {r i : Int32} (hI : sp_I S) (hb : hb2 r i = true) : sp_n S r i ≤ 400 := by
  obtain ⟨j, hj, rfl, hr⟩ := hb2_of hb
  have e1 : (nI j).toNatClampNeg = j := nI_clamp (by omega)
  have hl := Nat.le_trans (fe_li_len S.1 j) hI.2.1.1
  rcases hr with rfl | ⟨k, hk, rfl⟩
  · have e3 : sp_n S (-1) (nI j) = sp_len S j := by unfold sp_n; rw [if_pos rfl, e1]
    rw [e3]
    exact hl
  · have e3 : sp_n S (nI k) (nI j) = rc_ap (sp_R S k) j := by unfold sp_n; rw [if_neg (nI_nm1 (by omega)), nI_clamp (show k < 2 ^ 31 by omega), e1]
    rw [e3]
    exact Nat.le_trans ((hI.2.2.2.1 k hk).1.2.2.2.2.1 j hj).1 hl
theorem ct_M_at {r i : Int32} (hM0 : RM dA h m0 S) (hI : sp_I S) : fv_T l (fk D dA) Bs WA m_M_at [.ref m0, .int r, .int i] sz h 0 0 (fp_r (.int (sp_atA S r i)) sz h) := by
  obtain ⟨F, bl, bh, hM, hR⟩ := id hM0
  have hF : fs h h (MS m0) := fs_rf _ _
  have hl4 := hI.2.1.1
  have hel := fe_ends_len hI.2.2.1
  refine fv_of (L := [_, _, _]) (by decide +kernel) rfl (Nat.le_of_ble_eq_true rfl) rfl ?_
  intro X hX C
  subst hX
  refine fv_iload_n C d_M_at_0 (n := 1) rfl (i := 1) rfl rfl ?_
  refine fv_iload_n C d_M_at_1 (n := 2) rfl (i := 2) rfl rfl ?_
  refine fv_callS_r C (ml_M_207 D dA) sm_M_isBook ct_M_isBook d_M_at_2 (n := 5) rfl rfl rfl rfl (Nat.le_of_ble_eq_true rfl) (Nat.le_of_ble_eq_true rfl) (Nat.le_of_ble_eq_true rfl) (Nat.le_refl _) (Nat.le_refl _) ?_
  refine fv_ifB_eq C d_M_at_5 (tgt := 17) rfl (n := 8) rfl (fun hc5 => ?_) (fun hc5 => ?_)
  · have hans : sp_atA S r i = -2 := by unfold sp_atA; rw [hc5]; rfl
    refine fv_bipush C d_M_at_17 (n := 19) rfl kB_m2 ?_
    refine fv_iret C rfl d_M_at_19 (Nat.le_refl _) (Nat.le_refl _) ?_
    exact ⟨by rw [hans], rfl, rfl⟩
  · have hans : sp_atA S r i = nI (sp_n S r i) := by unfold sp_atA; rw [hc5]; rfl
    refine fv_aload_n C d_M_at_8 (n := 9) rfl (i := 0) rfl rfl ?_
    refine fv_iload_n C d_M_at_9 (n := 10) rfl (i := 1) rfl rfl ?_
    refine fv_iload_n C d_M_at_10 (n := 11) rfl (i := 2) rfl rfl ?_
    refine fv_callV_r C (ml_M_210 D dA) im_M_manyOf se_M_manyOf hM.1 rfl (ct_M_manyOf hM hR hc5) d_M_at_11 (n := 14) rfl rfl rfl rfl (Nat.le_of_ble_eq_true rfl) (Nat.le_of_ble_eq_true rfl) (Nat.le_of_ble_eq_true rfl) (Nat.le_refl _) (Nat.le_refl _) ?_
    refine fv_goto C d_M_at_14 (tgt := 19) rfl ?_
    refine fv_iret C rfl d_M_at_19 (Nat.le_refl _) (Nat.le_refl _) ?_
    exact ⟨by rw [hans], rfl, rfl⟩
theorem ct_M_halted {r i : Int32} (hBs : Bs ≤ m0) (hM0 : RM dA h m0 S) (hI : sp_I S) : fv_T l (fk D dA) Bs WA m_M_halted [.ref m0, .int r, .int i] sz h 0 0 (fp_i sz (fun r0 h' => r0 = sp_haA S r i ∧ RM dA h' m0 (S) ∧ fs h h' (MS m0))) := by
  obtain ⟨F, bl, bh, hM, hR⟩ := id hM0
  have hF : fs h h (MS m0) := fs_rf _ _
  have hl4 := hI.2.1.1
  have hel := fe_ends_len hI.2.2.1
  refine fv_of (L := [_, _, _]) (by decide +kernel) rfl (Nat.le_of_ble_eq_true rfl) rfl ?_
  intro X hX C
  subst hX
  refine fv_iload_n C d_M_halted_0 (n := 1) rfl (i := 1) rfl rfl ?_
  refine fv_iload_n C d_M_halted_1 (n := 2) rfl (i := 2) rfl rfl ?_
  refine fv_callS_r C (ml_M_207 D dA) sm_M_isBook ct_M_isBook d_M_halted_2 (n := 5) rfl rfl rfl rfl (Nat.le_of_ble_eq_true rfl) (Nat.le_of_ble_eq_true rfl) (Nat.le_of_ble_eq_true rfl) (Nat.le_refl _) (Nat.le_refl _) ?_
  refine fv_ifB_ne C d_M_halted_5 (tgt := 11) rfl (n := 8) rfl (fun hc5 => ?_) (fun hc5 => ?_)
  · have hbk := hc5
    obtain ⟨j, hj4, rfl, -⟩ := hb2_of hbk
    have hclj : (nI j).toNatClampNeg = j := nI_clamp (by omega)
    have hsb : sp_b S r (nI j) = fe_bk S.1 j (sp_n S r (nI j)) := by unfold sp_b; rw [hclj]
    have hans : sp_haA S r (nI j) = fv_b (fe_bk S.1 j (sp_n S r (nI j))).2 := by unfold sp_haA; rw [if_pos hbk, hsb]
    refine fv_aload_n C d_M_halted_11 (n := 12) rfl (i := 0) rfl rfl ?_
    refine fv_iload_n C d_M_halted_12 (n := 13) rfl (i := 2) rfl rfl ?_
    refine fv_aload_n C d_M_halted_13 (n := 14) rfl (i := 0) rfl rfl ?_
    refine fv_iload_n C d_M_halted_14 (n := 15) rfl (i := 1) rfl rfl ?_
    refine fv_iload_n C d_M_halted_15 (n := 16) rfl (i := 2) rfl rfl ?_
    refine fv_callV_r C (ml_M_210 D dA) im_M_manyOf se_M_manyOf hM.1 rfl (ct_M_manyOf hM hR hbk) d_M_halted_16 (n := 19) rfl rfl rfl rfl (Nat.le_of_ble_eq_true rfl) (Nat.le_of_ble_eq_true rfl) (Nat.le_of_ble_eq_true rfl) (Nat.le_refl _) (Nat.le_refl _) ?_
    refine fv_callV_v C (ml_M_144 D dA) im_M_goOver se_M_goOver hM.1 rfl (ct_M_goOver hBs hM hR.1 hI.1 hI.2.1 hj4 (sp_n_le hI hbk)) d_M_halted_19 (n := 22) rfl rfl rfl rfl (Nat.le_of_ble_eq_true rfl) (Nat.le_of_ble_eq_true rfl) (Nat.le_of_ble_eq_true rfl) (Nat.le_refl _) (Nat.le_refl _) (fun h1 hp => ?_)
    obtain ⟨⟨F1, hM, hA, hK⟩, f1⟩ := hp
    have hF := hF.tr f1 (U := MS m0) (fun x hx => hx) (fun x hx => hx)
    have hR1 := hR.ke (hK.tr (KE.rf 10 15 F1) (by decide) (by decide) (by decide) (by decide))
    have hw1 : bo_wf (fe_bk S.1 j (sp_n S r (nI j))).1 := by have := go_wf hI.1 j (sp_n S r (nI j)) S.1.length; rw [List.take_length] at this; exact this
    refine fv_aload_n C d_M_halted_22 (n := 23) rfl (i := 0) rfl rfl ?_
    refine fv_get C (fl_M_118 D dA) d_M_halted_23 (n := 26) rfl hM.1 rfl ?_
    refine fv_ifB_eq C d_M_halted_26 (tgt := 33) rfl (n := 29) rfl (fun hc26 => ?_) (fun hc26 => ?_)
    · rw [hc26] at hans
      refine fv_iconst C d_M_halted_33 (n := 34) rfl kI_0 ?_
      refine fv_iret C rfl d_M_halted_34 (Nat.le_refl _) (Nat.le_refl _) ?_
      exact ⟨_, rfl, rfl, by rw [hans]; rfl, ⟨F1, _, _, hM, hR1⟩, hF⟩
    · rw [hc26] at hans
      refine fv_iconst C d_M_halted_29 (n := 30) rfl kI_1 ?_
      refine fv_goto C d_M_halted_30 (tgt := 34) rfl ?_
      refine fv_iret C rfl d_M_halted_34 (Nat.le_refl _) (Nat.le_refl _) ?_
      exact ⟨_, rfl, rfl, by rw [hans]; rfl, ⟨F1, _, _, hM, hR1⟩, hF⟩
  · have hans : sp_haA S r i = -2 := by unfold sp_haA; rw [hc5]; rfl
    refine fv_bipush C d_M_halted_8 (n := 10) rfl kB_m2 ?_
    refine fv_iret C rfl d_M_halted_10 (Nat.le_refl _) (Nat.le_refl _) ?_
    exact ⟨_, rfl, rfl, by rw [hans], hM0, fs_rf _ _⟩
theorem ct_M_best {r i s lv wh : Int32} (hBs : Bs ≤ m0) (hM0 : RM dA h m0 S) (hI : sp_I S) : fv_T l (fk D dA) Bs WA m_M_best [.ref m0, .int r, .int i, .int s, .int lv, .int wh] sz h 0 0 (fp_i sz (fun r0 h' => r0 = sp_bsA S r i s lv wh ∧ RM dA h' m0 (S) ∧ fs h h' (MS m0))) := by
  obtain ⟨F, bl, bh, hM, hR⟩ := id hM0
  have hF : fs h h (MS m0) := fs_rf _ _
  have hl4 := hI.2.1.1
  have hel := fe_ends_len hI.2.2.1
  refine fv_of (L := [_, _, _, _, _, _]) (by decide +kernel) rfl (Nat.le_of_ble_eq_true rfl) rfl ?_
  intro X hX C
  subst hX
  refine fv_iload_n C d_M_best_0 (n := 1) rfl (i := 1) rfl rfl ?_
  refine fv_iload_n C d_M_best_1 (n := 2) rfl (i := 2) rfl rfl ?_
  refine fv_callS_r C (ml_M_207 D dA) sm_M_isBook ct_M_isBook d_M_best_2 (n := 5) rfl rfl rfl rfl (Nat.le_of_ble_eq_true rfl) (Nat.le_of_ble_eq_true rfl) (Nat.le_of_ble_eq_true rfl) (Nat.le_refl _) (Nat.le_refl _) ?_
  refine fv_ifB_eq C d_M_best_5 (tgt := 32) rfl (n := 8) rfl (fun hc5 => ?_) (fun hc5 => ?_)
  · have hbad : ¬ (hb2 r i && iv s 0 1 && decide (¬ lv < 0) && iv wh 0 2) = true := by simp [hc5]
    refine fv_ldc C d_M_best_32 (n := 34) rfl kc_M_213 ?_
    refine fv_iret C rfl d_M_best_34 (Nat.le_refl _) (Nat.le_refl _) ?_
    exact ⟨_, rfl, rfl, by unfold sp_bsA; rw [if_neg hbad], hM0, fs_rf _ _⟩
  · refine fv_iload_n C d_M_best_8 (n := 9) rfl (i := 3) rfl rfl ?_
    refine fv_iconst C d_M_best_9 (n := 10) rfl kI_0 ?_
    refine fv_iconst C d_M_best_10 (n := 11) rfl kI_1 ?_
    refine fv_callS_r C (ml_M_101 D dA) sm_M_within ct_M_within d_M_best_11 (n := 14) rfl rfl rfl rfl (Nat.le_of_ble_eq_true rfl) (Nat.le_of_ble_eq_true rfl) (Nat.le_of_ble_eq_true rfl) (Nat.le_refl _) (Nat.le_refl _) ?_
    refine fv_ifB_eq C d_M_best_14 (tgt := 32) rfl (n := 17) rfl (fun hc14 => ?_) (fun hc14 => ?_)
    · have hs9 : iv s 0 1 = false := hc14
      have hbad : ¬ (hb2 r i && iv s 0 1 && decide (¬ lv < 0) && iv wh 0 2) = true := by simp [hs9]
      refine fv_ldc C d_M_best_32 (n := 34) rfl kc_M_213 ?_
      refine fv_iret C rfl d_M_best_34 (Nat.le_refl _) (Nat.le_refl _) ?_
      exact ⟨_, rfl, rfl, by unfold sp_bsA; rw [if_neg hbad], hM0, fs_rf _ _⟩
    · have hs9 : iv s 0 1 = true := hc14
      refine fv_iload C d_M_best_17 (n := 19) rfl rfl ?_
      refine fv_if_lt C d_M_best_19 (tgt := 32) rfl (n := 22) rfl (fun hc19 => ?_) (fun hc19 => ?_)
      · have hbad : ¬ (hb2 r i && iv s 0 1 && decide (¬ lv < 0) && iv wh 0 2) = true := by simp [hc19]
        refine fv_ldc C d_M_best_32 (n := 34) rfl kc_M_213 ?_
        refine fv_iret C rfl d_M_best_34 (Nat.le_refl _) (Nat.le_refl _) ?_
        exact ⟨_, rfl, rfl, by unfold sp_bsA; rw [if_neg hbad], hM0, fs_rf _ _⟩
      · refine fv_iload C d_M_best_22 (n := 24) rfl rfl ?_
        refine fv_iconst C d_M_best_24 (n := 25) rfl kI_0 ?_
        refine fv_iconst C d_M_best_25 (n := 26) rfl kI_2 ?_
        refine fv_callS_r C (ml_M_101 D dA) sm_M_within ct_M_within d_M_best_26 (n := 29) rfl rfl rfl rfl (Nat.le_of_ble_eq_true rfl) (Nat.le_of_ble_eq_true rfl) (Nat.le_of_ble_eq_true rfl) (Nat.le_refl _) (Nat.le_refl _) ?_
        refine fv_ifB_ne C d_M_best_29 (tgt := 35) rfl (n := 32) rfl (fun hc29 => ?_) (fun hc29 => ?_)
        · have hw9 : iv wh 0 2 = true := hc29
          have hgood : (hb2 r i && iv s 0 1 && decide (¬ lv < 0) && iv wh 0 2) = true := by simp [hc5, hs9, hc19, hw9]
          have hbk := hc5
          obtain ⟨j, hj4, rfl, -⟩ := hb2_of hbk
          have hclj : (nI j).toNatClampNeg = j := nI_clamp (by omega)
          have hsb : sp_b S r (nI j) = fe_bk S.1 j (sp_n S r (nI j)) := by unfold sp_b; rw [hclj]
          obtain ⟨s2, -, hs2, rfl⟩ := iv_of (by decide) (by decide) hs9
          have hcs : (nI s2).toNatClampNeg = s2 := nI_clamp (by omega)
          obtain ⟨w2, -, hw2, rfl⟩ := iv_of (by decide) (by decide) hw9
          have hcw : (nI w2).toNatClampNeg = w2 := nI_clamp (by omega)
          obtain ⟨l2, hl2, rfl⟩ := nI_of hc19
          have hcl : (nI l2).toNatClampNeg = l2 := nI_clamp hl2
          have hans : sp_bsA S r (nI j) (nI s2) (nI l2) (nI w2) = bo_lv (bo_srt s2 (fe_bk S.1 j (sp_n S r (nI j))).1) l2 w2 := by unfold sp_bsA; rw [if_pos hgood, hcs, hcw, hcl, hsb]
          refine fv_aload_n C d_M_best_35 (n := 36) rfl (i := 0) rfl rfl ?_
          refine fv_iload_n C d_M_best_36 (n := 37) rfl (i := 2) rfl rfl ?_
          refine fv_aload_n C d_M_best_37 (n := 38) rfl (i := 0) rfl rfl ?_
          refine fv_iload_n C d_M_best_38 (n := 39) rfl (i := 1) rfl rfl ?_
          refine fv_iload_n C d_M_best_39 (n := 40) rfl (i := 2) rfl rfl ?_
          refine fv_callV_r C (ml_M_210 D dA) im_M_manyOf se_M_manyOf hM.1 rfl (ct_M_manyOf hM hR hbk) d_M_best_40 (n := 43) rfl rfl rfl rfl (Nat.le_of_ble_eq_true rfl) (Nat.le_of_ble_eq_true rfl) (Nat.le_of_ble_eq_true rfl) (Nat.le_refl _) (Nat.le_refl _) ?_
          refine fv_callV_v C (ml_M_144 D dA) im_M_goOver se_M_goOver hM.1 rfl (ct_M_goOver hBs hM hR.1 hI.1 hI.2.1 hj4 (sp_n_le hI hbk)) d_M_best_43 (n := 46) rfl rfl rfl rfl (Nat.le_of_ble_eq_true rfl) (Nat.le_of_ble_eq_true rfl) (Nat.le_of_ble_eq_true rfl) (Nat.le_refl _) (Nat.le_refl _) (fun h1 hp => ?_)
          obtain ⟨⟨F1, hM, hA, hK⟩, f1⟩ := hp
          have hF := hF.tr f1 (U := MS m0) (fun x hx => hx) (fun x hx => hx)
          have hR1 := hR.ke (hK.tr (KE.rf 10 15 F1) (by decide) (by decide) (by decide) (by decide))
          have hw1 : bo_wf (fe_bk S.1 j (sp_n S r (nI j))).1 := by have := go_wf hI.1 j (sp_n S r (nI j)) S.1.length; rw [List.take_length] at this; exact this
          refine fv_aload_n C d_M_best_46 (n := 47) rfl (i := 0) rfl rfl ?_
          refine fv_iload_n C d_M_best_47 (n := 48) rfl (i := 3) rfl rfl ?_
          refine fv_iload C d_M_best_48 (n := 50) rfl rfl ?_
          refine fv_iload C d_M_best_50 (n := 52) rfl rfl ?_
          refine fv_callV_r C (ml_M_140 D dA) im_M_ofLevel se_M_ofLevel hM.1 rfl (ct_M_ofLevel hM hw1.2.2.2 hA (by omega) hw1.2.1 hl2 (by omega)) d_M_best_52 (n := 55) rfl rfl rfl rfl (Nat.le_of_ble_eq_true rfl) (Nat.le_of_ble_eq_true rfl) (Nat.le_of_ble_eq_true rfl) (Nat.le_refl _) (Nat.le_refl _) ?_
          refine fv_iret C rfl d_M_best_55 (Nat.le_refl _) (Nat.le_refl _) ?_
          exact ⟨_, rfl, rfl, by rw [hans], ⟨F1, _, _, hM, hR1⟩, hF⟩
        · have hw9 : iv wh 0 2 = false := hc29
          have hbad : ¬ (hb2 r i && iv s 0 1 && decide (¬ lv < 0) && iv wh 0 2) = true := by simp [hw9]
          refine fv_ldc C d_M_best_32 (n := 34) rfl kc_M_213 ?_
          refine fv_iret C rfl d_M_best_34 (Nat.le_refl _) (Nat.le_refl _) ?_
          exact ⟨_, rfl, rfl, by unfold sp_bsA; rw [if_neg hbad], hM0, fs_rf _ _⟩
theorem ct_M_order {r i s k : Int32} (hBs : Bs ≤ m0) (hM0 : RM dA h m0 S) (hI : sp_I S) : fv_T l (fk D dA) Bs WA m_M_order [.ref m0, .int r, .int i, .int s, .int k] sz h 0 0 (fp_i sz (fun r0 h' => r0 = sp_orA S r i s k ∧ RM dA h' m0 (S) ∧ fs h h' (MS m0))) := by
  obtain ⟨F, bl, bh, hM, hR⟩ := id hM0
  have hF : fs h h (MS m0) := fs_rf _ _
  have hl4 := hI.2.1.1
  have hel := fe_ends_len hI.2.2.1
  refine fv_of (L := [_, _, _, _, _, _]) (by decide +kernel) rfl (Nat.le_of_ble_eq_true rfl) rfl ?_
  intro X hX C
  subst hX
  refine fv_iload_n C d_M_order_0 (n := 1) rfl (i := 1) rfl rfl ?_
  refine fv_iload_n C d_M_order_1 (n := 2) rfl (i := 2) rfl rfl ?_
  refine fv_callS_r C (ml_M_207 D dA) sm_M_isBook ct_M_isBook d_M_order_2 (n := 5) rfl rfl rfl rfl (Nat.le_of_ble_eq_true rfl) (Nat.le_of_ble_eq_true rfl) (Nat.le_of_ble_eq_true rfl) (Nat.le_refl _) (Nat.le_refl _) ?_
  refine fv_ifB_eq C d_M_order_5 (tgt := 28) rfl (n := 8) rfl (fun hc5 => ?_) (fun hc5 => ?_)
  · have hbad : ¬ (hb2 r i && iv s 0 1 && iv k 0 23) = true := by simp [hc5]
    refine fv_bipush C d_M_order_28 (n := 30) rfl kB_m2 ?_
    refine fv_iret C rfl d_M_order_30 (Nat.le_refl _) (Nat.le_refl _) ?_
    exact ⟨_, rfl, rfl, by unfold sp_orA; rw [if_neg hbad], hM0, fs_rf _ _⟩
  · refine fv_iload_n C d_M_order_8 (n := 9) rfl (i := 3) rfl rfl ?_
    refine fv_iconst C d_M_order_9 (n := 10) rfl kI_0 ?_
    refine fv_iconst C d_M_order_10 (n := 11) rfl kI_1 ?_
    refine fv_callS_r C (ml_M_101 D dA) sm_M_within ct_M_within d_M_order_11 (n := 14) rfl rfl rfl rfl (Nat.le_of_ble_eq_true rfl) (Nat.le_of_ble_eq_true rfl) (Nat.le_of_ble_eq_true rfl) (Nat.le_refl _) (Nat.le_refl _) ?_
    refine fv_ifB_eq C d_M_order_14 (tgt := 28) rfl (n := 17) rfl (fun hc14 => ?_) (fun hc14 => ?_)
    · have hs9 : iv s 0 1 = false := hc14
      have hbad : ¬ (hb2 r i && iv s 0 1 && iv k 0 23) = true := by simp [hs9]
      refine fv_bipush C d_M_order_28 (n := 30) rfl kB_m2 ?_
      refine fv_iret C rfl d_M_order_30 (Nat.le_refl _) (Nat.le_refl _) ?_
      exact ⟨_, rfl, rfl, by unfold sp_orA; rw [if_neg hbad], hM0, fs_rf _ _⟩
    · have hs9 : iv s 0 1 = true := hc14
      refine fv_iload C d_M_order_17 (n := 19) rfl rfl ?_
      refine fv_iconst C d_M_order_19 (n := 20) rfl kI_0 ?_
      refine fv_bipush C d_M_order_20 (n := 22) rfl kB_23 ?_
      refine fv_callS_r C (ml_M_101 D dA) sm_M_within ct_M_within d_M_order_22 (n := 25) rfl rfl rfl rfl (Nat.le_of_ble_eq_true rfl) (Nat.le_of_ble_eq_true rfl) (Nat.le_of_ble_eq_true rfl) (Nat.le_refl _) (Nat.le_refl _) ?_
      refine fv_ifB_ne C d_M_order_25 (tgt := 31) rfl (n := 28) rfl (fun hc25 => ?_) (fun hc25 => ?_)
      · have hw9 : iv k 0 23 = true := hc25
        have hgood : (hb2 r i && iv s 0 1 && iv k 0 23) = true := by simp [hc5, hs9, hw9]
        have hbk := hc5
        obtain ⟨j, hj4, rfl, -⟩ := hb2_of hbk
        have hclj : (nI j).toNatClampNeg = j := nI_clamp (by omega)
        have hsb : sp_b S r (nI j) = fe_bk S.1 j (sp_n S r (nI j)) := by unfold sp_b; rw [hclj]
        obtain ⟨s2, -, hs2, rfl⟩ := iv_of (by decide) (by decide) hs9
        have hcs : (nI s2).toNatClampNeg = s2 := nI_clamp (by omega)
        obtain ⟨k2, -, hk2, rfl⟩ := iv_of (by decide) (by decide) hw9
        have hck : (nI k2).toNatClampNeg = k2 := nI_clamp (by omega)
        have hans : sp_orA S r (nI j) (nI s2) (nI k2) = (match (bo_srt s2 (fe_bk S.1 j (sp_n S r (nI j))).1)[k2]? with | some o => o.1 | none => -1) := by unfold sp_orA; rw [if_pos hgood, hcs, hck, hsb]; rfl
        refine fv_aload_n C d_M_order_31 (n := 32) rfl (i := 0) rfl rfl ?_
        refine fv_iload_n C d_M_order_32 (n := 33) rfl (i := 2) rfl rfl ?_
        refine fv_aload_n C d_M_order_33 (n := 34) rfl (i := 0) rfl rfl ?_
        refine fv_iload_n C d_M_order_34 (n := 35) rfl (i := 1) rfl rfl ?_
        refine fv_iload_n C d_M_order_35 (n := 36) rfl (i := 2) rfl rfl ?_
        refine fv_callV_r C (ml_M_210 D dA) im_M_manyOf se_M_manyOf hM.1 rfl (ct_M_manyOf hM hR hbk) d_M_order_36 (n := 39) rfl rfl rfl rfl (Nat.le_of_ble_eq_true rfl) (Nat.le_of_ble_eq_true rfl) (Nat.le_of_ble_eq_true rfl) (Nat.le_refl _) (Nat.le_refl _) ?_
        refine fv_callV_v C (ml_M_144 D dA) im_M_goOver se_M_goOver hM.1 rfl (ct_M_goOver hBs hM hR.1 hI.1 hI.2.1 hj4 (sp_n_le hI hbk)) d_M_order_39 (n := 42) rfl rfl rfl rfl (Nat.le_of_ble_eq_true rfl) (Nat.le_of_ble_eq_true rfl) (Nat.le_of_ble_eq_true rfl) (Nat.le_refl _) (Nat.le_refl _) (fun h1 hp => ?_)
        obtain ⟨⟨F1, hM, hA, hK⟩, f1⟩ := hp
        have hF := hF.tr f1 (U := MS m0) (fun x hx => hx) (fun x hx => hx)
        have hR1 := hR.ke (hK.tr (KE.rf 10 15 F1) (by decide) (by decide) (by decide) (by decide))
        have hw1 : bo_wf (fe_bk S.1 j (sp_n S r (nI j))).1 := by have := go_wf hI.1 j (sp_n S r (nI j)) S.1.length; rw [List.take_length] at this; exact this
        refine fv_aload_n C d_M_order_42 (n := 43) rfl (i := 0) rfl rfl ?_
        refine fv_iload_n C d_M_order_43 (n := 44) rfl (i := 3) rfl rfl ?_
        refine fv_iload C d_M_order_44 (n := 46) rfl rfl ?_
        refine fv_callV_i C (ml_M_132 D dA) im_M_orderAt se_M_orderAt hM.1 rfl (ct_M_orderAt hM hw1.2.2.2 hA (by omega) hw1.2.1 (by omega)) d_M_order_46 (n := 49) rfl rfl rfl rfl (Nat.le_of_ble_eq_true rfl) (Nat.le_of_ble_eq_true rfl) (Nat.le_of_ble_eq_true rfl) (Nat.le_refl _) (Nat.le_refl _) (fun r0 h2 hp => ?_)
        obtain ⟨hh, hp⟩ := hp
        rw [hh]
        obtain ⟨rfl, hz⟩ | ⟨q, o, rfl, hq, hqo, hos, hTi⟩ := hp
        · rw [show (bo_srt s2 (fe_bk S.1 j (sp_n S r (nI j))).1)[k2]? = none from List.getElem?_eq_none_iff.mpr hz] at hans
          refine fv_istore C d_M_order_49 (n := 51) rfl (by decide) (L' := [_, _, _, _, _, _]) rfl ?_
          refine fv_iload C d_M_order_51 (n := 53) rfl rfl ?_
          refine fv_if_ge C d_M_order_53 (tgt := 60) rfl (n := 56) rfl (fun hc53 => ?_) (fun hc53 => ?_)
          · exact absurd hc53 (by decide)
          · refine fv_iconst C d_M_order_56 (n := 57) rfl kI_m1 ?_
            refine fv_goto C d_M_order_57 (tgt := 67) rfl ?_
            refine fv_iret C rfl d_M_order_67 (Nat.le_refl _) (Nat.le_refl _) ?_
            exact ⟨_, rfl, rfl, by rw [hans], ⟨F1, _, _, hM, hR1⟩, hF⟩
        · rw [hTi] at hans
          have hid := (hA q o hqo).1
          have hq24 := hw1.2.2.2
          refine fv_istore C d_M_order_49 (n := 51) rfl (by decide) (L' := [_, _, _, _, _, _]) rfl ?_
          refine fv_iload C d_M_order_51 (n := 53) rfl rfl ?_
          refine fv_ifN_ge C (by omega) d_M_order_53 (tgt := 60) rfl (n := 56) rfl ?_
          refine fv_aload_n C d_M_order_60 (n := 61) rfl (i := 0) rfl rfl ?_
          refine fv_get C (fl_M_37 D dA) d_M_order_61 (n := 64) rfl hM.1 rfl ?_
          refine fv_iload C d_M_order_64 (n := 66) rfl rfl ?_
          refine fv_ialdN C (t0 := 0) rfl d_M_order_66 (n := 67) rfl (mc_10 hM) (by omega) (by decide) ?_
          rw [hid]
          refine fv_iret C rfl d_M_order_67 (Nat.le_refl _) (Nat.le_refl _) ?_
          exact ⟨_, rfl, rfl, by rw [hans], ⟨F1, _, _, hM, hR1⟩, hF⟩
      · have hw9 : iv k 0 23 = false := hc25
        have hbad : ¬ (hb2 r i && iv s 0 1 && iv k 0 23) = true := by simp [hw9]
        refine fv_bipush C d_M_order_28 (n := 30) rfl kB_m2 ?_
        refine fv_iret C rfl d_M_order_30 (Nat.le_refl _) (Nat.le_refl _) ?_
        exact ⟨_, rfl, rfl, by unfold sp_orA; rw [if_neg hbad], hM0, fs_rf _ _⟩
theorem ct_M_dirty {r : Int32} (hM0 : RM dA h m0 S) (hI : sp_I S) : fv_T l (fk D dA) Bs WA m_M_dirty [.ref m0, .int r] sz h 0 0 (fp_r (.int (sp_diA S r)) sz h) := by
  obtain ⟨F, bl, bh, hM, hR⟩ := id hM0
  have hF : fs h h (MS m0) := fs_rf _ _
  have hl4 := hI.2.1.1
  have hel := fe_ends_len hI.2.2.1
  refine fv_of (L := [_, _]) (by decide +kernel) rfl (Nat.le_of_ble_eq_true rfl) rfl ?_
  intro X hX C
  subst hX
  refine fv_iload_n C d_M_dirty_0 (n := 1) rfl (i := 1) rfl rfl ?_
  refine fv_callS_r C (ml_M_192 D dA) sm_M_isReceiver ct_M_isReceiver d_M_dirty_1 (n := 4) rfl rfl rfl rfl (Nat.le_of_ble_eq_true rfl) (Nat.le_of_ble_eq_true rfl) (Nat.le_of_ble_eq_true rfl) (Nat.le_refl _) (Nat.le_refl _) ?_
  refine fv_ifB_eq C d_M_dirty_4 (tgt := 16) rfl (n := 7) rfl (fun hc4 => ?_) (fun hc4 => ?_)
  · have hans : sp_diA S r = -2 := by unfold sp_diA; rw [hc4]; rfl
    refine fv_bipush C d_M_dirty_16 (n := 18) rfl kB_m2 ?_
    refine fv_iret C rfl d_M_dirty_18 (Nat.le_refl _) (Nat.le_refl _) ?_
    exact ⟨by rw [hans], rfl, rfl⟩
  · have hgood := hc4
    obtain ⟨k, -, hk, rfl⟩ := iv_of (by decide) (by decide) hc4
    have hcl : (nI k).toNatClampNeg = k := nI_clamp (by omega)
    have hRI := hI.2.2.2.1 k (by omega)
    have hRV : RV F k (sp_R S k) := hR.2.2.2.1 k (by omega)
    have hj1 := hRI.1.2.1
    have hj2 := hRI.1.2.2.1
    have hj0 := hRI.1.1
    have hans : sp_diA S (nI k) = nI (rc_rw (sp_R S k)).length := by unfold sp_diA; rw [if_pos hgood, hcl]
    refine fv_aload_n C d_M_dirty_7 (n := 8) rfl (i := 0) rfl rfl ?_
    refine fv_get C (fl_M_92 D dA) d_M_dirty_8 (n := 11) rfl hM.1 rfl ?_
    refine fv_iload_n C d_M_dirty_11 (n := 12) rfl (i := 1) rfl rfl ?_
    refine fv_ialdN C (t0 := 0) rfl d_M_dirty_12 (n := 13) rfl (mc_28 hM) (by omega) (by decide) ?_
    rw [hRV.2.2.2.2.2.2]
    refine fv_goto C d_M_dirty_13 (tgt := 18) rfl ?_
    refine fv_iret C rfl d_M_dirty_18 (Nat.le_refl _) (Nat.le_refl _) ?_
    exact ⟨by rw [hans], rfl, rfl⟩
theorem ct_M_receiver {r w : Int32} (hM0 : RM dA h m0 S) (hI : sp_I S) : fv_T l (fk D dA) Bs WA m_M_receiver [.ref m0, .int r, .int w] sz h 0 0 (fp_r (.int (sp_rvA S r w)) sz h) := by
  obtain ⟨F, bl, bh, hM, hR⟩ := id hM0
  have hF : fs h h (MS m0) := fs_rf _ _
  have hl4 := hI.2.1.1
  have hel := fe_ends_len hI.2.2.1
  refine fv_of (L := [_, _, _, _, _]) (by decide +kernel) rfl (Nat.le_of_ble_eq_true rfl) rfl ?_
  intro X hX C
  subst hX
  refine fv_iload_n C d_M_receiver_0 (n := 1) rfl (i := 1) rfl rfl ?_
  refine fv_callS_r C (ml_M_192 D dA) sm_M_isReceiver ct_M_isReceiver d_M_receiver_1 (n := 4) rfl rfl rfl rfl (Nat.le_of_ble_eq_true rfl) (Nat.le_of_ble_eq_true rfl) (Nat.le_of_ble_eq_true rfl) (Nat.le_refl _) (Nat.le_refl _) ?_
  refine fv_ifB_eq C d_M_receiver_4 (tgt := 16) rfl (n := 7) rfl (fun hc4 => ?_) (fun hc4 => ?_)
  · have hans : sp_rvA S r w = -2 := by unfold sp_rvA; rw [hc4]; rfl
    refine fv_bipush C d_M_receiver_16 (n := 18) rfl kB_m2 ?_
    refine fv_iret C rfl d_M_receiver_18 (Nat.le_refl _) (Nat.le_refl _) ?_
    exact ⟨by rw [hans], rfl, rfl⟩
  · refine fv_iload_n C d_M_receiver_7 (n := 8) rfl (i := 2) rfl rfl ?_
    refine fv_iconst C d_M_receiver_8 (n := 9) rfl kI_0 ?_
    refine fv_iconst C d_M_receiver_9 (n := 10) rfl kI_3 ?_
    refine fv_callS_r C (ml_M_101 D dA) sm_M_within ct_M_within d_M_receiver_10 (n := 13) rfl rfl rfl rfl (Nat.le_of_ble_eq_true rfl) (Nat.le_of_ble_eq_true rfl) (Nat.le_of_ble_eq_true rfl) (Nat.le_refl _) (Nat.le_refl _) ?_
    refine fv_ifB_ne C d_M_receiver_13 (tgt := 19) rfl (n := 16) rfl (fun hc13 => ?_) (fun hc13 => ?_)
    · have hw9 : iv w 0 3 = true := hc13
      obtain ⟨k, -, hk, rfl⟩ := iv_of (by decide) (by decide) hc4
      have hcl : (nI k).toNatClampNeg = k := nI_clamp (by omega)
      have hRI := hI.2.2.2.1 k (by omega)
      have hRV : RV F k (sp_R S k) := hR.2.2.2.1 k (by omega)
      have hj1 := hRI.1.2.1
      have hj2 := hRI.1.2.2.1
      have hj0 := hRI.1.1
      obtain ⟨w2, -, hw2, rfl⟩ := iv_of (by decide) (by decide) hw9
      rcases (show w2 = 0 ∨ w2 = 1 ∨ w2 = 2 ∨ w2 = 3 by omega) with rfl | rfl | rfl | rfl
      · have hans : sp_rvA S (nI k) (nI 0) = nI (sp_R S k).1 := by unfold sp_rvA; rw [if_pos hc4, hcl, if_pos rfl]
        refine fv_iload_n C d_M_receiver_19 (n := 20) rfl (i := 2) rfl rfl ?_
        refine fv_ifN_ne C (by omega) d_M_receiver_20 (tgt := 30) rfl (n := 23) rfl (fun hc20 => ?_) (fun hc20 => ?_)
        · exact absurd rfl hc20
        · refine fv_aload_n C d_M_receiver_23 (n := 24) rfl (i := 0) rfl rfl ?_
          refine fv_get C (fl_M_68 D dA) d_M_receiver_24 (n := 27) rfl hM.1 rfl ?_
          refine fv_iload_n C d_M_receiver_27 (n := 28) rfl (i := 1) rfl rfl ?_
          refine fv_ialdN C (t0 := 0) rfl d_M_receiver_28 (n := 29) rfl (mc_20 hM) (by omega) (by decide) ?_
          rw [hRV.2.1]
          refine fv_iret C rfl d_M_receiver_29 (Nat.le_refl _) (Nat.le_refl _) ?_
          exact ⟨by rw [hans], rfl, rfl⟩
      · have hans : sp_rvA S (nI k) (nI 1) = nI (sp_R S k).2.1 := by unfold sp_rvA; rw [if_pos hc4, hcl, if_neg (by decide +kernel), if_pos rfl]
        refine fv_iload_n C d_M_receiver_19 (n := 20) rfl (i := 2) rfl rfl ?_
        refine fv_ifN_ne C (by omega) d_M_receiver_20 (tgt := 30) rfl (n := 23) rfl (fun hc20 => ?_) (fun hc20 => ?_)
        · refine fv_iload_n C d_M_receiver_30 (n := 31) rfl (i := 2) rfl rfl ?_
          refine fv_iconst C d_M_receiver_31 (n := 32) rfl kI_1 ?_
          refine fv_icmpN_ne C (by omega) (by omega) d_M_receiver_32 (tgt := 42) rfl (n := 35) rfl (fun hc32 => ?_) (fun hc32 => ?_)
          · exact absurd rfl hc32
          · refine fv_aload_n C d_M_receiver_35 (n := 36) rfl (i := 0) rfl rfl ?_
            refine fv_get C (fl_M_71 D dA) d_M_receiver_36 (n := 39) rfl hM.1 rfl ?_
            refine fv_iload_n C d_M_receiver_39 (n := 40) rfl (i := 1) rfl rfl ?_
            refine fv_ialdN C (t0 := 0) rfl d_M_receiver_40 (n := 41) rfl (mc_21 hM) (by omega) (by decide) ?_
            rw [hRV.2.2.1]
            refine fv_iret C rfl d_M_receiver_41 (Nat.le_refl _) (Nat.le_refl _) ?_
            exact ⟨by rw [hans], rfl, rfl⟩
        · exact absurd hc20 (by decide)
      · have hans : sp_rvA S (nI k) (nI 2) = nI (rc_ck (sp_R S k)) := by unfold sp_rvA; rw [if_pos hc4, hcl, if_neg (by decide +kernel), if_neg (by decide +kernel), if_pos rfl]
        have loop : ∀ m p, p + m = S.2.1.length → fv_V (fk D dA) Bs X 5 (fv_MQ (fk D dA) Bs X (fp_r (.int (sp_rvA S (nI k) (nI 2))) sz h) 0 0) 52 [some (.ref m0), some (.int (nI k)), some (.int (nI 2)), some (.int (nI (ksum (rc_kp (sp_R S k)) p))), some (.int (nI (p + 1)))] [] sz h 0 0 := by
          intro m
          induction m with
          | zero =>
            intro p hm
            have hp : p = S.2.1.length := by omega
            rw [hp, ksum_ck hRI.1]
            refine fv_iload C d_M_receiver_52 (n := 54) rfl rfl ?_
            refine fv_aload_n C d_M_receiver_54 (n := 55) rfl (i := 0) rfl rfl ?_
            refine fv_get C (fl_M_148 D dA) d_M_receiver_55 (n := 58) rfl hM.1 rfl ?_
            refine fv_icmpN_gt C (by omega) (by omega) d_M_receiver_58 (tgt := 86) rfl (n := 61) rfl (fun hc58 => ?_) (fun hc58 => ?_)
            · refine fv_iload_n C d_M_receiver_86 (n := 87) rfl (i := 2) rfl rfl ?_
              refine fv_iconst C d_M_receiver_87 (n := 88) rfl kI_3 ?_
              refine fv_icmpN_ne C (by omega) (by omega) d_M_receiver_88 (tgt := 120) rfl (n := 91) rfl (fun hc88 => ?_) (fun hc88 => ?_)
              · refine fv_iload_n C d_M_receiver_120 (n := 121) rfl (i := 3) rfl rfl ?_
                refine fv_iret C rfl d_M_receiver_121 (Nat.le_refl _) (Nat.le_refl _) ?_
                exact ⟨by rw [hans], rfl, rfl⟩
              · exact absurd hc88 (by decide)
            · exact absurd hc58 (by omega)
          | succ m ih =>
            intro p hm
            have h22 := hRV.2.2.2.1 (p + 1) (by omega)
            have hst : ksum (rc_kp (sp_R S k)) (p + 1) = ksum (rc_kp (sp_R S k)) p + rc_b (rc_kp (sp_R S k) (p + 1)) := rfl
            refine fv_iload C d_M_receiver_52 (n := 54) rfl rfl ?_
            refine fv_aload_n C d_M_receiver_54 (n := 55) rfl (i := 0) rfl rfl ?_
            refine fv_get C (fl_M_148 D dA) d_M_receiver_55 (n := 58) rfl hM.1 rfl ?_
            refine fv_icmpN_gt C (by omega) (by omega) d_M_receiver_58 (tgt := 86) rfl (n := 61) rfl (fun hc58 => ?_) (fun hc58 => ?_)
            · exact absurd hc58 (by omega)
            · refine fv_aload_n C d_M_receiver_61 (n := 62) rfl (i := 0) rfl rfl ?_
              refine fv_get C (fl_M_74 D dA) d_M_receiver_62 (n := 65) rfl hM.1 rfl ?_
              refine fv_sipush C d_M_receiver_65 (n := 68) rfl kS_402 ?_
              refine fv_iload_n C d_M_receiver_68 (n := 69) rfl (i := 1) rfl rfl ?_
              first | refine fv_imulN C d_M_receiver_69 (n := 70) rfl ?_ | refine fv_imul C d_M_receiver_69 (n := 70) rfl ?_
              refine fv_iload C d_M_receiver_70 (n := 72) rfl rfl ?_
              first | refine fv_iaddN C d_M_receiver_72 (n := 73) rfl ?_ | refine fv_iadd C d_M_receiver_72 (n := 73) rfl ?_
              refine fv_zaldJ C d_M_receiver_73 (n := 74) rfl (mc_22 hM) (by omega) (by decide) ?_
              rw [h22]
              refine fv_ifB_eq C d_M_receiver_74 (tgt := 80) rfl (n := 77) rfl (fun hc74 => ?_) (fun hc74 => ?_)
              · rw [hc74] at hst
                have hst : ksum (rc_kp (sp_R S k)) (p + 1) = ksum (rc_kp (sp_R S k)) p := hst
                rw [← hst]
                refine fv_iincN C d_M_receiver_80 (n := 83) rfl rfl (by decide) (L' := [_, _, _, _, _]) rfl ?_
                refine fv_goto C d_M_receiver_83 (tgt := 52) rfl ?_
                first | exact ih (p + 1) (by omega) | (rw [← hst]; exact ih (p + 1) (by omega))
              · rw [hc74] at hst
                have hst : ksum (rc_kp (sp_R S k)) (p + 1) = ksum (rc_kp (sp_R S k)) p + 1 := hst
                refine fv_iincN C d_M_receiver_77 (n := 80) rfl rfl (by decide) (L' := [_, _, _, _, _]) rfl ?_
                refine fv_iincN C d_M_receiver_80 (n := 83) rfl rfl (by decide) (L' := [_, _, _, _, _]) rfl ?_
                refine fv_goto C d_M_receiver_83 (tgt := 52) rfl ?_
                first | exact ih (p + 1) (by omega) | (rw [← hst]; exact ih (p + 1) (by omega))
        refine fv_iload_n C d_M_receiver_19 (n := 20) rfl (i := 2) rfl rfl ?_
        refine fv_ifN_ne C (by omega) d_M_receiver_20 (tgt := 30) rfl (n := 23) rfl (fun hc20 => ?_) (fun hc20 => ?_)
        · refine fv_iload_n C d_M_receiver_30 (n := 31) rfl (i := 2) rfl rfl ?_
          refine fv_iconst C d_M_receiver_31 (n := 32) rfl kI_1 ?_
          refine fv_icmpN_ne C (by omega) (by omega) d_M_receiver_32 (tgt := 42) rfl (n := 35) rfl (fun hc32 => ?_) (fun hc32 => ?_)
          · refine fv_iconst C d_M_receiver_42 (n := 43) rfl kI_0 ?_
            refine fv_istore_n C d_M_receiver_43 (n := 44) rfl (i := 3) rfl (by decide) (L' := [_, _, _, _, _]) rfl ?_
            refine fv_iload_n C d_M_receiver_44 (n := 45) rfl (i := 2) rfl rfl ?_
            refine fv_iconst C d_M_receiver_45 (n := 46) rfl kI_2 ?_
            refine fv_icmpN_ne C (by omega) (by omega) d_M_receiver_46 (tgt := 86) rfl (n := 49) rfl (fun hc46 => ?_) (fun hc46 => ?_)
            · exact absurd rfl hc46
            · refine fv_iconst C d_M_receiver_49 (n := 50) rfl kI_1 ?_
              refine fv_istore C d_M_receiver_50 (n := 52) rfl (by decide) (L' := [_, _, _, _, _]) rfl ?_
              exact loop S.2.1.length 0 (by omega)
          · exact absurd hc32 (by decide)
        · exact absurd hc20 (by decide)
      · have hans : sp_rvA S (nI k) (nI 3) = nI (rc_ch (sp_R S k)) := by unfold sp_rvA; rw [if_pos hc4, hcl, if_neg (by decide +kernel), if_neg (by decide +kernel), if_neg (by decide +kernel), if_pos rfl]
        have loop : ∀ m i, i + m = 4 → fv_V (fk D dA) Bs X 5 (fv_MQ (fk D dA) Bs X (fp_r (.int (sp_rvA S (nI k) (nI 3))) sz h) 0 0) 94 [some (.ref m0), some (.int (nI k)), some (.int (nI 3)), some (.int (nI (hsum (rc_hl (sp_R S k)) i))), some (.int (nI i))] [] sz h 0 0 := by
          intro m
          induction m with
          | zero =>
            intro i hm
            have hp : i = 4 := by omega
            rw [hp, hsum_4]
            refine fv_iload C d_M_receiver_94 (n := 96) rfl rfl ?_
            refine fv_iconst C d_M_receiver_96 (n := 97) rfl kI_4 ?_
            refine fv_icmpN_ge C (by omega) (by omega) d_M_receiver_97 (tgt := 120) rfl (n := 100) rfl (fun hc97 => ?_) (fun hc97 => ?_)
            · refine fv_iload_n C d_M_receiver_120 (n := 121) rfl (i := 3) rfl rfl ?_
              refine fv_iret C rfl d_M_receiver_121 (Nat.le_refl _) (Nat.le_refl _) ?_
              exact ⟨by rw [hans], rfl, rfl⟩
            · exact absurd hc97 (by omega)
          | succ m ih =>
            intro i hm
            have h19 := (hRV.1 i (by omega)).2.2.2
            refine fv_iload C d_M_receiver_94 (n := 96) rfl rfl ?_
            refine fv_iconst C d_M_receiver_96 (n := 97) rfl kI_4 ?_
            refine fv_icmpN_ge C (by omega) (by omega) d_M_receiver_97 (tgt := 120) rfl (n := 100) rfl (fun hc97 => ?_) (fun hc97 => ?_)
            · exact absurd hc97 (by omega)
            · refine fv_iload_n C d_M_receiver_100 (n := 101) rfl (i := 3) rfl rfl ?_
              refine fv_aload_n C d_M_receiver_101 (n := 102) rfl (i := 0) rfl rfl ?_
              refine fv_get C (fl_M_65 D dA) d_M_receiver_102 (n := 105) rfl hM.1 rfl ?_
              refine fv_iconst C d_M_receiver_105 (n := 106) rfl kI_4 ?_
              refine fv_iload_n C d_M_receiver_106 (n := 107) rfl (i := 1) rfl rfl ?_
              first | refine fv_imulN C d_M_receiver_107 (n := 108) rfl ?_ | refine fv_imul C d_M_receiver_107 (n := 108) rfl ?_
              refine fv_iload C d_M_receiver_108 (n := 110) rfl rfl ?_
              first | refine fv_iaddN C d_M_receiver_110 (n := 111) rfl ?_ | refine fv_iadd C d_M_receiver_110 (n := 111) rfl ?_
              refine fv_ialdN C (t0 := 0) rfl d_M_receiver_111 (n := 112) rfl (mc_19 hM) (by omega) (by decide) ?_
              rw [h19]
              first | refine fv_iaddN C d_M_receiver_112 (n := 113) rfl ?_ | refine fv_iadd C d_M_receiver_112 (n := 113) rfl ?_
              refine fv_istore_n C d_M_receiver_113 (n := 114) rfl (i := 3) rfl (by decide) (L' := [_, _, _, _, _]) rfl ?_
              refine fv_iincN C d_M_receiver_114 (n := 117) rfl rfl (by decide) (L' := [_, _, _, _, _]) rfl ?_
              refine fv_goto C d_M_receiver_117 (tgt := 94) rfl ?_
              exact ih (i + 1) (by omega)
        refine fv_iload_n C d_M_receiver_19 (n := 20) rfl (i := 2) rfl rfl ?_
        refine fv_ifN_ne C (by omega) d_M_receiver_20 (tgt := 30) rfl (n := 23) rfl (fun hc20 => ?_) (fun hc20 => ?_)
        · refine fv_iload_n C d_M_receiver_30 (n := 31) rfl (i := 2) rfl rfl ?_
          refine fv_iconst C d_M_receiver_31 (n := 32) rfl kI_1 ?_
          refine fv_icmpN_ne C (by omega) (by omega) d_M_receiver_32 (tgt := 42) rfl (n := 35) rfl (fun hc32 => ?_) (fun hc32 => ?_)
          · refine fv_iconst C d_M_receiver_42 (n := 43) rfl kI_0 ?_
            refine fv_istore_n C d_M_receiver_43 (n := 44) rfl (i := 3) rfl (by decide) (L' := [_, _, _, _, _]) rfl ?_
            refine fv_iload_n C d_M_receiver_44 (n := 45) rfl (i := 2) rfl rfl ?_
            refine fv_iconst C d_M_receiver_45 (n := 46) rfl kI_2 ?_
            refine fv_icmpN_ne C (by omega) (by omega) d_M_receiver_46 (tgt := 86) rfl (n := 49) rfl (fun hc46 => ?_) (fun hc46 => ?_)
            · refine fv_iload_n C d_M_receiver_86 (n := 87) rfl (i := 2) rfl rfl ?_
              refine fv_iconst C d_M_receiver_87 (n := 88) rfl kI_3 ?_
              refine fv_icmpN_ne C (by omega) (by omega) d_M_receiver_88 (tgt := 120) rfl (n := 91) rfl (fun hc88 => ?_) (fun hc88 => ?_)
              · exact absurd rfl hc88
              · refine fv_iconst C d_M_receiver_91 (n := 92) rfl kI_0 ?_
                refine fv_istore C d_M_receiver_92 (n := 94) rfl (by decide) (L' := [_, _, _, _, _]) rfl ?_
                exact loop 4 0 (by omega)
            · exact absurd hc46 (by decide)
          · exact absurd hc32 (by decide)
        · exact absurd hc20 (by decide)
    · have hw9 : iv w 0 3 = false := hc13
      have hans : sp_rvA S r w = -2 := by unfold sp_rvA; rw [if_pos hc4, if_neg (fun e => by rw [e] at hw9; exact absurd hw9 (by decide +kernel)), if_neg (fun e => by rw [e] at hw9; exact absurd hw9 (by decide +kernel)), if_neg (fun e => by rw [e] at hw9; exact absurd hw9 (by decide +kernel)), if_neg (fun e => by rw [e] at hw9; exact absurd hw9 (by decide +kernel))]
      refine fv_bipush C d_M_receiver_16 (n := 18) rfl kB_m2 ?_
      refine fv_iret C rfl d_M_receiver_18 (Nat.le_refl _) (Nat.le_refl _) ?_
      exact ⟨by rw [hans], rfl, rfl⟩
end MD9
