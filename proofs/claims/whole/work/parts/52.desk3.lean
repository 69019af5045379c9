/-! FeedDesk: read and view -/
section DK3
variable {l : Launch} {D : va_G} {dA : Nat → ClassId} {Bs sz : Nat} {h : fv_H} {b0 aE : Nat} {S : sp_T}
theorem iv_nJ {k b : Nat} (hk : k ≤ b) (hb : b < 2 ^ 31) : iv (nI k) 0 b = true := decide_eq_true ⟨by rw [Int32.le_iff_toInt_le, nI_toInt (by omega), nI_toInt (by omega)]; omega, by rw [Int32.le_iff_toInt_le, nI_toInt (by omega), nI_toInt (by omega)]; omega⟩
theorem hb2_nI {k i : Nat} (hk : k < 2) (hi : i < 4) : hb2 (nI k) (nI i) = true := by
  unfold hb2
  rw [iv_nJ (by omega) (by decide), iv_nJ (by omega) (by decide)]
  simp
theorem ct_D_read {r : Int32} (haE : b0 + 132 ≤ aE) (hBs : Bs ≤ b0) (hD : DK dA h b0 aE S) (hI : sp_I S) : fv_T l (fk D dA) Bs WA m_D_read [.ref b0, .int r] sz h 0 0 (fp_i sz (fun r0 h' => r0 = sp_rdA S r ∧ DK dA h' b0 aE (sp_rdS S r) ∧ fs h h' (SD b0 aE))) := by
  obtain ⟨evs, en, hPb, hev, hen⟩ := hD.2.1
  refine fv_of (L := [_, _, _]) (by decide +kernel) rfl (Nat.le_of_ble_eq_true rfl) rfl ?_
  intro X hX C
  subst hX
  refine fv_iload_n C d_D_read_0 (n := 1) rfl (i := 1) rfl rfl ?_
  refine fv_callS_r C (ml_D_59 D dA) sm_D_isReceiver ct_D_isReceiver d_D_read_1 (n := 4) rfl rfl rfl rfl (Nat.le_of_ble_eq_true rfl) (Nat.le_of_ble_eq_true rfl) (Nat.le_of_ble_eq_true rfl) (Nat.le_refl _) (Nat.le_refl _) ?_
  refine fv_ifB_ne C d_D_read_4 (tgt := 10) rfl (n := 7) rfl (fun hc4 => ?_) (fun hc4 => ?_)
  · have hgood := hc4
    obtain ⟨k, -, hk, rfl⟩ := iv_of (by decide) (by decide) hc4
    have hcl : (nI k).toNatClampNeg = k := nI_clamp (by omega)
    obtain ⟨fx, hV, hfx⟩ := hD.2.2.2.2.1 k (by omega)
    have hVo := hV.choose_spec.1
    have hRI := hI.2.2.2.1 k (by omega)
    obtain ⟨gR, hRr, hRg⟩ := id hV.choose_spec.2.2.2
    cases hrow : rc_rw (sp_R S k) with
    | nil =>
      refine fv_aload_n C d_D_read_10 (n := 11) rfl (i := 0) rfl rfl ?_
      refine fv_get C (fl_D_17 D dA) d_D_read_11 (n := 14) rfl hD.1.1 rfl ?_
      refine fv_iload_n C d_D_read_14 (n := 15) rfl (i := 1) rfl rfl ?_
      refine fv_aaldN C (t0 := 5) rfl d_D_read_15 (n := 16) rfl hD.1.2.2 (by omega) (by decide) (show va_rf (if k < 2 then some (b0 + 64 + 34 * k) else none) = .ref (b0 + 64 + 34 * k) by rw [if_pos (by omega)]; rfl) ?_
      refine fv_callV_r C (ml_D_146 D dA) im_W_takeFirst se_W_takeFirst hRr.1 rfl (ct_W_takeFirst0 (fx := fx) (by rw [← hrow]; exact hV.choose_spec.2.2.2)) d_D_read_16 (n := 19) rfl rfl rfl rfl (Nat.le_of_ble_eq_true rfl) (Nat.le_of_ble_eq_true rfl) (Nat.le_of_ble_eq_true rfl) (Nat.le_refl _) (Nat.le_refl _) ?_
      refine fv_istore_n C d_D_read_19 (n := 20) rfl (i := 2) rfl (by decide) (L' := [_, _, _]) rfl ?_
      refine fv_iload_n C d_D_read_20 (n := 21) rfl (i := 2) rfl rfl ?_
      refine fv_iconst C d_D_read_21 (n := 22) rfl kI_m1 ?_
      refine fv_icmp_eq C d_D_read_22 (tgt := 44) rfl (n := 25) rfl (fun hc22 => ?_) (fun hc22 => ?_)
      · refine fv_iload_n C d_D_read_44 (n := 45) rfl (i := 2) rfl rfl ?_
        refine fv_iret C rfl d_D_read_45 (Nat.le_refl _) (Nat.le_refl _) ?_
        exact ⟨_, rfl, rfl, by unfold sp_rdA; rw [if_pos hgood, hcl, hrow], by unfold sp_rdS; rw [if_pos hgood, hcl, hrow]; exact hD, fs_rf _ _⟩
      · exact absurd rfl hc22
    | cons i t =>
      have hnd : (i :: t).Nodup := by rw [← hrow]; exact (hRI.1.2.2.2.2.1 0 (by omega)).2.2.2.2.1
      have hm4 : ∀ j ∈ i :: t, j < 4 := by rw [← hrow]; exact (hRI.1.2.2.2.2.1 0 (by omega)).2.2.2.2.2
      have hi4 : i < 4 := hm4 i List.mem_cons_self
      have hl4 : t.length < 4 := by have := row_len 4 _ hnd hm4; simp only [List.length_cons] at this; omega
      refine fv_aload_n C d_D_read_10 (n := 11) rfl (i := 0) rfl rfl ?_
      refine fv_get C (fl_D_17 D dA) d_D_read_11 (n := 14) rfl hD.1.1 rfl ?_
      refine fv_iload_n C d_D_read_14 (n := 15) rfl (i := 1) rfl rfl ?_
      refine fv_aaldN C (t0 := 5) rfl d_D_read_15 (n := 16) rfl hD.1.2.2 (by omega) (by decide) (show va_rf (if k < 2 then some (b0 + 64 + 34 * k) else none) = .ref (b0 + 64 + 34 * k) by rw [if_pos (by omega)]; rfl) ?_
      refine fv_callV_i C (ml_D_146 D dA) im_W_takeFirst se_W_takeFirst hRr.1 rfl (ct_W_takeFirst (fx := fx) (by omega) hl4 (by rw [← hrow]; exact hV.choose_spec.2.2.2)) d_D_read_16 (n := 19) rfl rfl rfl rfl (Nat.le_of_ble_eq_true rfl) (Nat.le_of_ble_eq_true rfl) (Nat.le_of_ble_eq_true rfl) (Nat.le_refl _) (Nat.le_refl _) (fun r0 h1 hp => ?_)
      obtain ⟨rfl, hRD1, hf1⟩ := hp
      have hD1 : DK dA h1 b0 aE (sp_setR S k (rc_rr (sp_R S k) t)) := by
        refine dk_setR3 (by omega) haE hD (hf1.mono (fun x hx => by omega)) ?_ hfx
        obtain ⟨kp, v1, v2, v3, v4⟩ := hV
        exact ⟨kp, v1.fs hf1 ⟨by omega, by omega, by omega⟩, v2, fun j hj => (v3 j hj).fs hf1 (fun x a1 a2 => by omega), hRD1⟩
      have hI1 : sp_I (sp_setR S k (rc_rr (sp_R S k) t)) := sp_I_setR hI (rc_rr_I hRI hrow)
      have hb := hb2_nI (k := k) (i := i) (by omega) hi4
      have ea : bk_ad b0 (nI k) (nI i) = b0 + 64 + 34 * k + 6 + 7 * i + 1 := by unfold bk_ad; rw [if_neg (nI_nm1 (by omega)), hcl, nI_clamp (by omega)]
      have hBL : BL dA h1 (b0 + 64 + 34 * k + 6 + 7 * i + 1) (fe_bk S.1 i (rc_ap (sp_R S k) i)) (rc_ap (sp_R S k) i) := by
        obtain ⟨kp, v1, v2, v3, v4⟩ := hV
        obtain ⟨hs, sv, -, -, z, -⟩ := v3 i hi4
        exact z.fs hf1 ⟨by omega, by omega, by omega, by omega⟩
      obtain ⟨ids, pri, siz, hB1, -, -⟩ := id hBL
      obtain ⟨gR1, hRr1, hRg1⟩ := id hRD1
      refine fv_istore_n C d_D_read_19 (n := 20) rfl (i := 2) rfl (by decide) (L' := [_, _, _]) rfl ?_
      refine fv_iload_n C d_D_read_20 (n := 21) rfl (i := 2) rfl rfl ?_
      refine fv_iconst C d_D_read_21 (n := 22) rfl kI_m1 ?_
      refine fv_icmp_eq C d_D_read_22 (tgt := 44) rfl (n := 25) rfl (fun hc22 => ?_) (fun hc22 => ?_)
      · exact absurd hc22 (nI_nm1 (by omega))
      · refine fv_aload_n C d_D_read_25 (n := 26) rfl (i := 0) rfl rfl ?_
        refine fv_iload_n C d_D_read_26 (n := 27) rfl (i := 1) rfl rfl ?_
        refine fv_iload_n C d_D_read_27 (n := 28) rfl (i := 2) rfl rfl ?_
        refine fv_callV_r C (ml_D_108 D dA) im_D_book se_D_book hD1.1.1 rfl (ct_D_book hb haE hBs hD1 hI1) d_D_read_28 (n := 31) rfl rfl rfl rfl (Nat.le_of_ble_eq_true rfl) (Nat.le_of_ble_eq_true rfl) (Nat.le_of_ble_eq_true rfl) (Nat.le_refl _) (Nat.le_refl _) ?_
        rw [ea]
        refine fv_aload_n C d_D_read_31 (n := 32) rfl (i := 0) rfl rfl ?_
        refine fv_get C (fl_D_17 D dA) d_D_read_32 (n := 35) rfl hD1.1.1 rfl ?_
        refine fv_iload_n C d_D_read_35 (n := 36) rfl (i := 1) rfl rfl ?_
        refine fv_aaldN C (t0 := 5) rfl d_D_read_36 (n := 37) rfl hD1.1.2.2 (by omega) (by decide) (show va_rf (if k < 2 then some (b0 + 64 + 34 * k) else none) = .ref (b0 + 64 + 34 * k) by rw [if_pos (by omega)]; rfl) ?_
        refine fv_get C (fl_D_149 D dA) d_D_read_37 (n := 40) rfl hRr1.1 rfl ?_
        refine fv_callV_i C (ml_D_153 D dA) im_B_refresh se_B_refresh hB1.1 rfl (ct_B_refresh hRr1.2.2 (by omega) (by omega) hBL) d_D_read_40 (n := 43) rfl rfl rfl rfl (Nat.le_of_ble_eq_true rfl) (Nat.le_of_ble_eq_true rfl) (Nat.le_of_ble_eq_true rfl) (Nat.le_refl _) (Nat.le_refl _) (fun r0 h2 hp => ?_)
        obtain ⟨rfl, hc2, hf2⟩ := hp
        have hf9 := hf1.tr hf2.fs (U := fun x => b0 + 64 + 34 * k ≤ x ∧ x < b0 + 64 + 34 * k + 3) (fun x hx => hx) (fun x hx => by omega)
        refine fv_pop C d_D_read_43 (n := 44) rfl rfl ?_
        refine fv_iload_n C d_D_read_44 (n := 45) rfl (i := 2) rfl rfl ?_
        refine fv_iret C rfl d_D_read_45 (Nat.le_refl _) (Nat.le_refl _) ?_
        refine ⟨_, rfl, rfl, by unfold sp_rdA; rw [if_pos hgood, hcl, hrow], ?_, hf9.mono (fun x hx => by unfold SD; omega)⟩
        unfold sp_rdS
        rw [if_pos hgood, hcl, hrow]
        refine dk_setR2 (by omega) haE hD (hf9.mono (fun x hx => by omega)) ?_ (fx := fun j => if j < 19 then fe_vw (fe_bk S.1 i (rc_ap (sp_R S k) i)) j else fx j) (fun c hc => if_pos hc)
        obtain ⟨kp, v1, v2, v3, v4⟩ := hV
        exact ⟨kp, v1.fs hf9 ⟨by omega, by omega, by omega⟩, v2, fun j hj => (v3 j hj).fs hf9 (fun x a1 a2 => by omega), ⟨gR1, ⟨(hf2.at (by omega)).trans hRr1.1, (hf2.at (by omega)).trans hRr1.2.1, hc2⟩, hRg1⟩⟩
  · have hbad : ¬ iv r 0 1 = true := by rw [hc4]; decide
    refine fv_bipush C d_D_read_7 (n := 9) rfl kB_m2 ?_
    refine fv_iret C rfl d_D_read_9 (Nat.le_refl _) (Nat.le_refl _) ?_
    exact ⟨_, rfl, rfl, by unfold sp_rdA; rw [if_neg hbad], by unfold sp_rdS; rw [if_neg hbad]; exact hD, fs_rf _ _⟩
theorem sp_vv {s lv wh : Int32} (h : (sp_vh s lv wh || sp_vl s lv wh) = true) : ∃ s2 l2 w2 : Nat, s = nI s2 ∧ lv = nI l2 ∧ wh = nI w2 ∧ s2 ≤ 2 ∧ l2 ≤ 2 ∧ w2 ≤ 2 ∧ s2 * 9 + l2 * 3 + w2 < 19 := by
  rw [Bool.or_eq_true] at h
  rcases h with h | h
  · obtain ⟨h1, h2, h3⟩ := of_decide_eq_true h
    exact ⟨2, 0, 0, h1, by rw [h2, nI_0], by rw [h3, nI_0], by omega, by omega, by omega, by omega⟩
  · unfold sp_vl at h
    simp only [Bool.and_eq_true] at h
    obtain ⟨s2, -, a2, rfl⟩ := iv_of (by decide) (by decide) h.1.1
    obtain ⟨l2, -, b2, rfl⟩ := iv_of (by decide) (by decide) h.1.2
    obtain ⟨w2, -, c2, rfl⟩ := iv_of (by decide) (by decide) h.2
    exact ⟨s2, l2, w2, rfl, rfl, rfl, by omega, by omega, by omega, by omega⟩
theorem ct_D_view {r s lv wh : Int32} (haE : b0 + 132 ≤ aE) (hBs : Bs ≤ b0) (hD : DK dA h b0 aE S) (hI : sp_I S) : fv_T l (fk D dA) Bs WA m_D_view [.ref b0, .int r, .int s, .int lv, .int wh] sz h 0 0 (fp_r (.int (sp_vwA S r s lv wh)) sz h) := by
  obtain ⟨evs, en, hPb, hev, hen⟩ := hD.2.1
  refine fv_of (L := [_, _, _, _, _, _, _]) (by decide +kernel) rfl (Nat.le_of_ble_eq_true rfl) rfl ?_
  intro X hX C
  subst hX
  have t50 : ∀ b5 b6, b5 = sp_vh s lv wh → b6 = sp_vl s lv wh → fv_V (fk D dA) Bs X 7 (fv_MQ (fk D dA) Bs X (fp_r (.int (sp_vwA S r s lv wh)) sz h) 0 0) 50 [some (.ref b0), some (.int r), some (.int s), some (.int lv), some (.int wh), some (.int (fv_b b5)), none] [.int (fv_b b6)] sz h 0 0 := by
    intro b5 b6 e5 e6
    refine fv_istore C d_D_view_50 (n := 52) rfl (by decide) (L' := [_, _, _, _, _, _, _]) rfl ?_
    refine fv_iload_n C d_D_view_52 (n := 53) rfl (i := 1) rfl rfl ?_
    refine fv_callS_r C (ml_D_59 D dA) sm_D_isReceiver ct_D_isReceiver d_D_view_53 (n := 56) rfl rfl rfl rfl (Nat.le_of_ble_eq_true rfl) (Nat.le_of_ble_eq_true rfl) (Nat.le_of_ble_eq_true rfl) (Nat.le_refl _) (Nat.le_refl _) ?_
    refine fv_ifB_eq C d_D_view_56 (tgt := 69) rfl (n := 59) rfl (fun hc56 => ?_) (fun hc56 => ?_)
    · have hbad : ¬ (iv r 0 1 && (sp_vh s lv wh || sp_vl s lv wh)) = true := by simp [hc56]
      refine fv_ldc C d_D_view_69 (n := 71) rfl kc_D_132 ?_
      refine fv_iret C rfl d_D_view_71 (Nat.le_refl _) (Nat.le_refl _) ?_
      exact ⟨by unfold sp_vwA; rw [if_neg hbad], rfl, rfl⟩
    · refine fv_iload C d_D_view_59 (n := 61) rfl rfl ?_
      refine fv_ifB_ne C d_D_view_61 (tgt := 72) rfl (n := 64) rfl (fun hc61 => ?_) (fun hc61 => ?_)
      · have hgood : (iv r 0 1 && (sp_vh s lv wh || sp_vl s lv wh)) = true := by simp [hc56, ← e5, ← e6, hc61]
        obtain ⟨s2, l2, w2, rfl, rfl, rfl, q1, q2, q3, q4⟩ := sp_vv (s := s) (lv := lv) (wh := wh) (by simp [← e5, ← e6, hc61])
        have hcs : (nI s2).toNatClampNeg = s2 := nI_clamp (by omega)
        have hcl2 : (nI l2).toNatClampNeg = l2 := nI_clamp (by omega)
        have hcw : (nI w2).toNatClampNeg = w2 := nI_clamp (by omega)
        obtain ⟨k, -, hk, rfl⟩ := iv_of (by decide) (by decide) hc56
        have hcl : (nI k).toNatClampNeg = k := nI_clamp (by omega)
        obtain ⟨fx, hV, hfx⟩ := hD.2.2.2.2.1 k (by omega)
        have hVo := hV.choose_spec.1
        have hRI := hI.2.2.2.1 k (by omega)
        obtain ⟨gR, hRr, hRg⟩ := id hV.choose_spec.2.2.2
        have hans : sp_vwA S (nI k) (nI s2) (nI l2) (nI w2) = fx (s2 * 9 + l2 * 3 + w2) := by unfold sp_vwA; rw [if_pos hgood, hcl, hcs, hcl2, hcw]; exact (hfx _ q4).symm
        refine fv_aload_n C d_D_view_72 (n := 73) rfl (i := 0) rfl rfl ?_
        refine fv_get C (fl_D_17 D dA) d_D_view_73 (n := 76) rfl hD.1.1 rfl ?_
        refine fv_iload_n C d_D_view_76 (n := 77) rfl (i := 1) rfl rfl ?_
        refine fv_aaldN C (t0 := 5) rfl d_D_view_77 (n := 78) rfl hD.1.2.2 (by omega) (by decide) (show va_rf (if k < 2 then some (b0 + 64 + 34 * k) else none) = .ref (b0 + 64 + 34 * k) by rw [if_pos (by omega)]; rfl) ?_
        refine fv_get C (fl_D_149 D dA) d_D_view_78 (n := 81) rfl hRr.1 rfl ?_
        refine fv_iload_n C d_D_view_81 (n := 82) rfl (i := 2) rfl rfl ?_
        refine fv_bipush C d_D_view_82 (n := 84) rfl kB_9 ?_
        first | refine fv_imulN C d_D_view_84 (n := 85) rfl ?_ | refine fv_imul C d_D_view_84 (n := 85) rfl ?_
        refine fv_iload_n C d_D_view_85 (n := 86) rfl (i := 3) rfl rfl ?_
        refine fv_iconst C d_D_view_86 (n := 87) rfl kI_3 ?_
        first | refine fv_imulN C d_D_view_87 (n := 88) rfl ?_ | refine fv_imul C d_D_view_87 (n := 88) rfl ?_
        first | refine fv_iaddN C d_D_view_88 (n := 89) rfl ?_ | refine fv_iadd C d_D_view_88 (n := 89) rfl ?_
        refine fv_iload C d_D_view_89 (n := 91) rfl rfl ?_
        first | refine fv_iaddN C d_D_view_91 (n := 92) rfl ?_ | refine fv_iadd C d_D_view_91 (n := 92) rfl ?_
        refine fv_ialdN C (t0 := 0) rfl d_D_view_92 (n := 93) rfl hRr.2.2 (by omega) (by decide) ?_
        refine fv_iret C rfl d_D_view_93 (Nat.le_refl _) (Nat.le_refl _) ?_
        exact ⟨by rw [hans], rfl, rfl⟩
      · refine fv_iload C d_D_view_64 (n := 66) rfl rfl ?_
        refine fv_ifB_ne C d_D_view_66 (tgt := 72) rfl (n := 69) rfl (fun hc66 => ?_) (fun hc66 => ?_)
        · have hgood : (iv r 0 1 && (sp_vh s lv wh || sp_vl s lv wh)) = true := by simp [hc56, ← e5, ← e6, hc66]
          obtain ⟨s2, l2, w2, rfl, rfl, rfl, q1, q2, q3, q4⟩ := sp_vv (s := s) (lv := lv) (wh := wh) (by simp [← e5, ← e6, hc66])
          have hcs : (nI s2).toNatClampNeg = s2 := nI_clamp (by omega)
          have hcl2 : (nI l2).toNatClampNeg = l2 := nI_clamp (by omega)
          have hcw : (nI w2).toNatClampNeg = w2 := nI_clamp (by omega)
          obtain ⟨k, -, hk, rfl⟩ := iv_of (by decide) (by decide) hc56
          have hcl : (nI k).toNatClampNeg = k := nI_clamp (by omega)
          obtain ⟨fx, hV, hfx⟩ := hD.2.2.2.2.1 k (by omega)
          have hVo := hV.choose_spec.1
          have hRI := hI.2.2.2.1 k (by omega)
          obtain ⟨gR, hRr, hRg⟩ := id hV.choose_spec.2.2.2
          have hans : sp_vwA S (nI k) (nI s2) (nI l2) (nI w2) = fx (s2 * 9 + l2 * 3 + w2) := by unfold sp_vwA; rw [if_pos hgood, hcl, hcs, hcl2, hcw]; exact (hfx _ q4).symm
          refine fv_aload_n C d_D_view_72 (n := 73) rfl (i := 0) rfl rfl ?_
          refine fv_get C (fl_D_17 D dA) d_D_view_73 (n := 76) rfl hD.1.1 rfl ?_
          refine fv_iload_n C d_D_view_76 (n := 77) rfl (i := 1) rfl rfl ?_
          refine fv_aaldN C (t0 := 5) rfl d_D_view_77 (n := 78) rfl hD.1.2.2 (by omega) (by decide) (show va_rf (if k < 2 then some (b0 + 64 + 34 * k) else none) = .ref (b0 + 64 + 34 * k) by rw [if_pos (by omega)]; rfl) ?_
          refine fv_get C (fl_D_149 D dA) d_D_view_78 (n := 81) rfl hRr.1 rfl ?_
          refine fv_iload_n C d_D_view_81 (n := 82) rfl (i := 2) rfl rfl ?_
          refine fv_bipush C d_D_view_82 (n := 84) rfl kB_9 ?_
          first | refine fv_imulN C d_D_view_84 (n := 85) rfl ?_ | refine fv_imul C d_D_view_84 (n := 85) rfl ?_
          refine fv_iload_n C d_D_view_85 (n := 86) rfl (i := 3) rfl rfl ?_
          refine fv_iconst C d_D_view_86 (n := 87) rfl kI_3 ?_
          first | refine fv_imulN C d_D_view_87 (n := 88) rfl ?_ | refine fv_imul C d_D_view_87 (n := 88) rfl ?_
          first | refine fv_iaddN C d_D_view_88 (n := 89) rfl ?_ | refine fv_iadd C d_D_view_88 (n := 89) rfl ?_
          refine fv_iload C d_D_view_89 (n := 91) rfl rfl ?_
          first | refine fv_iaddN C d_D_view_91 (n := 92) rfl ?_ | refine fv_iadd C d_D_view_91 (n := 92) rfl ?_
          refine fv_ialdN C (t0 := 0) rfl d_D_view_92 (n := 93) rfl hRr.2.2 (by omega) (by decide) ?_
          refine fv_iret C rfl d_D_view_93 (Nat.le_refl _) (Nat.le_refl _) ?_
          exact ⟨by rw [hans], rfl, rfl⟩
        · have hbad : ¬ (iv r 0 1 && (sp_vh s lv wh || sp_vl s lv wh)) = true := by simp [← e5, ← e6, hc61, hc66]
          refine fv_ldc C d_D_view_69 (n := 71) rfl kc_D_132 ?_
          refine fv_iret C rfl d_D_view_71 (Nat.le_refl _) (Nat.le_refl _) ?_
          exact ⟨by unfold sp_vwA; rw [if_neg hbad], rfl, rfl⟩
  have t19 : ∀ b5, b5 = sp_vh s lv wh → fv_V (fk D dA) Bs X 7 (fv_MQ (fk D dA) Bs X (fp_r (.int (sp_vwA S r s lv wh)) sz h) 0 0) 19 [some (.ref b0), some (.int r), some (.int s), some (.int lv), some (.int wh), none, none] [.int (fv_b b5)] sz h 0 0 := by
    intro b5 e5
    refine fv_istore C d_D_view_19 (n := 21) rfl (by decide) (L' := [_, _, _, _, _, _, _]) rfl ?_
    refine fv_iload_n C d_D_view_21 (n := 22) rfl (i := 2) rfl rfl ?_
    refine fv_callS_r C (ml_D_39 D dA) sm_D_isSide ct_D_isSide d_D_view_22 (n := 25) rfl rfl rfl rfl (Nat.le_of_ble_eq_true rfl) (Nat.le_of_ble_eq_true rfl) (Nat.le_of_ble_eq_true rfl) (Nat.le_refl _) (Nat.le_refl _) ?_
    refine fv_ifB_eq C d_D_view_25 (tgt := 49) rfl (n := 28) rfl (fun hc25 => ?_) (fun hc25 => ?_)
    · have e6 : false = sp_vl s lv wh := (by unfold sp_vl; simp [hc25])
      refine fv_iconst C d_D_view_49 (n := 50) rfl kI_0 ?_
      exact t50 _ _ e5 e6
    · refine fv_iload_n C d_D_view_28 (n := 29) rfl (i := 3) rfl rfl ?_
      refine fv_if_lt C d_D_view_29 (tgt := 49) rfl (n := 32) rfl (fun hc29 => ?_) (fun hc29 => ?_)
      · have h29 : iv lv 0 2 = false := iv_lo0 hc29
        have e6 : false = sp_vl s lv wh := (by unfold sp_vl; simp [h29])
        refine fv_iconst C d_D_view_49 (n := 50) rfl kI_0 ?_
        exact t50 _ _ e5 e6
      · refine fv_iload_n C d_D_view_32 (n := 33) rfl (i := 3) rfl rfl ?_
        refine fv_iconst C d_D_view_33 (n := 34) rfl kI_3 ?_
        refine fv_icmp_ge C d_D_view_34 (tgt := 49) rfl (n := 37) rfl (fun hc34 => ?_) (fun hc34 => ?_)
        · have h29 : iv lv 0 2 = false := iv_hi (by decide) hc34
          have e6 : false = sp_vl s lv wh := (by unfold sp_vl; simp [h29])
          refine fv_iconst C d_D_view_49 (n := 50) rfl kI_0 ?_
          exact t50 _ _ e5 e6
        · have h29 : iv lv 0 2 = true := iv_in (by decide) hc29 hc34
          refine fv_iload C d_D_view_37 (n := 39) rfl rfl ?_
          refine fv_callS_r C (ml_D_129 D dA) sm_D_isLevelValue ct_D_isLevelValue d_D_view_39 (n := 42) rfl rfl rfl rfl (Nat.le_of_ble_eq_true rfl) (Nat.le_of_ble_eq_true rfl) (Nat.le_of_ble_eq_true rfl) (Nat.le_refl _) (Nat.le_refl _) ?_
          refine fv_ifB_eq C d_D_view_42 (tgt := 49) rfl (n := 45) rfl (fun hc42 => ?_) (fun hc42 => ?_)
          · have e6 : false = sp_vl s lv wh := (by unfold sp_vl; simp [hc42])
            refine fv_iconst C d_D_view_49 (n := 50) rfl kI_0 ?_
            exact t50 _ _ e5 e6
          · have e6 : true = sp_vl s lv wh := (by unfold sp_vl; simp [hc25, h29, hc42])
            refine fv_iconst C d_D_view_45 (n := 46) rfl kI_1 ?_
            refine fv_goto C d_D_view_46 (tgt := 50) rfl ?_
            exact t50 _ _ e5 e6
  refine fv_iload_n C d_D_view_0 (n := 1) rfl (i := 2) rfl rfl ?_
  refine fv_iconst C d_D_view_1 (n := 2) rfl kI_2 ?_
  refine fv_icmp_ne C d_D_view_2 (tgt := 18) rfl (n := 5) rfl (fun hc2 => ?_) (fun hc2 => ?_)
  · have e5 : false = sp_vh s lv wh := (by unfold sp_vh; exact (decide_eq_false (fun q => hc2 q.1)).symm)
    refine fv_iconst C d_D_view_18 (n := 19) rfl kI_0 ?_
    exact t19 _ e5
  · refine fv_iload_n C d_D_view_5 (n := 6) rfl (i := 3) rfl rfl ?_
    refine fv_if_ne C d_D_view_6 (tgt := 18) rfl (n := 9) rfl (fun hc6 => ?_) (fun hc6 => ?_)
    · have e5 : false = sp_vh s lv wh := (by unfold sp_vh; exact (decide_eq_false (fun q => hc6 q.2.1)).symm)
      refine fv_iconst C d_D_view_18 (n := 19) rfl kI_0 ?_
      exact t19 _ e5
    · refine fv_iload C d_D_view_9 (n := 11) rfl rfl ?_
      refine fv_if_ne C d_D_view_11 (tgt := 18) rfl (n := 14) rfl (fun hc11 => ?_) (fun hc11 => ?_)
      · have e5 : false = sp_vh s lv wh := (by unfold sp_vh; exact (decide_eq_false (fun q => hc11 q.2.2)).symm)
        refine fv_iconst C d_D_view_18 (n := 19) rfl kI_0 ?_
        exact t19 _ e5
      · have e5 : true = sp_vh s lv wh := (decide_eq_true ⟨hc2, hc6, hc11⟩).symm
        refine fv_iconst C d_D_view_14 (n := 15) rfl kI_1 ?_
        refine fv_goto C d_D_view_15 (tgt := 19) rfl ?_
        exact t19 _ e5
end DK3
