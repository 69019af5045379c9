/-! FeedDesk: the other public methods -/
section DK2
variable {l : Launch} {D : va_G} {dA : Nat → ClassId} {Bs sz : Nat} {h : fv_H} {b0 aE : Nat} {S : sp_T}
theorem ct_D_line {w p r : Int32}  (haE : b0 + 132 ≤ aE) (hBs : Bs ≤ b0) (hD : DK dA h b0 aE S) (hI : sp_I S) : fv_T l (fk D dA) Bs WA m_D_line [.ref b0, .int w, .int p, .int r] sz h 0 0 (fp_i sz (fun r0 h' => r0 = sp_lnA S w p r ∧ DK dA h' b0 aE (sp_lnS S w p r) ∧ fs h h' (SD b0 aE))) := by
  obtain ⟨evs, en, hPb, hev, hen⟩ := hD.2.1
  refine fv_of (L := [_, _, _, _]) (by decide +kernel) rfl (Nat.le_of_ble_eq_true rfl) rfl ?_
  intro X hX C
  subst hX
  refine fv_iload_n C d_D_line_0 (n := 1) rfl (i := 1) rfl rfl ?_
  refine fv_if_lt C d_D_line_1 (tgt := 27) rfl (n := 4) rfl (fun hc1 => ?_) (fun hc1 => ?_)
  · have hw : iv w 0 1 = false := iv_lo0 hc1
    have hbad : ¬ (iv w 0 1 && fe_cl p S.2.1.length && iv r 0 1) = true := by simp [hw]
    refine fv_bipush C d_D_line_27 (n := 29) rfl kB_m2 ?_
    refine fv_iret C rfl d_D_line_29 (Nat.le_refl _) (Nat.le_refl _) ?_
    exact ⟨_, rfl, rfl, by unfold sp_lnA; rw [if_neg hbad], by unfold sp_lnS; rw [if_neg hbad]; exact hD, fs_rf _ _⟩
  · refine fv_iload_n C d_D_line_4 (n := 5) rfl (i := 1) rfl rfl ?_
    refine fv_iconst C d_D_line_5 (n := 6) rfl kI_2 ?_
    refine fv_icmp_ge C d_D_line_6 (tgt := 27) rfl (n := 9) rfl (fun hc6 => ?_) (fun hc6 => ?_)
    · have hw : iv w 0 1 = false := iv_hi (by decide) hc6
      have hbad : ¬ (iv w 0 1 && fe_cl p S.2.1.length && iv r 0 1) = true := by simp [hw]
      refine fv_bipush C d_D_line_27 (n := 29) rfl kB_m2 ?_
      refine fv_iret C rfl d_D_line_29 (Nat.le_refl _) (Nat.le_refl _) ?_
      exact ⟨_, rfl, rfl, by unfold sp_lnA; rw [if_neg hbad], by unfold sp_lnS; rw [if_neg hbad]; exact hD, fs_rf _ _⟩
    · have hw : iv w 0 1 = true := iv_in (by decide) hc1 hc6
      refine fv_aload_n C d_D_line_9 (n := 10) rfl (i := 0) rfl rfl ?_
      refine fv_get C (fl_D_24 D dA) d_D_line_10 (n := 13) rfl hD.1.1 rfl ?_
      refine fv_iload_n C d_D_line_13 (n := 14) rfl (i := 2) rfl rfl ?_
      refine fv_callV_r C (ml_D_56 D dA) im_P_isClosed se_P_isClosed hPb.1 rfl (ct_P_isClosed hI.2.2.1 hD.2.1) d_D_line_14 (n := 17) rfl rfl rfl rfl (Nat.le_of_ble_eq_true rfl) (Nat.le_of_ble_eq_true rfl) (Nat.le_of_ble_eq_true rfl) (Nat.le_refl _) (Nat.le_refl _) ?_
      refine fv_ifB_eq C d_D_line_17 (tgt := 27) rfl (n := 20) rfl (fun hc17 => ?_) (fun hc17 => ?_)
      · have hbad : ¬ (iv w 0 1 && fe_cl p S.2.1.length && iv r 0 1) = true := by simp [hc17]
        refine fv_bipush C d_D_line_27 (n := 29) rfl kB_m2 ?_
        refine fv_iret C rfl d_D_line_29 (Nat.le_refl _) (Nat.le_refl _) ?_
        exact ⟨_, rfl, rfl, by unfold sp_lnA; rw [if_neg hbad], by unfold sp_lnS; rw [if_neg hbad]; exact hD, fs_rf _ _⟩
      · refine fv_iload_n C d_D_line_20 (n := 21) rfl (i := 3) rfl rfl ?_
        refine fv_callS_r C (ml_D_59 D dA) sm_D_isReceiver ct_D_isReceiver d_D_line_21 (n := 24) rfl rfl rfl rfl (Nat.le_of_ble_eq_true rfl) (Nat.le_of_ble_eq_true rfl) (Nat.le_of_ble_eq_true rfl) (Nat.le_refl _) (Nat.le_refl _) ?_
        refine fv_ifB_ne C d_D_line_24 (tgt := 30) rfl (n := 27) rfl (fun hc24 => ?_) (fun hc24 => ?_)
        · have hgood : (iv w 0 1 && fe_cl p S.2.1.length && iv r 0 1) = true := by simp [hw, hc17, hc24]
          have hel := fe_ends_len hI.2.2.1
          obtain ⟨q, hq1, hq2, rfl⟩ := fe_cl_of (by omega) hc17
          have hclq : (nI q).toNatClampNeg = q := nI_clamp (by omega)
          obtain ⟨k, -, hk, rfl⟩ := iv_of (by decide) (by decide) hc24
          have hcl : (nI k).toNatClampNeg = k := nI_clamp (by omega)
          obtain ⟨fx, hV, hfx⟩ := hD.2.2.2.2.1 k (by omega)
          have hVo := hV.choose_spec.1
          have hRI := hI.2.2.2.1 k (by omega)
          refine fv_aload_n C d_D_line_30 (n := 31) rfl (i := 0) rfl rfl ?_
          refine fv_get C (fl_D_11 D dA) d_D_line_31 (n := 34) rfl hD.1.1 rfl ?_
          refine fv_iload_n C d_D_line_34 (n := 35) rfl (i := 3) rfl rfl ?_
          refine fv_aaldN C (t0 := 4) rfl d_D_line_35 (n := 36) rfl hD.1.2.1 (by omega) (by decide) (show va_rf (if k < 2 then some (b0 + 64 + 34 * k + 3) else none) = .ref (b0 + 64 + 34 * k + 3) by rw [if_pos (by omega)]; rfl) ?_
          refine fv_iload_n C d_D_line_36 (n := 37) rfl (i := 2) rfl rfl ?_
          refine fv_callV_i C (ml_D_62 D dA) im_V_hear se_V_hear hVo.1 rfl (ct_V_hear hq1 hq2 hI.1 hI.2.1 (by omega) (by omega) (by omega) hD.2.2.2.2.2 hI.2.2.1 hD.2.1 hV hRI) d_D_line_37 (n := 40) rfl rfl rfl rfl (Nat.le_of_ble_eq_true rfl) (Nat.le_of_ble_eq_true rfl) (Nat.le_of_ble_eq_true rfl) (Nat.le_refl _) (Nat.le_refl _) (fun r0 h1 hp => ?_)
          obtain ⟨rfl, q1, q2⟩ := hp
          refine fv_iret C rfl d_D_line_40 (Nat.le_refl _) (Nat.le_refl _) ?_
          exact ⟨_, rfl, rfl, by unfold sp_lnA; rw [if_pos hgood, hcl, hclq], by unfold sp_lnS; rw [if_pos hgood, hcl, hclq]; exact dk_setR3 (by omega) haE hD q2 q1 hfx, q2.mono (fun x hx => by unfold SD; omega)⟩
        · have hbad : ¬ (iv w 0 1 && fe_cl p S.2.1.length && iv r 0 1) = true := by simp [hc24]
          refine fv_bipush C d_D_line_27 (n := 29) rfl kB_m2 ?_
          refine fv_iret C rfl d_D_line_29 (Nat.le_refl _) (Nat.le_refl _) ?_
          exact ⟨_, rfl, rfl, by unfold sp_lnA; rw [if_neg hbad], by unfold sp_lnS; rw [if_neg hbad]; exact hD, fs_rf _ _⟩
theorem ct_D_askReplay {r : Int32}  (haE : b0 + 132 ≤ aE) (hBs : Bs ≤ b0) (hD : DK dA h b0 aE S) (hI : sp_I S) : fv_T l (fk D dA) Bs WA m_D_askReplay [.ref b0, .int r] sz h 0 0 (fp_i sz (fun r0 h' => r0 = sp_akA S r ∧ DK dA h' b0 aE (sp_akS S r) ∧ fs h h' (SD b0 aE))) := by
  obtain ⟨evs, en, hPb, hev, hen⟩ := hD.2.1
  refine fv_of (L := [_, _]) (by decide +kernel) rfl (Nat.le_of_ble_eq_true rfl) rfl ?_
  intro X hX C
  subst hX
  refine fv_iload_n C d_D_askReplay_0 (n := 1) rfl (i := 1) rfl rfl ?_
  refine fv_callS_r C (ml_D_59 D dA) sm_D_isReceiver ct_D_isReceiver d_D_askReplay_1 (n := 4) rfl rfl rfl rfl (Nat.le_of_ble_eq_true rfl) (Nat.le_of_ble_eq_true rfl) (Nat.le_of_ble_eq_true rfl) (Nat.le_refl _) (Nat.le_refl _) ?_
  refine fv_ifB_eq C d_D_askReplay_4 (tgt := 19) rfl (n := 7) rfl (fun hc4 => ?_) (fun hc4 => ?_)
  · have hbad : ¬ iv r 0 1 = true := by rw [hc4]; decide
    refine fv_bipush C d_D_askReplay_19 (n := 21) rfl kB_m2 ?_
    refine fv_iret C rfl d_D_askReplay_21 (Nat.le_refl _) (Nat.le_refl _) ?_
    first | exact ⟨_, rfl, rfl, by unfold sp_akA; rw [if_neg hbad], by unfold sp_akS; rw [if_neg hbad]; exact hD, fs_rf _ _⟩ | exact ⟨_, rfl, rfl, by unfold sp_akA; rw [if_pos hgood, hcl], by unfold sp_akS; rw [if_pos hgood, hcl]; exact dk_setR3 (by omega) haE hD q2 q1 hfx, q2.mono (fun x hx => by unfold SD; omega)⟩
  · have hgood := hc4
    obtain ⟨k, -, hk, rfl⟩ := iv_of (by decide) (by decide) hc4
    have hcl : (nI k).toNatClampNeg = k := nI_clamp (by omega)
    obtain ⟨fx, hV, hfx⟩ := hD.2.2.2.2.1 k (by omega)
    have hVo := hV.choose_spec.1
    have hRI := hI.2.2.2.1 k (by omega)
    refine fv_aload_n C d_D_askReplay_7 (n := 8) rfl (i := 0) rfl rfl ?_
    refine fv_get C (fl_D_11 D dA) d_D_askReplay_8 (n := 11) rfl hD.1.1 rfl ?_
    refine fv_iload_n C d_D_askReplay_11 (n := 12) rfl (i := 1) rfl rfl ?_
    refine fv_aaldN C (t0 := 4) rfl d_D_askReplay_12 (n := 13) rfl hD.1.2.1 (by omega) (by decide) (show va_rf (if k < 2 then some (b0 + 64 + 34 * k + 3) else none) = .ref (b0 + 64 + 34 * k + 3) by rw [if_pos (by omega)]; rfl) ?_
    refine fv_callV_i C (ml_D_66 D dA) im_V_ask se_V_ask hVo.1 rfl (ct_V_ask (by omega) hI.2.2.1 hV hRI) d_D_askReplay_13 (n := 16) rfl rfl rfl rfl (Nat.le_of_ble_eq_true rfl) (Nat.le_of_ble_eq_true rfl) (Nat.le_of_ble_eq_true rfl) (Nat.le_refl _) (Nat.le_refl _) (fun r0 h1 hp => ?_)
    obtain ⟨rfl, q1, q2⟩ := hp
    refine fv_goto C d_D_askReplay_16 (tgt := 21) rfl ?_
    refine fv_iret C rfl d_D_askReplay_21 (Nat.le_refl _) (Nat.le_refl _) ?_
    first | exact ⟨_, rfl, rfl, by unfold sp_akA; rw [if_neg hbad], by unfold sp_akS; rw [if_neg hbad]; exact hD, fs_rf _ _⟩ | exact ⟨_, rfl, rfl, by unfold sp_akA; rw [if_pos hgood, hcl], by unfold sp_akS; rw [if_pos hgood, hcl]; exact dk_setR3 (by omega) haE hD q2 q1 hfx, q2.mono (fun x hx => by unfold SD; omega)⟩
theorem ct_D_serveReplay {r : Int32}  (haE : b0 + 132 ≤ aE) (hBs : Bs ≤ b0) (hD : DK dA h b0 aE S) (hI : sp_I S) : fv_T l (fk D dA) Bs WA m_D_serveReplay [.ref b0, .int r] sz h 0 0 (fp_i sz (fun r0 h' => r0 = sp_svA S r ∧ DK dA h' b0 aE (sp_svS S r) ∧ fs h h' (SD b0 aE))) := by
  obtain ⟨evs, en, hPb, hev, hen⟩ := hD.2.1
  refine fv_of (L := [_, _]) (by decide +kernel) rfl (Nat.le_of_ble_eq_true rfl) rfl ?_
  intro X hX C
  subst hX
  refine fv_iload_n C d_D_serveReplay_0 (n := 1) rfl (i := 1) rfl rfl ?_
  refine fv_callS_r C (ml_D_59 D dA) sm_D_isReceiver ct_D_isReceiver d_D_serveReplay_1 (n := 4) rfl rfl rfl rfl (Nat.le_of_ble_eq_true rfl) (Nat.le_of_ble_eq_true rfl) (Nat.le_of_ble_eq_true rfl) (Nat.le_refl _) (Nat.le_refl _) ?_
  refine fv_ifB_eq C d_D_serveReplay_4 (tgt := 19) rfl (n := 7) rfl (fun hc4 => ?_) (fun hc4 => ?_)
  · have hbad : ¬ iv r 0 1 = true := by rw [hc4]; decide
    refine fv_bipush C d_D_serveReplay_19 (n := 21) rfl kB_m2 ?_
    refine fv_iret C rfl d_D_serveReplay_21 (Nat.le_refl _) (Nat.le_refl _) ?_
    first | exact ⟨_, rfl, rfl, by unfold sp_svA; rw [if_neg hbad], by unfold sp_svS; rw [if_neg hbad]; exact hD, fs_rf _ _⟩ | exact ⟨_, rfl, rfl, by unfold sp_svA; rw [if_pos hgood, hcl], by unfold sp_svS; rw [if_pos hgood, hcl]; exact dk_setR3 (by omega) haE hD q2 q1 hfx, q2.mono (fun x hx => by unfold SD; omega)⟩
  · have hgood := hc4
    obtain ⟨k, -, hk, rfl⟩ := iv_of (by decide) (by decide) hc4
    have hcl : (nI k).toNatClampNeg = k := nI_clamp (by omega)
    obtain ⟨fx, hV, hfx⟩ := hD.2.2.2.2.1 k (by omega)
    have hVo := hV.choose_spec.1
    have hRI := hI.2.2.2.1 k (by omega)
    refine fv_aload_n C d_D_serveReplay_7 (n := 8) rfl (i := 0) rfl rfl ?_
    refine fv_get C (fl_D_11 D dA) d_D_serveReplay_8 (n := 11) rfl hD.1.1 rfl ?_
    refine fv_iload_n C d_D_serveReplay_11 (n := 12) rfl (i := 1) rfl rfl ?_
    refine fv_aaldN C (t0 := 4) rfl d_D_serveReplay_12 (n := 13) rfl hD.1.2.1 (by omega) (by decide) (show va_rf (if k < 2 then some (b0 + 64 + 34 * k + 3) else none) = .ref (b0 + 64 + 34 * k + 3) by rw [if_pos (by omega)]; rfl) ?_
    refine fv_callV_i C (ml_D_69 D dA) im_V_takeAnswer se_V_takeAnswer hVo.1 rfl (ct_V_takeAnswer hI.1 hI.2.1 (by omega) (by omega) (by omega) hD.2.2.2.2.2 hI.2.2.1 hD.2.1 hV hRI) d_D_serveReplay_13 (n := 16) rfl rfl rfl rfl (Nat.le_of_ble_eq_true rfl) (Nat.le_of_ble_eq_true rfl) (Nat.le_of_ble_eq_true rfl) (Nat.le_refl _) (Nat.le_refl _) (fun r0 h1 hp => ?_)
    obtain ⟨rfl, q1, q2⟩ := hp
    refine fv_goto C d_D_serveReplay_16 (tgt := 21) rfl ?_
    refine fv_iret C rfl d_D_serveReplay_21 (Nat.le_refl _) (Nat.le_refl _) ?_
    first | exact ⟨_, rfl, rfl, by unfold sp_svA; rw [if_neg hbad], by unfold sp_svS; rw [if_neg hbad]; exact hD, fs_rf _ _⟩ | exact ⟨_, rfl, rfl, by unfold sp_svA; rw [if_pos hgood, hcl], by unfold sp_svS; rw [if_pos hgood, hcl]; exact dk_setR3 (by omega) haE hD q2 q1 hfx, q2.mono (fun x hx => by unfold SD; omega)⟩
theorem ct_D_snapshotTurn  (hsc : (sp_sh S).length < 1000) (haE : b0 + 132 ≤ aE) (hBs : Bs ≤ b0) (hD : DK dA h b0 aE S) (hI : sp_I S) : fv_T l (fk D dA) Bs WA m_D_snapshotTurn [.ref b0] sz h 0 0 (fp_i sz (fun r0 h' => r0 = nI ((sp_sh S).length + 1) ∧ DK dA h' b0 aE (sp_snS S) ∧ fs h h' (SD b0 aE))) := by
  obtain ⟨evs, en, hPb, hev, hen⟩ := hD.2.1
  obtain ⟨si0, cov0, b1, n1, hSN, hSL, -⟩ := hD.2.2.2.1 (((sp_sh S).length + 1) % 8) (by omega)
  have hBL := hD.2.2.1 ((sp_sh S).length % 4) (by omega)
  rw [show b0 + 8 = b0 + 3 + 5 by omega] at hBL
  rw [show b0 + 24 = b0 + 3 + 21 by omega] at hSN hSL
  refine fv_of (L := [_]) (by decide +kernel) rfl (Nat.le_of_ble_eq_true rfl) rfl ?_
  intro X hX C
  subst hX
  refine fv_aload_n C d_D_snapshotTurn_0 (n := 1) rfl (i := 0) rfl rfl ?_
  refine fv_get C (fl_D_24 D dA) d_D_snapshotTurn_1 (n := 4) rfl hD.1.1 rfl ?_
  refine fv_callV_i C (ml_D_72 D dA) im_P_makeSnapshot se_P_makeSnapshot hPb.1 rfl (ct_P_makeSnapshot hsc (by omega) hBL hSN hSL hI.2.2.1 hD.2.1) d_D_snapshotTurn_4 (n := 7) rfl rfl rfl rfl (Nat.le_of_ble_eq_true rfl) (Nat.le_of_ble_eq_true rfl) (Nat.le_of_ble_eq_true rfl) (Nat.le_refl _) (Nat.le_refl _) (fun r0 h1 hp => ?_)
  obtain ⟨rfl, q1, q2, q3, q4⟩ := hp
  refine fv_iret C rfl d_D_snapshotTurn_7 (Nat.le_refl _) (Nat.le_refl _) ?_
  refine ⟨_, rfl, rfl, rfl, ?_, q4.mono (fun x hx => by unfold SD; omega)⟩
  refine dk_snap rfl haE hD q1 ?_ ?_ ?_
  · rw [show b0 + 24 = b0 + 3 + 21 by omega]; exact q2
  · rw [show b0 + 24 = b0 + 3 + 21 by omega]; exact q3
  · rw [show b0 + 24 = b0 + 3 + 21 by omega]; exact q4
theorem ct_D_hearSnapshot {x r y : Int32} (hsc : (sp_sh S).length < 1000) (haE : b0 + 132 ≤ aE) (hBs : Bs ≤ b0) (hD : DK dA h b0 aE S) (hI : sp_I S) : fv_T l (fk D dA) Bs WA m_D_hearSnapshot [.ref b0, .int x, .int r, .int y] sz h 0 0 (fp_i sz (fun r0 h' => r0 = sp_hsA S x r y ∧ DK dA h' b0 aE (sp_hsS S x r y) ∧ fs h h' (SD b0 aE))) := by
  obtain ⟨evs, en, hPb, hev, hen⟩ := hD.2.1
  refine fv_of (L := [_, _, _, _, _]) (by decide +kernel) rfl (Nat.le_of_ble_eq_true rfl) rfl ?_
  intro X hX C
  subst hX
  refine fv_aload_n C d_D_hearSnapshot_0 (n := 1) rfl (i := 0) rfl rfl ?_
  refine fv_get C (fl_D_24 D dA) d_D_hearSnapshot_1 (n := 4) rfl hD.1.1 rfl ?_
  refine fv_iload_n C d_D_hearSnapshot_4 (n := 5) rfl (i := 1) rfl rfl ?_
  refine fv_callV_r C (ml_D_75 D dA) im_P_canHear se_P_canHear hPb.1 rfl (ct_P_canHear hI.2.2.1 hD.2.1) d_D_hearSnapshot_5 (n := 8) rfl rfl rfl rfl (Nat.le_of_ble_eq_true rfl) (Nat.le_of_ble_eq_true rfl) (Nat.le_of_ble_eq_true rfl) (Nat.le_refl _) (Nat.le_refl _) ?_
  refine fv_ifB_eq C d_D_hearSnapshot_8 (tgt := 18) rfl (n := 11) rfl (fun hc8 => ?_) (fun hc8 => ?_)
  · have hbad : ¬ (fe_hr x (sp_sh S).length && iv r 0 1) = true := by simp [hc8]
    refine fv_bipush C d_D_hearSnapshot_18 (n := 20) rfl kB_m2 ?_
    refine fv_iret C rfl d_D_hearSnapshot_20 (Nat.le_refl _) (Nat.le_refl _) ?_
    exact ⟨_, rfl, rfl, by unfold sp_hsA; rw [if_neg hbad], by unfold sp_hsS; rw [if_neg hbad]; exact hD, fs_rf _ _⟩
  · refine fv_iload_n C d_D_hearSnapshot_11 (n := 12) rfl (i := 2) rfl rfl ?_
    refine fv_callS_r C (ml_D_59 D dA) sm_D_isReceiver ct_D_isReceiver d_D_hearSnapshot_12 (n := 15) rfl rfl rfl rfl (Nat.le_of_ble_eq_true rfl) (Nat.le_of_ble_eq_true rfl) (Nat.le_of_ble_eq_true rfl) (Nat.le_refl _) (Nat.le_refl _) ?_
    refine fv_ifB_ne C d_D_hearSnapshot_15 (tgt := 21) rfl (n := 18) rfl (fun hc15 => ?_) (fun hc15 => ?_)
    · have hgood : (fe_hr x (sp_sh S).length && iv r 0 1) = true := by simp [hc8, hc15]
      obtain ⟨m, hm1, hm2, hm3, rfl⟩ := fe_hr_of hsc hc8
      have hqm := sp_q_at hm1 hm2 hsc
      obtain ⟨si, cov, b, n, hS, hSL, hsn⟩ := hD.2.2.2.1 (m % 8) (by omega)
      obtain ⟨e1, e2, e3, e4⟩ := hsn (m - 1) _ hqm (by rw [Nat.sub_add_cancel hm1]) (by omega)
      obtain ⟨a1, a2, a3⟩ := hI.2.2.2.2 _ _ hqm
      have hqi : (sp_q S (nI m)).1 < 4 := by omega
      have hel := fe_ends_len hI.2.2.1
      have hPs : b0 + 3 + 21 + 5 * (m % 8) = b0 + 24 + 5 * (m % 8) := by omega
      obtain ⟨k, -, hk, rfl⟩ := iv_of (by decide) (by decide) hc15
      have hcl : (nI k).toNatClampNeg = k := nI_clamp (by omega)
      obtain ⟨fx, hV, hfx⟩ := hD.2.2.2.2.1 k (by omega)
      have hVo := hV.choose_spec.1
      have hRI := hI.2.2.2.1 k (by omega)
      have hph : sp_hp S (nI m) y = sn_has y b.1.length := by unfold sp_hp; rw [e4]
      refine fv_aload_n C d_D_hearSnapshot_21 (n := 22) rfl (i := 0) rfl rfl ?_
      refine fv_get C (fl_D_24 D dA) d_D_hearSnapshot_22 (n := 25) rfl hD.1.1 rfl ?_
      refine fv_iload_n C d_D_hearSnapshot_25 (n := 26) rfl (i := 1) rfl rfl ?_
      refine fv_callV_r C (ml_D_78 D dA) im_P_snapshot se_P_snapshot hPb.1 rfl (ct_P_snapshot (a := b0 + 3) (by omega) hI.2.2.1 hD.2.1) d_D_hearSnapshot_26 (n := 29) rfl rfl rfl rfl (Nat.le_of_ble_eq_true rfl) (Nat.le_of_ble_eq_true rfl) (Nat.le_of_ble_eq_true rfl) (Nat.le_refl _) (Nat.le_refl _) ?_
      rw [hPs]
      refine fv_astore C d_D_hearSnapshot_29 (n := 31) rfl (by decide) (L' := [_, _, _, _, _]) rfl ?_
      refine fv_aload C d_D_hearSnapshot_31 (n := 33) rfl rfl ?_
      refine fv_iload_n C d_D_hearSnapshot_33 (n := 34) rfl (i := 3) rfl rfl ?_
      refine fv_callV_r C (ml_D_82 D dA) im_S_hasPiece se_S_hasPiece hS rfl (ct_S_hasPiece hS hSL) d_D_hearSnapshot_34 (n := 37) rfl rfl rfl rfl (Nat.le_of_ble_eq_true rfl) (Nat.le_of_ble_eq_true rfl) (Nat.le_of_ble_eq_true rfl) (Nat.le_refl _) (Nat.le_refl _) ?_
      refine fv_ifB_eq C d_D_hearSnapshot_37 (tgt := 42) rfl (n := 40) rfl (fun hc37 => ?_) (fun hc37 => ?_)
      · have hph2 : ¬ sp_hp S (nI m) y = true := by rw [hph, hc37]; decide
        obtain ⟨hs, sv, hTK, hsv, hBL, hpm⟩ := hV.choose_spec.2.2.1 _ hqi
        have hTO := hTK.choose_spec.1
        have hRD := hV.choose_spec.2.2.2
        refine fv_aload_n C d_D_hearSnapshot_42 (n := 43) rfl (i := 0) rfl rfl ?_
        refine fv_get C (fl_D_11 D dA) d_D_hearSnapshot_43 (n := 46) rfl hD.1.1 rfl ?_
        refine fv_iload_n C d_D_hearSnapshot_46 (n := 47) rfl (i := 2) rfl rfl ?_
        refine fv_aaldN C (t0 := 4) rfl d_D_hearSnapshot_47 (n := 48) rfl hD.1.2.1 (by omega) (by decide) (show va_rf (if k < 2 then some (b0 + 64 + 34 * k + 3) else none) = .ref (b0 + 64 + 34 * k + 3) by rw [if_pos (by omega)]; rfl) ?_
        refine fv_get C (fl_D_87 D dA) d_D_hearSnapshot_48 (n := 51) rfl hVo.1 rfl ?_
        refine fv_aload C d_D_hearSnapshot_51 (n := 53) rfl rfl ?_
        refine fv_get C (fl_D_91 D dA) d_D_hearSnapshot_53 (n := 56) rfl hS rfl ?_
        rw [e1]
        refine fv_aaldN C (t0 := 7) rfl d_D_hearSnapshot_56 (n := 57) rfl hVo.2.1 (by omega) (by decide) (show va_rf (if (sp_q S (nI m)).1 < 4 then some (b0 + 64 + 34 * k + 3 + 3 + 7 * (sp_q S (nI m)).1) else none) = .ref (b0 + 64 + 34 * k + 6 + 7 * (sp_q S (nI m)).1) by rw [if_pos hqi]; rfl) ?_
        refine fv_aload C d_D_hearSnapshot_57 (n := 59) rfl rfl ?_
        rw [e1, e2] at hS
        rw [e3, e4] at hSL
        have hndl := hRI.1.2.2.2.2.2 _ hqi
        have hnx := hRI.1.2.1
        refine fv_callV_i C (ml_D_95 D dA) im_T_restore se_T_restore hTO.1 rfl (ct_T_restore hI.1 hI.2.1 hqi (by omega) (by omega) (by omega) (by omega) hD.2.2.2.2.2 (by omega) (by omega) hS hSL a2 (by omega) hTK hsv hBL hRD (hRI.1.2.2.2.2.1 _ hqi) hpm) d_D_hearSnapshot_59 (n := 62) rfl rfl rfl rfl (Nat.le_of_ble_eq_true rfl) (Nat.le_of_ble_eq_true rfl) (Nat.le_of_ble_eq_true rfl) (Nat.le_refl _) (Nat.le_refl _) (fun r0 h1 hp => ?_)
        obtain ⟨rfl, q1⟩ := hp
        have q3 := vc_rs hqi hV q1
        have q2 : fs h h1 (SX (b0 + 64 + 34 * k + 6 + 7 * (sp_q S (nI m)).1) (b0 + 64 + 34 * k)) := by obtain ⟨_, _, -, -, -, -, -, q6⟩ := q1; exact q6
        refine fv_iret C rfl d_D_hearSnapshot_62 (Nat.le_refl _) (Nat.le_refl _) ?_
        exact ⟨_, rfl, rfl, by unfold sp_hsA; rw [if_pos hgood, if_neg hph2, hcl], by unfold sp_hsS; rw [if_pos hgood, if_neg hph2, hcl]; exact dk_setR3 (by omega) haE hD (q2.mono (fun x hx => by unfold SX at hx; omega)) q3 hfx, q2.mono (fun x hx => by unfold SX at hx; unfold SD; omega)⟩
      · have hph2 : sp_hp S (nI m) y = true := by rw [hph, hc37]
        refine fv_iconst C d_D_hearSnapshot_40 (n := 41) rfl kI_0 ?_
        refine fv_iret C rfl d_D_hearSnapshot_41 (Nat.le_refl _) (Nat.le_refl _) ?_
        exact ⟨_, rfl, rfl, by unfold sp_hsA; rw [if_pos hgood, if_pos hph2], by unfold sp_hsS; rw [if_pos hgood, if_pos hph2]; exact hD, fs_rf _ _⟩
    · have hbad : ¬ (fe_hr x (sp_sh S).length && iv r 0 1) = true := by simp [hc15]
      refine fv_bipush C d_D_hearSnapshot_18 (n := 20) rfl kB_m2 ?_
      refine fv_iret C rfl d_D_hearSnapshot_20 (Nat.le_refl _) (Nat.le_refl _) ?_
      exact ⟨_, rfl, rfl, by unfold sp_hsA; rw [if_neg hbad], by unfold sp_hsS; rw [if_neg hbad]; exact hD, fs_rf _ _⟩
theorem ct_D_sound {r i : Int32}  (haE : b0 + 132 ≤ aE) (hBs : Bs ≤ b0) (hD : DK dA h b0 aE S) (hI : sp_I S) : fv_T l (fk D dA) Bs WA m_D_sound [.ref b0, .int r, .int i] sz h 0 0 (fp_r (.int (sp_sdA S r i)) sz h) := by
  obtain ⟨evs, en, hPb, hev, hen⟩ := hD.2.1
  refine fv_of (L := [_, _, _]) (by decide +kernel) rfl (Nat.le_of_ble_eq_true rfl) rfl ?_
  intro X hX C
  subst hX
  refine fv_iload_n C d_D_sound_0 (n := 1) rfl (i := 1) rfl rfl ?_
  refine fv_callS_r C (ml_D_59 D dA) sm_D_isReceiver ct_D_isReceiver d_D_sound_1 (n := 4) rfl rfl rfl rfl (Nat.le_of_ble_eq_true rfl) (Nat.le_of_ble_eq_true rfl) (Nat.le_of_ble_eq_true rfl) (Nat.le_refl _) (Nat.le_refl _) ?_
  refine fv_ifB_eq C d_D_sound_4 (tgt := 14) rfl (n := 7) rfl (fun hc4 => ?_) (fun hc4 => ?_)
  · have hbad : ¬ (iv r 0 1 && iv i 0 3) = true := by simp [hc4]
    refine fv_bipush C d_D_sound_14 (n := 16) rfl kB_m2 ?_
    refine fv_iret C rfl d_D_sound_16 (Nat.le_refl _) (Nat.le_refl _) ?_
    exact ⟨by unfold sp_sdA; rw [if_neg hbad], rfl, rfl⟩
  · refine fv_iload_n C d_D_sound_7 (n := 8) rfl (i := 2) rfl rfl ?_
    refine fv_callS_r C (ml_D_32 D dA) sm_D_isInstrument ct_D_isInstrument d_D_sound_8 (n := 11) rfl rfl rfl rfl (Nat.le_of_ble_eq_true rfl) (Nat.le_of_ble_eq_true rfl) (Nat.le_of_ble_eq_true rfl) (Nat.le_refl _) (Nat.le_refl _) ?_
    refine fv_ifB_ne C d_D_sound_11 (tgt := 17) rfl (n := 14) rfl (fun hc11 => ?_) (fun hc11 => ?_)
    · have hgood : (iv r 0 1 && iv i 0 3) = true := by simp [hc4, hc11]
      obtain ⟨j, -, hj, rfl⟩ := iv_of (by decide) (by decide) hc11
      have hclj : (nI j).toNatClampNeg = j := nI_clamp (by omega)
      obtain ⟨k, -, hk, rfl⟩ := iv_of (by decide) (by decide) hc4
      have hcl : (nI k).toNatClampNeg = k := nI_clamp (by omega)
      obtain ⟨fx, hV, hfx⟩ := hD.2.2.2.2.1 k (by omega)
      have hVo := hV.choose_spec.1
      have hRI := hI.2.2.2.1 k (by omega)
      have hans : sp_sdA S (nI k) (nI j) = fv_b (rc_snd (sp_R S k) j) := by unfold sp_sdA; rw [if_pos hgood, hcl, hclj]
      refine fv_aload_n C d_D_sound_17 (n := 18) rfl (i := 0) rfl rfl ?_
      refine fv_get C (fl_D_11 D dA) d_D_sound_18 (n := 21) rfl hD.1.1 rfl ?_
      refine fv_iload_n C d_D_sound_21 (n := 22) rfl (i := 1) rfl rfl ?_
      refine fv_aaldN C (t0 := 4) rfl d_D_sound_22 (n := 23) rfl hD.1.2.1 (by omega) (by decide) (show va_rf (if k < 2 then some (b0 + 64 + 34 * k + 3) else none) = .ref (b0 + 64 + 34 * k + 3) by rw [if_pos (by omega)]; rfl) ?_
      refine fv_iload_n C d_D_sound_23 (n := 24) rfl (i := 2) rfl rfl ?_
      refine fv_callV_r C (ml_D_101 D dA) im_V_isSound se_V_isSound hVo.1 rfl (ct_V_isSound (by omega) hI.2.2.1 hV hRI) d_D_sound_24 (n := 27) rfl rfl rfl rfl (Nat.le_of_ble_eq_true rfl) (Nat.le_of_ble_eq_true rfl) (Nat.le_of_ble_eq_true rfl) (Nat.le_refl _) (Nat.le_refl _) ?_
      refine fv_ifB_eq C d_D_sound_27 (tgt := 34) rfl (n := 30) rfl (fun hc27 => ?_) (fun hc27 => ?_)
      · refine fv_iconst C d_D_sound_34 (n := 35) rfl kI_0 ?_
        refine fv_iret C rfl d_D_sound_35 (Nat.le_refl _) (Nat.le_refl _) ?_
        exact ⟨by rw [hans, hc27]; rfl, rfl, rfl⟩
      · refine fv_iconst C d_D_sound_30 (n := 31) rfl kI_1 ?_
        refine fv_goto C d_D_sound_31 (tgt := 35) rfl ?_
        refine fv_iret C rfl d_D_sound_35 (Nat.le_refl _) (Nat.le_refl _) ?_
        exact ⟨by rw [hans, hc27]; rfl, rfl, rfl⟩
    · have hbad : ¬ (iv r 0 1 && iv i 0 3) = true := by simp [hc11]
      refine fv_bipush C d_D_sound_14 (n := 16) rfl kB_m2 ?_
      refine fv_iret C rfl d_D_sound_16 (Nat.le_refl _) (Nat.le_refl _) ?_
      exact ⟨by unfold sp_sdA; rw [if_neg hbad], rfl, rfl⟩
theorem ct_D_book {r i : Int32} (hb : hb2 r i = true) (haE : b0 + 132 ≤ aE) (hBs : Bs ≤ b0) (hD : DK dA h b0 aE S) (hI : sp_I S) : fv_T l (fk D dA) Bs WA m_D_book [.ref b0, .int r, .int i] sz h 0 0 (fp_r (.ref (bk_ad b0 r i)) sz h) := by
  obtain ⟨evs, en, hPb, hev, hen⟩ := hD.2.1
  obtain ⟨j, hj, rfl, hr⟩ := hb2_of hb
  have e1 : (nI j).toNatClampNeg = j := nI_clamp (by omega)
  refine fv_of (L := [_, _, _]) (by decide +kernel) rfl (Nat.le_of_ble_eq_true rfl) rfl ?_
  intro X hX C
  subst hX
  rcases hr with rfl | ⟨k, hk, rfl⟩
  · have e2 : bk_ad b0 (-1) (nI j) = b0 + 8 + 4 * j := by unfold bk_ad; rw [if_pos rfl, e1]
    rw [e2]
    refine fv_iload_n C d_D_book_0 (n := 1) rfl (i := 1) rfl rfl ?_
    refine fv_iconst C d_D_book_1 (n := 2) rfl kI_m1 ?_
    refine fv_icmp_ne C d_D_book_2 (tgt := 17) rfl (n := 5) rfl (fun hc2 => ?_) (fun hc2 => ?_)
    · exact absurd rfl hc2
    · refine fv_aload_n C d_D_book_5 (n := 6) rfl (i := 0) rfl rfl ?_
      refine fv_get C (fl_D_24 D dA) d_D_book_6 (n := 9) rfl hD.1.1 rfl ?_
      refine fv_get C (fl_D_164 D dA) d_D_book_9 (n := 12) rfl hPb.1 rfl ?_
      refine fv_iload_n C d_D_book_12 (n := 13) rfl (i := 2) rfl rfl ?_
      refine fv_aaldN C (t0 := 2) rfl d_D_book_13 (n := 14) rfl hPb.2.1 (by omega) (by decide) (show va_rf (if j < 4 then some (b0 + 3 + 5 + 4 * j) else none) = .ref (b0 + 8 + 4 * j) by rw [if_pos hj]; rfl) ?_
      refine fv_goto C d_D_book_14 (tgt := 31) rfl ?_
      refine fv_aret C rfl (Or.inl ⟨_, rfl⟩) (Or.inr ⟨_, rfl⟩) d_D_book_31 (Nat.le_refl _) (Nat.le_refl _) ?_
      exact ⟨rfl, rfl, rfl⟩
  · have hn : ¬ nI k = -1 := nI_nm1 (by omega)
    have e0 : (nI k).toNatClampNeg = k := nI_clamp (by omega)
    have e2 : bk_ad b0 (nI k) (nI j) = b0 + 64 + 34 * k + 6 + 7 * j + 1 := by unfold bk_ad; rw [if_neg hn, e0, e1]
    rw [e2]
    obtain ⟨fx, hV, hfx⟩ := hD.2.2.2.2.1 k hk
    have hVo := hV.choose_spec.1
    obtain ⟨hs, sv, hTK, hsv, hBL, hpm⟩ := hV.choose_spec.2.2.1 j hj
    have hTO := hTK.choose_spec.1
    refine fv_iload_n C d_D_book_0 (n := 1) rfl (i := 1) rfl rfl ?_
    refine fv_iconst C d_D_book_1 (n := 2) rfl kI_m1 ?_
    refine fv_icmp_ne C d_D_book_2 (tgt := 17) rfl (n := 5) rfl (fun hc2 => ?_) (fun hc2 => ?_)
    · refine fv_aload_n C d_D_book_17 (n := 18) rfl (i := 0) rfl rfl ?_
      refine fv_get C (fl_D_11 D dA) d_D_book_18 (n := 21) rfl hD.1.1 rfl ?_
      refine fv_iload_n C d_D_book_21 (n := 22) rfl (i := 1) rfl rfl ?_
      refine fv_aaldN C (t0 := 4) rfl d_D_book_22 (n := 23) rfl hD.1.2.1 (by omega) (by decide) (show va_rf (if k < 2 then some (b0 + 64 + 34 * k + 3) else none) = .ref (b0 + 64 + 34 * k + 3) by rw [if_pos (by omega)]; rfl) ?_
      refine fv_get C (fl_D_87 D dA) d_D_book_23 (n := 26) rfl hVo.1 rfl ?_
      refine fv_iload_n C d_D_book_26 (n := 27) rfl (i := 2) rfl rfl ?_
      refine fv_aaldN C (t0 := 7) rfl d_D_book_27 (n := 28) rfl hVo.2.1 (by omega) (by decide) (show va_rf (if j < 4 then some (b0 + 64 + 34 * k + 3 + 3 + 7 * j) else none) = .ref (b0 + 64 + 34 * k + 6 + 7 * j) by rw [if_pos hj]; rfl) ?_
      refine fv_get C (fl_D_168 D dA) d_D_book_28 (n := 31) rfl hTO.1 rfl ?_
      refine fv_aret C rfl (Or.inl ⟨_, rfl⟩) (Or.inr ⟨_, rfl⟩) d_D_book_31 (Nat.le_refl _) (Nat.le_refl _) ?_
      exact ⟨rfl, rfl, rfl⟩
    · exact absurd hc2 hn
theorem ct_D_at {r i : Int32}  (haE : b0 + 132 ≤ aE) (hBs : Bs ≤ b0) (hD : DK dA h b0 aE S) (hI : sp_I S) : fv_T l (fk D dA) Bs WA m_D_at [.ref b0, .int r, .int i] sz h 0 0 (fp_r (.int (sp_atA S r i)) sz h) := by
  obtain ⟨evs, en, hPb, hev, hen⟩ := hD.2.1
  refine fv_of (L := [_, _, _]) (by decide +kernel) rfl (Nat.le_of_ble_eq_true rfl) rfl ?_
  intro X hX C
  subst hX
  refine fv_iload_n C d_D_at_0 (n := 1) rfl (i := 1) rfl rfl ?_
  refine fv_iload_n C d_D_at_1 (n := 2) rfl (i := 2) rfl rfl ?_
  refine fv_callS_r C (ml_D_104 D dA) sm_D_hasBook ct_D_hasBook d_D_at_2 (n := 5) rfl rfl rfl rfl (Nat.le_of_ble_eq_true rfl) (Nat.le_of_ble_eq_true rfl) (Nat.le_of_ble_eq_true rfl) (Nat.le_refl _) (Nat.le_refl _) ?_
  refine fv_ifB_eq C d_D_at_5 (tgt := 20) rfl (n := 8) rfl (fun hc5 => ?_) (fun hc5 => ?_)
  · have hans : sp_atA S r i = -2 := by unfold sp_atA; rw [hc5]; rfl
    refine fv_bipush C d_D_at_20 (n := 22) rfl kB_m2 ?_
    refine fv_iret C rfl d_D_at_22 (Nat.le_refl _) (Nat.le_refl _) ?_
    exact ⟨by rw [hans], rfl, rfl⟩
  · have hans : sp_atA S r i = nI (sp_n S r i) := by unfold sp_atA; rw [hc5]; rfl
    have hBL := dk_book hD hc5
    obtain ⟨ids, pri, siz, hB, hA, hw⟩ := hBL
    have hBL := dk_book hD hc5
    refine fv_aload_n C d_D_at_8 (n := 9) rfl (i := 0) rfl rfl ?_
    refine fv_iload_n C d_D_at_9 (n := 10) rfl (i := 1) rfl rfl ?_
    refine fv_iload_n C d_D_at_10 (n := 11) rfl (i := 2) rfl rfl ?_
    refine fv_callV_r C (ml_D_108 D dA) im_D_book se_D_book hD.1.1 rfl (ct_D_book hc5 haE hBs hD hI) d_D_at_11 (n := 14) rfl rfl rfl rfl (Nat.le_of_ble_eq_true rfl) (Nat.le_of_ble_eq_true rfl) (Nat.le_of_ble_eq_true rfl) (Nat.le_refl _) (Nat.le_refl _) ?_
    refine fv_get C (fl_D_112 D dA) d_D_at_14 (n := 17) rfl hB.1 rfl ?_
    refine fv_goto C d_D_at_17 (tgt := 22) rfl ?_
    refine fv_iret C rfl d_D_at_22 (Nat.le_refl _) (Nat.le_refl _) ?_
    exact ⟨by rw [hans], rfl, rfl⟩
theorem ct_D_halted {r i : Int32}  (haE : b0 + 132 ≤ aE) (hBs : Bs ≤ b0) (hD : DK dA h b0 aE S) (hI : sp_I S) : fv_T l (fk D dA) Bs WA m_D_halted [.ref b0, .int r, .int i] sz h 0 0 (fp_r (.int (sp_haA S r i)) sz h) := by
  obtain ⟨evs, en, hPb, hev, hen⟩ := hD.2.1
  refine fv_of (L := [_, _, _]) (by decide +kernel) rfl (Nat.le_of_ble_eq_true rfl) rfl ?_
  intro X hX C
  subst hX
  refine fv_iload_n C d_D_halted_0 (n := 1) rfl (i := 1) rfl rfl ?_
  refine fv_iload_n C d_D_halted_1 (n := 2) rfl (i := 2) rfl rfl ?_
  refine fv_callS_r C (ml_D_104 D dA) sm_D_hasBook ct_D_hasBook d_D_halted_2 (n := 5) rfl rfl rfl rfl (Nat.le_of_ble_eq_true rfl) (Nat.le_of_ble_eq_true rfl) (Nat.le_of_ble_eq_true rfl) (Nat.le_refl _) (Nat.le_refl _) ?_
  refine fv_ifB_eq C d_D_halted_5 (tgt := 20) rfl (n := 8) rfl (fun hc5 => ?_) (fun hc5 => ?_)
  · have hans : sp_haA S r i = -2 := by unfold sp_haA; rw [hc5]; rfl
    refine fv_bipush C d_D_halted_20 (n := 22) rfl kB_m2 ?_
    refine fv_iret C rfl d_D_halted_22 (Nat.le_refl _) (Nat.le_refl _) ?_
    exact ⟨by rw [hans], rfl, rfl⟩
  · have hans : sp_haA S r i = fv_b (sp_b S r i).2 := by unfold sp_haA; rw [hc5]; rfl
    have hBL := dk_book hD hc5
    obtain ⟨ids, pri, siz, hB, hA, hw⟩ := hBL
    have hBL := dk_book hD hc5
    refine fv_aload_n C d_D_halted_8 (n := 9) rfl (i := 0) rfl rfl ?_
    refine fv_iload_n C d_D_halted_9 (n := 10) rfl (i := 1) rfl rfl ?_
    refine fv_iload_n C d_D_halted_10 (n := 11) rfl (i := 2) rfl rfl ?_
    refine fv_callV_r C (ml_D_108 D dA) im_D_book se_D_book hD.1.1 rfl (ct_D_book hc5 haE hBs hD hI) d_D_halted_11 (n := 14) rfl rfl rfl rfl (Nat.le_of_ble_eq_true rfl) (Nat.le_of_ble_eq_true rfl) (Nat.le_of_ble_eq_true rfl) (Nat.le_refl _) (Nat.le_refl _) ?_
    refine fv_callV_r C (ml_D_140 D dA) im_B_haltValue se_B_haltValue hB.1 rfl (ct_B_haltValue hB) d_D_halted_14 (n := 17) rfl rfl rfl rfl (Nat.le_of_ble_eq_true rfl) (Nat.le_of_ble_eq_true rfl) (Nat.le_of_ble_eq_true rfl) (Nat.le_refl _) (Nat.le_refl _) ?_
    refine fv_goto C d_D_halted_17 (tgt := 22) rfl ?_
    refine fv_iret C rfl d_D_halted_22 (Nat.le_refl _) (Nat.le_refl _) ?_
    exact ⟨by rw [hans], rfl, rfl⟩
theorem ct_D_best {r i s lv wh : Int32}  (haE : b0 + 132 ≤ aE) (hBs : Bs ≤ b0) (hD : DK dA h b0 aE S) (hI : sp_I S) : fv_T l (fk D dA) Bs WA m_D_best [.ref b0, .int r, .int i, .int s, .int lv, .int wh] sz h 0 0 (fp_r (.int (sp_bsA S r i s lv wh)) sz h) := by
  obtain ⟨evs, en, hPb, hev, hen⟩ := hD.2.1
  refine fv_of (L := [_, _, _, _, _, _]) (by decide +kernel) rfl (Nat.le_of_ble_eq_true rfl) rfl ?_
  intro X hX C
  subst hX
  refine fv_iload_n C d_D_best_0 (n := 1) rfl (i := 1) rfl rfl ?_
  refine fv_iload_n C d_D_best_1 (n := 2) rfl (i := 2) rfl rfl ?_
  refine fv_callS_r C (ml_D_104 D dA) sm_D_hasBook ct_D_hasBook d_D_best_2 (n := 5) rfl rfl rfl rfl (Nat.le_of_ble_eq_true rfl) (Nat.le_of_ble_eq_true rfl) (Nat.le_of_ble_eq_true rfl) (Nat.le_refl _) (Nat.le_refl _) ?_
  refine fv_ifB_eq C d_D_best_5 (tgt := 28) rfl (n := 8) rfl (fun hc5 => ?_) (fun hc5 => ?_)
  · have hbad : ¬ (hb2 r i && iv s 0 1 && decide (¬ lv < 0) && iv wh 0 2) = true := by simp [hc5]
    refine fv_ldc C d_D_best_28 (n := 30) rfl kc_D_132 ?_
    refine fv_iret C rfl d_D_best_30 (Nat.le_refl _) (Nat.le_refl _) ?_
    exact ⟨by unfold sp_bsA; rw [if_neg hbad], rfl, rfl⟩
  · refine fv_iload_n C d_D_best_8 (n := 9) rfl (i := 3) rfl rfl ?_
    refine fv_callS_r C (ml_D_39 D dA) sm_D_isSide ct_D_isSide d_D_best_9 (n := 12) rfl rfl rfl rfl (Nat.le_of_ble_eq_true rfl) (Nat.le_of_ble_eq_true rfl) (Nat.le_of_ble_eq_true rfl) (Nat.le_refl _) (Nat.le_refl _) ?_
    refine fv_ifB_eq C d_D_best_12 (tgt := 28) rfl (n := 15) rfl (fun hc12 => ?_) (fun hc12 => ?_)
    · have hbad : ¬ (hb2 r i && iv s 0 1 && decide (¬ lv < 0) && iv wh 0 2) = true := by simp [hc12]
      refine fv_ldc C d_D_best_28 (n := 30) rfl kc_D_132 ?_
      refine fv_iret C rfl d_D_best_30 (Nat.le_refl _) (Nat.le_refl _) ?_
      exact ⟨by unfold sp_bsA; rw [if_neg hbad], rfl, rfl⟩
    · refine fv_iload C d_D_best_15 (n := 17) rfl rfl ?_
      refine fv_if_lt C d_D_best_17 (tgt := 28) rfl (n := 20) rfl (fun hc17 => ?_) (fun hc17 => ?_)
      · have hbad : ¬ (hb2 r i && iv s 0 1 && decide (¬ lv < 0) && iv wh 0 2) = true := by simp [hc17]
        refine fv_ldc C d_D_best_28 (n := 30) rfl kc_D_132 ?_
        refine fv_iret C rfl d_D_best_30 (Nat.le_refl _) (Nat.le_refl _) ?_
        exact ⟨by unfold sp_bsA; rw [if_neg hbad], rfl, rfl⟩
      · refine fv_iload C d_D_best_20 (n := 22) rfl rfl ?_
        refine fv_callS_r C (ml_D_129 D dA) sm_D_isLevelValue ct_D_isLevelValue d_D_best_22 (n := 25) rfl rfl rfl rfl (Nat.le_of_ble_eq_true rfl) (Nat.le_of_ble_eq_true rfl) (Nat.le_of_ble_eq_true rfl) (Nat.le_refl _) (Nat.le_refl _) ?_
        refine fv_ifB_ne C d_D_best_25 (tgt := 31) rfl (n := 28) rfl (fun hc25 => ?_) (fun hc25 => ?_)
        · have hgood : (hb2 r i && iv s 0 1 && decide (¬ lv < 0) && iv wh 0 2) = true := by simp [hc5, hc12, hc17, hc25]
          have hBL := dk_book hD hc5
          obtain ⟨ids, pri, siz, hB, hA, hw⟩ := hBL
          have hBL := dk_book hD hc5
          obtain ⟨s2, -, hs2, rfl⟩ := iv_of (by decide) (by decide) hc12
          have hcs : (nI s2).toNatClampNeg = s2 := nI_clamp (by omega)
          obtain ⟨w2, -, hw2, rfl⟩ := iv_of (by decide) (by decide) hc25
          have hcw : (nI w2).toNatClampNeg = w2 := nI_clamp (by omega)
          obtain ⟨l2, hl2, rfl⟩ := nI_of hc17
          have hcl : (nI l2).toNatClampNeg = l2 := nI_clamp hl2
          refine fv_aload_n C d_D_best_31 (n := 32) rfl (i := 0) rfl rfl ?_
          refine fv_iload_n C d_D_best_32 (n := 33) rfl (i := 1) rfl rfl ?_
          refine fv_iload_n C d_D_best_33 (n := 34) rfl (i := 2) rfl rfl ?_
          refine fv_callV_r C (ml_D_108 D dA) im_D_book se_D_book hD.1.1 rfl (ct_D_book hc5 haE hBs hD hI) d_D_best_34 (n := 37) rfl rfl rfl rfl (Nat.le_of_ble_eq_true rfl) (Nat.le_of_ble_eq_true rfl) (Nat.le_of_ble_eq_true rfl) (Nat.le_refl _) (Nat.le_refl _) ?_
          refine fv_iload_n C d_D_best_37 (n := 38) rfl (i := 3) rfl rfl ?_
          refine fv_iload C d_D_best_38 (n := 40) rfl rfl ?_
          refine fv_iload C d_D_best_40 (n := 42) rfl rfl ?_
          refine fv_callV_r C (ml_D_133 D dA) im_B_levelValue se_B_levelValue hB.1 rfl (ct_B_levelValue (by omega) hl2 (by omega) hBL) d_D_best_42 (n := 45) rfl rfl rfl rfl (Nat.le_of_ble_eq_true rfl) (Nat.le_of_ble_eq_true rfl) (Nat.le_of_ble_eq_true rfl) (Nat.le_refl _) (Nat.le_refl _) ?_
          refine fv_iret C rfl d_D_best_45 (Nat.le_refl _) (Nat.le_refl _) ?_
          exact ⟨by unfold sp_bsA; rw [if_pos hgood, hcs, hcw, hcl], rfl, rfl⟩
        · have hbad : ¬ (hb2 r i && iv s 0 1 && decide (¬ lv < 0) && iv wh 0 2) = true := by simp [hc25]
          refine fv_ldc C d_D_best_28 (n := 30) rfl kc_D_132 ?_
          refine fv_iret C rfl d_D_best_30 (Nat.le_refl _) (Nat.le_refl _) ?_
          exact ⟨by unfold sp_bsA; rw [if_neg hbad], rfl, rfl⟩
theorem ct_D_order {r i s k : Int32}  (haE : b0 + 132 ≤ aE) (hBs : Bs ≤ b0) (hD : DK dA h b0 aE S) (hI : sp_I S) : fv_T l (fk D dA) Bs WA m_D_order [.ref b0, .int r, .int i, .int s, .int k] sz h 0 0 (fp_r (.int (sp_orA S r i s k)) sz h) := by
  obtain ⟨evs, en, hPb, hev, hen⟩ := hD.2.1
  refine fv_of (L := [_, _, _, _, _]) (by decide +kernel) rfl (Nat.le_of_ble_eq_true rfl) rfl ?_
  intro X hX C
  subst hX
  refine fv_iload_n C d_D_order_0 (n := 1) rfl (i := 1) rfl rfl ?_
  refine fv_iload_n C d_D_order_1 (n := 2) rfl (i := 2) rfl rfl ?_
  refine fv_callS_r C (ml_D_104 D dA) sm_D_hasBook ct_D_hasBook d_D_order_2 (n := 5) rfl rfl rfl rfl (Nat.le_of_ble_eq_true rfl) (Nat.le_of_ble_eq_true rfl) (Nat.le_of_ble_eq_true rfl) (Nat.le_refl _) (Nat.le_refl _) ?_
  refine fv_ifB_eq C d_D_order_5 (tgt := 27) rfl (n := 8) rfl (fun hc5 => ?_) (fun hc5 => ?_)
  · have hbad : ¬ (hb2 r i && iv s 0 1 && iv k 0 23) = true := by simp [hc5]
    refine fv_bipush C d_D_order_27 (n := 29) rfl kB_m2 ?_
    refine fv_iret C rfl d_D_order_29 (Nat.le_refl _) (Nat.le_refl _) ?_
    exact ⟨by unfold sp_orA; rw [if_neg hbad], rfl, rfl⟩
  · refine fv_iload_n C d_D_order_8 (n := 9) rfl (i := 3) rfl rfl ?_
    refine fv_callS_r C (ml_D_39 D dA) sm_D_isSide ct_D_isSide d_D_order_9 (n := 12) rfl rfl rfl rfl (Nat.le_of_ble_eq_true rfl) (Nat.le_of_ble_eq_true rfl) (Nat.le_of_ble_eq_true rfl) (Nat.le_refl _) (Nat.le_refl _) ?_
    refine fv_ifB_eq C d_D_order_12 (tgt := 27) rfl (n := 15) rfl (fun hc12 => ?_) (fun hc12 => ?_)
    · have hbad : ¬ (hb2 r i && iv s 0 1 && iv k 0 23) = true := by simp [hc12]
      refine fv_bipush C d_D_order_27 (n := 29) rfl kB_m2 ?_
      refine fv_iret C rfl d_D_order_29 (Nat.le_refl _) (Nat.le_refl _) ?_
      exact ⟨by unfold sp_orA; rw [if_neg hbad], rfl, rfl⟩
    · refine fv_iload C d_D_order_15 (n := 17) rfl rfl ?_
      refine fv_if_lt C d_D_order_17 (tgt := 27) rfl (n := 20) rfl (fun hc17 => ?_) (fun hc17 => ?_)
      · have hkk : iv k 0 23 = false := iv_lo0 hc17
        have hbad : ¬ (hb2 r i && iv s 0 1 && iv k 0 23) = true := by simp [hkk]
        refine fv_bipush C d_D_order_27 (n := 29) rfl kB_m2 ?_
        refine fv_iret C rfl d_D_order_29 (Nat.le_refl _) (Nat.le_refl _) ?_
        exact ⟨by unfold sp_orA; rw [if_neg hbad], rfl, rfl⟩
      · refine fv_iload C d_D_order_20 (n := 22) rfl rfl ?_
        refine fv_bipush C d_D_order_22 (n := 24) rfl kB_24 ?_
        refine fv_icmp_lt C d_D_order_24 (tgt := 30) rfl (n := 27) rfl (fun hc24 => ?_) (fun hc24 => ?_)
        · have hkk : iv k 0 23 = true := iv_in (by decide) hc17 (Int32.not_le.mpr hc24)
          have hgood : (hb2 r i && iv s 0 1 && iv k 0 23) = true := by simp [hc5, hc12, hkk]
          have hBL := dk_book hD hc5
          obtain ⟨ids, pri, siz, hB, hA, hw⟩ := hBL
          have hBL := dk_book hD hc5
          obtain ⟨s2, -, hs2, rfl⟩ := iv_of (by decide) (by decide) hc12
          have hcs : (nI s2).toNatClampNeg = s2 := nI_clamp (by omega)
          obtain ⟨k2, -, hk2, rfl⟩ := iv_of (by decide) (by decide) hkk
          have hck : (nI k2).toNatClampNeg = k2 := nI_clamp (by omega)
          refine fv_aload_n C d_D_order_30 (n := 31) rfl (i := 0) rfl rfl ?_
          refine fv_iload_n C d_D_order_31 (n := 32) rfl (i := 1) rfl rfl ?_
          refine fv_iload_n C d_D_order_32 (n := 33) rfl (i := 2) rfl rfl ?_
          refine fv_callV_r C (ml_D_108 D dA) im_D_book se_D_book hD.1.1 rfl (ct_D_book hc5 haE hBs hD hI) d_D_order_33 (n := 36) rfl rfl rfl rfl (Nat.le_of_ble_eq_true rfl) (Nat.le_of_ble_eq_true rfl) (Nat.le_of_ble_eq_true rfl) (Nat.le_refl _) (Nat.le_refl _) ?_
          refine fv_iload_n C d_D_order_36 (n := 37) rfl (i := 3) rfl rfl ?_
          refine fv_iload C d_D_order_37 (n := 39) rfl rfl ?_
          refine fv_callV_r C (ml_D_137 D dA) im_B_idAt se_B_idAt hB.1 rfl (ct_B_idAt (by omega) (by omega) hBL) d_D_order_39 (n := 42) rfl rfl rfl rfl (Nat.le_of_ble_eq_true rfl) (Nat.le_of_ble_eq_true rfl) (Nat.le_of_ble_eq_true rfl) (Nat.le_refl _) (Nat.le_refl _) ?_
          refine fv_iret C rfl d_D_order_42 (Nat.le_refl _) (Nat.le_refl _) ?_
          exact ⟨by unfold sp_orA; rw [if_pos hgood, hcs, hck]; rfl, rfl, rfl⟩
        · have hkk : iv k 0 23 = false := iv_hi (by decide) (Int32.not_lt.mp hc24)
          have hbad : ¬ (hb2 r i && iv s 0 1 && iv k 0 23) = true := by simp [hkk]
          refine fv_bipush C d_D_order_27 (n := 29) rfl kB_m2 ?_
          refine fv_iret C rfl d_D_order_29 (Nat.le_refl _) (Nat.le_refl _) ?_
          exact ⟨by unfold sp_orA; rw [if_neg hbad], rfl, rfl⟩
theorem ct_D_dirty {r : Int32}  (haE : b0 + 132 ≤ aE) (hBs : Bs ≤ b0) (hD : DK dA h b0 aE S) (hI : sp_I S) : fv_T l (fk D dA) Bs WA m_D_dirty [.ref b0, .int r] sz h 0 0 (fp_r (.int (sp_diA S r)) sz h) := by
  obtain ⟨evs, en, hPb, hev, hen⟩ := hD.2.1
  refine fv_of (L := [_, _]) (by decide +kernel) rfl (Nat.le_of_ble_eq_true rfl) rfl ?_
  intro X hX C
  subst hX
  refine fv_iload_n C d_D_dirty_0 (n := 1) rfl (i := 1) rfl rfl ?_
  refine fv_callS_r C (ml_D_59 D dA) sm_D_isReceiver ct_D_isReceiver d_D_dirty_1 (n := 4) rfl rfl rfl rfl (Nat.le_of_ble_eq_true rfl) (Nat.le_of_ble_eq_true rfl) (Nat.le_of_ble_eq_true rfl) (Nat.le_refl _) (Nat.le_refl _) ?_
  refine fv_ifB_eq C d_D_dirty_4 (tgt := 19) rfl (n := 7) rfl (fun hc4 => ?_) (fun hc4 => ?_)
  · have hans : sp_diA S r = -2 := by unfold sp_diA; rw [hc4]; rfl
    refine fv_bipush C d_D_dirty_19 (n := 21) rfl kB_m2 ?_
    refine fv_iret C rfl d_D_dirty_21 (Nat.le_refl _) (Nat.le_refl _) ?_
    exact ⟨by rw [hans], rfl, rfl⟩
  · have hgood := hc4
    obtain ⟨k, -, hk, rfl⟩ := iv_of (by decide) (by decide) hc4
    have hcl : (nI k).toNatClampNeg = k := nI_clamp (by omega)
    obtain ⟨fx, hV, hfx⟩ := hD.2.2.2.2.1 k (by omega)
    have hVo := hV.choose_spec.1
    have hRI := hI.2.2.2.1 k (by omega)
    obtain ⟨gR, hRr, hRg⟩ := hV.choose_spec.2.2.2
    have hans : sp_diA S (nI k) = nI (rc_rw (sp_R S k)).length := by unfold sp_diA; rw [if_pos hgood, hcl]
    refine fv_aload_n C d_D_dirty_7 (n := 8) rfl (i := 0) rfl rfl ?_
    refine fv_get C (fl_D_17 D dA) d_D_dirty_8 (n := 11) rfl hD.1.1 rfl ?_
    refine fv_iload_n C d_D_dirty_11 (n := 12) rfl (i := 1) rfl rfl ?_
    refine fv_aaldN C (t0 := 5) rfl d_D_dirty_12 (n := 13) rfl hD.1.2.2 (by omega) (by decide) (show va_rf (if k < 2 then some (b0 + 64 + 34 * k) else none) = .ref (b0 + 64 + 34 * k) by rw [if_pos (by omega)]; rfl) ?_
    refine fv_get C (fl_D_143 D dA) d_D_dirty_13 (n := 16) rfl hRr.1 rfl ?_
    refine fv_goto C d_D_dirty_16 (tgt := 21) rfl ?_
    refine fv_iret C rfl d_D_dirty_21 (Nat.le_refl _) (Nat.le_refl _) ?_
    exact ⟨by rw [hans], rfl, rfl⟩
theorem ct_D_receiver {r w : Int32} (haE : b0 + 132 ≤ aE) (hBs : Bs ≤ b0) (hD : DK dA h b0 aE S) (hI : sp_I S) : fv_T l (fk D dA) Bs WA m_D_receiver [.ref b0, .int r, .int w] sz h 0 0 (fp_r (.int (sp_rvA S r w)) sz h) := by
  obtain ⟨evs, en, hPb, hev, hen⟩ := hD.2.1
  refine fv_of (L := [_, _, _]) (by decide +kernel) rfl (Nat.le_of_ble_eq_true rfl) rfl ?_
  intro X hX C
  subst hX
  refine fv_iload_n C d_D_receiver_0 (n := 1) rfl (i := 1) rfl rfl ?_
  refine fv_callS_r C (ml_D_59 D dA) sm_D_isReceiver ct_D_isReceiver d_D_receiver_1 (n := 4) rfl rfl rfl rfl (Nat.le_of_ble_eq_true rfl) (Nat.le_of_ble_eq_true rfl) (Nat.le_of_ble_eq_true rfl) (Nat.le_refl _) (Nat.le_refl _) ?_
  refine fv_ifB_ne C d_D_receiver_4 (tgt := 10) rfl (n := 7) rfl (fun hc4 => ?_) (fun hc4 => ?_)
  · have hgood := hc4
    obtain ⟨k, -, hk, rfl⟩ := iv_of (by decide) (by decide) hc4
    have hcl : (nI k).toNatClampNeg = k := nI_clamp (by omega)
    obtain ⟨fx, hV, hfx⟩ := hD.2.2.2.2.1 k (by omega)
    have hVo := hV.choose_spec.1
    have hRI := hI.2.2.2.1 k (by omega)
    refine fv_iload_n C d_D_receiver_10 (n := 11) rfl (i := 2) rfl rfl ?_
    by_cases w0 : w = nI 0
    · subst w0
      have hans : sp_rvA S (nI k) (nI 0) = nI (sp_R S k).1 := by unfold sp_rvA; rw [if_pos hgood, hcl, if_pos rfl]
      refine fv_tableIn C d_D_receiver_11 (by decide +kernel) (by decide +kernel) (off := 29) (by decide +kernel) (tgt := 40) rfl ?_
      refine fv_aload_n C d_D_receiver_40 (n := 41) rfl (i := 0) rfl rfl ?_
      refine fv_get C (fl_D_11 D dA) d_D_receiver_41 (n := 44) rfl hD.1.1 rfl ?_
      refine fv_iload_n C d_D_receiver_44 (n := 45) rfl (i := 1) rfl rfl ?_
      refine fv_aaldN C (t0 := 4) rfl d_D_receiver_45 (n := 46) rfl hD.1.2.1 (by omega) (by decide) (show va_rf (if k < 2 then some (b0 + 64 + 34 * k + 3) else none) = .ref (b0 + 64 + 34 * k + 3) by rw [if_pos (by omega)]; rfl) ?_
      refine fv_get C (fl_D_117 D dA) d_D_receiver_46 (n := 49) rfl hVo.1 rfl ?_
      refine fv_iret C rfl d_D_receiver_49 (Nat.le_refl _) (Nat.le_refl _) ?_
      exact ⟨by rw [hans], rfl, rfl⟩
    by_cases w1 : w = nI 1
    · subst w1
      have hans : sp_rvA S (nI k) (nI 1) = nI (sp_R S k).2.1 := by unfold sp_rvA; rw [if_pos hgood, hcl, if_neg (by decide +kernel), if_pos rfl]
      refine fv_tableIn C d_D_receiver_11 (by decide +kernel) (by decide +kernel) (off := 39) (by decide +kernel) (tgt := 50) rfl ?_
      refine fv_aload_n C d_D_receiver_50 (n := 51) rfl (i := 0) rfl rfl ?_
      refine fv_get C (fl_D_11 D dA) d_D_receiver_51 (n := 54) rfl hD.1.1 rfl ?_
      refine fv_iload_n C d_D_receiver_54 (n := 55) rfl (i := 1) rfl rfl ?_
      refine fv_aaldN C (t0 := 4) rfl d_D_receiver_55 (n := 56) rfl hD.1.2.1 (by omega) (by decide) (show va_rf (if k < 2 then some (b0 + 64 + 34 * k + 3) else none) = .ref (b0 + 64 + 34 * k + 3) by rw [if_pos (by omega)]; rfl) ?_
      refine fv_get C (fl_D_120 D dA) d_D_receiver_56 (n := 59) rfl hVo.1 rfl ?_
      refine fv_iret C rfl d_D_receiver_59 (Nat.le_refl _) (Nat.le_refl _) ?_
      exact ⟨by rw [hans], rfl, rfl⟩
    by_cases w2 : w = nI 2
    · subst w2
      have hans : sp_rvA S (nI k) (nI 2) = nI (rc_ck (sp_R S k)) := by unfold sp_rvA; rw [if_pos hgood, hcl, if_neg (by decide +kernel), if_neg (by decide +kernel), if_pos rfl]
      refine fv_tableIn C d_D_receiver_11 (by decide +kernel) (by decide +kernel) (off := 49) (by decide +kernel) (tgt := 60) rfl ?_
      refine fv_aload_n C d_D_receiver_60 (n := 61) rfl (i := 0) rfl rfl ?_
      refine fv_get C (fl_D_11 D dA) d_D_receiver_61 (n := 64) rfl hD.1.1 rfl ?_
      refine fv_iload_n C d_D_receiver_64 (n := 65) rfl (i := 1) rfl rfl ?_
      refine fv_aaldN C (t0 := 4) rfl d_D_receiver_65 (n := 66) rfl hD.1.2.1 (by omega) (by decide) (show va_rf (if k < 2 then some (b0 + 64 + 34 * k + 3) else none) = .ref (b0 + 64 + 34 * k + 3) by rw [if_pos (by omega)]; rfl) ?_
      refine fv_callV_r C (ml_D_123 D dA) im_V_countKept se_V_countKept hVo.1 rfl (ct_V_countKept hI.2.2.1 hV hRI) d_D_receiver_66 (n := 69) rfl rfl rfl rfl (Nat.le_of_ble_eq_true rfl) (Nat.le_of_ble_eq_true rfl) (Nat.le_of_ble_eq_true rfl) (Nat.le_refl _) (Nat.le_refl _) ?_
      refine fv_iret C rfl d_D_receiver_69 (Nat.le_refl _) (Nat.le_refl _) ?_
      exact ⟨by rw [hans], rfl, rfl⟩
    by_cases w3 : w = nI 3
    · subst w3
      have hans : sp_rvA S (nI k) (nI 3) = nI (rc_ch (sp_R S k)) := by unfold sp_rvA; rw [if_pos hgood, hcl, if_neg (by decide +kernel), if_neg (by decide +kernel), if_neg (by decide +kernel), if_pos rfl]
      refine fv_tableIn C d_D_receiver_11 (by decide +kernel) (by decide +kernel) (off := 59) (by decide +kernel) (tgt := 70) rfl ?_
      refine fv_aload_n C d_D_receiver_70 (n := 71) rfl (i := 0) rfl rfl ?_
      refine fv_get C (fl_D_11 D dA) d_D_receiver_71 (n := 74) rfl hD.1.1 rfl ?_
      refine fv_iload_n C d_D_receiver_74 (n := 75) rfl (i := 1) rfl rfl ?_
      refine fv_aaldN C (t0 := 4) rfl d_D_receiver_75 (n := 76) rfl hD.1.2.1 (by omega) (by decide) (show va_rf (if k < 2 then some (b0 + 64 + 34 * k + 3) else none) = .ref (b0 + 64 + 34 * k + 3) by rw [if_pos (by omega)]; rfl) ?_
      refine fv_callV_r C (ml_D_126 D dA) im_V_countHeld se_V_countHeld hVo.1 rfl (ct_V_countHeld hI.2.2.1 hV hRI) d_D_receiver_76 (n := 79) rfl rfl rfl rfl (Nat.le_of_ble_eq_true rfl) (Nat.le_of_ble_eq_true rfl) (Nat.le_of_ble_eq_true rfl) (Nat.le_refl _) (Nat.le_refl _) ?_
      refine fv_iret C rfl d_D_receiver_79 (Nat.le_refl _) (Nat.le_refl _) ?_
      exact ⟨by rw [hans], rfl, rfl⟩
    have hout : w.toInt < 0 ∨ 3 < w.toInt := by
      refine Decidable.byContradiction fun hz => ?_
      obtain ⟨z, -, hz2, rfl⟩ := iv_of (x := w) (a := 0) (b := 3) (by decide) (by decide) (decide_eq_true ⟨by rw [Int32.le_iff_toInt_le, nI_toInt (by decide)]; omega, by rw [Int32.le_iff_toInt_le, nI_toInt (by decide)]; omega⟩)
      rcases (show z = 0 ∨ z = 1 ∨ z = 2 ∨ z = 3 by omega) with rfl | rfl | rfl | rfl
      · exact w0 rfl
      · exact w1 rfl
      · exact w2 rfl
      · exact w3 rfl
    have hans : sp_rvA S (nI k) w = -2 := by unfold sp_rvA; rw [if_pos hgood, if_neg w0, if_neg w1, if_neg w2, if_neg w3]
    refine fv_tableOut C d_D_receiver_11 hout (tgt := 80) rfl ?_
    refine fv_bipush C d_D_receiver_80 (n := 82) rfl kB_m2 ?_
    refine fv_iret C rfl d_D_receiver_82 (Nat.le_refl _) (Nat.le_refl _) ?_
    exact ⟨by rw [hans], rfl, rfl⟩
  · have hans : sp_rvA S r w = -2 := by unfold sp_rvA; rw [hc4]; rfl
    refine fv_bipush C d_D_receiver_7 (n := 9) rfl kB_m2 ?_
    refine fv_iret C rfl d_D_receiver_9 (Nat.le_refl _) (Nat.le_refl _) ?_
    exact ⟨by rw [hans], rfl, rfl⟩
end DK2
