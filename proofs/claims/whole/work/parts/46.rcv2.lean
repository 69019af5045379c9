/-! Receiver: the other methods -/
section VC2
variable {l : Launch} {D : va_G} {dA : Nat → ClassId} {Bs sz : Nat} {h : fv_H} {ar pub aE sc : Nat} {log : List bo_E} {ends : List Nat} {R : rc_T} {fx : Nat → Int32}
theorem ct_V_hear {p : Nat} (hp1 : 1 ≤ p) (hp : p ≤ ends.length) (hok : fe_ok log) (hsm : ev_sm log) (hBs : Bs ≤ ar) (hpub : pub + 61 ≤ ar) (haE : ar + 34 ≤ aE) (hE : EVS h aE log) (hEn : fe_ends log ends) (hP : PB dA h pub aE log ends sc) (hV : VC dA h ar pub aE log R fx) (hI : rc_I log ends R) : fv_T l (fk D dA) Bs WA m_V_hear [.ref (ar + 3), .int (nI p)] sz h 0 0 (fp_i sz (fun r h' => r = nI (rc_ha R p) ∧ VC dA h' ar pub aE log (rc_hear log ends p R) fx ∧ fs h h' (fun x => ar ≤ x ∧ x < ar + 34))) := by
  have hcl := fe_ends_len hEn
  have j1 := hI.1.1
  have j2 := hI.1.2.1
  have j3 := hI.1.2.2.1
  have j4 := hI.2.2
  have hV0 := hV
  obtain ⟨kp, hO, hkp, hTS, hRD⟩ := hV
  have hmx : (if nI R.2.1 < nI p then nI p else nI R.2.1) = nI (if R.2.1 < p then p else R.2.1) := by
    by_cases c : R.2.1 < p
    · rw [if_pos c, if_pos ((nI_ltI (by omega) (by omega)).mpr c)]
    · rw [if_neg c, if_neg (fun q => c ((nI_ltI (by omega) (by omega)).mp q))]
  refine fv_of (L := [_, _]) (by decide +kernel) rfl (Nat.le_of_ble_eq_true rfl) rfl ?_
  intro X hX C
  subst hX
  refine fv_aload_n C d_V_hear_0 (n := 1) rfl (i := 0) rfl rfl ?_
  refine fv_aload_n C d_V_hear_1 (n := 2) rfl (i := 0) rfl rfl ?_
  refine fv_get C (fl_V_21 D dA) d_V_hear_2 (n := 5) rfl hO.1 rfl ?_
  refine fv_iload_n C d_V_hear_5 (n := 6) rfl (i := 1) rfl rfl ?_
  refine fv_mmax C nl_V_38 n_ms n_mi n_mc d_V_hear_6 (n := 9) rfl rfl (Nat.le_of_ble_eq_true rfl) (Nat.le_of_ble_eq_true rfl) (Nat.le_refl _) (Nat.le_refl _) ?_
  rw [hmx]
  refine vc_phg C (fl_V_21 D dA) d_V_hear_9 (n := 12) rfl hO (by omega) (fun h1 hO hF1 => ?_)
  have hV1 : VC dA h1 ar pub aE log (rc_hg R p) fx := ⟨kp, hO, hkp, fun i hi => (hTS i hi).fs hF1 (fun x h5 h6 => by omega), hRD.fs hF1 ⟨by omega, by omega, by omega⟩⟩
  have hF1b : fs h h1 (fun x => ar ≤ x ∧ x < ar + 34) := hF1.mono (fun x hx => by omega)
  refine fv_iload_n C d_V_hear_12 (n := 13) rfl (i := 1) rfl rfl ?_
  refine fv_aload_n C d_V_hear_13 (n := 14) rfl (i := 0) rfl rfl ?_
  refine fv_get C (fl_V_17 D dA) d_V_hear_14 (n := 17) rfl hO.1 rfl ?_
  refine fv_icmpN_ge C (by omega) (by omega) d_V_hear_17 (tgt := 22) rfl (n := 20) rfl (fun hc17 => ?_) (fun hc17 => ?_)
  · refine fv_iload_n C d_V_hear_22 (n := 23) rfl (i := 1) rfl rfl ?_
    refine fv_aload_n C d_V_hear_23 (n := 24) rfl (i := 0) rfl rfl ?_
    refine fv_get C (fl_V_17 D dA) d_V_hear_24 (n := 27) rfl hO.1 rfl ?_
    refine fv_bipush C d_V_hear_27 (n := 29) rfl kB_6 ?_
    first | refine fv_iaddN C d_V_hear_29 (n := 30) rfl ?_ | refine fv_iadd C d_V_hear_29 (n := 30) rfl ?_
    refine fv_icmpN_le C (by omega) (by omega) d_V_hear_30 (tgt := 35) rfl (n := 33) rfl (fun hc30 => ?_) (fun hc30 => ?_)
    · refine fv_iload_n C d_V_hear_35 (n := 36) rfl (i := 1) rfl rfl ?_
      refine fv_aload_n C d_V_hear_36 (n := 37) rfl (i := 0) rfl rfl ?_
      refine fv_get C (fl_V_17 D dA) d_V_hear_37 (n := 40) rfl hO.1 rfl ?_
      refine fv_icmpN_le C (by omega) (by omega) d_V_hear_40 (tgt := 55) rfl (n := 43) rfl (fun hc40 => ?_) (fun hc40 => ?_)
      · refine fv_aload_n C d_V_hear_55 (n := 56) rfl (i := 0) rfl rfl ?_
        refine fv_iload_n C d_V_hear_56 (n := 57) rfl (i := 1) rfl rfl ?_
        refine fv_callV_v C (ml_V_44 D dA) im_V_passThrough se_V_passThrough hO.1 rfl (ct_V_passThrough (R := rc_hg R p) (by omega) hok hsm hBs hpub haE (hE.fs hF1b (fun x hx => by omega)) hEn (hP.fs hF1b ⟨by omega, by omega, by omega, by omega, by omega⟩) hV1 (rc_hg_J hI.1 hp)) d_V_hear_57 (n := 60) rfl rfl rfl rfl (Nat.le_of_ble_eq_true rfl) (Nat.le_of_ble_eq_true rfl) (Nat.le_of_ble_eq_true rfl) (Nat.le_refl _) (Nat.le_refl _) (fun h2 hp2 => ?_)
        refine fv_iconst C d_V_hear_60 (n := 61) rfl kI_1 ?_
        refine fv_iret C rfl d_V_hear_61 (Nat.le_refl _) (Nat.le_refl _) ?_
        refine ⟨_, rfl, rfl, ?_, ?_, hF1b.tr hp2.2 (fun x hx => hx) (fun x hx => hx)⟩
        · unfold rc_ha; rw [if_neg (by omega), if_neg (by omega), if_neg (by omega)]
        · unfold rc_hear; rw [if_neg (by omega), if_neg (by omega), if_neg (by omega)]; exact hp2.1
      · refine fv_aload_n C d_V_hear_43 (n := 44) rfl (i := 0) rfl rfl ?_
        refine fv_get C (fl_V_24 D dA) d_V_hear_44 (n := 47) rfl hO.1 rfl ?_
        refine fv_iload_n C d_V_hear_47 (n := 48) rfl (i := 1) rfl rfl ?_
        refine fv_bipush C d_V_hear_48 (n := 50) rfl kB_7 ?_
        refine fv_iandN C 3 (by omega) (by decide +kernel) d_V_hear_50 (n := 51) rfl ?_
        refine fv_iconst C d_V_hear_51 (n := 52) rfl kI_1 ?_
        refine vc_skp C (bb := true) (by decide +kernel) d_V_hear_52 (n := 53) rfl hO (by omega) (by omega) (fun h2 hO hF2 => ?_)
        refine fv_iconst C d_V_hear_53 (n := 54) rfl kI_2 ?_
        refine fv_iret C rfl d_V_hear_54 (Nat.le_refl _) (Nat.le_refl _) ?_
        refine ⟨_, rfl, rfl, ?_, ?_, hF1b.tr hF2 (fun x hx => hx) (fun x hx => by omega)⟩
        · unfold rc_ha; rw [if_neg (by omega), if_neg (by omega), if_pos (by omega)]
        · unfold rc_hear; rw [if_neg (by omega), if_neg (by omega), if_pos (by omega)]
          obtain ⟨-, -, -, g3, g4⟩ := hV1
          refine ⟨_, hO, fun q hq1 hq2 => ?_, fun i hi => (g3 i hi).fs hF2 (fun x h5 h6 => by omega), g4.fs hF2 ⟨by omega, by omega, by omega⟩⟩
          have hq1 : R.1 ≤ q := hq1
          have hq2 : q < R.1 + 8 := hq2
          by_cases c : q = p
          · subst c
            have e9 : rc_kp (rc_kk (rc_hg R q) q) q = true := va_up_self _ _ _
            rw [e9]
            exact va_up_self _ _ _
          · have e9 : rc_kp (rc_kk (rc_hg R p) p) q = rc_kp R q := va_up_ne _ _ c
            rw [e9, va_up_ne _ _ (by omega)]
            exact hkp q hq1 hq2
    · refine fv_iconst C d_V_hear_33 (n := 34) rfl kI_3 ?_
      refine fv_iret C rfl d_V_hear_34 (Nat.le_refl _) (Nat.le_refl _) ?_
      refine ⟨_, rfl, rfl, ?_, ?_, hF1b⟩
      · unfold rc_ha; rw [if_neg (by omega), if_pos (by omega)]
      · unfold rc_hear; rw [if_neg (by omega), if_pos (by omega)]; exact hV1
  · refine fv_iconst C d_V_hear_20 (n := 21) rfl kI_0 ?_
    refine fv_iret C rfl d_V_hear_21 (Nat.le_refl _) (Nat.le_refl _) ?_
    refine ⟨_, rfl, rfl, ?_, ?_, hF1b⟩
    · unfold rc_ha; rw [if_pos (by omega)]
    · unfold rc_hear; rw [if_pos (by omega)]; exact hV1
theorem ct_V_lastOfGap (hEn : fe_ends log ends) (hV : VC dA h ar pub aE log R fx) (hI : rc_I log ends R) : fv_T l (fk D dA) Bs WA m_V_lastOfGap [.ref (ar + 3)] sz h 0 0 (fp_r (.int (nI (rc_gap R))) sz h) := by
  have hcl := fe_ends_len hEn
  have j1 := hI.1.1
  have j2 := hI.1.2.1
  have j3 := hI.1.2.2.1
  have j4 := hI.2.2
  have hV0 := hV
  obtain ⟨kp, hO, hkp, hTS, hRD⟩ := hV
  refine fv_of (L := [_, _]) (by decide +kernel) rfl (Nat.le_of_ble_eq_true rfl) rfl ?_
  intro X hX C
  subst hX
  have loop : ∀ k p, p + k = R.1 + 7 → R.1 < p → fv_V (fk D dA) Bs X 2 (fv_MQ (fk D dA) Bs X (fp_r (.int (nI (rc_ga R k p))) sz h) 0 0) 7 [some (.ref (ar + 3)), some (.int (nI p))] [] sz h 0 0 := by
    intro k
    induction k with
    | zero =>
      intro p hk hp
      refine fv_iload_n C d_V_lastOfGap_7 (n := 8) rfl (i := 1) rfl rfl ?_
      refine fv_aload_n C d_V_lastOfGap_8 (n := 9) rfl (i := 0) rfl rfl ?_
      refine fv_get C (fl_V_17 D dA) d_V_lastOfGap_9 (n := 12) rfl hO.1 rfl ?_
      refine fv_bipush C d_V_lastOfGap_12 (n := 14) rfl kB_6 ?_
      first | refine fv_iaddN C d_V_lastOfGap_14 (n := 15) rfl ?_ | refine fv_iadd C d_V_lastOfGap_14 (n := 15) rfl ?_
      refine fv_icmpN_gt C (by omega) (by omega) d_V_lastOfGap_15 (tgt := 40) rfl (n := 18) rfl (fun hc15 => ?_) (fun hc15 => ?_)
      · refine fv_aload_n C d_V_lastOfGap_40 (n := 41) rfl (i := 0) rfl rfl ?_
        refine fv_get C (fl_V_21 D dA) d_V_lastOfGap_41 (n := 44) rfl hO.1 rfl ?_
        refine fv_iret C rfl d_V_lastOfGap_44 (Nat.le_refl _) (Nat.le_refl _) ?_
        exact ⟨rfl, rfl, rfl⟩
      · exact absurd hc15 (by omega)
    | succ k ih =>
      intro p hk hp
      have hkn := hkp p (by omega) (by omega)
      unfold rc_ga
      refine fv_iload_n C d_V_lastOfGap_7 (n := 8) rfl (i := 1) rfl rfl ?_
      refine fv_aload_n C d_V_lastOfGap_8 (n := 9) rfl (i := 0) rfl rfl ?_
      refine fv_get C (fl_V_17 D dA) d_V_lastOfGap_9 (n := 12) rfl hO.1 rfl ?_
      refine fv_bipush C d_V_lastOfGap_12 (n := 14) rfl kB_6 ?_
      first | refine fv_iaddN C d_V_lastOfGap_14 (n := 15) rfl ?_ | refine fv_iadd C d_V_lastOfGap_14 (n := 15) rfl ?_
      refine fv_icmpN_gt C (by omega) (by omega) d_V_lastOfGap_15 (tgt := 40) rfl (n := 18) rfl (fun hc15 => ?_) (fun hc15 => ?_)
      · exact absurd hc15 (by omega)
      · refine fv_aload_n C d_V_lastOfGap_18 (n := 19) rfl (i := 0) rfl rfl ?_
        refine fv_get C (fl_V_24 D dA) d_V_lastOfGap_19 (n := 22) rfl hO.1 rfl ?_
        refine fv_iload_n C d_V_lastOfGap_22 (n := 23) rfl (i := 1) rfl rfl ?_
        refine fv_bipush C d_V_lastOfGap_23 (n := 25) rfl kB_7 ?_
        refine fv_iandN C 3 (by omega) (by decide +kernel) d_V_lastOfGap_25 (n := 26) rfl ?_
        refine fv_zaldN C (t0 := 1) rfl d_V_lastOfGap_26 (n := 27) rfl hO.2.2 (by omega) (by decide) ?_
        rw [show p % 2 ^ 3 = p % 8 from rfl, hkn]
        refine fv_ifB_eq C d_V_lastOfGap_27 (tgt := 34) rfl (n := 30) rfl (fun hc27 => ?_) (fun hc27 => ?_)
        · refine fv_iincN C d_V_lastOfGap_34 (n := 37) rfl rfl (by decide) (L' := [_, _]) rfl ?_
          refine fv_goto C d_V_lastOfGap_37 (tgt := 7) rfl ?_
          rw [if_neg (by rw [hc27]; decide)]
          exact ih (p + 1) (by omega) (by omega)
        · refine fv_iload_n C d_V_lastOfGap_30 (n := 31) rfl (i := 1) rfl rfl ?_
          refine fv_iconst C d_V_lastOfGap_31 (n := 32) rfl kI_1 ?_
          refine fv_isubN C (by omega) d_V_lastOfGap_32 (n := 33) rfl ?_
          refine fv_iret C rfl d_V_lastOfGap_33 (Nat.le_refl _) (Nat.le_refl _) ?_
          rw [if_pos hc27]
          exact ⟨rfl, rfl, rfl⟩
  refine fv_aload_n C d_V_lastOfGap_0 (n := 1) rfl (i := 0) rfl rfl ?_
  refine fv_get C (fl_V_17 D dA) d_V_lastOfGap_1 (n := 4) rfl hO.1 rfl ?_
  refine fv_iconst C d_V_lastOfGap_4 (n := 5) rfl kI_1 ?_
  first | refine fv_iaddN C d_V_lastOfGap_5 (n := 6) rfl ?_ | refine fv_iadd C d_V_lastOfGap_5 (n := 6) rfl ?_
  refine fv_istore_n C d_V_lastOfGap_6 (n := 7) rfl (i := 1) rfl (by decide) (L' := [_, _]) rfl ?_
  exact loop 6 (R.1 + 1) (by omega) (by omega)
theorem ct_V_ask (hBs : Bs ≤ ar) (hEn : fe_ends log ends) (hV : VC dA h ar pub aE log R fx) (hI : rc_I log ends R) : fv_T l (fk D dA) Bs WA m_V_ask [.ref (ar + 3)] sz h 0 0 (fp_i sz (fun r h' => r = nI (rc_gap R + 1 - R.1) ∧ VC dA h' ar pub aE log (rc_ak R (rc_gap R)) fx ∧ fs h h' (fun x => ar ≤ x ∧ x < ar + 34))) := by
  have hcl := fe_ends_len hEn
  have j1 := hI.1.1
  have j2 := hI.1.2.1
  have j3 := hI.1.2.2.1
  have j4 := hI.2.2
  have hV0 := hV
  obtain ⟨kp, hO, hkp, hTS, hRD⟩ := hV
  have hgl : rc_gap R ≤ R.2.1 := rc_ga_le hI.1 _ _
  refine fv_of (L := [_]) (by decide +kernel) rfl (Nat.le_of_ble_eq_true rfl) rfl ?_
  intro X hX C
  subst hX
  refine fv_aload_n C d_V_ask_0 (n := 1) rfl (i := 0) rfl rfl ?_
  refine fv_aload_n C d_V_ask_1 (n := 2) rfl (i := 0) rfl rfl ?_
  refine fv_callV_r C (ml_V_48 D dA) im_V_lastOfGap se_V_lastOfGap hO.1 rfl (ct_V_lastOfGap hEn hV0 hI) d_V_ask_2 (n := 5) rfl rfl rfl rfl (Nat.le_of_ble_eq_true rfl) (Nat.le_of_ble_eq_true rfl) (Nat.le_of_ble_eq_true rfl) (Nat.le_refl _) (Nat.le_refl _) ?_
  refine vc_pak C (fl_V_28 D dA) d_V_ask_5 (n := 8) rfl hO (by omega) (fun h1 hO hF1 => ?_)
  refine fv_iconst C d_V_ask_8 (n := 9) rfl kI_0 ?_
  refine fv_aload_n C d_V_ask_9 (n := 10) rfl (i := 0) rfl rfl ?_
  refine fv_get C (fl_V_28 D dA) d_V_ask_10 (n := 13) rfl hO.1 rfl ?_
  refine fv_aload_n C d_V_ask_13 (n := 14) rfl (i := 0) rfl rfl ?_
  refine fv_get C (fl_V_17 D dA) d_V_ask_14 (n := 17) rfl hO.1 rfl ?_
  refine fv_isub C d_V_ask_17 (n := 18) rfl ?_
  refine fv_iconst C d_V_ask_18 (n := 19) rfl kI_1 ?_
  refine fv_iadd C d_V_ask_19 (n := 20) rfl ?_
  refine fv_mmax C nl_V_38 n_ms n_mi n_mc d_V_ask_20 (n := 23) rfl rfl (Nat.le_of_ble_eq_true rfl) (Nat.le_of_ble_eq_true rfl) (Nat.le_refl _) (Nat.le_refl _) ?_
  refine fv_iret C rfl d_V_ask_23 (Nat.le_refl _) (Nat.le_refl _) ?_
  rw [rc_max0 (by omega) (by omega)]
  exact ⟨_, rfl, rfl, rfl, ⟨kp, hO, hkp, fun i hi => (hTS i hi).fs hF1 (fun x h5 h6 => by omega), hRD.fs hF1 ⟨by omega, by omega, by omega⟩⟩, hF1.mono (fun x hx => by omega)⟩
theorem ct_V_giveUp {last : Nat} (h1 : R.1 ≤ last) (h2 : last ≤ R.2.1) (hBs : Bs ≤ ar) (hEn : fe_ends log ends) (hV : VC dA h ar pub aE log R fx) (hI : rc_I log ends R) : fv_T l (fk D dA) Bs WA m_V_giveUp [.ref (ar + 3), .int (nI last)] sz h 0 0 (fp_v sz (fun h' => VC dA h' ar pub aE log (rc_gu R last) fx ∧ fs h h' (fun x => ar ≤ x ∧ x < ar + 34))) := by
  have hcl := fe_ends_len hEn
  have j1 := hI.1.1
  have j2 := hI.1.2.1
  have j3 := hI.1.2.2.1
  have j4 := hI.2.2
  have hV0 := hV
  obtain ⟨kp, hO, hkp, hTS, hRD⟩ := hV
  refine fv_of (L := [_, _, _]) (by decide +kernel) rfl (Nat.le_of_ble_eq_true rfl) rfl ?_
  intro X hX C
  subst hX
  have needs : ∀ (m i : Nat) (h1 : fv_H) (kp1 : Nat → Bool), i + m = 4 → fs h h1 (fun x => ar ≤ x ∧ x < ar + 34) → VCr dA h1 (ar + 3) pub R.1 R.2.1 kp1 R.2.2.1 → (∀ q, last + 1 ≤ q → q < last + 1 + 8 → kp1 (q % 8) = rc_kp (rc_gu R last) q) → (∀ j, j < 4 → TS dA h1 ar aE log j (rc_ap R j) (rc_hl R j) (if j < i then last else rc_nd R j)) → RD dA h1 ar (rc_rw R) fx → fv_V (fk D dA) Bs X 3 (fv_MQ (fk D dA) Bs X (fp_v sz (fun h' => VC dA h' ar pub aE log (rc_gu R last) fx ∧ fs h h' (fun x => ar ≤ x ∧ x < ar + 34))) 0 0) 39 [some (.ref (ar + 3)), some (.int (nI last)), some (.int (nI i))] [] sz h1 0 0 := by
    intro m
    induction m with
    | zero =>
      intro i h1 kp1 hi hF hO hkp1 hTS hRD
      have hi4 : i = 4 := by omega
      subst hi4
      refine fv_iload_n C d_V_giveUp_39 (n := 40) rfl (i := 2) rfl rfl ?_
      refine fv_iconst C d_V_giveUp_40 (n := 41) rfl kI_4 ?_
      refine fv_icmpN_ge C (by omega) (by omega) d_V_giveUp_41 (tgt := 60) rfl (n := 44) rfl (fun hc41 => ?_) (fun hc41 => ?_)
      · refine fv_aload_n C d_V_giveUp_60 (n := 61) rfl (i := 0) rfl rfl ?_
        refine fv_iload_n C d_V_giveUp_61 (n := 62) rfl (i := 1) rfl rfl ?_
        refine fv_iconst C d_V_giveUp_62 (n := 63) rfl kI_1 ?_
        first | refine fv_iaddN C d_V_giveUp_63 (n := 64) rfl ?_ | refine fv_iadd C d_V_giveUp_63 (n := 64) rfl ?_
        refine vc_pnx C (fl_V_17 D dA) d_V_giveUp_64 (n := 67) rfl hO (by omega) (fun h2 hO hF2 => ?_)
        refine fv_vret C rfl d_V_giveUp_67 (Nat.le_refl _) (Nat.le_refl _) ?_
        refine ⟨rfl, rfl, ⟨kp1, hO, hkp1, fun j hj => ?_, hRD.fs hF2 ⟨by omega, by omega, by omega⟩⟩, hF.tr hF2 (fun x hx => hx) (fun x hx => by omega)⟩
        exact (hTS j hj).fs hF2 (fun x h5 h6 => by omega)
      · exact absurd hc41 (by omega)
    | succ m ih =>
      intro i h1 kp1 hi hF hO hkp1 hTS hRD
      obtain ⟨hs, sv, hTK, hsv, hBL, hpm⟩ := hTS i (by omega)
      obtain ⟨hd, hTO, hhd, h30, hlog⟩ := hTK
      refine fv_iload_n C d_V_giveUp_39 (n := 40) rfl (i := 2) rfl rfl ?_
      refine fv_iconst C d_V_giveUp_40 (n := 41) rfl kI_4 ?_
      refine fv_icmpN_ge C (by omega) (by omega) d_V_giveUp_41 (tgt := 60) rfl (n := 44) rfl (fun hc41 => ?_) (fun hc41 => ?_)
      · exact absurd hc41 (by omega)
      · refine fv_aload_n C d_V_giveUp_44 (n := 45) rfl (i := 0) rfl rfl ?_
        refine fv_get C (fl_V_11 D dA) d_V_giveUp_45 (n := 48) rfl hO.1 rfl ?_
        refine fv_iload_n C d_V_giveUp_48 (n := 49) rfl (i := 2) rfl rfl ?_
        refine fv_aaldN C (t0 := 7) rfl d_V_giveUp_49 (n := 50) rfl hO.2.1 (by omega) (by decide) (show va_rf (if i < 4 then some (ar + 3 + 3 + 7 * i) else none) = .ref (ar + 6 + 7 * i) by rw [if_pos (by omega)]; rfl) ?_
        refine fv_iload_n C d_V_giveUp_50 (n := 51) rfl (i := 1) rfl rfl ?_
        refine tk_pnd C (fl_V_84 D dA) d_V_giveUp_51 (n := 54) rfl hTO (by omega) (fun h2 hTO hF2 => ?_)
        refine fv_iincN C d_V_giveUp_54 (n := 57) rfl rfl (by decide) (L' := [_, _, _]) rfl ?_
        refine fv_goto C d_V_giveUp_57 (tgt := 39) rfl ?_
        refine ih (i + 1) h2 kp1 (by omega) (hF.tr hF2 (fun x hx => hx) (fun x hx => by omega)) (hO.fs hF2 ⟨by omega, by omega, by omega⟩) hkp1 (fun j hj => ?_) (hRD.fs hF2 ⟨by omega, by omega, by omega⟩)
        by_cases c : j = i
        · subst c
          rw [if_pos (by omega)]
          exact ⟨hs, sv, ⟨hd, hTO, hhd, h30, hlog⟩, hsv, hBL.fs hF2 ⟨by omega, by omega, by omega, by omega⟩, hpm⟩
        · have h9 := (hTS j hj).fs hF2 (fun x h5 h6 => by omega)
          by_cases c2 : j < i
          · rw [if_pos c2] at h9; rw [if_pos (by omega)]; exact h9
          · rw [if_neg c2] at h9; rw [if_neg (by omega)]; exact h9
  have clr : ∀ (m p : Nat) (h1 : fv_H) (kp1 : Nat → Bool), p + m = R.1 + 7 → R.1 ≤ p → fs h h1 (fun x => ar ≤ x ∧ x < ar + 34) → VCr dA h1 (ar + 3) pub R.1 R.2.1 kp1 R.2.2.1 → (∀ q, R.1 ≤ q → q < R.1 + 8 → kp1 (q % 8) = if q < p ∧ q ≤ last then false else rc_kp R q) → (∀ j, j < 4 → TS dA h1 ar aE log j (rc_ap R j) (rc_hl R j) (rc_nd R j)) → RD dA h1 ar (rc_rw R) fx → p ≤ last + 1 → fv_V (fk D dA) Bs X 3 (fv_MQ (fk D dA) Bs X (fp_v sz (fun h' => VC dA h' ar pub aE log (rc_gu R last) fx ∧ fs h h' (fun x => ar ≤ x ∧ x < ar + 34))) 0 0) 5 [some (.ref (ar + 3)), some (.int (nI last)), some (.int (nI p))] [] sz h1 0 0 := by
    intro m
    induction m with
    | zero =>
      intro p h1 kp1 hm hp hF hO hkp1 hTS hRD hpl
      refine fv_iload_n C d_V_giveUp_5 (n := 6) rfl (i := 2) rfl rfl ?_
      refine fv_iload_n C d_V_giveUp_6 (n := 7) rfl (i := 1) rfl rfl ?_
      refine fv_icmpN_gt C (by omega) (by omega) d_V_giveUp_7 (tgt := 37) rfl (n := 10) rfl (fun hc7 => ?_) (fun hc7 => ?_)
      · refine fv_iconst C d_V_giveUp_37 (n := 38) rfl kI_0 ?_
        refine fv_istore_n C d_V_giveUp_38 (n := 39) rfl (i := 2) rfl (by decide) (L' := [_, _, _]) rfl ?_
        refine needs 4 0 h1 kp1 (by omega) hF hO (fun q hq1 hq2 => ?_) (fun j hj => by rw [if_neg (by omega)]; exact hTS j hj) hRD
        have e0 : rc_kp (rc_gu R last) q = rc_kp R q := if_neg (show ¬ q ≤ last by omega)
        rw [e0]
        obtain ⟨z, hz1, hz2, hz3⟩ : ∃ z, R.1 ≤ z ∧ z < R.1 + 8 ∧ z % 8 = q % 8 := ⟨R.1 + (q + 8 - R.1 % 8) % 8, by omega, by omega, by omega⟩
        rw [← hz3, hkp1 z hz1 hz2]
        by_cases c : z = q
        · subst c; rw [if_neg (by omega)]
        · have hzq : z + 8 ≤ q := by omega
          have hf : rc_kp R q = false := by
            cases h13 : rc_kp R q with
            | false => rfl
            | true => have h14 := (hI.1.2.2.2.1 q h13).2.1; omega
          rw [hf]
          split
          · rfl
          · cases h13 : rc_kp R z with
            | false => rfl
            | true => have h14 := (hI.1.2.2.2.1 z h13).2.1; omega
      · refine fv_iload_n C d_V_giveUp_10 (n := 11) rfl (i := 2) rfl rfl ?_
        refine fv_aload_n C d_V_giveUp_11 (n := 12) rfl (i := 0) rfl rfl ?_
        refine fv_get C (fl_V_17 D dA) d_V_giveUp_12 (n := 15) rfl hO.1 rfl ?_
        refine fv_bipush C d_V_giveUp_15 (n := 17) rfl kB_6 ?_
        first | refine fv_iaddN C d_V_giveUp_17 (n := 18) rfl ?_ | refine fv_iadd C d_V_giveUp_17 (n := 18) rfl ?_
        refine fv_icmpN_gt C (by omega) (by omega) d_V_giveUp_18 (tgt := 37) rfl (n := 21) rfl (fun hc18 => ?_) (fun hc18 => ?_)
        · refine fv_iconst C d_V_giveUp_37 (n := 38) rfl kI_0 ?_
          refine fv_istore_n C d_V_giveUp_38 (n := 39) rfl (i := 2) rfl (by decide) (L' := [_, _, _]) rfl ?_
          refine needs 4 0 h1 kp1 (by omega) hF hO (fun q hq1 hq2 => ?_) (fun j hj => by rw [if_neg (by omega)]; exact hTS j hj) hRD
          have e0 : rc_kp (rc_gu R last) q = rc_kp R q := if_neg (show ¬ q ≤ last by omega)
          rw [e0]
          obtain ⟨z, hz1, hz2, hz3⟩ : ∃ z, R.1 ≤ z ∧ z < R.1 + 8 ∧ z % 8 = q % 8 := ⟨R.1 + (q + 8 - R.1 % 8) % 8, by omega, by omega, by omega⟩
          rw [← hz3, hkp1 z hz1 hz2]
          by_cases c : z = q
          · subst c; rw [if_neg (by omega)]
          · have hzq : z + 8 ≤ q := by omega
            have hf : rc_kp R q = false := by
              cases h13 : rc_kp R q with
              | false => rfl
              | true => have h14 := (hI.1.2.2.2.1 q h13).2.1; omega
            rw [hf]
            split
            · rfl
            · cases h13 : rc_kp R z with
              | false => rfl
              | true => have h14 := (hI.1.2.2.2.1 z h13).2.1; omega
        · exact absurd hc18 (by omega)
    | succ m ih =>
      intro p h1 kp1 hm hp hF hO hkp1 hTS hRD hpl
      refine fv_iload_n C d_V_giveUp_5 (n := 6) rfl (i := 2) rfl rfl ?_
      refine fv_iload_n C d_V_giveUp_6 (n := 7) rfl (i := 1) rfl rfl ?_
      refine fv_icmpN_gt C (by omega) (by omega) d_V_giveUp_7 (tgt := 37) rfl (n := 10) rfl (fun hc7 => ?_) (fun hc7 => ?_)
      · refine fv_iconst C d_V_giveUp_37 (n := 38) rfl kI_0 ?_
        refine fv_istore_n C d_V_giveUp_38 (n := 39) rfl (i := 2) rfl (by decide) (L' := [_, _, _]) rfl ?_
        refine needs 4 0 h1 kp1 (by omega) hF hO (fun q hq1 hq2 => ?_) (fun j hj => by rw [if_neg (by omega)]; exact hTS j hj) hRD
        have e0 : rc_kp (rc_gu R last) q = rc_kp R q := if_neg (show ¬ q ≤ last by omega)
        rw [e0]
        obtain ⟨z, hz1, hz2, hz3⟩ : ∃ z, R.1 ≤ z ∧ z < R.1 + 8 ∧ z % 8 = q % 8 := ⟨R.1 + (q + 8 - R.1 % 8) % 8, by omega, by omega, by omega⟩
        rw [← hz3, hkp1 z hz1 hz2]
        by_cases c : z = q
        · subst c; rw [if_neg (by omega)]
        · have hzq : z + 8 ≤ q := by omega
          have hf : rc_kp R q = false := by
            cases h13 : rc_kp R q with
            | false => rfl
            | true => have h14 := (hI.1.2.2.2.1 q h13).2.1; omega
          rw [hf]
          split
          · rfl
          · cases h13 : rc_kp R z with
            | false => rfl
            | true => have h14 := (hI.1.2.2.2.1 z h13).2.1; omega
      · refine fv_iload_n C d_V_giveUp_10 (n := 11) rfl (i := 2) rfl rfl ?_
        refine fv_aload_n C d_V_giveUp_11 (n := 12) rfl (i := 0) rfl rfl ?_
        refine fv_get C (fl_V_17 D dA) d_V_giveUp_12 (n := 15) rfl hO.1 rfl ?_
        refine fv_bipush C d_V_giveUp_15 (n := 17) rfl kB_6 ?_
        first | refine fv_iaddN C d_V_giveUp_17 (n := 18) rfl ?_ | refine fv_iadd C d_V_giveUp_17 (n := 18) rfl ?_
        refine fv_icmpN_gt C (by omega) (by omega) d_V_giveUp_18 (tgt := 37) rfl (n := 21) rfl (fun hc18 => ?_) (fun hc18 => ?_)
        · exact absurd hc18 (by omega)
        · refine fv_aload_n C d_V_giveUp_21 (n := 22) rfl (i := 0) rfl rfl ?_
          refine fv_get C (fl_V_24 D dA) d_V_giveUp_22 (n := 25) rfl hO.1 rfl ?_
          refine fv_iload_n C d_V_giveUp_25 (n := 26) rfl (i := 2) rfl rfl ?_
          refine fv_bipush C d_V_giveUp_26 (n := 28) rfl kB_7 ?_
          refine fv_iandN C 3 (by omega) (by decide +kernel) d_V_giveUp_28 (n := 29) rfl ?_
          refine fv_iconst C d_V_giveUp_29 (n := 30) rfl kI_0 ?_
          refine vc_skp C (bb := false) (by decide +kernel) d_V_giveUp_30 (n := 31) rfl hO (by omega) (by omega) (fun h2 hO hF2 => ?_)
          refine fv_iincN C d_V_giveUp_31 (n := 34) rfl rfl (by decide) (L' := [_, _, _]) rfl ?_
          refine fv_goto C d_V_giveUp_34 (tgt := 5) rfl ?_
          refine ih (p + 1) h2 _ (by omega) (by omega) (hF.tr hF2 (fun x hx => hx) (fun x hx => by omega)) hO (fun q hq1 hq2 => ?_) (fun j hj => (hTS j hj).fs hF2 (fun x h5 h6 => by omega)) (hRD.fs hF2 ⟨by omega, by omega, by omega⟩) (by omega)
          by_cases c : q = p
          · subst c
            rw [if_pos (by omega)]
            exact va_up_self _ _ _
          · rw [va_up_ne _ _ (show q % 8 ≠ p % 2 ^ 3 by omega), hkp1 q hq1 hq2]
            by_cases c2 : q < p ∧ q ≤ last
            · rw [if_pos c2, if_pos (by omega)]
            · rw [if_neg c2, if_neg (by omega)]
  refine fv_aload_n C d_V_giveUp_0 (n := 1) rfl (i := 0) rfl rfl ?_
  refine fv_get C (fl_V_17 D dA) d_V_giveUp_1 (n := 4) rfl hO.1 rfl ?_
  refine fv_istore_n C d_V_giveUp_4 (n := 5) rfl (i := 2) rfl (by decide) (L' := [_, _, _]) rfl ?_
  exact clr 7 R.1 h kp (by omega) (Nat.le_refl _) (fs_rf _ _) hO (fun q hq1 hq2 => by rw [if_neg (by omega)]; exact hkp q hq1 hq2) hTS hRD (by omega)
theorem ct_V_takeAnswer (hok : fe_ok log) (hsm : ev_sm log) (hBs : Bs ≤ ar) (hpub : pub + 61 ≤ ar) (haE : ar + 34 ≤ aE) (hE : EVS h aE log) (hEn : fe_ends log ends) (hP : PB dA h pub aE log ends sc) (hV : VC dA h ar pub aE log R fx) (hI : rc_I log ends R) : fv_T l (fk D dA) Bs WA m_V_takeAnswer [.ref (ar + 3)] sz h 0 0 (fp_i sz (fun r h' => r = nI (rc_sa ends R) ∧ VC dA h' ar pub aE log (rc_serve log ends R) fx ∧ fs h h' (fun x => ar ≤ x ∧ x < ar + 34))) := by
  have hcl := fe_ends_len hEn
  have j1 := hI.1.1
  have j2 := hI.1.2.1
  have j3 := hI.1.2.2.1
  have j4 := hI.2.2
  have hV0 := hV
  obtain ⟨kp, hO, hkp, hTS, hRD⟩ := hV
  obtain ⟨evs, en, hPb0, hev, hen⟩ := hP
  have hP : PB dA h pub aE log ends sc := ⟨evs, en, hPb0, hev, hen⟩
  refine fv_of (L := [_, _, _]) (by decide +kernel) rfl (Nat.le_of_ble_eq_true rfl) rfl ?_
  intro X hX C
  subst hX
  refine fv_aload_n C d_V_takeAnswer_0 (n := 1) rfl (i := 0) rfl rfl ?_
  refine fv_get C (fl_V_28 D dA) d_V_takeAnswer_1 (n := 4) rfl hO.1 rfl ?_
  refine fv_istore_n C d_V_takeAnswer_4 (n := 5) rfl (i := 1) rfl (by decide) (L' := [_, _, _]) rfl ?_
  refine fv_aload_n C d_V_takeAnswer_5 (n := 6) rfl (i := 0) rfl rfl ?_
  refine fv_iconst C d_V_takeAnswer_6 (n := 7) rfl kI_0 ?_
  refine vc_pak C (fl_V_28 D dA) d_V_takeAnswer_7 (n := 10) rfl hO (by omega) (fun h1 hO hF1 => ?_)
  have hV1 : VC dA h1 ar pub aE log (rc_ak R 0) fx := ⟨kp, hO, hkp, fun i hi => (hTS i hi).fs hF1 (fun x h5 h6 => by omega), hRD.fs hF1 ⟨by omega, by omega, by omega⟩⟩
  have hF1b : fs h h1 (fun x => ar ≤ x ∧ x < ar + 34) := hF1.mono (fun x hx => by omega)
  have hP1 := hP.fs hF1b ⟨by omega, by omega, by omega, by omega, by omega⟩
  have hPb : PBr dA h1 pub evs log.length en ends.length sc := hPb0.fs hF1b ⟨by omega, by omega, by omega, by omega, by omega⟩
  have hE1 := hE.fs hF1b (fun x hx => by omega)
  have hI1 := rc_ak_I hI (Nat.zero_le R.2.1)
  refine fv_iload_n C d_V_takeAnswer_10 (n := 11) rfl (i := 1) rfl rfl ?_
  refine fv_aload_n C d_V_takeAnswer_11 (n := 12) rfl (i := 0) rfl rfl ?_
  refine fv_get C (fl_V_17 D dA) d_V_takeAnswer_12 (n := 15) rfl hO.1 rfl ?_
  refine fv_icmpN_ge C (by omega) (by omega) d_V_takeAnswer_15 (tgt := 20) rfl (n := 18) rfl (fun hc15 => ?_) (fun hc15 => ?_)
  · refine fv_aload_n C d_V_takeAnswer_20 (n := 21) rfl (i := 0) rfl rfl ?_
    refine fv_get C (fl_V_31 D dA) d_V_takeAnswer_21 (n := 24) rfl hO.1 rfl ?_
    refine fv_aload_n C d_V_takeAnswer_24 (n := 25) rfl (i := 0) rfl rfl ?_
    refine fv_get C (fl_V_17 D dA) d_V_takeAnswer_25 (n := 28) rfl hO.1 rfl ?_
    refine fv_callV_r C (ml_V_52 D dA) im_P_canReplayFrom se_P_canReplayFrom hPb.1 rfl (ct_P_canReplayFrom j1 (by omega) hEn hP1) d_V_takeAnswer_28 (n := 31) rfl rfl rfl rfl (Nat.le_of_ble_eq_true rfl) (Nat.le_of_ble_eq_true rfl) (Nat.le_of_ble_eq_true rfl) (Nat.le_refl _) (Nat.le_refl _) ?_
    refine fv_ifB_ne C d_V_takeAnswer_31 (tgt := 38) rfl (n := 34) rfl (fun hc31 => ?_) (fun hc31 => ?_)
    · have hcv : nI 0 = fv_b (!(fe_rep ends R.1)) := by rw [hc31]; rfl
      refine fv_iconst C d_V_takeAnswer_38 (n := 39) rfl kI_0 ?_
      rw [hcv]
      refine fv_istore_n C d_V_takeAnswer_39 (n := 40) rfl (i := 2) rfl (by decide) (L' := [_, _, _]) rfl ?_
      refine fv_iload_n C d_V_takeAnswer_40 (n := 41) rfl (i := 2) rfl rfl ?_
      refine fv_ifB_eq C d_V_takeAnswer_41 (tgt := 49) rfl (n := 44) rfl (fun hc41 => ?_) (fun hc41 => ?_)
      · have hr : fe_rep ends R.1 = true := by simpa using hc41
        refine fv_aload_n C d_V_takeAnswer_49 (n := 50) rfl (i := 0) rfl rfl ?_
        refine fv_iload_n C d_V_takeAnswer_50 (n := 51) rfl (i := 1) rfl rfl ?_
        refine fv_callV_v C (ml_V_44 D dA) im_V_passThrough se_V_passThrough hO.1 rfl (ct_V_passThrough (R := rc_ak R 0) (by omega) hok hsm hBs hpub haE hE1 hEn hP1 hV1 hI1.1) d_V_takeAnswer_51 (n := 54) rfl rfl rfl rfl (Nat.le_of_ble_eq_true rfl) (Nat.le_of_ble_eq_true rfl) (Nat.le_of_ble_eq_true rfl) (Nat.le_refl _) (Nat.le_refl _) (fun h3 hp3 => ?_)
        refine fv_iload_n C d_V_takeAnswer_54 (n := 55) rfl (i := 2) rfl rfl ?_
        refine fv_ifB_eq C d_V_takeAnswer_55 (tgt := 62) rfl (n := 58) rfl (fun hc55 => ?_) (fun hc55 => ?_)
        · have hr2 : fe_rep ends R.1 = true := by simpa using hc55
          refine fv_iconst C d_V_takeAnswer_62 (n := 63) rfl kI_1 ?_
          refine fv_iret C rfl d_V_takeAnswer_63 (Nat.le_refl _) (Nat.le_refl _) ?_
          first | exact absurd (hr.symm.trans hr2) (by decide) | (refine ⟨_, rfl, rfl, ?_, ?_, ?_⟩; (unfold rc_sa; rw [if_neg (by omega), hr]; rfl); (unfold rc_serve; rw [if_neg (by omega), hr]; exact hp3.1); (first | exact hF1b.tr hp3.2 (fun x hx => hx) (fun x hx => hx) | exact (hF1b.tr hF2 (U := (fun x => ar ≤ x ∧ x < ar + 34)) (fun x hx => hx) (fun x hx => hx)).tr hp3.2 (fun x hx => hx) (fun x hx => hx)))
        · have hr2 : fe_rep ends R.1 = false := by simpa using hc55
          refine fv_iconst C d_V_takeAnswer_58 (n := 59) rfl kI_2 ?_
          refine fv_goto C d_V_takeAnswer_59 (tgt := 63) rfl ?_
          refine fv_iret C rfl d_V_takeAnswer_63 (Nat.le_refl _) (Nat.le_refl _) ?_
          first | exact absurd (hr.symm.trans hr2) (by decide) | (refine ⟨_, rfl, rfl, ?_, ?_, ?_⟩; (unfold rc_sa; rw [if_neg (by omega), hr]; rfl); (unfold rc_serve; rw [if_neg (by omega), hr]; exact hp3.1); (first | exact hF1b.tr hp3.2 (fun x hx => hx) (fun x hx => hx) | exact (hF1b.tr hF2 (U := (fun x => ar ≤ x ∧ x < ar + 34)) (fun x hx => hx) (fun x hx => hx)).tr hp3.2 (fun x hx => hx) (fun x hx => hx)))
      · have hr : fe_rep ends R.1 = false := by simpa using hc41
        refine fv_aload_n C d_V_takeAnswer_44 (n := 45) rfl (i := 0) rfl rfl ?_
        refine fv_iload_n C d_V_takeAnswer_45 (n := 46) rfl (i := 1) rfl rfl ?_
        refine fv_callV_v C (ml_V_58 D dA) im_V_giveUp se_V_giveUp hO.1 rfl (ct_V_giveUp (R := rc_ak R 0) (last := R.2.2.1) hc15 j4 hBs hEn hV1 hI1) d_V_takeAnswer_46 (n := 49) rfl rfl rfl rfl (Nat.le_of_ble_eq_true rfl) (Nat.le_of_ble_eq_true rfl) (Nat.le_of_ble_eq_true rfl) (Nat.le_refl _) (Nat.le_refl _) (fun h2 hp2 => ?_)
        obtain ⟨hV2, hF2⟩ := hp2
        have hO := hV2.choose_spec.1
        have hJ2 := rc_gu_J (R := rc_ak R 0) hI1.1 hc15 j4
        refine fv_aload_n C d_V_takeAnswer_49 (n := 50) rfl (i := 0) rfl rfl ?_
        refine fv_iload_n C d_V_takeAnswer_50 (n := 51) rfl (i := 1) rfl rfl ?_
        refine fv_callV_v C (ml_V_44 D dA) im_V_passThrough se_V_passThrough hO.1 rfl (ct_V_passThrough (R := rc_gu (rc_ak R 0) R.2.2.1) (by omega) hok hsm hBs hpub haE (hE1.fs hF2 (fun x hx => by omega)) hEn (hP1.fs hF2 ⟨by omega, by omega, by omega, by omega, by omega⟩) hV2 hJ2) d_V_takeAnswer_51 (n := 54) rfl rfl rfl rfl (Nat.le_of_ble_eq_true rfl) (Nat.le_of_ble_eq_true rfl) (Nat.le_of_ble_eq_true rfl) (Nat.le_refl _) (Nat.le_refl _) (fun h3 hp3 => ?_)
        refine fv_iload_n C d_V_takeAnswer_54 (n := 55) rfl (i := 2) rfl rfl ?_
        refine fv_ifB_eq C d_V_takeAnswer_55 (tgt := 62) rfl (n := 58) rfl (fun hc55 => ?_) (fun hc55 => ?_)
        · have hr2 : fe_rep ends R.1 = true := by simpa using hc55
          refine fv_iconst C d_V_takeAnswer_62 (n := 63) rfl kI_1 ?_
          refine fv_iret C rfl d_V_takeAnswer_63 (Nat.le_refl _) (Nat.le_refl _) ?_
          first | exact absurd (hr.symm.trans hr2) (by decide) | (refine ⟨_, rfl, rfl, ?_, ?_, ?_⟩; (unfold rc_sa; rw [if_neg (by omega), hr]; rfl); (unfold rc_serve; rw [if_neg (by omega), hr]; exact hp3.1); (first | exact hF1b.tr hp3.2 (fun x hx => hx) (fun x hx => hx) | exact (hF1b.tr hF2 (U := (fun x => ar ≤ x ∧ x < ar + 34)) (fun x hx => hx) (fun x hx => hx)).tr hp3.2 (fun x hx => hx) (fun x hx => hx)))
        · have hr2 : fe_rep ends R.1 = false := by simpa using hc55
          refine fv_iconst C d_V_takeAnswer_58 (n := 59) rfl kI_2 ?_
          refine fv_goto C d_V_takeAnswer_59 (tgt := 63) rfl ?_
          refine fv_iret C rfl d_V_takeAnswer_63 (Nat.le_refl _) (Nat.le_refl _) ?_
          first | exact absurd (hr.symm.trans hr2) (by decide) | (refine ⟨_, rfl, rfl, ?_, ?_, ?_⟩; (unfold rc_sa; rw [if_neg (by omega), hr]; rfl); (unfold rc_serve; rw [if_neg (by omega), hr]; exact hp3.1); (first | exact hF1b.tr hp3.2 (fun x hx => hx) (fun x hx => hx) | exact (hF1b.tr hF2 (U := (fun x => ar ≤ x ∧ x < ar + 34)) (fun x hx => hx) (fun x hx => hx)).tr hp3.2 (fun x hx => hx) (fun x hx => hx)))
    · have hcv : nI 1 = fv_b (!(fe_rep ends R.1)) := by rw [hc31]; rfl
      refine fv_iconst C d_V_takeAnswer_34 (n := 35) rfl kI_1 ?_
      refine fv_goto C d_V_takeAnswer_35 (tgt := 39) rfl ?_
      rw [hcv]
      refine fv_istore_n C d_V_takeAnswer_39 (n := 40) rfl (i := 2) rfl (by decide) (L' := [_, _, _]) rfl ?_
      refine fv_iload_n C d_V_takeAnswer_40 (n := 41) rfl (i := 2) rfl rfl ?_
      refine fv_ifB_eq C d_V_takeAnswer_41 (tgt := 49) rfl (n := 44) rfl (fun hc41 => ?_) (fun hc41 => ?_)
      · have hr : fe_rep ends R.1 = true := by simpa using hc41
        refine fv_aload_n C d_V_takeAnswer_49 (n := 50) rfl (i := 0) rfl rfl ?_
        refine fv_iload_n C d_V_takeAnswer_50 (n := 51) rfl (i := 1) rfl rfl ?_
        refine fv_callV_v C (ml_V_44 D dA) im_V_passThrough se_V_passThrough hO.1 rfl (ct_V_passThrough (R := rc_ak R 0) (by omega) hok hsm hBs hpub haE hE1 hEn hP1 hV1 hI1.1) d_V_takeAnswer_51 (n := 54) rfl rfl rfl rfl (Nat.le_of_ble_eq_true rfl) (Nat.le_of_ble_eq_true rfl) (Nat.le_of_ble_eq_true rfl) (Nat.le_refl _) (Nat.le_refl _) (fun h3 hp3 => ?_)
        refine fv_iload_n C d_V_takeAnswer_54 (n := 55) rfl (i := 2) rfl rfl ?_
        refine fv_ifB_eq C d_V_takeAnswer_55 (tgt := 62) rfl (n := 58) rfl (fun hc55 => ?_) (fun hc55 => ?_)
        · have hr2 : fe_rep ends R.1 = true := by simpa using hc55
          refine fv_iconst C d_V_takeAnswer_62 (n := 63) rfl kI_1 ?_
          refine fv_iret C rfl d_V_takeAnswer_63 (Nat.le_refl _) (Nat.le_refl _) ?_
          first | exact absurd (hr.symm.trans hr2) (by decide) | (refine ⟨_, rfl, rfl, ?_, ?_, ?_⟩; (unfold rc_sa; rw [if_neg (by omega), hr]; rfl); (unfold rc_serve; rw [if_neg (by omega), hr]; exact hp3.1); (first | exact hF1b.tr hp3.2 (fun x hx => hx) (fun x hx => hx) | exact (hF1b.tr hF2 (U := (fun x => ar ≤ x ∧ x < ar + 34)) (fun x hx => hx) (fun x hx => hx)).tr hp3.2 (fun x hx => hx) (fun x hx => hx)))
        · have hr2 : fe_rep ends R.1 = false := by simpa using hc55
          refine fv_iconst C d_V_takeAnswer_58 (n := 59) rfl kI_2 ?_
          refine fv_goto C d_V_takeAnswer_59 (tgt := 63) rfl ?_
          refine fv_iret C rfl d_V_takeAnswer_63 (Nat.le_refl _) (Nat.le_refl _) ?_
          first | exact absurd (hr.symm.trans hr2) (by decide) | (refine ⟨_, rfl, rfl, ?_, ?_, ?_⟩; (unfold rc_sa; rw [if_neg (by omega), hr]; rfl); (unfold rc_serve; rw [if_neg (by omega), hr]; exact hp3.1); (first | exact hF1b.tr hp3.2 (fun x hx => hx) (fun x hx => hx) | exact (hF1b.tr hF2 (U := (fun x => ar ≤ x ∧ x < ar + 34)) (fun x hx => hx) (fun x hx => hx)).tr hp3.2 (fun x hx => hx) (fun x hx => hx)))
      · have hr : fe_rep ends R.1 = false := by simpa using hc41
        refine fv_aload_n C d_V_takeAnswer_44 (n := 45) rfl (i := 0) rfl rfl ?_
        refine fv_iload_n C d_V_takeAnswer_45 (n := 46) rfl (i := 1) rfl rfl ?_
        refine fv_callV_v C (ml_V_58 D dA) im_V_giveUp se_V_giveUp hO.1 rfl (ct_V_giveUp (R := rc_ak R 0) (last := R.2.2.1) hc15 j4 hBs hEn hV1 hI1) d_V_takeAnswer_46 (n := 49) rfl rfl rfl rfl (Nat.le_of_ble_eq_true rfl) (Nat.le_of_ble_eq_true rfl) (Nat.le_of_ble_eq_true rfl) (Nat.le_refl _) (Nat.le_refl _) (fun h2 hp2 => ?_)
        obtain ⟨hV2, hF2⟩ := hp2
        have hO := hV2.choose_spec.1
        have hJ2 := rc_gu_J (R := rc_ak R 0) hI1.1 hc15 j4
        refine fv_aload_n C d_V_takeAnswer_49 (n := 50) rfl (i := 0) rfl rfl ?_
        refine fv_iload_n C d_V_takeAnswer_50 (n := 51) rfl (i := 1) rfl rfl ?_
        refine fv_callV_v C (ml_V_44 D dA) im_V_passThrough se_V_passThrough hO.1 rfl (ct_V_passThrough (R := rc_gu (rc_ak R 0) R.2.2.1) (by omega) hok hsm hBs hpub haE (hE1.fs hF2 (fun x hx => by omega)) hEn (hP1.fs hF2 ⟨by omega, by omega, by omega, by omega, by omega⟩) hV2 hJ2) d_V_takeAnswer_51 (n := 54) rfl rfl rfl rfl (Nat.le_of_ble_eq_true rfl) (Nat.le_of_ble_eq_true rfl) (Nat.le_of_ble_eq_true rfl) (Nat.le_refl _) (Nat.le_refl _) (fun h3 hp3 => ?_)
        refine fv_iload_n C d_V_takeAnswer_54 (n := 55) rfl (i := 2) rfl rfl ?_
        refine fv_ifB_eq C d_V_takeAnswer_55 (tgt := 62) rfl (n := 58) rfl (fun hc55 => ?_) (fun hc55 => ?_)
        · have hr2 : fe_rep ends R.1 = true := by simpa using hc55
          refine fv_iconst C d_V_takeAnswer_62 (n := 63) rfl kI_1 ?_
          refine fv_iret C rfl d_V_takeAnswer_63 (Nat.le_refl _) (Nat.le_refl _) ?_
          first | exact absurd (hr.symm.trans hr2) (by decide) | (refine ⟨_, rfl, rfl, ?_, ?_, ?_⟩; (unfold rc_sa; rw [if_neg (by omega), hr]; rfl); (unfold rc_serve; rw [if_neg (by omega), hr]; exact hp3.1); (first | exact hF1b.tr hp3.2 (fun x hx => hx) (fun x hx => hx) | exact (hF1b.tr hF2 (U := (fun x => ar ≤ x ∧ x < ar + 34)) (fun x hx => hx) (fun x hx => hx)).tr hp3.2 (fun x hx => hx) (fun x hx => hx)))
        · have hr2 : fe_rep ends R.1 = false := by simpa using hc55
          refine fv_iconst C d_V_takeAnswer_58 (n := 59) rfl kI_2 ?_
          refine fv_goto C d_V_takeAnswer_59 (tgt := 63) rfl ?_
          refine fv_iret C rfl d_V_takeAnswer_63 (Nat.le_refl _) (Nat.le_refl _) ?_
          first | exact absurd (hr.symm.trans hr2) (by decide) | (refine ⟨_, rfl, rfl, ?_, ?_, ?_⟩; (unfold rc_sa; rw [if_neg (by omega), hr]; rfl); (unfold rc_serve; rw [if_neg (by omega), hr]; exact hp3.1); (first | exact hF1b.tr hp3.2 (fun x hx => hx) (fun x hx => hx) | exact (hF1b.tr hF2 (U := (fun x => ar ≤ x ∧ x < ar + 34)) (fun x hx => hx) (fun x hx => hx)).tr hp3.2 (fun x hx => hx) (fun x hx => hx)))
  · refine fv_iconst C d_V_takeAnswer_18 (n := 19) rfl kI_0 ?_
    refine fv_iret C rfl d_V_takeAnswer_19 (Nat.le_refl _) (Nat.le_refl _) ?_
    refine ⟨_, rfl, rfl, ?_, ?_, hF1b⟩
    · unfold rc_sa; rw [if_pos hc15]
    · unfold rc_serve; rw [if_pos hc15]; exact hV1
def rc_snd (R : rc_T) (i : Nat) : Bool := decide (rc_nd R i = 0 ∧ R.2.1 < R.1)
theorem ct_V_isSound {i : Nat} (hi : i < 4) (hEn : fe_ends log ends) (hV : VC dA h ar pub aE log R fx) (hI : rc_I log ends R) : fv_T l (fk D dA) Bs WA m_V_isSound [.ref (ar + 3), .int (nI i)] sz h 0 0 (fp_r (.int (fv_b (rc_snd R i))) sz h) := by
  have hcl := fe_ends_len hEn
  have j1 := hI.1.1
  have j2 := hI.1.2.1
  have j3 := hI.1.2.2.1
  have j4 := hI.2.2
  have hV0 := hV
  obtain ⟨kp, hO, hkp, hTS, hRD⟩ := hV
  have hnd := hI.1.2.2.2.2.2 i hi
  obtain ⟨hs, sv, hTK, hsv, hBL, hpm⟩ := hTS i hi
  obtain ⟨hd, hTO, hhd, h30, hlog⟩ := hTK
  refine fv_of (L := [_, _]) (by decide +kernel) rfl (Nat.le_of_ble_eq_true rfl) rfl ?_
  intro X hX C
  subst hX
  refine fv_aload_n C d_V_isSound_0 (n := 1) rfl (i := 0) rfl rfl ?_
  refine fv_get C (fl_V_11 D dA) d_V_isSound_1 (n := 4) rfl hO.1 rfl ?_
  refine fv_iload_n C d_V_isSound_4 (n := 5) rfl (i := 1) rfl rfl ?_
  refine fv_aaldN C (t0 := 7) rfl d_V_isSound_5 (n := 6) rfl hO.2.1 (by omega) (by decide) (show va_rf (if i < 4 then some (ar + 3 + 3 + 7 * i) else none) = .ref (ar + 6 + 7 * i) by rw [if_pos hi]; rfl) ?_
  refine fv_get C (fl_V_84 D dA) d_V_isSound_6 (n := 9) rfl hTO.1 rfl ?_
  refine fv_ifN_ne C (by omega) d_V_isSound_9 (tgt := 27) rfl (n := 12) rfl (fun hc9 => ?_) (fun hc9 => ?_)
  · have hcv : nI 0 = fv_b (rc_snd R i) := by unfold rc_snd; rw [decide_eq_false (fun q => hc9 q.1)]; rfl
    refine fv_iconst C d_V_isSound_27 (n := 28) rfl kI_0 ?_
    rw [hcv]
    refine fv_zret C rfl d_V_isSound_28 (fv_b_nar _) (Nat.le_refl _) (Nat.le_refl _) ?_
    exact ⟨rfl, rfl, rfl⟩
  · refine fv_aload_n C d_V_isSound_12 (n := 13) rfl (i := 0) rfl rfl ?_
    refine fv_get C (fl_V_21 D dA) d_V_isSound_13 (n := 16) rfl hO.1 rfl ?_
    refine fv_aload_n C d_V_isSound_16 (n := 17) rfl (i := 0) rfl rfl ?_
    refine fv_get C (fl_V_17 D dA) d_V_isSound_17 (n := 20) rfl hO.1 rfl ?_
    refine fv_icmpN_ge C (by omega) (by omega) d_V_isSound_20 (tgt := 27) rfl (n := 23) rfl (fun hc20 => ?_) (fun hc20 => ?_)
    · have hcv : nI 0 = fv_b (rc_snd R i) := by unfold rc_snd; rw [decide_eq_false (fun q => by omega)]; rfl
      refine fv_iconst C d_V_isSound_27 (n := 28) rfl kI_0 ?_
      rw [hcv]
      refine fv_zret C rfl d_V_isSound_28 (fv_b_nar _) (Nat.le_refl _) (Nat.le_refl _) ?_
      exact ⟨rfl, rfl, rfl⟩
    · have hcv : nI 1 = fv_b (rc_snd R i) := by unfold rc_snd; rw [decide_eq_true ⟨hc9, hc20⟩]; rfl
      refine fv_iconst C d_V_isSound_23 (n := 24) rfl kI_1 ?_
      refine fv_goto C d_V_isSound_24 (tgt := 28) rfl ?_
      rw [hcv]
      refine fv_zret C rfl d_V_isSound_28 (fv_b_nar _) (Nat.le_refl _) (Nat.le_refl _) ?_
      exact ⟨rfl, rfl, rfl⟩
def rc_cs (kp : Nat → Bool) : Nat → Nat
  | 0 => 0
  | k + 1 => rc_cs kp k + rc_b (kp k)
theorem rc_cs_le (kp : Nat → Bool) : ∀ k, rc_cs kp k ≤ k
  | 0 => Nat.le_refl _
  | k + 1 => by
    have h1 := rc_cs_le kp k
    have h2 := rc_b_le (kp k)
    unfold rc_cs
    omega
theorem ct_V_countKept (hEn : fe_ends log ends) (hV : VC dA h ar pub aE log R fx) (hI : rc_I log ends R) : fv_T l (fk D dA) Bs WA m_V_countKept [.ref (ar + 3)] sz h 0 0 (fp_r (.int (nI (rc_ck R))) sz h) := by
  have hcl := fe_ends_len hEn
  have j1 := hI.1.1
  have j2 := hI.1.2.1
  have j3 := hI.1.2.2.1
  have j4 := hI.2.2
  have hV0 := hV
  obtain ⟨kp, hO, hkp, hTS, hRD⟩ := hV
  have hck : rc_ck R = rc_cs kp 8 := by
    have h9 := rc_ring kp R.1
    rw [hkp R.1 (by omega) (by omega), hkp (R.1 + 1) (by omega) (by omega), hkp (R.1 + 2) (by omega) (by omega), hkp (R.1 + 3) (by omega) (by omega), hkp (R.1 + 4) (by omega) (by omega), hkp (R.1 + 5) (by omega) (by omega), hkp (R.1 + 6) (by omega) (by omega), hkp (R.1 + 7) (by omega) (by omega)] at h9
    unfold rc_ck
    rw [h9]
    simp only [rc_cs]
    omega
  rw [hck]
  refine fv_of (L := [_, _, _]) (by decide +kernel) rfl (Nat.le_of_ble_eq_true rfl) rfl ?_
  intro X hX C
  subst hX
  have loop : ∀ m k, k + m = 8 → fv_V (fk D dA) Bs X 3 (fv_MQ (fk D dA) Bs X (fp_r (.int (nI (rc_cs kp 8))) sz h) 0 0) 4 [some (.ref (ar + 3)), some (.int (nI (rc_cs kp k))), some (.int (nI k))] [] sz h 0 0 := by
    intro m
    induction m with
    | zero =>
      intro k hk
      have hk : k = 8 := by omega
      subst hk
      refine fv_iload_n C d_V_countKept_4 (n := 5) rfl (i := 2) rfl rfl ?_
      refine fv_bipush C d_V_countKept_5 (n := 7) rfl kB_7 ?_
      refine fv_icmpN_gt C (by omega) (by omega) d_V_countKept_7 (tgt := 33) rfl (n := 10) rfl (fun hc7 => ?_) (fun hc7 => ?_)
      · refine fv_iload_n C d_V_countKept_33 (n := 34) rfl (i := 1) rfl rfl ?_
        refine fv_iret C rfl d_V_countKept_34 (Nat.le_refl _) (Nat.le_refl _) ?_
        exact ⟨rfl, rfl, rfl⟩
      · exact absurd hc7 (by omega)
    | succ m ih =>
      intro k hk
      have hle := rc_cs_le kp k
      refine fv_iload_n C d_V_countKept_4 (n := 5) rfl (i := 2) rfl rfl ?_
      refine fv_bipush C d_V_countKept_5 (n := 7) rfl kB_7 ?_
      refine fv_icmpN_gt C (by omega) (by omega) d_V_countKept_7 (tgt := 33) rfl (n := 10) rfl (fun hc7 => ?_) (fun hc7 => ?_)
      · exact absurd hc7 (by omega)
      · refine fv_iload_n C d_V_countKept_10 (n := 11) rfl (i := 1) rfl rfl ?_
        refine fv_aload_n C d_V_countKept_11 (n := 12) rfl (i := 0) rfl rfl ?_
        refine fv_get C (fl_V_24 D dA) d_V_countKept_12 (n := 15) rfl hO.1 rfl ?_
        refine fv_iload_n C d_V_countKept_15 (n := 16) rfl (i := 2) rfl rfl ?_
        refine fv_zaldN C (t0 := 1) rfl d_V_countKept_16 (n := 17) rfl hO.2.2 (by omega) (by decide) ?_
        refine fv_ifB_eq C d_V_countKept_17 (tgt := 24) rfl (n := 20) rfl (fun hc17 => ?_) (fun hc17 => ?_)
        · have hs : rc_cs kp (k + 1) = rc_cs kp k + 0 := by rw [rc_cs, hc17]; rfl
          refine fv_iconst C d_V_countKept_24 (n := 25) rfl kI_0 ?_
          first | refine fv_iaddN C d_V_countKept_25 (n := 26) rfl ?_ | refine fv_iadd C d_V_countKept_25 (n := 26) rfl ?_
          rw [← hs]
          refine fv_istore_n C d_V_countKept_26 (n := 27) rfl (i := 1) rfl (by decide) (L' := [_, _, _]) rfl ?_
          refine fv_iincN C d_V_countKept_27 (n := 30) rfl rfl (by decide) (L' := [_, _, _]) rfl ?_
          refine fv_goto C d_V_countKept_30 (tgt := 4) rfl ?_
          exact ih (k + 1) (by omega)
        · have hs : rc_cs kp (k + 1) = rc_cs kp k + 1 := by rw [rc_cs, hc17]; rfl
          refine fv_iconst C d_V_countKept_20 (n := 21) rfl kI_1 ?_
          refine fv_goto C d_V_countKept_21 (tgt := 25) rfl ?_
          first | refine fv_iaddN C d_V_countKept_25 (n := 26) rfl ?_ | refine fv_iadd C d_V_countKept_25 (n := 26) rfl ?_
          rw [← hs]
          refine fv_istore_n C d_V_countKept_26 (n := 27) rfl (i := 1) rfl (by decide) (L' := [_, _, _]) rfl ?_
          refine fv_iincN C d_V_countKept_27 (n := 30) rfl rfl (by decide) (L' := [_, _, _]) rfl ?_
          refine fv_goto C d_V_countKept_30 (tgt := 4) rfl ?_
          exact ih (k + 1) (by omega)
  refine fv_iconst C d_V_countKept_0 (n := 1) rfl kI_0 ?_
  refine fv_istore_n C d_V_countKept_1 (n := 2) rfl (i := 1) rfl (by decide) (L' := [_, _, _]) rfl ?_
  refine fv_iconst C d_V_countKept_2 (n := 3) rfl kI_0 ?_
  refine fv_istore_n C d_V_countKept_3 (n := 4) rfl (i := 2) rfl (by decide) (L' := [_, _, _]) rfl ?_
  exact loop 8 0 (by omega)
def rc_hs (f : Nat → List Nat) : Nat → Nat
  | 0 => 0
  | k + 1 => rc_hs f k + (f k).length
theorem ct_V_countHeld (hEn : fe_ends log ends) (hV : VC dA h ar pub aE log R fx) (hI : rc_I log ends R) : fv_T l (fk D dA) Bs WA m_V_countHeld [.ref (ar + 3)] sz h 0 0 (fp_r (.int (nI (rc_ch R))) sz h) := by
  have hcl := fe_ends_len hEn
  have j1 := hI.1.1
  have j2 := hI.1.2.1
  have j3 := hI.1.2.2.1
  have j4 := hI.2.2
  have hV0 := hV
  obtain ⟨kp, hO, hkp, hTS, hRD⟩ := hV
  have hck : rc_ch R = rc_hs (rc_hl R) 4 := by
    unfold rc_ch
    simp only [rc_hs]
    omega
  rw [hck]
  refine fv_of (L := [_, _, _]) (by decide +kernel) rfl (Nat.le_of_ble_eq_true rfl) rfl ?_
  intro X hX C
  subst hX
  have loop : ∀ m k, k + m = 4 → fv_V (fk D dA) Bs X 3 (fv_MQ (fk D dA) Bs X (fp_r (.int (nI (rc_hs (rc_hl R) 4))) sz h) 0 0) 4 [some (.ref (ar + 3)), some (.int (nI (rc_hs (rc_hl R) k))), some (.int (nI k))] [] sz h 0 0 := by
    intro m
    induction m with
    | zero =>
      intro k hk
      have hk : k = 4 := by omega
      subst hk
      refine fv_iload_n C d_V_countHeld_4 (n := 5) rfl (i := 2) rfl rfl ?_
      refine fv_iconst C d_V_countHeld_5 (n := 6) rfl kI_4 ?_
      refine fv_icmpN_ge C (by omega) (by omega) d_V_countHeld_6 (tgt := 27) rfl (n := 9) rfl (fun hc6 => ?_) (fun hc6 => ?_)
      · refine fv_iload_n C d_V_countHeld_27 (n := 28) rfl (i := 1) rfl rfl ?_
        refine fv_iret C rfl d_V_countHeld_28 (Nat.le_refl _) (Nat.le_refl _) ?_
        exact ⟨rfl, rfl, rfl⟩
      · exact absurd hc6 (by omega)
    | succ m ih =>
      intro k hk
      obtain ⟨hs, sv, hTK, hsv, hBL, hpm⟩ := hTS k (by omega)
      obtain ⟨hd, hTO, hhd, h30, hlog⟩ := hTK
      have hlen : hs.length = (rc_hl R k).length := by rw [← hpm.length_eq, List.length_map]
      refine fv_iload_n C d_V_countHeld_4 (n := 5) rfl (i := 2) rfl rfl ?_
      refine fv_iconst C d_V_countHeld_5 (n := 6) rfl kI_4 ?_
      refine fv_icmpN_ge C (by omega) (by omega) d_V_countHeld_6 (tgt := 27) rfl (n := 9) rfl (fun hc6 => ?_) (fun hc6 => ?_)
      · exact absurd hc6 (by omega)
      · refine fv_iload_n C d_V_countHeld_9 (n := 10) rfl (i := 1) rfl rfl ?_
        refine fv_aload_n C d_V_countHeld_10 (n := 11) rfl (i := 0) rfl rfl ?_
        refine fv_get C (fl_V_11 D dA) d_V_countHeld_11 (n := 14) rfl hO.1 rfl ?_
        refine fv_iload_n C d_V_countHeld_14 (n := 15) rfl (i := 2) rfl rfl ?_
        refine fv_aaldN C (t0 := 7) rfl d_V_countHeld_15 (n := 16) rfl hO.2.1 (by omega) (by decide) (show va_rf (if k < 4 then some (ar + 3 + 3 + 7 * k) else none) = .ref (ar + 6 + 7 * k) by rw [if_pos (by omega)]; rfl) ?_
        refine fv_get C (fl_V_87 D dA) d_V_countHeld_16 (n := 19) rfl hTO.1 rfl ?_
        first | refine fv_iaddN C d_V_countHeld_19 (n := 20) rfl ?_ | refine fv_iadd C d_V_countHeld_19 (n := 20) rfl ?_
        rw [hlen, show rc_hs (rc_hl R) k + (rc_hl R k).length = rc_hs (rc_hl R) (k + 1) from rfl]
        refine fv_istore_n C d_V_countHeld_20 (n := 21) rfl (i := 1) rfl (by decide) (L' := [_, _, _]) rfl ?_
        refine fv_iincN C d_V_countHeld_21 (n := 24) rfl rfl (by decide) (L' := [_, _, _]) rfl ?_
        refine fv_goto C d_V_countHeld_24 (tgt := 4) rfl ?_
        exact ih (k + 1) (by omega)
  refine fv_iconst C d_V_countHeld_0 (n := 1) rfl kI_0 ?_
  refine fv_istore_n C d_V_countHeld_1 (n := 2) rfl (i := 1) rfl (by decide) (L' := [_, _, _]) rfl ?_
  refine fv_iconst C d_V_countHeld_2 (n := 3) rfl kI_0 ?_
  refine fv_istore_n C d_V_countHeld_3 (n := 4) rfl (i := 2) rfl (by decide) (L' := [_, _, _]) rfl ?_
  exact loop 4 0 (by omega)
end VC2
