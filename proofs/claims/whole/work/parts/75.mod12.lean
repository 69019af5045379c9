/-! FeedDeskModel: serveReplay -/
theorem rc_pt_stable (log : List bo_E) (ends : List Nat) (a d : Nat) : ∀ (K : Nat) (R : rc_T), ends.length + 1 ≤ R.1 + K → rc_pt log ends a (K + d) R = rc_pt log ends a K R
  | 0, R, h => by
    rw [Nat.zero_add]
    cases d with
    | zero => rfl
    | succ d => exact if_neg (fun q => by omega)
  | K + 1, R, h => by
    rw [show K + 1 + d = (K + d) + 1 by omega]
    unfold rc_pt
    by_cases c : R.1 ≤ ends.length ∧ (R.1 ≤ a ∨ rc_kp R R.1 = true)
    · rw [if_pos c, if_pos c]
      exact rc_pt_stable log ends a d K _ (by rw [rc_pass_nx]; omega)
    · rw [if_neg c, if_neg c]
theorem rc_pt_comp (log : List bo_E) (ends : List Nat) {p a K : Nat} (hpa : p ≤ a) : ∀ (K0 : Nat) (R : rc_T), ends.length + 1 ≤ (rc_pt log ends p K0 R).1 + K → rc_pt log ends a (K0 + K) R = rc_pt log ends a K (rc_pt log ends p K0 R)
  | 0, R, _ => by rw [Nat.zero_add]; rfl
  | K0 + 1, R, h => by
    have e : rc_pt log ends p (K0 + 1) R = if R.1 ≤ ends.length ∧ (R.1 ≤ p ∨ rc_kp R R.1 = true) then rc_pt log ends p K0 (rc_pass log ends R) else R := rfl
    by_cases c : R.1 ≤ ends.length ∧ (R.1 ≤ p ∨ rc_kp R R.1 = true)
    · rw [if_pos c] at e
      rw [e] at h
      rw [e, show K0 + 1 + K = (K0 + K) + 1 by omega]
      rw [show rc_pt log ends a (K0 + K + 1) R = rc_pt log ends a (K0 + K) (rc_pass log ends R) from if_pos ⟨c.1, c.2.imp (fun q => Nat.le_trans q hpa) id⟩]
      exact rc_pt_comp log ends hpa K0 _ h
    · rw [if_neg c] at e
      rw [e] at h
      rw [e, Nat.add_comm]
      exact rc_pt_stable log ends a (K0 + 1) K R h
theorem rc_pt_ge (log : List bo_E) (ends : List Nat) (a : Nat) : ∀ (K : Nat) (R : rc_T), R.1 ≤ (rc_pt log ends a K R).1
  | 0, R => Nat.le_refl _
  | K + 1, R => by
    unfold rc_pt
    split
    · have := rc_pt_ge log ends a K (rc_pass log ends R)
      rw [rc_pass_nx] at this
      omega
    · exact Nat.le_refl _
def rc_RK (R : rc_T) (p : Nat) : rc_T := (R.1, R.2.1, 0, (fun t => if R.1 ≤ t ∧ t < p then false else rc_kp R t), R.2.2.2.2)
def rc_RN (R : rc_T) (a j : Nat) : rc_T := (a + 1, R.2.1, 0, (fun t => if t ≤ a then false else rc_kp R t), rc_ap R, rc_hl R, rc_rw R, fun i => if i < j then a else rc_nd R i)
section MD12
variable {l : Launch} {D : va_G} {dA : Nat → ClassId} {Bs sz : Nat} {h : fv_H} {m0 : Nat} {S : sp_T}
theorem ct_M_serveReplay {r : Int32} (hBs : Bs ≤ m0) (hM0 : RM dA h m0 S) (hI : sp_I S) : fv_T l (fk D dA) Bs WA m_M_serveReplay [.ref m0, .int r] sz h 0 0 (fp_i sz (fun r0 h' => r0 = sp_svA S r ∧ RM dA h' m0 (sp_svS S r) ∧ fs h h' (MS m0))) := by
  obtain ⟨F, bl, bh, hM, hR⟩ := id hM0
  have hF : fs h h (MS m0) := fs_rf _ _
  have hl4 := hI.2.1.1
  have hel := fe_ends_len hI.2.2.1
  have hmo := fe_ends_mono hI.2.2.1
  refine fv_of (L := [_, _, _, _, _]) (by decide +kernel) rfl (Nat.le_of_ble_eq_true rfl) rfl ?_
  intro X hX C
  subst hX
  refine fv_iload_n C d_M_serveReplay_0 (n := 1) rfl (i := 1) rfl rfl ?_
  refine fv_callS_r C (ml_M_192 D dA) sm_M_isReceiver ct_M_isReceiver d_M_serveReplay_1 (n := 4) rfl rfl rfl rfl (Nat.le_of_ble_eq_true rfl) (Nat.le_of_ble_eq_true rfl) (Nat.le_of_ble_eq_true rfl) (Nat.le_refl _) (Nat.le_refl _) ?_
  refine fv_ifB_ne C d_M_serveReplay_4 (tgt := 10) rfl (n := 7) rfl (fun hc4 => ?_) (fun hc4 => ?_)
  · have hgood := hc4
    obtain ⟨k, -, hk, rfl⟩ := iv_of (by decide) (by decide) hc4
    have hcl : (nI k).toNatClampNeg = k := nI_clamp (by omega)
    have hRI := hI.2.2.2.1 k (by omega)
    have hA9 : sp_svA S (nI k) = nI (rc_sa S.2.1 (sp_R S k)) := by unfold sp_svA; rw [if_pos hgood, hcl]
    have hS9 : sp_svS S (nI k) = sp_setR S k (rc_serve S.1 S.2.1 (sp_R S k)) := by unfold sp_svS; rw [if_pos hgood, hcl]
    rw [hA9, hS9]
    have hM2 := hM0.at k
    clear hM hR
    generalize sp_R S k = R at *
    obtain ⟨hJ, hkp, hak⟩ := hRI
    have hj0 := hJ.1
    have hj1 := hJ.2.1
    have hj2 := hJ.2.2.1
    obtain ⟨F, bl, bh, hM, hR⟩ := id hM2
    have hM : MC dA h m0 S.1.length S.2.1.length bl bh (sp_sh S).length F := hM
    have hRV := hR.rv (show k < 2 by omega)
    obtain ⟨q, hq1, hq2⟩ := hRV.2.2.2.2.1
    have hq3 : q ≤ 401 := by omega
    have hqa : R.1 ≤ q → R.2.2.1 = q := fun z => by omega
    refine fv_aload_n C d_M_serveReplay_10 (n := 11) rfl (i := 0) rfl rfl ?_
    refine fv_get C (fl_M_77 D dA) d_M_serveReplay_11 (n := 14) rfl hM.1 rfl ?_
    refine fv_iload_n C d_M_serveReplay_14 (n := 15) rfl (i := 1) rfl rfl ?_
    refine fv_ialdN C (t0 := 0) rfl d_M_serveReplay_15 (n := 16) rfl (mc_23 hM) (by omega) (by decide) ?_
    rw [hq1]
    refine fv_istore_n C d_M_serveReplay_16 (n := 17) rfl (i := 2) rfl (by decide) (L' := [_, _, _, _, _]) rfl ?_
    refine fv_aload_n C d_M_serveReplay_17 (n := 18) rfl (i := 0) rfl rfl ?_
    refine fv_get C (fl_M_68 D dA) d_M_serveReplay_18 (n := 21) rfl hM.1 rfl ?_
    refine fv_iload_n C d_M_serveReplay_21 (n := 22) rfl (i := 1) rfl rfl ?_
    refine fv_ialdN C (t0 := 0) rfl d_M_serveReplay_22 (n := 23) rfl (mc_20 hM) (by omega) (by decide) ?_
    rw [hRV.2.1]
    refine fv_istore_n C d_M_serveReplay_23 (n := 24) rfl (i := 3) rfl (by decide) (L' := [_, _, _, _, _]) rfl ?_
    refine fv_aload_n C d_M_serveReplay_24 (n := 25) rfl (i := 0) rfl rfl ?_
    refine fv_get C (fl_M_77 D dA) d_M_serveReplay_25 (n := 28) rfl hM.1 rfl ?_
    refine fv_iload_n C d_M_serveReplay_28 (n := 29) rfl (i := 1) rfl rfl ?_
    refine fv_iconst C d_M_serveReplay_29 (n := 30) rfl kI_0 ?_
    refine mc_ia C 23 (by decide) (by decide) rfl d_M_serveReplay_30 (n := 31) rfl hM hBs (by decide) (show _ < 2 by omega) (fun h1 F1 hM g1 g2 f1 => ?_)
    have hF := hF.tr f1 (U := MS m0) (fun x hx => hx) (fun x hx => hx)
    have hM3 : RM dA h1 m0 (sp_setR S k (rc_ak R 0)) := ⟨F1, bl, bh, hM, mr_rcv (by omega) hI hR (fun y hy => g2 y (by omega)) (OT.one g1 g2 (fun e => by omega) (fun e => by omega) (fun e => by omega) (fun e => by omega)) (fun hv => rv_ak hv g1 g2 (Or.inl rfl))⟩
    refine fv_iload_n C d_M_serveReplay_31 (n := 32) rfl (i := 2) rfl rfl ?_
    refine fv_iload_n C d_M_serveReplay_32 (n := 33) rfl (i := 3) rfl rfl ?_
    refine fv_icmpN_ge C (by omega) (by omega) d_M_serveReplay_33 (tgt := 38) rfl (n := 36) rfl (fun hc33 => ?_) (fun hc33 => ?_)
    · have hqe := hqa (by omega)
      have hqq : q = R.2.2.1 := hqe.symm
      have hns : ¬ R.2.2.1 < R.1 := by omega
      have mo1 := hmo (R.1 - 1) (by omega)
      have mo2 := hmo _ (Nat.le_refl _)
      subst hqq
      have loopA : fe_rep S.2.1 R.1 = true → ∀ z p (R1 : rc_T) (h2 : fv_H), p + z = R.2.2.1 + 1 → 1 ≤ p → p ≤ R1.1 → rc_J S.1 S.2.1 R1 → R1.2.1 = R.2.1 → (∀ K, S.2.1.length + 1 ≤ R1.1 + K → rc_pt S.1 S.2.1 R.2.2.1 K R1 = rc_serve S.1 S.2.1 R) → (p ≤ R.2.2.1 ∧ R1.1 = p ∨ ¬ (R1.1 ≤ S.2.1.length ∧ rc_kp R1 R1.1 = true)) → RM dA h2 m0 (sp_setR S k R1) → fs h h2 (MS m0) → fv_V (fk D dA) Bs X 5 (fv_MQ (fk D dA) Bs X (fp_i sz (fun r0 h' => r0 = nI (rc_sa S.2.1 R) ∧ RM dA h' m0 (sp_setR S k (rc_serve S.1 S.2.1 R)) ∧ fs h h' (MS m0))) 0 0) 64 [some (.ref m0), some (.int (nI k)), some (.int (nI R.2.2.1)), some (.int (nI R.1)), some (.int (nI p))] [] sz h2 0 0 := by
        intro hrep z
        induction z with
        | zero =>
          intro p R1 h2 hz hp1 hp hJ1 hhg hC hD hM3 hF
          have hfin : R1 = rc_serve S.1 S.2.1 R := by
            have h9 := hC (S.2.1.length + 1) (by omega)
            rw [← h9]
            have hD2 := hD.resolve_left (by omega)
            exact (if_neg (fun e => by rcases e.2 with e2 | e2; omega; exact hD2 ⟨e.1, e2⟩)).symm
          obtain ⟨F, bl, bh, hM, hR⟩ := id hM3
          have hM : MC dA h2 m0 S.1.length S.2.1.length bl bh (sp_sh S).length F := hM
          have hRV := hR.rv (show k < 2 by omega)
          refine fv_iload C d_M_serveReplay_64 (n := 66) rfl rfl ?_
          refine fv_iload_n C d_M_serveReplay_66 (n := 67) rfl (i := 2) rfl rfl ?_
          refine fv_icmpN_gt C (by omega) (by omega) d_M_serveReplay_67 (tgt := 84) rfl (n := 70) rfl (fun hc67 => ?_) (fun hc67 => ?_)
          · refine fv_iconst C d_M_serveReplay_84 (n := 85) rfl kI_1 ?_
            refine fv_iret C rfl d_M_serveReplay_85 (Nat.le_refl _) (Nat.le_refl _) ?_
            exact ⟨_, rfl, rfl, by unfold rc_sa; rw [if_neg hns, if_pos hrep], by rw [← hfin]; exact hM3, hF⟩
          · exact absurd hc67 (by omega)
        | succ z ih =>
          intro p R1 h2 hz hp1 hp hJ1 hhg hC hD hM3 hF
          obtain ⟨F, bl, bh, hM, hR⟩ := id hM3
          have hM : MC dA h2 m0 S.1.length S.2.1.length bl bh (sp_sh S).length F := hM
          have hRV := hR.rv (show k < 2 by omega)
          refine fv_iload C d_M_serveReplay_64 (n := 66) rfl rfl ?_
          refine fv_iload_n C d_M_serveReplay_66 (n := 67) rfl (i := 2) rfl rfl ?_
          refine fv_icmpN_gt C (by omega) (by omega) d_M_serveReplay_67 (tgt := 84) rfl (n := 70) rfl (fun hc67 => ?_) (fun hc67 => ?_)
          · exact absurd hc67 (by omega)
          · refine fv_aload_n C d_M_serveReplay_70 (n := 71) rfl (i := 0) rfl rfl ?_
            refine fv_iload_n C d_M_serveReplay_71 (n := 72) rfl (i := 1) rfl rfl ?_
            refine fv_iload C d_M_serveReplay_72 (n := 74) rfl rfl ?_
            refine fv_callV_i C (ml_M_195 D dA) im_M_hear se_M_hear hM.1 rfl (ct_M_hear hBs (by omega) hM3 hI hJ1 hp1 (by omega)) d_M_serveReplay_74 (n := 77) rfl rfl rfl rfl (Nat.le_of_ble_eq_true rfl) (Nat.le_of_ble_eq_true rfl) (Nat.le_of_ble_eq_true rfl) (Nat.le_refl _) (Nat.le_refl _) (fun r0 h3 hp2 => ?_)
            obtain ⟨-, hM4, f1⟩ := hp2
            have hF := hF.tr f1 (U := MS m0) (fun x hx => hx) (fun x hx => hx)
            refine fv_pop C d_M_serveReplay_77 (n := 78) rfl rfl ?_
            refine fv_iincN C d_M_serveReplay_78 (n := 81) rfl rfl (by decide) (L' := [_, _, _, _, _]) rfl ?_
            refine fv_goto C d_M_serveReplay_81 (tgt := 64) rfl ?_
            have hhg2 : rc_hg R1 p = R1 := by unfold rc_hg; rw [if_neg (by omega)]
            by_cases c : p < R1.1
            · have e9 : rc_hear S.1 S.2.1 p R1 = R1 := by unfold rc_hear; rw [if_pos c, hhg2]
              rw [e9] at hM4
              exact ih (p + 1) R1 _ (by omega) (by omega) (by omega) hJ1 hhg hC (Or.inr (hD.resolve_left (by omega))) hM4 hF
            · have e9 : rc_hear S.1 S.2.1 p R1 = rc_pt S.1 S.2.1 p (S.2.1.length + 1 - R1.1) R1 := by unfold rc_hear; rw [if_neg c, if_neg (by omega), if_neg (by omega), hhg2]
              rw [e9] at hM4
              have hpe : p = R1.1 := by omega
              have hge : R1.1 + 1 ≤ (rc_pt S.1 S.2.1 p (S.2.1.length + 1 - R1.1) R1).1 := by
                rw [show S.2.1.length + 1 - R1.1 = (S.2.1.length - R1.1) + 1 by omega, show rc_pt S.1 S.2.1 p (S.2.1.length - R1.1 + 1) R1 = rc_pt S.1 S.2.1 p (S.2.1.length - R1.1) (rc_pass S.1 S.2.1 R1) from if_pos ⟨by omega, Or.inl (by omega)⟩]
                have := rc_pt_ge S.1 S.2.1 p (S.2.1.length - R1.1) (rc_pass S.1 S.2.1 R1)
                rw [rc_pass_nx] at this
                exact this
              have hend := rc_pt_end (last := p) hI.1 (S.2.1.length + 1 - R1.1) R1 hJ1 (by omega)
              refine ih (p + 1) _ _ (by omega) (by omega) (by omega) (rc_pt_J hI.1 _ _ hJ1) ((rc_pt_hg _ _).1.trans hhg) (fun K hK => ?_) (Or.inr (fun e => hend ⟨e.1, Or.inr e.2⟩)) hM4 hF
              rw [← rc_pt_comp S.1 S.2.1 (show p ≤ R.2.2.1 by omega) _ _ hK]
              exact hC _ (by omega)
      have loopC : fe_rep S.2.1 R.1 = false → ∀ z j (h2 : fv_H), j + z = 4 → RM dA h2 m0 (sp_setR S k (rc_RN R R.2.2.1 j)) → fs h h2 (MS m0) → fv_V (fk D dA) Bs X 5 (fv_MQ (fk D dA) Bs X (fp_i sz (fun r0 h' => r0 = nI (rc_sa S.2.1 R) ∧ RM dA h' m0 (sp_setR S k (rc_serve S.1 S.2.1 R)) ∧ fs h h' (MS m0))) 0 0) 127 [some (.ref m0), some (.int (nI k)), some (.int (nI R.2.2.1)), some (.int (nI R.1)), some (.int (nI j))] [] sz h2 0 0 := by
        intro hrep z
        induction z with
        | zero =>
          intro j h2 hz hM3 hF
          have hj4 : j = 4 := by omega
          subst hj4
          have hgu : rc_RN R R.2.2.1 4 = rc_gu (rc_ak R 0) R.2.2.1 := rfl
          rw [hgu] at hM3
          have hJg : rc_J S.1 S.2.1 (rc_gu (rc_ak R 0) R.2.2.1) := rc_gu_J (R := rc_ak R 0) hJ (show R.1 ≤ R.2.2.1 by omega) (show R.2.2.1 ≤ R.2.1 by omega)
          obtain ⟨F, bl, bh, hM, hR⟩ := id hM3
          have hM : MC dA h2 m0 S.1.length S.2.1.length bl bh (sp_sh S).length F := hM
          have hRV := hR.rv (show k < 2 by omega)
          refine fv_iload C d_M_serveReplay_127 (n := 129) rfl rfl ?_
          refine fv_iconst C d_M_serveReplay_129 (n := 130) rfl kI_4 ?_
          refine fv_icmpN_ge C (by omega) (by omega) d_M_serveReplay_130 (tgt := 166) rfl (n := 133) rfl (fun hc130 => ?_) (fun hc130 => ?_)
          · refine fv_aload_n C d_M_serveReplay_166 (n := 167) rfl (i := 0) rfl rfl ?_
            refine fv_iload_n C d_M_serveReplay_167 (n := 168) rfl (i := 1) rfl rfl ?_
            refine fv_callV_v C (ml_M_189 D dA) im_M_goOn se_M_goOn hM.1 rfl (ct_M_goOn (k0 := S.2.1.length + 1 - (R.2.2.1 + 1)) hBs (by omega) hM3 hI hJg (by show _ ≤ R.2.2.1 + 1 + _; omega)) d_M_serveReplay_168 (n := 171) rfl rfl rfl rfl (Nat.le_of_ble_eq_true rfl) (Nat.le_of_ble_eq_true rfl) (Nat.le_of_ble_eq_true rfl) (Nat.le_refl _) (Nat.le_refl _) (fun h3 hp2 => ?_)
            obtain ⟨hM4, f1⟩ := hp2
            have hF := hF.tr f1 (U := MS m0) (fun x hx => hx) (fun x hx => hx)
            refine fv_iconst C d_M_serveReplay_171 (n := 172) rfl kI_2 ?_
            refine fv_iret C rfl d_M_serveReplay_172 (Nat.le_refl _) (Nat.le_refl _) ?_
            refine ⟨_, rfl, rfl, by unfold rc_sa; rw [if_neg hns, if_neg (by rw [hrep]; decide)], ?_, hF⟩
            unfold rc_serve
            rw [if_neg hns, if_neg (by rw [hrep]; decide), rc_pt_last _ _ R.2.2.1 _ _ (show R.2.2.1 < R.2.2.1 + 1 by omega)]
            exact hM4
          · exact absurd hc130 (by omega)
        | succ z ih =>
          intro j h2 hz hM3 hF
          obtain ⟨F, bl, bh, hM, hR⟩ := id hM3
          have hM : MC dA h2 m0 S.1.length S.2.1.length bl bh (sp_sh S).length F := hM
          have hRV := hR.rv (show k < 2 by omega)
          have hndj := hJ.2.2.2.2.2 j (by omega)
          have v2 : F 17 (4 * k + j) = nI (rc_nd R j) := by rw [(hRV.1 j (by omega)).2.1]; exact congrArg nI (if_neg (by omega))
          refine fv_iload C d_M_serveReplay_127 (n := 129) rfl rfl ?_
          refine fv_iconst C d_M_serveReplay_129 (n := 130) rfl kI_4 ?_
          refine fv_icmpN_ge C (by omega) (by omega) d_M_serveReplay_130 (tgt := 166) rfl (n := 133) rfl (fun hc130 => ?_) (fun hc130 => ?_)
          · exact absurd hc130 (by omega)
          · refine fv_aload_n C d_M_serveReplay_133 (n := 134) rfl (i := 0) rfl rfl ?_
            refine fv_get C (fl_M_58 D dA) d_M_serveReplay_134 (n := 137) rfl hM.1 rfl ?_
            refine fv_iconst C d_M_serveReplay_137 (n := 138) rfl kI_4 ?_
            refine fv_iload_n C d_M_serveReplay_138 (n := 139) rfl (i := 1) rfl rfl ?_
            first | refine fv_imulN C d_M_serveReplay_139 (n := 140) rfl ?_ | refine fv_imul C d_M_serveReplay_139 (n := 140) rfl ?_
            refine fv_iload C d_M_serveReplay_140 (n := 142) rfl rfl ?_
            first | refine fv_iaddN C d_M_serveReplay_142 (n := 143) rfl ?_ | refine fv_iadd C d_M_serveReplay_142 (n := 143) rfl ?_
            refine fv_ialdN C (t0 := 0) rfl d_M_serveReplay_143 (n := 144) rfl (mc_17 hM) (by omega) (by decide) ?_
            rw [v2]
            refine fv_iload_n C d_M_serveReplay_144 (n := 145) rfl (i := 2) rfl rfl ?_
            refine fv_icmpN_ge C (by omega) (by omega) d_M_serveReplay_145 (tgt := 160) rfl (n := 148) rfl (fun hc145 => ?_) (fun hc145 => ?_)
            · exact absurd hc145 (by omega)
            · refine fv_aload_n C d_M_serveReplay_148 (n := 149) rfl (i := 0) rfl rfl ?_
              refine fv_get C (fl_M_58 D dA) d_M_serveReplay_149 (n := 152) rfl hM.1 rfl ?_
              refine fv_iconst C d_M_serveReplay_152 (n := 153) rfl kI_4 ?_
              refine fv_iload_n C d_M_serveReplay_153 (n := 154) rfl (i := 1) rfl rfl ?_
              first | refine fv_imulN C d_M_serveReplay_154 (n := 155) rfl ?_ | refine fv_imul C d_M_serveReplay_154 (n := 155) rfl ?_
              refine fv_iload C d_M_serveReplay_155 (n := 157) rfl rfl ?_
              first | refine fv_iaddN C d_M_serveReplay_157 (n := 158) rfl ?_ | refine fv_iadd C d_M_serveReplay_157 (n := 158) rfl ?_
              refine fv_iload_n C d_M_serveReplay_158 (n := 159) rfl (i := 2) rfl rfl ?_
              refine mc_ia C 17 (by decide) (by decide) rfl d_M_serveReplay_159 (n := 160) rfl hM hBs (by decide) (show _ < 8 by omega) (fun h1 F1 hM g1 g2 f1 => ?_)
              have hF := hF.tr f1 (U := MS m0) (fun x hx => hx) (fun x hx => hx)
              refine fv_iincN C d_M_serveReplay_160 (n := 163) rfl rfl (by decide) (L' := [_, _, _, _, _]) rfl ?_
              refine fv_goto C d_M_serveReplay_163 (tgt := 127) rfl ?_
              refine ih (j + 1) _ (by omega) ⟨F1, bl, bh, hM, ?_⟩ hF
              have e9 : rc_RN R R.2.2.1 (j + 1) = (R.2.2.1 + 1, R.2.1, 0, (fun t => if t ≤ R.2.2.1 then false else rc_kp R t), rc_ap R, rc_hl R, rc_rw R, va_up (fun i => if i < j then R.2.2.1 else rc_nd R i) j R.2.2.1) := by
                unfold rc_RN
                congr
                funext i
                unfold va_up
                by_cases c : i = j
                · rw [if_pos c, if_pos (by omega)]
                · rw [if_neg c]
                  dsimp only
                  by_cases c2 : i < j
                  · rw [if_pos c2, if_pos (by omega)]
                  · rw [if_neg c2, if_neg (by omega)]
              rw [e9]
              exact mr_rcv (by omega) hI hR (fun y hy => g2 y (by omega)) (OT.one g1 g2 (fun e => by omega) (fun e => by omega) (fun e => by omega) (fun e => by omega)) (fun hv => rv_nd (R := rc_RN R R.2.2.1 j) (by omega) hv g1 g2)
      have loopB : fe_rep S.2.1 R.1 = false → ∀ z p (h2 : fv_H), p + z = R.2.2.1 + 1 → R.1 ≤ p → RM dA h2 m0 (sp_setR S k (rc_RK R p)) → fs h h2 (MS m0) → fv_V (fk D dA) Bs X 5 (fv_MQ (fk D dA) Bs X (fp_i sz (fun r0 h' => r0 = nI (rc_sa S.2.1 R) ∧ RM dA h' m0 (sp_setR S k (rc_serve S.1 S.2.1 R)) ∧ fs h h' (MS m0))) 0 0) 89 [some (.ref m0), some (.int (nI k)), some (.int (nI R.2.2.1)), some (.int (nI R.1)), some (.int (nI p))] [] sz h2 0 0 := by
        intro hrep z
        induction z with
        | zero =>
          intro p h2 hz hp hM3 hF
          obtain ⟨F, bl, bh, hM, hR⟩ := id hM3
          have hM : MC dA h2 m0 S.1.length S.2.1.length bl bh (sp_sh S).length F := hM
          have hRV := hR.rv (show k < 2 by omega)
          refine fv_iload C d_M_serveReplay_89 (n := 91) rfl rfl ?_
          refine fv_iload_n C d_M_serveReplay_91 (n := 92) rfl (i := 2) rfl rfl ?_
          refine fv_icmpN_gt C (by omega) (by omega) d_M_serveReplay_92 (tgt := 115) rfl (n := 95) rfl (fun hc92 => ?_) (fun hc92 => ?_)
          · refine fv_aload_n C d_M_serveReplay_115 (n := 116) rfl (i := 0) rfl rfl ?_
            refine fv_get C (fl_M_68 D dA) d_M_serveReplay_116 (n := 119) rfl hM.1 rfl ?_
            refine fv_iload_n C d_M_serveReplay_119 (n := 120) rfl (i := 1) rfl rfl ?_
            refine fv_iload_n C d_M_serveReplay_120 (n := 121) rfl (i := 2) rfl rfl ?_
            refine fv_iconst C d_M_serveReplay_121 (n := 122) rfl kI_1 ?_
            first | refine fv_iaddN C d_M_serveReplay_122 (n := 123) rfl ?_ | refine fv_iadd C d_M_serveReplay_122 (n := 123) rfl ?_
            refine mc_ia C 20 (by decide) (by decide) rfl d_M_serveReplay_123 (n := 124) rfl hM hBs (by decide) (show _ < 2 by omega) (fun h1 F1 hM g1 g2 f1 => ?_)
            have hF := hF.tr f1 (U := MS m0) (fun x hx => hx) (fun x hx => hx)
            refine fv_iconst C d_M_serveReplay_124 (n := 125) rfl kI_0 ?_
            refine fv_istore C d_M_serveReplay_125 (n := 127) rfl (by decide) (L' := [_, _, _, _, _]) rfl ?_
            refine loopC hrep 4 0 _ (by omega) ⟨F1, bl, bh, hM, ?_⟩ hF
            have e9 : rc_RN R R.2.2.1 0 = (R.2.2.1 + 1, (rc_RK R p).2) := by
              unfold rc_RN rc_RK
              have ek : (fun t => if t ≤ R.2.2.1 then false else rc_kp R t) = (fun t => if R.1 ≤ t ∧ t < p then false else rc_kp R t) := by
                funext t
                by_cases c : t ≤ R.2.2.1
                · rw [if_pos c]
                  by_cases c2 : R.1 ≤ t ∧ t < p
                  · rw [if_pos c2]
                  · rw [if_neg c2]
                    cases c3 : rc_kp R t with
                    | false => rfl
                    | true => have := (hJ.2.2.2.1 t c3).1; omega
                · rw [if_neg c, if_neg (by omega)]
              have en : (fun i => if i < 0 then R.2.2.1 else rc_nd R i) = rc_nd R := funext fun i => if_neg (Nat.not_lt_zero i)
              rw [ek, en]
            rw [e9]
            refine mr_rcv (by omega) hI hR (fun y hy => g2 y (by omega)) (OT.one g1 g2 (fun e => by omega) (fun e => by omega) (fun e => by omega) (fun e => by omega)) (fun hv => rv_nx hv g1 g2 ?_)
            obtain ⟨q9, q91, q92⟩ := hv.2.2.2.2.1
            have q92 : q9 = 0 ∨ (q9 < R.1 ∧ 0 < R.1) := q92
            exact ⟨q9, q91, by rcases q92 with q92 | q92; exact Or.inl q92; exact Or.inr ⟨by omega, show 0 < R.2.2.1 + 1 by omega⟩⟩
          · exact absurd hc92 (by omega)
        | succ z ih =>
          intro p h2 hz hp hM3 hF
          obtain ⟨F, bl, bh, hM, hR⟩ := id hM3
          have hM : MC dA h2 m0 S.1.length S.2.1.length bl bh (sp_sh S).length F := hM
          have hRV := hR.rv (show k < 2 by omega)
          refine fv_iload C d_M_serveReplay_89 (n := 91) rfl rfl ?_
          refine fv_iload_n C d_M_serveReplay_91 (n := 92) rfl (i := 2) rfl rfl ?_
          refine fv_icmpN_gt C (by omega) (by omega) d_M_serveReplay_92 (tgt := 115) rfl (n := 95) rfl (fun hc92 => ?_) (fun hc92 => ?_)
          · exact absurd hc92 (by omega)
          · refine fv_aload_n C d_M_serveReplay_95 (n := 96) rfl (i := 0) rfl rfl ?_
            refine fv_get C (fl_M_74 D dA) d_M_serveReplay_96 (n := 99) rfl hM.1 rfl ?_
            refine fv_sipush C d_M_serveReplay_99 (n := 102) rfl kS_402 ?_
            refine fv_iload_n C d_M_serveReplay_102 (n := 103) rfl (i := 1) rfl rfl ?_
            first | refine fv_imulN C d_M_serveReplay_103 (n := 104) rfl ?_ | refine fv_imul C d_M_serveReplay_103 (n := 104) rfl ?_
            refine fv_iload C d_M_serveReplay_104 (n := 106) rfl rfl ?_
            first | refine fv_iaddN C d_M_serveReplay_106 (n := 107) rfl ?_ | refine fv_iadd C d_M_serveReplay_106 (n := 107) rfl ?_
            refine fv_iconst C d_M_serveReplay_107 (n := 108) rfl kI_0 ?_
            refine mc_za C 22 false rfl (by decide) (by decide) rfl d_M_serveReplay_108 (n := 109) rfl hM hBs (by decide) (show _ < 804 by omega) (fun h1 F1 hM g1 g2 f1 => ?_)
            have hF := hF.tr f1 (U := MS m0) (fun x hx => hx) (fun x hx => hx)
            refine fv_iincN C d_M_serveReplay_109 (n := 112) rfl rfl (by decide) (L' := [_, _, _, _, _]) rfl ?_
            refine fv_goto C d_M_serveReplay_112 (tgt := 89) rfl ?_
            refine ih (p + 1) _ (by omega) (by omega) ⟨F1, bl, bh, hM, ?_⟩ hF
            have e9 : rc_RK R (p + 1) = (R.1, R.2.1, 0, va_up (fun t => if R.1 ≤ t ∧ t < p then false else rc_kp R t) p false, R.2.2.2.2) := by
              unfold rc_RK
              congr
              funext t
              unfold va_up
              by_cases c : t = p
              · rw [if_pos c, if_pos (by omega)]
              · rw [if_neg c]
                dsimp only
                by_cases c2 : R.1 ≤ t ∧ t < p
                · rw [if_pos c2, if_pos (by omega)]
                · rw [if_neg c2, if_neg (by omega)]
            rw [e9]
            exact mr_rcv (by omega) hI hR (fun y hy => g2 y (by omega)) (OT.one g1 g2 (fun e => by omega) (fun e => by omega) (fun e => by omega) (fun e => by omega)) (fun hv => rv_kp (R := rc_RK R p) hv (by omega) g1 g2)
      obtain ⟨F, bl, bh, hM, hR⟩ := id hM3
      have hM : MC dA h1 m0 S.1.length S.2.1.length bl bh (sp_sh S).length F := hM
      have hRV := hR.rv (show k < 2 by omega)
      have h9a : F 9 R.1 = nI (fe_E S.2.1 (R.1 - 1)) := by have h8 : F 9 (R.1 - 1 + 1) = _ := hR.2.2.1 (R.1 - 1) (show R.1 - 1 ≤ S.2.1.length by omega); rw [Nat.sub_add_cancel hj0] at h8; exact h8
      have h9b : F 9 (S.2.1.length + 1) = nI (fe_E S.2.1 S.2.1.length) := hR.2.2.1 _ (Nat.le_refl S.2.1.length)
      refine fv_aload_n C d_M_serveReplay_38 (n := 39) rfl (i := 0) rfl rfl ?_
      refine fv_get C (fl_M_34 D dA) d_M_serveReplay_39 (n := 42) rfl hM.1 rfl ?_
      refine fv_iload_n C d_M_serveReplay_42 (n := 43) rfl (i := 3) rfl rfl ?_
      refine fv_ialdN C (t0 := 0) rfl d_M_serveReplay_43 (n := 44) rfl (mc_9 hM) (by omega) (by decide) ?_
      rw [h9a]
      refine fv_aload_n C d_M_serveReplay_44 (n := 45) rfl (i := 0) rfl rfl ?_
      refine fv_get C (fl_M_34 D dA) d_M_serveReplay_45 (n := 48) rfl hM.1 rfl ?_
      refine fv_aload_n C d_M_serveReplay_48 (n := 49) rfl (i := 0) rfl rfl ?_
      refine fv_get C (fl_M_148 D dA) d_M_serveReplay_49 (n := 52) rfl hM.1 rfl ?_
      refine fv_iconst C d_M_serveReplay_52 (n := 53) rfl kI_1 ?_
      first | refine fv_iaddN C d_M_serveReplay_53 (n := 54) rfl ?_ | refine fv_iadd C d_M_serveReplay_53 (n := 54) rfl ?_
      refine fv_ialdN C (t0 := 0) rfl d_M_serveReplay_54 (n := 55) rfl (mc_9 hM) (by omega) (by decide) ?_
      rw [h9b]
      refine fv_bipush C d_M_serveReplay_55 (n := 57) rfl kB_40 ?_
      refine fv_isub C d_M_serveReplay_57 (n := 58) rfl ?_
      refine fv_icmp_lt C d_M_serveReplay_58 (tgt := 86) rfl (n := 61) rfl (fun hc58 => ?_) (fun hc58 => ?_)
      · rw [Int32.lt_iff_toInt_lt, pk_sub_toInt (by omega) (by omega), nI_toInt (by omega)] at hc58
        have hrep : fe_rep S.2.1 R.1 = false := decide_eq_false (by omega)
        refine fv_iload_n C d_M_serveReplay_86 (n := 87) rfl (i := 3) rfl rfl ?_
        refine fv_istore C d_M_serveReplay_87 (n := 89) rfl (by decide) (L' := [_, _, _, _, _]) rfl ?_
        refine loopB hrep (R.2.2.1 + 1 - R.1) R.1 _ (by omega) (Nat.le_refl _) ?_ hF
        have e9 : rc_RK R R.1 = rc_ak R 0 := by
          unfold rc_RK rc_ak
          have ek : (fun t => if R.1 ≤ t ∧ t < R.1 then false else rc_kp R t) = rc_kp R := funext fun t => if_neg (by omega)
          rw [ek]
        rw [e9]
        exact hM3
      · rw [Int32.lt_iff_toInt_lt, pk_sub_toInt (by omega) (by omega), nI_toInt (by omega)] at hc58
        have hrep : fe_rep S.2.1 R.1 = true := decide_eq_true (by omega)
        refine fv_iload_n C d_M_serveReplay_61 (n := 62) rfl (i := 3) rfl rfl ?_
        refine fv_istore C d_M_serveReplay_62 (n := 64) rfl (by decide) (L' := [_, _, _, _, _]) rfl ?_
        refine loopA hrep (R.2.2.1 + 1 - R.1) R.1 (rc_ak R 0) _ (by omega) hj0 (Nat.le_refl R.1) hJ rfl (fun K hK => ?_) (Or.inl ⟨by omega, rfl⟩) hM3 hF
        unfold rc_serve
        rw [if_neg hns, if_pos hrep]
        have hK : S.2.1.length + 1 ≤ R.1 + K := hK
        rw [show K = (S.2.1.length + 1 - R.1) + (K - (S.2.1.length + 1 - R.1)) by omega]
        exact rc_pt_stable _ _ _ _ _ _ (show _ ≤ R.1 + _ by omega)
    · refine fv_iconst C d_M_serveReplay_36 (n := 37) rfl kI_0 ?_
      refine fv_iret C rfl d_M_serveReplay_37 (Nat.le_refl _) (Nat.le_refl _) ?_
      have hlt : R.2.2.1 < R.1 := by omega
      exact ⟨_, rfl, rfl, by unfold rc_sa; rw [if_pos hlt], by unfold rc_serve; rw [if_pos hlt]; exact hM3, hF⟩
  · have hbad : ¬ iv r 0 1 = true := by rw [hc4]; decide
    refine fv_bipush C d_M_serveReplay_7 (n := 9) rfl kB_m2 ?_
    refine fv_iret C rfl d_M_serveReplay_9 (Nat.le_refl _) (Nat.le_refl _) ?_
    exact ⟨_, rfl, rfl, by unfold sp_svA; rw [if_neg hbad], by unfold sp_svS; rw [if_neg hbad]; exact hM0, fs_rf _ _⟩
end MD12
