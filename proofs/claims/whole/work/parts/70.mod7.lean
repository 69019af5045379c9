/-! FeedDeskModel: follow, event, pass, goOn, hear -/
theorem va_up_up {α : Type} (f : Nat → α) (k : Nat) (x y : α) : va_up (va_up f k x) k y = va_up f k y := by
  funext j
  unfold va_up
  split <;> rfl
theorem rc_set_id (R : rc_T) (i : Nat) : rc_set R i (rc_tr R i) = R := by
  unfold rc_set rc_tr
  dsimp only
  rw [va_up_id, va_up_id]
theorem rc_tr_set (R : rc_T) (i : Nat) (t : tr_T) : rc_tr (rc_set R i t) i = t := by
  unfold rc_set rc_tr
  simp only [rc_ap, rc_hl, rc_rw, va_up_self]
theorem rc_set_set (R : rc_T) (i : Nat) (t t2 : tr_T) : rc_set (rc_set R i t) i t2 = rc_set R i t2 := by
  unfold rc_set
  dsimp only [rc_ap, rc_hl, rc_rw]
  rw [va_up_up, va_up_up]
theorem rc_rel_eq (R : rc_T) (i n : Nat) : rc_rel R i n = rc_set R i (rc_ap R i, (rc_hl R i).erase n, rc_rw R) := by
  unfold rc_rel rc_set
  dsimp only
  rw [va_up_id]
theorem tr_fol_no (log : List bo_E) (i k : Nat) (t : tr_T) (h : t.1 + 1 ∉ t.2.1) : tr_fol log i k t = t := by
  cases k with
  | zero => rfl
  | succ k =>
    unfold tr_fol
    rw [if_neg h]
theorem rc_pt_last (log : List bo_E) (ends : List Nat) (p : Nat) : ∀ (k : Nat) (R : rc_T), p < R.1 → rc_pt log ends p k R = rc_pt log ends 0 k R
  | 0, R, _ => rfl
  | k + 1, R, h => by
    unfold rc_pt
    by_cases c : R.1 ≤ ends.length ∧ rc_kp R R.1 = true
    · rw [if_pos ⟨c.1, Or.inr c.2⟩, if_pos ⟨c.1, Or.inr c.2⟩]
      exact rc_pt_last log ends p k _ (by rw [rc_pass_nx]; omega)
    · rw [if_neg (fun q => c ⟨q.1, q.2.resolve_left (by omega)⟩), if_neg (fun q => c ⟨q.1, q.2.resolve_left (by omega)⟩)]
section MD7
variable {l : Launch} {D : va_G} {dA : Nat → ClassId} {Bs sz : Nat} {h : fv_H} {m0 : Nat} {S : sp_T} {r : Nat} {R : rc_T}
theorem ct_M_follow {i : Nat} (hBs : Bs ≤ m0) (hr : r < 2) (hM0 : RM dA h m0 (sp_setR S r R)) (hI : sp_I S) (hi : i < 4) (hJ : tr_J S.1 i (rc_tr R i)) : fv_T l (fk D dA) Bs WA m_M_follow [.ref m0, .int (nI r), .int (nI i)] sz h 0 0 (fp_v sz (fun h' => RM dA h' m0 (sp_setR S r (rc_set R i (tr_fol S.1 i (rc_hl R i).length (rc_tr R i)))) ∧ fs h h' (MS m0))) := by
  generalize hRf : rc_set R i (tr_fol S.1 i (rc_hl R i).length (rc_tr R i)) = Rf
  have hl4 := hI.2.1.1
  have hli := fe_li_len S.1 i
  refine fv_of (L := [_, _, _, _]) (by decide +kernel) rfl (Nat.le_of_ble_eq_true rfl) rfl ?_
  intro X hX C
  subst hX
  have loop : ∀ k (R : rc_T) (h1 : fv_H), (rc_hl R i).length ≤ k → tr_J S.1 i (rc_tr R i) → RM dA h1 m0 (sp_setR S r R) → fs h h1 (MS m0) → rc_set R i (tr_fol S.1 i k (rc_tr R i)) = Rf → fv_V (fk D dA) Bs X 4 (fv_MQ (fk D dA) Bs X (fp_v sz (fun h' => RM dA h' m0 (sp_setR S r (Rf)) ∧ fs h h' (MS m0))) 0 0) 6 [some (.ref m0), some (.int (nI r)), some (.int (nI i)), some (.int (nI (4 * r + i)))] [] sz h1 0 0 := by
    intro k
    induction k with
    | zero =>
      intro R h1 hk hJ hM0 hF hRf
      have hno : rc_ap R i + 1 ∉ rc_hl R i := by rw [List.eq_nil_of_length_eq_zero (Nat.le_zero.mp hk)]; exact List.not_mem_nil
      have hap : rc_ap R i ≤ (fe_li S.1 i).length := hJ.1
      have hRR : R = Rf := by rw [← hRf, tr_fol_no _ _ _ _ hno, rc_set_id]
      obtain ⟨F, bl, bh, hM, hR⟩ := id hM0
      have hM : MC dA h1 m0 S.1.length S.2.1.length bl bh (sp_sh S).length F := hM
      have hRV := hR.rv hr
      have h18 : rc_ap R i < 400 → F 18 (401 * (4 * r + i) + rc_ap R i + 1) = fv_b (decide (rc_ap R i + 1 ∈ rc_hl R i)) := fun z => (hRV.1 i hi).2.2.1 (rc_ap R i + 1) (by omega)
      refine fv_aload_n C d_M_follow_6 (n := 7) rfl (i := 0) rfl rfl ?_
      refine fv_get C (fl_M_55 D dA) d_M_follow_7 (n := 10) rfl hM.1 rfl ?_
      refine fv_iload_n C d_M_follow_10 (n := 11) rfl (i := 3) rfl rfl ?_
      refine fv_ialdN C (t0 := 0) rfl d_M_follow_11 (n := 12) rfl (mc_16 hM) (by omega) (by decide) ?_
      rw [(hRV.1 i hi).1]
      refine fv_sipush C d_M_follow_12 (n := 15) rfl kS_400 ?_
      refine fv_icmpN_ge C (by omega) (by omega) d_M_follow_15 (tgt := 70) rfl (n := 18) rfl (fun hc15 => ?_) (fun hc15 => ?_)
      · refine fv_vret C rfl d_M_follow_70 (Nat.le_refl _) (Nat.le_refl _) ?_
        exact ⟨rfl, rfl, by rw [← hRR]; exact hM0, hF⟩
      · refine fv_aload_n C d_M_follow_18 (n := 19) rfl (i := 0) rfl rfl ?_
        refine fv_get C (fl_M_61 D dA) d_M_follow_19 (n := 22) rfl hM.1 rfl ?_
        refine fv_sipush C d_M_follow_22 (n := 25) rfl kS_401 ?_
        refine fv_iload_n C d_M_follow_25 (n := 26) rfl (i := 3) rfl rfl ?_
        first | refine fv_imulN C d_M_follow_26 (n := 27) rfl ?_ | refine fv_imul C d_M_follow_26 (n := 27) rfl ?_
        refine fv_aload_n C d_M_follow_27 (n := 28) rfl (i := 0) rfl rfl ?_
        refine fv_get C (fl_M_55 D dA) d_M_follow_28 (n := 31) rfl hM.1 rfl ?_
        refine fv_iload_n C d_M_follow_31 (n := 32) rfl (i := 3) rfl rfl ?_
        refine fv_ialdN C (t0 := 0) rfl d_M_follow_32 (n := 33) rfl (mc_16 hM) (by omega) (by decide) ?_
        rw [(hRV.1 i hi).1]
        first | refine fv_iaddN C d_M_follow_33 (n := 34) rfl ?_ | refine fv_iadd C d_M_follow_33 (n := 34) rfl ?_
        refine fv_iconst C d_M_follow_34 (n := 35) rfl kI_1 ?_
        first | refine fv_iaddN C d_M_follow_35 (n := 36) rfl ?_ | refine fv_iadd C d_M_follow_35 (n := 36) rfl ?_
        refine fv_zaldJ C d_M_follow_36 (n := 37) rfl (mc_18 hM) (by omega) (by decide) ?_
        rw [h18 (by omega), decide_eq_false hno]
        refine fv_ifB_eq C d_M_follow_37 (tgt := 70) rfl (n := 40) rfl (fun hc37 => ?_) (fun hc37 => ?_)
        · refine fv_vret C rfl d_M_follow_70 (Nat.le_refl _) (Nat.le_refl _) ?_
          exact ⟨rfl, rfl, by rw [← hRR]; exact hM0, hF⟩
        · exact absurd hc37 (by decide)
    | succ k ih =>
      intro R h1 hk hJ hM0 hF hRf
      have hap : rc_ap R i ≤ (fe_li S.1 i).length := hJ.1
      by_cases hno : rc_ap R i + 1 ∉ rc_hl R i
      · skip
        have hRR : R = Rf := by rw [← hRf, tr_fol_no _ _ _ _ hno, rc_set_id]
        obtain ⟨F, bl, bh, hM, hR⟩ := id hM0
        have hM : MC dA h1 m0 S.1.length S.2.1.length bl bh (sp_sh S).length F := hM
        have hRV := hR.rv hr
        have h18 : rc_ap R i < 400 → F 18 (401 * (4 * r + i) + rc_ap R i + 1) = fv_b (decide (rc_ap R i + 1 ∈ rc_hl R i)) := fun z => (hRV.1 i hi).2.2.1 (rc_ap R i + 1) (by omega)
        refine fv_aload_n C d_M_follow_6 (n := 7) rfl (i := 0) rfl rfl ?_
        refine fv_get C (fl_M_55 D dA) d_M_follow_7 (n := 10) rfl hM.1 rfl ?_
        refine fv_iload_n C d_M_follow_10 (n := 11) rfl (i := 3) rfl rfl ?_
        refine fv_ialdN C (t0 := 0) rfl d_M_follow_11 (n := 12) rfl (mc_16 hM) (by omega) (by decide) ?_
        rw [(hRV.1 i hi).1]
        refine fv_sipush C d_M_follow_12 (n := 15) rfl kS_400 ?_
        refine fv_icmpN_ge C (by omega) (by omega) d_M_follow_15 (tgt := 70) rfl (n := 18) rfl (fun hc15 => ?_) (fun hc15 => ?_)
        · refine fv_vret C rfl d_M_follow_70 (Nat.le_refl _) (Nat.le_refl _) ?_
          exact ⟨rfl, rfl, by rw [← hRR]; exact hM0, hF⟩
        · refine fv_aload_n C d_M_follow_18 (n := 19) rfl (i := 0) rfl rfl ?_
          refine fv_get C (fl_M_61 D dA) d_M_follow_19 (n := 22) rfl hM.1 rfl ?_
          refine fv_sipush C d_M_follow_22 (n := 25) rfl kS_401 ?_
          refine fv_iload_n C d_M_follow_25 (n := 26) rfl (i := 3) rfl rfl ?_
          first | refine fv_imulN C d_M_follow_26 (n := 27) rfl ?_ | refine fv_imul C d_M_follow_26 (n := 27) rfl ?_
          refine fv_aload_n C d_M_follow_27 (n := 28) rfl (i := 0) rfl rfl ?_
          refine fv_get C (fl_M_55 D dA) d_M_follow_28 (n := 31) rfl hM.1 rfl ?_
          refine fv_iload_n C d_M_follow_31 (n := 32) rfl (i := 3) rfl rfl ?_
          refine fv_ialdN C (t0 := 0) rfl d_M_follow_32 (n := 33) rfl (mc_16 hM) (by omega) (by decide) ?_
          rw [(hRV.1 i hi).1]
          first | refine fv_iaddN C d_M_follow_33 (n := 34) rfl ?_ | refine fv_iadd C d_M_follow_33 (n := 34) rfl ?_
          refine fv_iconst C d_M_follow_34 (n := 35) rfl kI_1 ?_
          first | refine fv_iaddN C d_M_follow_35 (n := 36) rfl ?_ | refine fv_iadd C d_M_follow_35 (n := 36) rfl ?_
          refine fv_zaldJ C d_M_follow_36 (n := 37) rfl (mc_18 hM) (by omega) (by decide) ?_
          rw [h18 (by omega), decide_eq_false hno]
          refine fv_ifB_eq C d_M_follow_37 (tgt := 70) rfl (n := 40) rfl (fun hc37 => ?_) (fun hc37 => ?_)
          · refine fv_vret C rfl d_M_follow_70 (Nat.le_refl _) (Nat.le_refl _) ?_
            exact ⟨rfl, rfl, by rw [← hRR]; exact hM0, hF⟩
          · exact absurd hc37 (by decide)
      · have hin : rc_ap R i + 1 ∈ rc_hl R i := Decidable.byContradiction hno
        obtain ⟨j1, j2, j3, j4, j5, j6⟩ := hJ
        have hin2 := (j3 _ hin).2
        have hlen := List.length_erase_of_mem hin
        have hpos : 0 < (rc_hl R i).length := List.length_pos_of_mem hin
        obtain ⟨F, bl, bh, hM, hR⟩ := id hM0
        have hM : MC dA h1 m0 S.1.length S.2.1.length bl bh (sp_sh S).length F := hM
        have hRV := hR.rv hr
        have h18 : F 18 (401 * (4 * r + i) + rc_ap R i + 1) = fv_b (decide (rc_ap R i + 1 ∈ rc_hl R i)) := (hRV.1 i hi).2.2.1 (rc_ap R i + 1) (by omega)
        refine fv_aload_n C d_M_follow_6 (n := 7) rfl (i := 0) rfl rfl ?_
        refine fv_get C (fl_M_55 D dA) d_M_follow_7 (n := 10) rfl hM.1 rfl ?_
        refine fv_iload_n C d_M_follow_10 (n := 11) rfl (i := 3) rfl rfl ?_
        refine fv_ialdN C (t0 := 0) rfl d_M_follow_11 (n := 12) rfl (mc_16 hM) (by omega) (by decide) ?_
        rw [(hRV.1 i hi).1]
        refine fv_sipush C d_M_follow_12 (n := 15) rfl kS_400 ?_
        refine fv_icmpN_ge C (by omega) (by omega) d_M_follow_15 (tgt := 70) rfl (n := 18) rfl (fun hc15 => ?_) (fun hc15 => ?_)
        · exact absurd hc15 (by omega)
        · refine fv_aload_n C d_M_follow_18 (n := 19) rfl (i := 0) rfl rfl ?_
          refine fv_get C (fl_M_61 D dA) d_M_follow_19 (n := 22) rfl hM.1 rfl ?_
          refine fv_sipush C d_M_follow_22 (n := 25) rfl kS_401 ?_
          refine fv_iload_n C d_M_follow_25 (n := 26) rfl (i := 3) rfl rfl ?_
          first | refine fv_imulN C d_M_follow_26 (n := 27) rfl ?_ | refine fv_imul C d_M_follow_26 (n := 27) rfl ?_
          refine fv_aload_n C d_M_follow_27 (n := 28) rfl (i := 0) rfl rfl ?_
          refine fv_get C (fl_M_55 D dA) d_M_follow_28 (n := 31) rfl hM.1 rfl ?_
          refine fv_iload_n C d_M_follow_31 (n := 32) rfl (i := 3) rfl rfl ?_
          refine fv_ialdN C (t0 := 0) rfl d_M_follow_32 (n := 33) rfl (mc_16 hM) (by omega) (by decide) ?_
          rw [(hRV.1 i hi).1]
          first | refine fv_iaddN C d_M_follow_33 (n := 34) rfl ?_ | refine fv_iadd C d_M_follow_33 (n := 34) rfl ?_
          refine fv_iconst C d_M_follow_34 (n := 35) rfl kI_1 ?_
          first | refine fv_iaddN C d_M_follow_35 (n := 36) rfl ?_ | refine fv_iadd C d_M_follow_35 (n := 36) rfl ?_
          refine fv_zaldJ C d_M_follow_36 (n := 37) rfl (mc_18 hM) (by omega) (by decide) ?_
          rw [h18, decide_eq_true hin]
          refine fv_ifB_eq C d_M_follow_37 (tgt := 70) rfl (n := 40) rfl (fun hc37 => ?_) (fun hc37 => ?_)
          · exact absurd hc37 (by decide)
          · refine fv_aload_n C d_M_follow_40 (n := 41) rfl (i := 0) rfl rfl ?_
            refine fv_iload_n C d_M_follow_41 (n := 42) rfl (i := 3) rfl rfl ?_
            refine fv_aload_n C d_M_follow_42 (n := 43) rfl (i := 0) rfl rfl ?_
            refine fv_get C (fl_M_55 D dA) d_M_follow_43 (n := 46) rfl hM.1 rfl ?_
            refine fv_iload_n C d_M_follow_46 (n := 47) rfl (i := 3) rfl rfl ?_
            refine fv_ialdN C (t0 := 0) rfl d_M_follow_47 (n := 48) rfl (mc_16 hM) (by omega) (by decide) ?_
            rw [(hRV.1 i hi).1]
            refine fv_iconst C d_M_follow_48 (n := 49) rfl kI_1 ?_
            first | refine fv_iaddN C d_M_follow_49 (n := 50) rfl ?_ | refine fv_iadd C d_M_follow_49 (n := 50) rfl ?_
            refine fv_callV_v C (ml_M_173 D dA) im_M_release se_M_release hM.1 rfl (ct_M_release (n := rc_ap R i + 1) hBs hr hM0 hI hi (by omega) j2 j4) d_M_follow_50 (n := 53) rfl rfl rfl rfl (Nat.le_of_ble_eq_true rfl) (Nat.le_of_ble_eq_true rfl) (Nat.le_of_ble_eq_true rfl) (Nat.le_refl _) (Nat.le_refl _) (fun h2 hp => ?_)
            obtain ⟨hM2, f1⟩ := hp
            have hF := hF.tr f1 (U := MS m0) (fun x hx => hx) (fun x hx => hx)
            obtain ⟨F, bl, bh, hM, hR⟩ := id hM2
            have hM : MC dA h2 m0 S.1.length S.2.1.length bl bh (sp_sh S).length F := hM
            have hRV := hR.rv hr
            have hap2 : F 16 (4 * r + i) = nI (rc_ap R i) := (hRV.1 i hi).1
            refine fv_aload_n C d_M_follow_53 (n := 54) rfl (i := 0) rfl rfl ?_
            refine fv_iload_n C d_M_follow_54 (n := 55) rfl (i := 1) rfl rfl ?_
            refine fv_iload_n C d_M_follow_55 (n := 56) rfl (i := 2) rfl rfl ?_
            refine fv_aload_n C d_M_follow_56 (n := 57) rfl (i := 0) rfl rfl ?_
            refine fv_get C (fl_M_55 D dA) d_M_follow_57 (n := 60) rfl hM.1 rfl ?_
            refine fv_iload_n C d_M_follow_60 (n := 61) rfl (i := 3) rfl rfl ?_
            refine fv_ialdN C (t0 := 0) rfl d_M_follow_61 (n := 62) rfl (mc_16 hM) (by omega) (by decide) ?_
            rw [hap2]
            refine fv_iconst C d_M_follow_62 (n := 63) rfl kI_1 ?_
            first | refine fv_iaddN C d_M_follow_63 (n := 64) rfl ?_ | refine fv_iadd C d_M_follow_63 (n := 64) rfl ?_
            refine fv_callV_v C (ml_M_176 D dA) im_M_become se_M_become hM.1 rfl (ct_M_become (m := rc_ap R i + 1) hBs hr hM2 hI hi (show rc_ap R i ≤ 400 by omega) (by omega) j5 j6) d_M_follow_64 (n := 67) rfl rfl rfl rfl (Nat.le_of_ble_eq_true rfl) (Nat.le_of_ble_eq_true rfl) (Nat.le_of_ble_eq_true rfl) (Nat.le_refl _) (Nat.le_refl _) (fun h3 hp => ?_)
            obtain ⟨hM3, f1⟩ := hp
            have hF := hF.tr f1 (U := MS m0) (fun x hx => hx) (fun x hx => hx)
            refine fv_goto C d_M_follow_67 (tgt := 6) rfl ?_
            refine ih _ _ ?_ ?_ hM3 hF ?_
            · rw [rc_rel_eq]; show (rc_hl (rc_set (rc_set R i _) i _) i).length ≤ k; rw [rc_set_set]; show (va_up (rc_hl R) i _ i).length ≤ k; rw [va_up_self, rc_tr_set]; show ((rc_hl R i).erase (rc_ap R i + 1)).length ≤ k; omega
            · rw [rc_rel_eq, rc_tr_set, rc_tr_set]
              refine tr_bec_J hi hin2 ⟨j1, j2.erase _, fun n hn => j3 n (List.mem_of_mem_erase hn), by show ((rc_hl R i).erase (rc_ap R i + 1)).length ≤ 30; have : (rc_hl R i).length ≤ 30 := j4; omega, j5, j6⟩ (fun n hn => ?_)
              have hn1 : rc_ap R i < n := (j3 n (List.mem_of_mem_erase hn)).1
              have hn2 : n ≠ rc_ap R i + 1 := fun q => by rw [q] at hn; exact (List.Nodup.not_mem_erase j2) hn
              omega
            · rw [rc_rel_eq, rc_set_set, rc_set_set, rc_tr_set, rc_tr_set, ← hRf]
              show _ = rc_set R i (tr_fol S.1 i (k + 1) (rc_tr R i))
              rw [show tr_fol S.1 i (k + 1) (rc_tr R i) = _ from if_pos hin]
              rfl
  refine fv_iconst C d_M_follow_0 (n := 1) rfl kI_4 ?_
  refine fv_iload_n C d_M_follow_1 (n := 2) rfl (i := 1) rfl rfl ?_
  first | refine fv_imulN C d_M_follow_2 (n := 3) rfl ?_ | refine fv_imul C d_M_follow_2 (n := 3) rfl ?_
  refine fv_iload_n C d_M_follow_3 (n := 4) rfl (i := 2) rfl rfl ?_
  first | refine fv_iaddN C d_M_follow_4 (n := 5) rfl ?_ | refine fv_iadd C d_M_follow_4 (n := 5) rfl ?_
  refine fv_istore_n C d_M_follow_5 (n := 6) rfl (i := 3) rfl (by decide) (L' := [_, _, _, _]) rfl ?_
  exact loop _ R h (Nat.le_refl _) hJ hM0 (fs_rf _ _) hRf
theorem ct_M_event {e : Nat} {E0 : bo_E} (hBs : Bs ≤ m0) (hr : r < 2) (hM0 : RM dA h m0 (sp_setR S r R)) (hI : sp_I S) (he : S.1[e]? = some E0) (hW : rc_W S.1 R) : fv_T l (fk D dA) Bs WA m_M_event [.ref m0, .int (nI r), .int (nI e)] sz h 0 0 (fp_v sz (fun h' => RM dA h' m0 (sp_setR S r (rc_take S.1 R E0)) ∧ fs h h' (MS m0))) := by
  obtain ⟨F, bl, bh, hM, hR⟩ := id hM0
  have hM : MC dA h m0 S.1.length S.2.1.length bl bh (sp_sh S).length F := hM
  have hRV := hR.rv hr
  obtain ⟨l1, l2, l3, -, -, -, -⟩ := hR.1 e E0 he
  have hF : fs h h (MS m0) := fs_rf _ _
  have hl4 := hI.2.1.1
  have hel := (List.getElem?_eq_some_iff.mp he).1
  obtain ⟨hi, hnum⟩ := rc_ev_in hI.1 he
  have hT := hW _ hi
  have hli := fe_li_len S.1 E0.2.1
  have hap : rc_ap R E0.2.1 ≤ (fe_li S.1 E0.2.1).length := hT.1
  have h30 : (rc_hl R E0.2.1).length ≤ 30 := hT.2.2.2.1
  have hnx : ∀ t, tr_take S.1 E0.2.1 E0.2.2.1 (rc_tr R E0.2.1) = t → rc_take S.1 R E0 = rc_set R E0.2.1 t := fun t ht => by unfold rc_take; rw [ht]
  have htk : tr_take S.1 E0.2.1 E0.2.2.1 (rc_tr R E0.2.1) = if E0.2.2.1 = rc_ap R E0.2.1 + 1 then tr_fol S.1 E0.2.1 (rc_hl R E0.2.1).length (tr_bec S.1 E0.2.1 E0.2.2.1 (rc_tr R E0.2.1)) else if rc_ap R E0.2.1 + 1 < E0.2.2.1 ∧ E0.2.2.1 ∉ rc_hl R E0.2.1 ∧ (rc_hl R E0.2.1).length < 30 then (rc_ap R E0.2.1, rc_hl R E0.2.1 ++ [E0.2.2.1], rc_rw R) else rc_tr R E0.2.1 := rfl
  obtain ⟨v1, v2, v3, v4⟩ := hRV.1 _ hi
  have v3 := v3 E0.2.2.1 (by omega)
  refine fv_of (L := [_, _, _, _, _, _]) (by decide +kernel) rfl (Nat.le_of_ble_eq_true rfl) rfl ?_
  intro X hX C
  subst hX
  refine fv_aload_n C d_M_event_0 (n := 1) rfl (i := 0) rfl rfl ?_
  refine fv_get C (fl_M_13 D dA) d_M_event_1 (n := 4) rfl hM.1 rfl ?_
  refine fv_iload_n C d_M_event_4 (n := 5) rfl (i := 2) rfl rfl ?_
  refine fv_ialdN C (t0 := 0) rfl d_M_event_5 (n := 6) rfl (mc_2 hM) (by omega) (by decide) ?_
  rw [l2]
  refine fv_istore_n C d_M_event_6 (n := 7) rfl (i := 3) rfl (by decide) (L' := [_, _, _, _, _, _]) rfl ?_
  refine fv_iconst C d_M_event_7 (n := 8) rfl kI_4 ?_
  refine fv_iload_n C d_M_event_8 (n := 9) rfl (i := 1) rfl rfl ?_
  first | refine fv_imulN C d_M_event_9 (n := 10) rfl ?_ | refine fv_imul C d_M_event_9 (n := 10) rfl ?_
  refine fv_iload_n C d_M_event_10 (n := 11) rfl (i := 3) rfl rfl ?_
  first | refine fv_iaddN C d_M_event_11 (n := 12) rfl ?_ | refine fv_iadd C d_M_event_11 (n := 12) rfl ?_
  refine fv_istore C d_M_event_12 (n := 14) rfl (by decide) (L' := [_, _, _, _, _, _]) rfl ?_
  refine fv_aload_n C d_M_event_14 (n := 15) rfl (i := 0) rfl rfl ?_
  refine fv_get C (fl_M_16 D dA) d_M_event_15 (n := 18) rfl hM.1 rfl ?_
  refine fv_iload_n C d_M_event_18 (n := 19) rfl (i := 2) rfl rfl ?_
  refine fv_ialdN C (t0 := 0) rfl d_M_event_19 (n := 20) rfl (mc_3 hM) (by omega) (by decide) ?_
  rw [l3]
  refine fv_istore C d_M_event_20 (n := 22) rfl (by decide) (L' := [_, _, _, _, _, _]) rfl ?_
  refine fv_iload C d_M_event_22 (n := 24) rfl rfl ?_
  refine fv_aload_n C d_M_event_24 (n := 25) rfl (i := 0) rfl rfl ?_
  refine fv_get C (fl_M_55 D dA) d_M_event_25 (n := 28) rfl hM.1 rfl ?_
  refine fv_iload C d_M_event_28 (n := 30) rfl rfl ?_
  refine fv_ialdN C (t0 := 0) rfl d_M_event_30 (n := 31) rfl (mc_16 hM) (by omega) (by decide) ?_
  rw [v1]
  refine fv_iconst C d_M_event_31 (n := 32) rfl kI_1 ?_
  first | refine fv_iaddN C d_M_event_32 (n := 33) rfl ?_ | refine fv_iadd C d_M_event_32 (n := 33) rfl ?_
  refine fv_icmpN_ne C (by omega) (by omega) d_M_event_33 (tgt := 53) rfl (n := 36) rfl (fun hc33 => ?_) (fun hc33 => ?_)
  · refine fv_iload C d_M_event_53 (n := 55) rfl rfl ?_
    refine fv_aload_n C d_M_event_55 (n := 56) rfl (i := 0) rfl rfl ?_
    refine fv_get C (fl_M_55 D dA) d_M_event_56 (n := 59) rfl hM.1 rfl ?_
    refine fv_iload C d_M_event_59 (n := 61) rfl rfl ?_
    refine fv_ialdN C (t0 := 0) rfl d_M_event_61 (n := 62) rfl (mc_16 hM) (by omega) (by decide) ?_
    rw [v1]
    refine fv_icmpN_le C (by omega) (by omega) d_M_event_62 (tgt := 120) rfl (n := 65) rfl (fun hc62 => ?_) (fun hc62 => ?_)
    · have hres : rc_take S.1 R E0 = R := by rw [hnx (rc_tr R E0.2.1) (by rw [htk, if_neg hc33, if_neg (fun q => by have : rc_ap R E0.2.1 + 1 < E0.2.2.1 := q.1; omega)]), rc_set_id]
      refine fv_vret C rfl d_M_event_120 (Nat.le_refl _) (Nat.le_refl _) ?_
      first | exact ⟨rfl, rfl, hfin, hF⟩ | exact ⟨rfl, rfl, by rw [hres]; exact hM0, hF⟩
    · refine fv_aload_n C d_M_event_65 (n := 66) rfl (i := 0) rfl rfl ?_
      refine fv_get C (fl_M_61 D dA) d_M_event_66 (n := 69) rfl hM.1 rfl ?_
      refine fv_sipush C d_M_event_69 (n := 72) rfl kS_401 ?_
      refine fv_iload C d_M_event_72 (n := 74) rfl rfl ?_
      first | refine fv_imulN C d_M_event_74 (n := 75) rfl ?_ | refine fv_imul C d_M_event_74 (n := 75) rfl ?_
      refine fv_iload C d_M_event_75 (n := 77) rfl rfl ?_
      first | refine fv_iaddN C d_M_event_77 (n := 78) rfl ?_ | refine fv_iadd C d_M_event_77 (n := 78) rfl ?_
      refine fv_zaldJ C d_M_event_78 (n := 79) rfl (mc_18 hM) (by omega) (by decide) ?_
      rw [v3]
      refine fv_ifB_ne C d_M_event_79 (tgt := 120) rfl (n := 82) rfl (fun hc79 => ?_) (fun hc79 => ?_)
      · have hx : E0.2.2.1 ∈ rc_hl R E0.2.1 := of_decide_eq_true hc79
        have hres : rc_take S.1 R E0 = R := by rw [hnx (rc_tr R E0.2.1) (by rw [htk, if_neg hc33, if_neg (fun q => q.2.1 hx)]), rc_set_id]
        refine fv_vret C rfl d_M_event_120 (Nat.le_refl _) (Nat.le_refl _) ?_
        first | exact ⟨rfl, rfl, hfin, hF⟩ | exact ⟨rfl, rfl, by rw [hres]; exact hM0, hF⟩
      · have hx : E0.2.2.1 ∉ rc_hl R E0.2.1 := of_decide_eq_false hc79
        refine fv_aload_n C d_M_event_82 (n := 83) rfl (i := 0) rfl rfl ?_
        refine fv_get C (fl_M_65 D dA) d_M_event_83 (n := 86) rfl hM.1 rfl ?_
        refine fv_iload C d_M_event_86 (n := 88) rfl rfl ?_
        refine fv_ialdN C (t0 := 0) rfl d_M_event_88 (n := 89) rfl (mc_19 hM) (by omega) (by decide) ?_
        rw [v4]
        refine fv_bipush C d_M_event_89 (n := 91) rfl kB_30 ?_
        refine fv_icmpN_ge C (by omega) (by omega) d_M_event_91 (tgt := 120) rfl (n := 94) rfl (fun hc91 => ?_) (fun hc91 => ?_)
        · have hres : rc_take S.1 R E0 = R := by rw [hnx (rc_tr R E0.2.1) (by rw [htk, if_neg hc33, if_neg (fun q => by have : (rc_hl R E0.2.1).length < 30 := q.2.2; omega)]), rc_set_id]
          refine fv_vret C rfl d_M_event_120 (Nat.le_refl _) (Nat.le_refl _) ?_
          first | exact ⟨rfl, rfl, hfin, hF⟩ | exact ⟨rfl, rfl, by rw [hres]; exact hM0, hF⟩
        · refine fv_aload_n C d_M_event_94 (n := 95) rfl (i := 0) rfl rfl ?_
          refine fv_get C (fl_M_61 D dA) d_M_event_95 (n := 98) rfl hM.1 rfl ?_
          refine fv_sipush C d_M_event_98 (n := 101) rfl kS_401 ?_
          refine fv_iload C d_M_event_101 (n := 103) rfl rfl ?_
          first | refine fv_imulN C d_M_event_103 (n := 104) rfl ?_ | refine fv_imul C d_M_event_103 (n := 104) rfl ?_
          refine fv_iload C d_M_event_104 (n := 106) rfl rfl ?_
          first | refine fv_iaddN C d_M_event_106 (n := 107) rfl ?_ | refine fv_iadd C d_M_event_106 (n := 107) rfl ?_
          refine fv_iconst C d_M_event_107 (n := 108) rfl kI_1 ?_
          refine mc_za C 18 true rfl (by decide) (by decide) rfl d_M_event_108 (n := 109) rfl hM hBs (by decide) (show _ < 3208 by omega) (fun h1 F1 hM g1 g2 f1 => ?_)
          have hF := hF.tr f1 (U := MS m0) (fun x hx => hx) (fun x hx => hx)
          refine fv_aload_n C d_M_event_109 (n := 110) rfl (i := 0) rfl rfl ?_
          refine fv_get C (fl_M_65 D dA) d_M_event_110 (n := 113) rfl hM.1 rfl ?_
          refine fv_iload C d_M_event_113 (n := 115) rfl rfl ?_
          refine fv_dup2 C d_M_event_115 (n := 116) rfl rfl rfl ?_
          refine fv_ialdN C (t0 := 0) rfl d_M_event_116 (n := 117) rfl (mc_19 hM) (by omega) (by decide) ?_
          rw [show F1 19 (4 * r + E0.2.1) = nI (rc_hl R E0.2.1).length by rw [g2 19 (by decide)]; exact v4]
          refine fv_iconst C d_M_event_117 (n := 118) rfl kI_1 ?_
          first | refine fv_iaddN C d_M_event_118 (n := 119) rfl ?_ | refine fv_iadd C d_M_event_118 (n := 119) rfl ?_
          refine mc_ia C 19 (by decide) (by decide) rfl d_M_event_119 (n := 120) rfl hM hBs (by decide) (show _ < 8 by omega) (fun h1 F2 hM p1 p2 f1 => ?_)
          have hF := hF.tr f1 (U := MS m0) (fun x hx => hx) (fun x hx => hx)
          have hfin : RM dA h1 m0 (sp_setR S r (rc_take S.1 R E0)) := by
            rw [hnx (rc_ap R E0.2.1, rc_hl R E0.2.1 ++ [E0.2.2.1], rc_rw R) (by rw [htk, if_neg hc33, if_pos ⟨show rc_ap R E0.2.1 + 1 < E0.2.2.1 by omega, hx, show (rc_hl R E0.2.1).length < 30 by omega⟩])]
            have e9 : rc_set R E0.2.1 (rc_ap R E0.2.1, rc_hl R E0.2.1 ++ [E0.2.2.1], rc_rw R) = (R.1, R.2.1, R.2.2.1, rc_kp R, rc_ap R, va_up (rc_hl R) E0.2.1 (rc_hl R E0.2.1 ++ [E0.2.2.1]), rc_rw R, rc_nd R) := by unfold rc_set; dsimp only; rw [va_up_id]
            rw [e9]
            refine ⟨F2, bl, bh, hM, mr_rcv hr hI hR (fun k hk => by rw [p2 k (by omega), g2 k (by omega)]) ((OT.one g1 g2 (fun e => by omega) (fun e => by omega) (fun e => by omega) (fun e => by omega)).tr (OT.one p1 p2 (fun e => by omega) (fun e => by omega) (fun e => by omega) (fun e => by omega))) (fun hv => rv_hl hi (by omega) hv g1 g2 p1 p2 (by simp) (fun t => ?_))⟩
            by_cases c : t = E0.2.2.1
            · rw [if_pos c, c]; simp
            · rw [if_neg c]; simp [c]
          refine fv_vret C rfl d_M_event_120 (Nat.le_refl _) (Nat.le_refl _) ?_
          first | exact ⟨rfl, rfl, hfin, hF⟩ | exact ⟨rfl, rfl, by rw [hres]; exact hM0, hF⟩
  · refine fv_aload_n C d_M_event_36 (n := 37) rfl (i := 0) rfl rfl ?_
    refine fv_iload_n C d_M_event_37 (n := 38) rfl (i := 1) rfl rfl ?_
    refine fv_iload_n C d_M_event_38 (n := 39) rfl (i := 3) rfl rfl ?_
    refine fv_iload C d_M_event_39 (n := 41) rfl rfl ?_
    refine fv_callV_v C (ml_M_176 D dA) im_M_become se_M_become hM.1 rfl (ct_M_become (m := E0.2.2.1) hBs hr hM0 hI hi (by omega) (by omega) hT.2.2.2.2.1 hT.2.2.2.2.2) d_M_event_41 (n := 44) rfl rfl rfl rfl (Nat.le_of_ble_eq_true rfl) (Nat.le_of_ble_eq_true rfl) (Nat.le_of_ble_eq_true rfl) (Nat.le_refl _) (Nat.le_refl _) (fun h1 hp => ?_)
    obtain ⟨hM2, f1⟩ := hp
    have hF := hF.tr f1 (U := MS m0) (fun x hx => hx) (fun x hx => hx)
    obtain ⟨F, bl, bh, hM, hR⟩ := id hM2
    have hM : MC dA h1 m0 S.1.length S.2.1.length bl bh (sp_sh S).length F := hM
    have hRV := hR.rv hr
    refine fv_aload_n C d_M_event_44 (n := 45) rfl (i := 0) rfl rfl ?_
    refine fv_iload_n C d_M_event_45 (n := 46) rfl (i := 1) rfl rfl ?_
    refine fv_iload_n C d_M_event_46 (n := 47) rfl (i := 3) rfl rfl ?_
    refine fv_callV_v C (ml_M_180 D dA) im_M_follow se_M_follow hM.1 rfl (ct_M_follow hBs hr hM2 hI hi (by rw [rc_tr_set]; exact tr_bec_J hi hnum hT.J (fun n hn => by have h9 : rc_ap R E0.2.1 + 1 < n := (hT.2.2.1 n hn).1; omega))) d_M_event_47 (n := 50) rfl rfl rfl rfl (Nat.le_of_ble_eq_true rfl) (Nat.le_of_ble_eq_true rfl) (Nat.le_of_ble_eq_true rfl) (Nat.le_refl _) (Nat.le_refl _) (fun h1 hp => ?_)
    obtain ⟨hM3, f1⟩ := hp
    have hF := hF.tr f1 (U := MS m0) (fun x hx => hx) (fun x hx => hx)
    have hfin : RM dA h1 m0 (sp_setR S r (rc_take S.1 R E0)) := by
      have e9 : tr_take S.1 E0.2.1 E0.2.2.1 (rc_tr R E0.2.1) = tr_fol S.1 E0.2.1 (rc_hl R E0.2.1).length (tr_bec S.1 E0.2.1 E0.2.2.1 (rc_tr R E0.2.1)) := by rw [htk, if_pos hc33]
      rw [hnx _ e9]
      rw [rc_set_set, rc_tr_set] at hM3
      have e8 : (rc_hl (rc_set R E0.2.1 (tr_bec S.1 E0.2.1 E0.2.2.1 (rc_tr R E0.2.1))) E0.2.1) = rc_hl R E0.2.1 := by show va_up (rc_hl R) E0.2.1 _ E0.2.1 = _; rw [va_up_self]; rfl
      rw [e8] at hM3
      exact hM3
    refine fv_goto C d_M_event_50 (tgt := 120) rfl ?_
    refine fv_vret C rfl d_M_event_120 (Nat.le_refl _) (Nat.le_refl _) ?_
    first | exact ⟨rfl, rfl, hfin, hF⟩ | exact ⟨rfl, rfl, by rw [hres]; exact hM0, hF⟩
theorem ct_M_pass (hBs : Bs ≤ m0) (hr : r < 2) (hM0 : RM dA h m0 (sp_setR S r R)) (hI : sp_I S) (hJ : rc_J S.1 S.2.1 R) (hp : R.1 ≤ S.2.1.length) : fv_T l (fk D dA) Bs WA m_M_pass [.ref m0, .int (nI r)] sz h 0 0 (fp_v sz (fun h' => RM dA h' m0 (sp_setR S r (rc_pass S.1 S.2.1 R)) ∧ fs h h' (MS m0))) := by
  have hF : fs h h (MS m0) := fs_rf _ _
  have hl4 := hI.2.1.1
  have hel := fe_ends_len hI.2.2.1
  have hp1 := hJ.1
  have mo1 := (fe_ends_mono hI.2.2.1 (R.1 - 1) (by omega)).2
  have mo2 := (fe_ends_mono hI.2.2.1 R.1 hp).2
  have mo3 := (hI.2.2.1.1 (R.1 - 1) (by omega)).1
  rw [Nat.sub_add_cancel hp1] at mo3
  obtain ⟨F, bl, bh, hM, hR⟩ := id hM0
  have hM : MC dA h m0 S.1.length S.2.1.length bl bh (sp_sh S).length F := hM
  have hRV := hR.rv hr
  have h9 : F 9 R.1 = nI (fe_E S.2.1 (R.1 - 1)) := by have h8 : F 9 (R.1 - 1 + 1) = _ := hR.2.2.1 (R.1 - 1) (show R.1 - 1 ≤ S.2.1.length by omega); rw [Nat.sub_add_cancel hp1] at h8; exact h8
  refine fv_of (L := [_, _, _, _]) (by decide +kernel) rfl (Nat.le_of_ble_eq_true rfl) rfl ?_
  intro X hX C
  subst hX
  have loop : ∀ k e (h1 : fv_H), e + k = fe_E S.2.1 R.1 → fe_E S.2.1 (R.1 - 1) ≤ e → RM dA h1 m0 (sp_setR S r (((S.1.take e).drop (fe_E S.2.1 (R.1 - 1))).foldl (rc_take S.1) (rc_uk R R.1))) → rc_W S.1 (((S.1.take e).drop (fe_E S.2.1 (R.1 - 1))).foldl (rc_take S.1) (rc_uk R R.1)) → fs h h1 (MS m0) → fv_V (fk D dA) Bs X 4 (fv_MQ (fk D dA) Bs X (fp_v sz (fun h' => RM dA h' m0 (sp_setR S r (rc_pass S.1 S.2.1 R)) ∧ fs h h' (MS m0))) 0 0) 27 [some (.ref m0), some (.int (nI r)), some (.int (nI R.1)), some (.int (nI e))] [] sz h1 0 0 := by
    intro k
    induction k with
    | zero =>
      intro e h1 he hle hM0 hW hF
      have hee : e = fe_E S.2.1 R.1 := by omega
      obtain ⟨z1, z2, z3, -, -⟩ := rc_fold_rest (log := S.1) ((S.1.take e).drop (fe_E S.2.1 (R.1 - 1))) (rc_uk R R.1)
      obtain ⟨F, bl, bh, hM, hR⟩ := id hM0
      have hM : MC dA h1 m0 S.1.length S.2.1.length bl bh (sp_sh S).length F := hM
      have hRV := hR.rv hr
      have h10 : F 9 (R.1 + 1) = nI (fe_E S.2.1 R.1) := hR.2.2.1 R.1 hp
      have h20 : F 20 r = nI R.1 := by rw [hRV.2.1, z1]; rfl
      refine fv_iload_n C d_M_pass_27 (n := 28) rfl (i := 3) rfl rfl ?_
      refine fv_aload_n C d_M_pass_28 (n := 29) rfl (i := 0) rfl rfl ?_
      refine fv_get C (fl_M_34 D dA) d_M_pass_29 (n := 32) rfl hM.1 rfl ?_
      refine fv_iload_n C d_M_pass_32 (n := 33) rfl (i := 2) rfl rfl ?_
      refine fv_iconst C d_M_pass_33 (n := 34) rfl kI_1 ?_
      first | refine fv_iaddN C d_M_pass_34 (n := 35) rfl ?_ | refine fv_iadd C d_M_pass_34 (n := 35) rfl ?_
      refine fv_ialdN C (t0 := 0) rfl d_M_pass_35 (n := 36) rfl (mc_9 hM) (by omega) (by decide) ?_
      rw [h10]
      refine fv_icmpN_ge C (by omega) (by omega) d_M_pass_36 (tgt := 51) rfl (n := 39) rfl (fun hc36 => ?_) (fun hc36 => ?_)
      · refine fv_aload_n C d_M_pass_51 (n := 52) rfl (i := 0) rfl rfl ?_
        refine fv_get C (fl_M_68 D dA) d_M_pass_52 (n := 55) rfl hM.1 rfl ?_
        refine fv_iload_n C d_M_pass_55 (n := 56) rfl (i := 1) rfl rfl ?_
        refine fv_dup2 C d_M_pass_56 (n := 57) rfl rfl rfl ?_
        refine fv_ialdN C (t0 := 0) rfl d_M_pass_57 (n := 58) rfl (mc_20 hM) (by omega) (by decide) ?_
        rw [h20]
        refine fv_iconst C d_M_pass_58 (n := 59) rfl kI_1 ?_
        first | refine fv_iaddN C d_M_pass_59 (n := 60) rfl ?_ | refine fv_iadd C d_M_pass_59 (n := 60) rfl ?_
        refine mc_ia C 20 (by decide) (by decide) rfl d_M_pass_60 (n := 61) rfl hM hBs (by decide) (show _ < 2 by omega) (fun h1 F1 hM g1 g2 f1 => ?_)
        have hF := hF.tr f1 (U := MS m0) (fun x hx => hx) (fun x hx => hx)
        refine fv_vret C rfl d_M_pass_61 (Nat.le_refl _) (Nat.le_refl _) ?_
        refine ⟨rfl, rfl, ⟨F1, bl, bh, hM, ?_⟩, hF⟩
        have e9 : rc_pass S.1 S.2.1 R = (R.1 + 1, (((S.1.take e).drop (fe_E S.2.1 (R.1 - 1))).foldl (rc_take S.1) (rc_uk R R.1)).2) := by unfold rc_pass rc_nx rc_evs; rw [hee]
        rw [e9]
        refine mr_rcv hr hI hR (fun k hk => g2 k (by omega)) (OT.one g1 g2 (fun e => by omega) (fun e => by omega) (fun e => by omega) (fun e => by omega)) (fun hv => rv_nx hv g1 g2 ?_)
        obtain ⟨q, q1, q2⟩ := hv.2.2.2.2.1
        rw [z1] at q2
        have q2 : q = _ ∨ (q < R.1 ∧ _ < R.1) := q2
        exact ⟨q, q1, by rcases q2 with q2 | q2; exact Or.inl q2; exact Or.inr ⟨by omega, by omega⟩⟩
      · exact absurd hc36 (by omega)
    | succ k ih =>
      intro e h1 he hle hM0 hW hF
      obtain ⟨E0, hE0⟩ : ∃ E0, S.1[e]? = some E0 := ⟨_, List.getElem?_eq_getElem (by omega)⟩
      obtain ⟨hi4, hnn⟩ := rc_ev_in hI.1 hE0
      have hst : ((S.1.take (e + 1)).drop (fe_E S.2.1 (R.1 - 1))).foldl (rc_take S.1) (rc_uk R R.1) = rc_take S.1 (((S.1.take e).drop (fe_E S.2.1 (R.1 - 1))).foldl (rc_take S.1) (rc_uk R R.1)) E0 := by rw [rc_evs_snoc hle hE0, List.foldl_append]; rfl
      obtain ⟨F, bl, bh, hM, hR⟩ := id hM0
      have hM : MC dA h1 m0 S.1.length S.2.1.length bl bh (sp_sh S).length F := hM
      have hRV := hR.rv hr
      have h10 : F 9 (R.1 + 1) = nI (fe_E S.2.1 R.1) := hR.2.2.1 R.1 hp
      refine fv_iload_n C d_M_pass_27 (n := 28) rfl (i := 3) rfl rfl ?_
      refine fv_aload_n C d_M_pass_28 (n := 29) rfl (i := 0) rfl rfl ?_
      refine fv_get C (fl_M_34 D dA) d_M_pass_29 (n := 32) rfl hM.1 rfl ?_
      refine fv_iload_n C d_M_pass_32 (n := 33) rfl (i := 2) rfl rfl ?_
      refine fv_iconst C d_M_pass_33 (n := 34) rfl kI_1 ?_
      first | refine fv_iaddN C d_M_pass_34 (n := 35) rfl ?_ | refine fv_iadd C d_M_pass_34 (n := 35) rfl ?_
      refine fv_ialdN C (t0 := 0) rfl d_M_pass_35 (n := 36) rfl (mc_9 hM) (by omega) (by decide) ?_
      rw [h10]
      refine fv_icmpN_ge C (by omega) (by omega) d_M_pass_36 (tgt := 51) rfl (n := 39) rfl (fun hc36 => ?_) (fun hc36 => ?_)
      · exact absurd hc36 (by omega)
      · refine fv_aload_n C d_M_pass_39 (n := 40) rfl (i := 0) rfl rfl ?_
        refine fv_iload_n C d_M_pass_40 (n := 41) rfl (i := 1) rfl rfl ?_
        refine fv_iload_n C d_M_pass_41 (n := 42) rfl (i := 3) rfl rfl ?_
        refine fv_callV_v C (ml_M_183 D dA) im_M_event se_M_event hM.1 rfl (ct_M_event hBs hr hM0 hI hE0 hW) d_M_pass_42 (n := 45) rfl rfl rfl rfl (Nat.le_of_ble_eq_true rfl) (Nat.le_of_ble_eq_true rfl) (Nat.le_of_ble_eq_true rfl) (Nat.le_refl _) (Nat.le_refl _) (fun h1 hp2 => ?_)
        obtain ⟨hM3, f1⟩ := hp2
        have hF := hF.tr f1 (U := MS m0) (fun x hx => hx) (fun x hx => hx)
        refine fv_iincN C d_M_pass_45 (n := 48) rfl rfl (by decide) (L' := [_, _, _, _]) rfl ?_
        refine fv_goto C d_M_pass_48 (tgt := 27) rfl ?_
        exact ih (e + 1) _ (by omega) (by omega) (by rw [hst]; exact hM3) (by rw [hst]; exact rc_take_W hW hi4 hnn) hF
  refine fv_aload_n C d_M_pass_0 (n := 1) rfl (i := 0) rfl rfl ?_
  refine fv_get C (fl_M_68 D dA) d_M_pass_1 (n := 4) rfl hM.1 rfl ?_
  refine fv_iload_n C d_M_pass_4 (n := 5) rfl (i := 1) rfl rfl ?_
  refine fv_ialdN C (t0 := 0) rfl d_M_pass_5 (n := 6) rfl (mc_20 hM) (by omega) (by decide) ?_
  rw [hRV.2.1]
  refine fv_istore_n C d_M_pass_6 (n := 7) rfl (i := 2) rfl (by decide) (L' := [_, _, _, _]) rfl ?_
  refine fv_aload_n C d_M_pass_7 (n := 8) rfl (i := 0) rfl rfl ?_
  refine fv_get C (fl_M_74 D dA) d_M_pass_8 (n := 11) rfl hM.1 rfl ?_
  refine fv_sipush C d_M_pass_11 (n := 14) rfl kS_402 ?_
  refine fv_iload_n C d_M_pass_14 (n := 15) rfl (i := 1) rfl rfl ?_
  first | refine fv_imulN C d_M_pass_15 (n := 16) rfl ?_ | refine fv_imul C d_M_pass_15 (n := 16) rfl ?_
  refine fv_iload_n C d_M_pass_16 (n := 17) rfl (i := 2) rfl rfl ?_
  first | refine fv_iaddN C d_M_pass_17 (n := 18) rfl ?_ | refine fv_iadd C d_M_pass_17 (n := 18) rfl ?_
  refine fv_iconst C d_M_pass_18 (n := 19) rfl kI_0 ?_
  refine mc_za C 22 false rfl (by decide) (by decide) rfl d_M_pass_19 (n := 20) rfl hM hBs (by decide) (show _ < 804 by omega) (fun h1 F1 hM g1 g2 f1 => ?_)
  have hF := hF.tr f1 (U := MS m0) (fun x hx => hx) (fun x hx => hx)
  refine fv_aload_n C d_M_pass_20 (n := 21) rfl (i := 0) rfl rfl ?_
  refine fv_get C (fl_M_34 D dA) d_M_pass_21 (n := 24) rfl hM.1 rfl ?_
  refine fv_iload_n C d_M_pass_24 (n := 25) rfl (i := 2) rfl rfl ?_
  refine fv_ialdN C (t0 := 0) rfl d_M_pass_25 (n := 26) rfl (mc_9 hM) (by omega) (by decide) ?_
  rw [show F1 9 R.1 = nI (fe_E S.2.1 (R.1 - 1)) by rw [g2 9 (by decide)]; exact h9]
  refine fv_istore_n C d_M_pass_26 (n := 27) rfl (i := 3) rfl (by decide) (L' := [_, _, _, _]) rfl ?_
  refine loop (fe_E S.2.1 R.1 - fe_E S.2.1 (R.1 - 1)) _ h1 (by omega) (Nat.le_refl _) ?_ ?_ hF
  · rw [rc_evs_nil]; exact ⟨F1, bl, bh, hM, mr_rcv hr hI hR (fun k hk => g2 k (by omega)) (OT.one g1 g2 (fun e => by omega) (fun e => by omega) (fun e => by omega) (fun e => by omega)) (fun hv => rv_kp hv (by omega) g1 g2)⟩
  · rw [rc_evs_nil]; exact hJ.2.2.2.2.1
theorem ct_M_goOn {k0 : Nat} (hBs : Bs ≤ m0) (hr : r < 2) (hM0 : RM dA h m0 (sp_setR S r R)) (hI : sp_I S) (hJ : rc_J S.1 S.2.1 R) (hk0 : S.2.1.length + 1 ≤ R.1 + k0) : fv_T l (fk D dA) Bs WA m_M_goOn [.ref m0, .int (nI r)] sz h 0 0 (fp_v sz (fun h' => RM dA h' m0 (sp_setR S r (rc_pt S.1 S.2.1 0 k0 R)) ∧ fs h h' (MS m0))) := by
  generalize hRf : rc_pt S.1 S.2.1 0 k0 R = Rf
  have hel := fe_ends_len hI.2.2.1
  refine fv_of (L := [_, _]) (by decide +kernel) rfl (Nat.le_of_ble_eq_true rfl) rfl ?_
  intro X hX C
  subst hX
  have loop : ∀ k (R : rc_T) (h1 : fv_H), S.2.1.length + 1 ≤ R.1 + k → rc_J S.1 S.2.1 R → RM dA h1 m0 (sp_setR S r R) → fs h h1 (MS m0) → rc_pt S.1 S.2.1 0 k R = Rf → fv_V (fk D dA) Bs X 2 (fv_MQ (fk D dA) Bs X (fp_v sz (fun h' => RM dA h' m0 (sp_setR S r (Rf)) ∧ fs h h' (MS m0))) 0 0) 0 [some (.ref m0), some (.int (nI r))] [] sz h1 0 0 := by
    intro k
    induction k with
    | zero =>
      intro R h1 hk hJ hM0 hF hRf
      have hj1 := hJ.2.1
      have hRR : R = Rf := hRf
      obtain ⟨F, bl, bh, hM, hR⟩ := id hM0
      have hM : MC dA h1 m0 S.1.length S.2.1.length bl bh (sp_sh S).length F := hM
      have hRV := hR.rv hr
      refine fv_aload_n C d_M_goOn_0 (n := 1) rfl (i := 0) rfl rfl ?_
      refine fv_get C (fl_M_68 D dA) d_M_goOn_1 (n := 4) rfl hM.1 rfl ?_
      refine fv_iload_n C d_M_goOn_4 (n := 5) rfl (i := 1) rfl rfl ?_
      refine fv_ialdN C (t0 := 0) rfl d_M_goOn_5 (n := 6) rfl (mc_20 hM) (by omega) (by decide) ?_
      rw [hRV.2.1]
      refine fv_aload_n C d_M_goOn_6 (n := 7) rfl (i := 0) rfl rfl ?_
      refine fv_get C (fl_M_148 D dA) d_M_goOn_7 (n := 10) rfl hM.1 rfl ?_
      refine fv_icmpN_gt C (by omega) (by omega) d_M_goOn_10 (tgt := 41) rfl (n := 13) rfl (fun hc10 => ?_) (fun hc10 => ?_)
      · refine fv_vret C rfl d_M_goOn_41 (Nat.le_refl _) (Nat.le_refl _) ?_
        exact ⟨rfl, rfl, by rw [← hRR]; exact hM0, hF⟩
      · exact absurd hc10 (by omega)
    | succ k ih =>
      intro R h1 hk hJ hM0 hF hRf
      have hj0 := hJ.1
      have hj1 := hJ.2.1
      have hpt : rc_pt S.1 S.2.1 0 (k + 1) R = if R.1 ≤ S.2.1.length ∧ (R.1 ≤ 0 ∨ rc_kp R R.1 = true) then rc_pt S.1 S.2.1 0 k (rc_pass S.1 S.2.1 R) else R := rfl
      rw [hpt] at hRf
      obtain ⟨F, bl, bh, hM, hR⟩ := id hM0
      have hM : MC dA h1 m0 S.1.length S.2.1.length bl bh (sp_sh S).length F := hM
      have hRV := hR.rv hr
      have h22 := hRV.2.2.2.1 R.1 (by omega)
      refine fv_aload_n C d_M_goOn_0 (n := 1) rfl (i := 0) rfl rfl ?_
      refine fv_get C (fl_M_68 D dA) d_M_goOn_1 (n := 4) rfl hM.1 rfl ?_
      refine fv_iload_n C d_M_goOn_4 (n := 5) rfl (i := 1) rfl rfl ?_
      refine fv_ialdN C (t0 := 0) rfl d_M_goOn_5 (n := 6) rfl (mc_20 hM) (by omega) (by decide) ?_
      rw [hRV.2.1]
      refine fv_aload_n C d_M_goOn_6 (n := 7) rfl (i := 0) rfl rfl ?_
      refine fv_get C (fl_M_148 D dA) d_M_goOn_7 (n := 10) rfl hM.1 rfl ?_
      refine fv_icmpN_gt C (by omega) (by omega) d_M_goOn_10 (tgt := 41) rfl (n := 13) rfl (fun hc10 => ?_) (fun hc10 => ?_)
      · have hRR : R = Rf := by rw [← hRf, if_neg (fun q => by omega)]
        refine fv_vret C rfl d_M_goOn_41 (Nat.le_refl _) (Nat.le_refl _) ?_
        exact ⟨rfl, rfl, by rw [← hRR]; exact hM0, hF⟩
      · refine fv_aload_n C d_M_goOn_13 (n := 14) rfl (i := 0) rfl rfl ?_
        refine fv_get C (fl_M_74 D dA) d_M_goOn_14 (n := 17) rfl hM.1 rfl ?_
        refine fv_sipush C d_M_goOn_17 (n := 20) rfl kS_402 ?_
        refine fv_iload_n C d_M_goOn_20 (n := 21) rfl (i := 1) rfl rfl ?_
        first | refine fv_imulN C d_M_goOn_21 (n := 22) rfl ?_ | refine fv_imul C d_M_goOn_21 (n := 22) rfl ?_
        refine fv_aload_n C d_M_goOn_22 (n := 23) rfl (i := 0) rfl rfl ?_
        refine fv_get C (fl_M_68 D dA) d_M_goOn_23 (n := 26) rfl hM.1 rfl ?_
        refine fv_iload_n C d_M_goOn_26 (n := 27) rfl (i := 1) rfl rfl ?_
        refine fv_ialdN C (t0 := 0) rfl d_M_goOn_27 (n := 28) rfl (mc_20 hM) (by omega) (by decide) ?_
        rw [hRV.2.1]
        first | refine fv_iaddN C d_M_goOn_28 (n := 29) rfl ?_ | refine fv_iadd C d_M_goOn_28 (n := 29) rfl ?_
        refine fv_zaldJ C d_M_goOn_29 (n := 30) rfl (mc_22 hM) (by omega) (by decide) ?_
        rw [h22]
        refine fv_ifB_eq C d_M_goOn_30 (tgt := 41) rfl (n := 33) rfl (fun hc30 => ?_) (fun hc30 => ?_)
        · have hRR : R = Rf := by rw [← hRf, if_neg (fun q => by rcases q.2 with q2 | q2; omega; rw [hc30] at q2; exact absurd q2 (by decide))]
          refine fv_vret C rfl d_M_goOn_41 (Nat.le_refl _) (Nat.le_refl _) ?_
          exact ⟨rfl, rfl, by rw [← hRR]; exact hM0, hF⟩
        · rw [if_pos ⟨by omega, Or.inr hc30⟩] at hRf
          refine fv_aload_n C d_M_goOn_33 (n := 34) rfl (i := 0) rfl rfl ?_
          refine fv_iload_n C d_M_goOn_34 (n := 35) rfl (i := 1) rfl rfl ?_
          refine fv_callV_v C (ml_M_186 D dA) im_M_pass se_M_pass hM.1 rfl (ct_M_pass hBs hr hM0 hI hJ (by omega)) d_M_goOn_35 (n := 38) rfl rfl rfl rfl (Nat.le_of_ble_eq_true rfl) (Nat.le_of_ble_eq_true rfl) (Nat.le_of_ble_eq_true rfl) (Nat.le_refl _) (Nat.le_refl _) (fun h1 hp => ?_)
          obtain ⟨hM3, f1⟩ := hp
          have hF := hF.tr f1 (U := MS m0) (fun x hx => hx) (fun x hx => hx)
          refine fv_goto C d_M_goOn_38 (tgt := 0) rfl ?_
          exact ih _ _ (by rw [rc_pass_nx]; omega) (rc_pass_J hI.1 hJ (by omega)) hM3 hF hRf
  exact loop k0 R h hk0 hJ hM0 (fs_rf _ _) hRf
theorem ct_M_hear {p : Nat} (hBs : Bs ≤ m0) (hr : r < 2) (hM0 : RM dA h m0 (sp_setR S r R)) (hI : sp_I S) (hJ : rc_J S.1 S.2.1 R) (hp1 : 1 ≤ p) (hp : p ≤ S.2.1.length) : fv_T l (fk D dA) Bs WA m_M_hear [.ref m0, .int (nI r), .int (nI p)] sz h 0 0 (fp_i sz (fun r0 h' => r0 = nI (rc_ha R p) ∧ RM dA h' m0 (sp_setR S r (rc_hear S.1 S.2.1 p R)) ∧ fs h h' (MS m0))) := by
  have hel := fe_ends_len hI.2.2.1
  have hj0 := hJ.1
  have hj1 := hJ.2.1
  have hj2 := hJ.2.2.1
  refine fv_of (L := [_, _, _]) (by decide +kernel) rfl (Nat.le_of_ble_eq_true rfl) rfl ?_
  intro X hX C
  subst hX
  have rest : ∀ (h1 : fv_H), RM dA h1 m0 (sp_setR S r (rc_hg R p)) → fs h h1 (MS m0) → fv_V (fk D dA) Bs X 3 (fv_MQ (fk D dA) Bs X (fp_i sz (fun r0 h' => r0 = nI (rc_ha R p) ∧ RM dA h' m0 (sp_setR S r (rc_hear S.1 S.2.1 p R)) ∧ fs h h' (MS m0))) 0 0) 17 [some (.ref m0), some (.int (nI r)), some (.int (nI p))] [] sz h1 0 0 := by
    intro h1 hM0 hF
    have hJ2 := rc_hg_J hJ hp
    obtain ⟨F, bl, bh, hM, hR⟩ := id hM0
    have hM : MC dA h1 m0 S.1.length S.2.1.length bl bh (sp_sh S).length F := hM
    have hRV := hR.rv hr
    have h20 : F 20 r = nI R.1 := hRV.2.1
    refine fv_iload_n C d_M_hear_17 (n := 18) rfl (i := 2) rfl rfl ?_
    refine fv_aload_n C d_M_hear_18 (n := 19) rfl (i := 0) rfl rfl ?_
    refine fv_get C (fl_M_68 D dA) d_M_hear_19 (n := 22) rfl hM.1 rfl ?_
    refine fv_iload_n C d_M_hear_22 (n := 23) rfl (i := 1) rfl rfl ?_
    refine fv_ialdN C (t0 := 0) rfl d_M_hear_23 (n := 24) rfl (mc_20 hM) (by omega) (by decide) ?_
    rw [h20]
    refine fv_icmpN_ge C (by omega) (by omega) d_M_hear_24 (tgt := 29) rfl (n := 27) rfl (fun hc24 => ?_) (fun hc24 => ?_)
    · refine fv_iload_n C d_M_hear_29 (n := 30) rfl (i := 2) rfl rfl ?_
      refine fv_aload_n C d_M_hear_30 (n := 31) rfl (i := 0) rfl rfl ?_
      refine fv_get C (fl_M_68 D dA) d_M_hear_31 (n := 34) rfl hM.1 rfl ?_
      refine fv_iload_n C d_M_hear_34 (n := 35) rfl (i := 1) rfl rfl ?_
      refine fv_ialdN C (t0 := 0) rfl d_M_hear_35 (n := 36) rfl (mc_20 hM) (by omega) (by decide) ?_
      rw [h20]
      refine fv_bipush C d_M_hear_36 (n := 38) rfl kB_6 ?_
      first | refine fv_iaddN C d_M_hear_38 (n := 39) rfl ?_ | refine fv_iadd C d_M_hear_38 (n := 39) rfl ?_
      refine fv_icmpN_le C (by omega) (by omega) d_M_hear_39 (tgt := 44) rfl (n := 42) rfl (fun hc39 => ?_) (fun hc39 => ?_)
      · refine fv_iload_n C d_M_hear_44 (n := 45) rfl (i := 2) rfl rfl ?_
        refine fv_aload_n C d_M_hear_45 (n := 46) rfl (i := 0) rfl rfl ?_
        refine fv_get C (fl_M_68 D dA) d_M_hear_46 (n := 49) rfl hM.1 rfl ?_
        refine fv_iload_n C d_M_hear_49 (n := 50) rfl (i := 1) rfl rfl ?_
        refine fv_ialdN C (t0 := 0) rfl d_M_hear_50 (n := 51) rfl (mc_20 hM) (by omega) (by decide) ?_
        rw [h20]
        refine fv_icmpN_le C (by omega) (by omega) d_M_hear_51 (tgt := 69) rfl (n := 54) rfl (fun hc51 => ?_) (fun hc51 => ?_)
        · refine fv_aload_n C d_M_hear_69 (n := 70) rfl (i := 0) rfl rfl ?_
          refine fv_iload_n C d_M_hear_70 (n := 71) rfl (i := 1) rfl rfl ?_
          refine fv_callV_v C (ml_M_186 D dA) im_M_pass se_M_pass hM.1 rfl (ct_M_pass hBs hr hM0 hI hJ2 (show R.1 ≤ S.2.1.length by omega)) d_M_hear_71 (n := 74) rfl rfl rfl rfl (Nat.le_of_ble_eq_true rfl) (Nat.le_of_ble_eq_true rfl) (Nat.le_of_ble_eq_true rfl) (Nat.le_refl _) (Nat.le_refl _) (fun h1 hp9 => ?_)
          obtain ⟨hM3, f1⟩ := hp9
          have hF := hF.tr f1 (U := MS m0) (fun x hx => hx) (fun x hx => hx)
          obtain ⟨F, bl, bh, hM, hR⟩ := id hM3
          have hM : MC dA h1 m0 S.1.length S.2.1.length bl bh (sp_sh S).length F := hM
          have hRV := hR.rv hr
          refine fv_aload_n C d_M_hear_74 (n := 75) rfl (i := 0) rfl rfl ?_
          refine fv_iload_n C d_M_hear_75 (n := 76) rfl (i := 1) rfl rfl ?_
          refine fv_callV_v C (ml_M_189 D dA) im_M_goOn se_M_goOn hM.1 rfl (ct_M_goOn (k0 := S.2.1.length - R.1) hBs hr hM3 hI (rc_pass_J hI.1 hJ2 (show R.1 ≤ S.2.1.length by omega)) (by rw [rc_pass_nx]; show _ ≤ R.1 + 1 + _; omega)) d_M_hear_76 (n := 79) rfl rfl rfl rfl (Nat.le_of_ble_eq_true rfl) (Nat.le_of_ble_eq_true rfl) (Nat.le_of_ble_eq_true rfl) (Nat.le_refl _) (Nat.le_refl _) (fun h1 hp9 => ?_)
          obtain ⟨hM4, f1⟩ := hp9
          have hF := hF.tr f1 (U := MS m0) (fun x hx => hx) (fun x hx => hx)
          refine fv_iconst C d_M_hear_79 (n := 80) rfl kI_1 ?_
          refine fv_iret C rfl d_M_hear_80 (Nat.le_refl _) (Nat.le_refl _) ?_
          refine ⟨_, rfl, rfl, by unfold rc_ha; rw [if_neg (by omega), if_neg (by omega), if_neg (by omega)], ?_, hF⟩
          unfold rc_hear
          rw [if_neg (by omega), if_neg (by omega), if_neg (by omega), show S.2.1.length + 1 - R.1 = (S.2.1.length - R.1) + 1 by omega]
          rw [show rc_pt S.1 S.2.1 p (S.2.1.length - R.1 + 1) (rc_hg R p) = rc_pt S.1 S.2.1 p (S.2.1.length - R.1) (rc_pass S.1 S.2.1 (rc_hg R p)) from if_pos ⟨show R.1 ≤ S.2.1.length by omega, Or.inl (show R.1 ≤ p by omega)⟩]
          rw [rc_pt_last _ _ p _ _ (by rw [rc_pass_nx]; show p < R.1 + 1; omega)]
          exact hM4
        · refine fv_aload_n C d_M_hear_54 (n := 55) rfl (i := 0) rfl rfl ?_
          refine fv_get C (fl_M_74 D dA) d_M_hear_55 (n := 58) rfl hM.1 rfl ?_
          refine fv_sipush C d_M_hear_58 (n := 61) rfl kS_402 ?_
          refine fv_iload_n C d_M_hear_61 (n := 62) rfl (i := 1) rfl rfl ?_
          first | refine fv_imulN C d_M_hear_62 (n := 63) rfl ?_ | refine fv_imul C d_M_hear_62 (n := 63) rfl ?_
          refine fv_iload_n C d_M_hear_63 (n := 64) rfl (i := 2) rfl rfl ?_
          first | refine fv_iaddN C d_M_hear_64 (n := 65) rfl ?_ | refine fv_iadd C d_M_hear_64 (n := 65) rfl ?_
          refine fv_iconst C d_M_hear_65 (n := 66) rfl kI_1 ?_
          refine mc_za C 22 true rfl (by decide) (by decide) rfl d_M_hear_66 (n := 67) rfl hM hBs (by decide) (show _ < 804 by omega) (fun h1 F1 hM g1 g2 f1 => ?_)
          have hF := hF.tr f1 (U := MS m0) (fun x hx => hx) (fun x hx => hx)
          refine fv_iconst C d_M_hear_67 (n := 68) rfl kI_2 ?_
          refine fv_iret C rfl d_M_hear_68 (Nat.le_refl _) (Nat.le_refl _) ?_
          exact ⟨_, rfl, rfl, by unfold rc_ha; rw [if_neg (by omega), if_neg (by omega), if_pos (by omega)], by unfold rc_hear; rw [if_neg (by omega), if_neg (by omega), if_pos (by omega)]; exact ⟨F1, bl, bh, hM, mr_rcv hr hI hR (fun k hk => g2 k (by omega)) (OT.one g1 g2 (fun e => by omega) (fun e => by omega) (fun e => by omega) (fun e => by omega)) (fun hv => rv_kp hv (by omega) g1 g2)⟩, hF⟩
      · refine fv_iconst C d_M_hear_42 (n := 43) rfl kI_3 ?_
        refine fv_iret C rfl d_M_hear_43 (Nat.le_refl _) (Nat.le_refl _) ?_
        exact ⟨_, rfl, rfl, by unfold rc_ha; rw [if_neg (by omega), if_pos (by omega)], by unfold rc_hear; rw [if_neg (by omega), if_pos (by omega)]; exact hM0, hF⟩
    · refine fv_iconst C d_M_hear_27 (n := 28) rfl kI_0 ?_
      refine fv_iret C rfl d_M_hear_28 (Nat.le_refl _) (Nat.le_refl _) ?_
      exact ⟨_, rfl, rfl, by unfold rc_ha; rw [if_pos (by omega)], by unfold rc_hear; rw [if_pos (by omega)]; exact hM0, hF⟩
  obtain ⟨F, bl, bh, hM, hR⟩ := id hM0
  have hM : MC dA h m0 S.1.length S.2.1.length bl bh (sp_sh S).length F := hM
  have hRV := hR.rv hr
  refine fv_iload_n C d_M_hear_0 (n := 1) rfl (i := 2) rfl rfl ?_
  refine fv_aload_n C d_M_hear_1 (n := 2) rfl (i := 0) rfl rfl ?_
  refine fv_get C (fl_M_71 D dA) d_M_hear_2 (n := 5) rfl hM.1 rfl ?_
  refine fv_iload_n C d_M_hear_5 (n := 6) rfl (i := 1) rfl rfl ?_
  refine fv_ialdN C (t0 := 0) rfl d_M_hear_6 (n := 7) rfl (mc_21 hM) (by omega) (by decide) ?_
  rw [hRV.2.2.1]
  refine fv_icmpN_le C (by omega) (by omega) d_M_hear_7 (tgt := 17) rfl (n := 10) rfl (fun hc7 => ?_) (fun hc7 => ?_)
  · have e9 : rc_hg R p = R := by unfold rc_hg; rw [if_neg (by omega)]
    first | exact rest h (by rw [e9]; exact hM0) (fs_rf _ _) | exact rest _ (by rw [e9]; exact ⟨F1, bl, bh, hM, mr_rcv hr hI hR (fun k hk => g2 k (by omega)) (OT.one g1 g2 (fun e => by omega) (fun e => by omega) (fun e => by omega) (fun e => by omega)) (fun hv => rv_hg hv g1 g2)⟩) f1
  · have e9 : rc_hg R p = (R.1, p, R.2.2) := by unfold rc_hg; rw [if_pos (by omega)]
    refine fv_aload_n C d_M_hear_10 (n := 11) rfl (i := 0) rfl rfl ?_
    refine fv_get C (fl_M_71 D dA) d_M_hear_11 (n := 14) rfl hM.1 rfl ?_
    refine fv_iload_n C d_M_hear_14 (n := 15) rfl (i := 1) rfl rfl ?_
    refine fv_iload_n C d_M_hear_15 (n := 16) rfl (i := 2) rfl rfl ?_
    refine mc_ia C 21 (by decide) (by decide) rfl d_M_hear_16 (n := 17) rfl hM hBs (by decide) (show _ < 2 by omega) (fun h1 F1 hM g1 g2 f1 => ?_)
    first | exact rest h (by rw [e9]; exact hM0) (fs_rf _ _) | exact rest _ (by rw [e9]; exact ⟨F1, bl, bh, hM, mr_rcv hr hI hR (fun k hk => g2 k (by omega)) (OT.one g1 g2 (fun e => by omega) (fun e => by omega) (fun e => by omega) (fun e => by omega)) (fun hv => rv_hg hv g1 g2)⟩) f1
end MD7
