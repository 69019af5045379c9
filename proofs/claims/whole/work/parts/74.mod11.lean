/-! FeedDeskModel: snapshots heard -/
theorem fl_step {l : List Nat} (hn : l.Nodup) (q : Nat) : (l.filter (fun x => decide (q < x))).erase (q + 1) = l.filter (fun x => decide (q + 1 < x)) := by
  rw [List.Nodup.erase_eq_filter (hn.filter _), List.filter_filter]
  apply List.filter_congr
  intro x _
  rw [Bool.eq_iff_iff]
  simp only [Bool.and_eq_true, bne_iff_ne, ne_eq, decide_eq_true_eq]
  omega
theorem fl_id {l : List Nat} {q : Nat} (h : ∀ x ∈ l, q < x) : l.filter (fun x => decide (q < x)) = l := List.filter_eq_self.mpr (fun x hx => decide_eq_true (h x hx))
def rc_ns (R : rc_T) (i cov : Nat) : rc_T := (R.1, R.2.1, R.2.2.1, rc_kp R, rc_ap R, rc_hl R, rc_rw R, va_up (rc_nd R) i (rs_nd (rc_nd R i) cov))
theorem rc_rs_eq (log : List bo_E) (R : rc_T) (i ns cov : Nat) : rc_rs log R i ns cov = rc_set (rc_ns R i cov) i (rs_t log i ns (rc_tr R i)) := rfl
section MD11
variable {l : Launch} {D : va_G} {dA : Nat → ClassId} {Bs sz : Nat} {h : fv_H} {m0 : Nat} {S : sp_T}
theorem ct_M_pieces {m : Nat} {q : Nat × Nat × Nat} (hBs : Bs ≤ m0) (hM0 : RM dA h m0 S) (hI : sp_I S) (hm1 : 1 ≤ m) (hm2 : m ≤ 512) (hq : (sp_sh S)[m - 1]? = some q) : fv_T l (fk D dA) Bs WA m_M_pieces [.ref m0, .int (nI m)] sz h 0 0 (fp_i sz (fun r0 h' => r0 = nI (sn_pcs (fe_bk S.1 q.1 q.2.1).1.length) ∧ RM dA h' m0 (S) ∧ fs h h' (MS m0))) := by
  obtain ⟨F, bl, bh, hM, hR⟩ := id hM0
  have hF : fs h h (MS m0) := fs_rf _ _
  have hl4 := hI.2.1.1
  have hel := fe_ends_len hI.2.2.1
  obtain ⟨a1, a2, a3⟩ := hI.2.2.2.2 _ _ hq
  obtain ⟨s1, s2, s3⟩ := hR.2.2.2.2.1 _ _ hq
  rw [Nat.sub_add_cancel hm1] at s1 s2 s3
  have hlen : q.2.1 ≤ 400 := Nat.le_trans a2 (Nat.le_trans (fe_li_len S.1 q.1) hl4)
  refine fv_of (L := [_, _]) (by decide +kernel) rfl (Nat.le_of_ble_eq_true rfl) rfl ?_
  intro X hX C
  subst hX
  refine fv_aload_n C d_M_pieces_0 (n := 1) rfl (i := 0) rfl rfl ?_
  refine fv_aload_n C d_M_pieces_1 (n := 2) rfl (i := 0) rfl rfl ?_
  refine fv_get C (fl_M_80 D dA) d_M_pieces_2 (n := 5) rfl hM.1 rfl ?_
  refine fv_iload_n C d_M_pieces_5 (n := 6) rfl (i := 1) rfl rfl ?_
  refine fv_ialdN C (t0 := 0) rfl d_M_pieces_6 (n := 7) rfl (mc_24 hM) (by omega) (by decide) ?_
  rw [s1]
  refine fv_aload_n C d_M_pieces_7 (n := 8) rfl (i := 0) rfl rfl ?_
  refine fv_get C (fl_M_83 D dA) d_M_pieces_8 (n := 11) rfl hM.1 rfl ?_
  refine fv_iload_n C d_M_pieces_11 (n := 12) rfl (i := 1) rfl rfl ?_
  refine fv_ialdN C (t0 := 0) rfl d_M_pieces_12 (n := 13) rfl (mc_25 hM) (by omega) (by decide) ?_
  rw [s2]
  refine fv_callV_v C (ml_M_144 D dA) im_M_goOver se_M_goOver hM.1 rfl (ct_M_goOver hBs hM hR.1 hI.1 hI.2.1 (by omega) hlen) d_M_pieces_13 (n := 16) rfl rfl rfl rfl (Nat.le_of_ble_eq_true rfl) (Nat.le_of_ble_eq_true rfl) (Nat.le_of_ble_eq_true rfl) (Nat.le_refl _) (Nat.le_refl _) (fun h1 hp => ?_)
  obtain ⟨⟨F1, hM, hA, hK⟩, f1⟩ := hp
  have hF := hF.tr f1 (U := MS m0) (fun x hx => hx) (fun x hx => hx)
  have hR1 := hR.ke (hK.tr (KE.rf 10 15 F1) (by decide) (by decide) (by decide) (by decide))
  have hw1 : bo_wf (fe_bk S.1 q.1 q.2.1).1 := by have := go_wf hI.1 q.1 q.2.1 S.1.length; rw [List.take_length] at this; exact this
  have h24 := hw1.2.2.2
  refine fv_aload_n C d_M_pieces_16 (n := 17) rfl (i := 0) rfl rfl ?_
  refine fv_get C (fl_M_106 D dA) d_M_pieces_17 (n := 20) rfl hM.1 rfl ?_
  refine fv_ifN_ne C (by omega) d_M_pieces_20 (tgt := 27) rfl (n := 23) rfl (fun hc20 => ?_) (fun hc20 => ?_)
  · have hp : sn_pcs (fe_bk S.1 q.1 q.2.1).1.length = ((fe_bk S.1 q.1 q.2.1).1.length + 2) / 3 := if_neg hc20
    refine fv_aload_n C d_M_pieces_27 (n := 28) rfl (i := 0) rfl rfl ?_
    refine fv_get C (fl_M_106 D dA) d_M_pieces_28 (n := 31) rfl hM.1 rfl ?_
    refine fv_iconst C d_M_pieces_31 (n := 32) rfl kI_2 ?_
    first | refine fv_iaddN C d_M_pieces_32 (n := 33) rfl ?_ | refine fv_iadd C d_M_pieces_32 (n := 33) rfl ?_
    refine fv_iconst C d_M_pieces_33 (n := 34) rfl kI_3 ?_
    refine fv_idivN C (by omega) (by omega) (by omega) d_M_pieces_34 (n := 35) rfl ?_
    refine fv_iret C rfl d_M_pieces_35 (Nat.le_refl _) (Nat.le_refl _) ?_
    exact ⟨_, rfl, rfl, by rw [hp], ⟨F1, _, _, hM, hR1⟩, hF⟩
  · have hp : sn_pcs (fe_bk S.1 q.1 q.2.1).1.length = 1 := if_pos hc20
    refine fv_iconst C d_M_pieces_23 (n := 24) rfl kI_1 ?_
    refine fv_goto C d_M_pieces_24 (tgt := 35) rfl ?_
    refine fv_iret C rfl d_M_pieces_35 (Nat.le_refl _) (Nat.le_refl _) ?_
    exact ⟨_, rfl, rfl, by rw [hp], ⟨F1, _, _, hM, hR1⟩, hF⟩
theorem ct_M_hearSnapshot {x r y : Int32} (hsc : (sp_sh S).length ≤ 512) (hBs : Bs ≤ m0) (hM0 : RM dA h m0 S) (hI : sp_I S) : fv_T l (fk D dA) Bs WA m_M_hearSnapshot [.ref m0, .int x, .int r, .int y] sz h 0 0 (fp_i sz (fun r0 h' => r0 = sp_hsA S x r y ∧ RM dA h' m0 (sp_hsS S x r y) ∧ fs h h' (MS m0))) := by
  obtain ⟨F, bl, bh, hM, hR⟩ := id hM0
  have hF : fs h h (MS m0) := fs_rf _ _
  have hl4 := hI.2.1.1
  have hel := fe_ends_len hI.2.2.1
  refine fv_of (L := [_, _, _, _, _, _, _, _]) (by decide +kernel) rfl (Nat.le_of_ble_eq_true rfl) rfl ?_
  intro X hX C
  subst hX
  refine fv_iload_n C d_M_hearSnapshot_0 (n := 1) rfl (i := 2) rfl rfl ?_
  refine fv_callS_r C (ml_M_192 D dA) sm_M_isReceiver ct_M_isReceiver d_M_hearSnapshot_1 (n := 4) rfl rfl rfl rfl (Nat.le_of_ble_eq_true rfl) (Nat.le_of_ble_eq_true rfl) (Nat.le_of_ble_eq_true rfl) (Nat.le_refl _) (Nat.le_refl _) ?_
  refine fv_ifB_eq C d_M_hearSnapshot_4 (tgt := 31) rfl (n := 7) rfl (fun hc4 => ?_) (fun hc4 => ?_)
  · have hbad : ¬ (fe_hr x (sp_sh S).length && iv r 0 1) = true := by simp [hc4]
    refine fv_bipush C d_M_hearSnapshot_31 (n := 33) rfl kB_m2 ?_
    refine fv_iret C rfl d_M_hearSnapshot_33 (Nat.le_refl _) (Nat.le_refl _) ?_
    exact ⟨_, rfl, rfl, by unfold sp_hsA; rw [if_neg hbad], by unfold sp_hsS; rw [if_neg hbad]; exact hM0, fs_rf _ _⟩
  · refine fv_iload_n C d_M_hearSnapshot_7 (n := 8) rfl (i := 1) rfl rfl ?_
    refine fv_iconst C d_M_hearSnapshot_8 (n := 9) rfl kI_1 ?_
    refine fv_icmp_lt C d_M_hearSnapshot_9 (tgt := 31) rfl (n := 12) rfl (fun hc9 => ?_) (fun hc9 => ?_)
    · have hx9 : fe_hr x (sp_sh S).length = false := decide_eq_false (fun q => absurd hc9 (Int32.not_lt.mpr q.1))
      have hbad : ¬ (fe_hr x (sp_sh S).length && iv r 0 1) = true := by simp [hx9]
      refine fv_bipush C d_M_hearSnapshot_31 (n := 33) rfl kB_m2 ?_
      refine fv_iret C rfl d_M_hearSnapshot_33 (Nat.le_refl _) (Nat.le_refl _) ?_
      exact ⟨_, rfl, rfl, by unfold sp_hsA; rw [if_neg hbad], by unfold sp_hsS; rw [if_neg hbad]; exact hM0, fs_rf _ _⟩
    · refine fv_iload_n C d_M_hearSnapshot_12 (n := 13) rfl (i := 1) rfl rfl ?_
      refine fv_aload_n C d_M_hearSnapshot_13 (n := 14) rfl (i := 0) rfl rfl ?_
      refine fv_get C (fl_M_201 D dA) d_M_hearSnapshot_14 (n := 17) rfl hM.1 rfl ?_
      refine fv_icmp_gt C d_M_hearSnapshot_17 (tgt := 31) rfl (n := 20) rfl (fun hc17 => ?_) (fun hc17 => ?_)
      · have hx9 : fe_hr x (sp_sh S).length = false := decide_eq_false (fun q => absurd hc17 (Int32.not_lt.mpr q.2.1))
        have hbad : ¬ (fe_hr x (sp_sh S).length && iv r 0 1) = true := by simp [hx9]
        refine fv_bipush C d_M_hearSnapshot_31 (n := 33) rfl kB_m2 ?_
        refine fv_iret C rfl d_M_hearSnapshot_33 (Nat.le_refl _) (Nat.le_refl _) ?_
        exact ⟨_, rfl, rfl, by unfold sp_hsA; rw [if_neg hbad], by unfold sp_hsS; rw [if_neg hbad]; exact hM0, fs_rf _ _⟩
      · refine fv_iload_n C d_M_hearSnapshot_20 (n := 21) rfl (i := 1) rfl rfl ?_
        refine fv_aload_n C d_M_hearSnapshot_21 (n := 22) rfl (i := 0) rfl rfl ?_
        refine fv_get C (fl_M_201 D dA) d_M_hearSnapshot_22 (n := 25) rfl hM.1 rfl ?_
        refine fv_bipush C d_M_hearSnapshot_25 (n := 27) rfl kB_8 ?_
        refine fv_isub C d_M_hearSnapshot_27 (n := 28) rfl ?_
        refine fv_icmp_gt C d_M_hearSnapshot_28 (tgt := 34) rfl (n := 31) rfl (fun hc28 => ?_) (fun hc28 => ?_)
        · have hx9 : fe_hr x (sp_sh S).length = true := decide_eq_true ⟨Int32.not_lt.mp hc9, Int32.not_lt.mp hc17, hc28⟩
          have hgood : (fe_hr x (sp_sh S).length && iv r 0 1) = true := by simp [hx9, hc4]
          obtain ⟨k, -, hk, rfl⟩ := iv_of (by decide) (by decide) hc4
          have hcl : (nI k).toNatClampNeg = k := nI_clamp (by omega)
          have hRI := hI.2.2.2.1 k (by omega)
          obtain ⟨m, hm1, hm2, hm3, rfl⟩ := fe_hr_of (by omega) hx9
          have hqm := sp_q_at hm1 hm2 (by omega)
          obtain ⟨a1, a2, a3⟩ := hI.2.2.2.2 _ _ hqm
          refine fv_iload_n C d_M_hearSnapshot_34 (n := 35) rfl (i := 3) rfl rfl ?_
          refine fv_iconst C d_M_hearSnapshot_35 (n := 36) rfl kI_1 ?_
          refine fv_aload_n C d_M_hearSnapshot_36 (n := 37) rfl (i := 0) rfl rfl ?_
          refine fv_iload_n C d_M_hearSnapshot_37 (n := 38) rfl (i := 1) rfl rfl ?_
          refine fv_callV_i C (ml_M_204 D dA) im_M_pieces se_M_pieces hM.1 rfl (ct_M_pieces hBs hM0 hI hm1 (by omega) hqm) d_M_hearSnapshot_38 (n := 41) rfl rfl rfl rfl (Nat.le_of_ble_eq_true rfl) (Nat.le_of_ble_eq_true rfl) (Nat.le_of_ble_eq_true rfl) (Nat.le_refl _) (Nat.le_refl _) (fun r0 h1 hp => ?_)
          obtain ⟨rfl, hM1, f1⟩ := hp
          have hF := hF.tr f1 (U := MS m0) (fun x hx => hx) (fun x hx => hx)
          refine fv_callS_r C (ml_M_101 D dA) sm_M_within ct_M_within d_M_hearSnapshot_41 (n := 44) rfl rfl rfl rfl (Nat.le_of_ble_eq_true rfl) (Nat.le_of_ble_eq_true rfl) (Nat.le_of_ble_eq_true rfl) (Nat.le_refl _) (Nat.le_refl _) ?_
          refine fv_ifB_eq C d_M_hearSnapshot_44 (tgt := 49) rfl (n := 47) rfl (fun hc44 => ?_) (fun hc44 => ?_)
          · have hph2 : ¬ sp_hp S (nI m) y = true := fun q => absurd (hc44.symm.trans q) (by decide)
            generalize hqe : sp_q S (nI m) = q at *
            have hq4 : q.1 < 4 := by omega
            have hA9 : sp_hsA S (nI m) (nI k) y = nI (rs_a (rc_nd (sp_R S k) q.1) q.2.2 (rc_ap (sp_R S k) q.1) q.2.1) := by unfold sp_hsA; rw [if_pos hgood, if_neg hph2, hcl, hqe]
            have hS9 : sp_hsS S (nI m) (nI k) y = sp_setR S k (rc_rs S.1 (sp_R S k) q.1 q.2.1 q.2.2) := by unfold sp_hsS; rw [if_pos hgood, if_neg hph2, hcl, hqe]
            rw [hA9, hS9]
            have hM2 := hM1.at k
            obtain ⟨⟨w1, w2, w3, w4, w5, w6⟩, -, -⟩ := hRI
            generalize sp_R S k = R at *
            have hT := w5 q.1 hq4
            have hnd := w6 q.1 hq4
            have hlen : q.2.1 ≤ 400 := Nat.le_trans a2 (Nat.le_trans (fe_li_len S.1 q.1) hl4)
            have hap : rc_ap R q.1 ≤ 400 := Nat.le_trans hT.1 (Nat.le_trans (fe_li_len S.1 q.1) hl4)
            have t111 : ∀ (h2 : fv_H), RM dA h2 m0 (sp_setR S k (rc_ns R q.1 q.2.2)) → fs h h2 (MS m0) → fv_V (fk D dA) Bs X 8 (fv_MQ (fk D dA) Bs X (fp_i sz (fun r0 h' => r0 = nI (rs_a (rc_nd R q.1) q.2.2 (rc_ap R q.1) q.2.1) ∧ RM dA h' m0 (sp_setR S k (rc_rs S.1 R q.1 q.2.1 q.2.2)) ∧ fs h h' (MS m0))) 0 0) 111 [some (.ref m0), some (.int (nI m)), some (.int (nI k)), some (.int y), some (.int (nI q.1)), some (.int (nI (4 * k + q.1))), some (.int (fv_b (rs_cv (rc_nd R q.1) q.2.2))), none] [] sz h2 0 0 := by
              intro h2 hM3 hF
              obtain ⟨F, bl, bh, hM, hR⟩ := id hM3
              have hM : MC dA h2 m0 S.1.length S.2.1.length bl bh (sp_sh S).length F := hM
              have hRV := hR.rv (show k < 2 by omega)
              obtain ⟨s1, s2, s3⟩ := hR.2.2.2.2.1 _ _ hqm
              rw [Nat.sub_add_cancel hm1] at s1 s2 s3
              obtain ⟨v1, v2, v3, v4⟩ := hRV.1 q.1 hq4
              have v1 : F 16 (4 * k + q.1) = nI (rc_ap R q.1) := v1
              have loop : rc_ap R q.1 < q.2.1 → ∀ z p (h3 : fv_H), p + z = q.2.1 → rc_ap R q.1 ≤ p → RM dA h3 m0 (sp_setR S k (rc_set (rc_ns R q.1 q.2.2) q.1 (rc_ap R q.1, (rc_hl R q.1).filter (fun x => decide (p < x)), rc_rw R))) → fs h h3 (MS m0) → fv_V (fk D dA) Bs X 8 (fv_MQ (fk D dA) Bs X (fp_i sz (fun r0 h' => r0 = nI (rs_a (rc_nd R q.1) q.2.2 (rc_ap R q.1) q.2.1) ∧ RM dA h' m0 (sp_setR S k (rc_rs S.1 R q.1 q.2.1 q.2.2)) ∧ fs h h' (MS m0))) 0 0) 149 [some (.ref m0), some (.int (nI m)), some (.int (nI k)), some (.int y), some (.int (nI q.1)), some (.int (nI (4 * k + q.1))), some (.int (fv_b (rs_cv (rc_nd R q.1) q.2.2))), some (.int (nI (p + 1)))] [] sz h3 0 0 := by
                intro hlt z
                induction z with
                | zero =>
                  intro p h3 hp hpl hM4 hF
                  have hpe : p = q.2.1 := by omega
                  subst hpe
                  obtain ⟨F, bl, bh, hM, hR⟩ := id hM4
                  have hM : MC dA h3 m0 S.1.length S.2.1.length bl bh (sp_sh S).length F := hM
                  have hRV := hR.rv (show k < 2 by omega)
                  obtain ⟨s1, s2, s3⟩ := hR.2.2.2.2.1 _ _ hqm
                  rw [Nat.sub_add_cancel hm1] at s1 s2 s3
                  obtain ⟨v1, v2, v3, v4⟩ := hRV.1 q.1 hq4
                  refine fv_iload C d_M_hearSnapshot_149 (n := 151) rfl rfl ?_
                  refine fv_aload_n C d_M_hearSnapshot_151 (n := 152) rfl (i := 0) rfl rfl ?_
                  refine fv_get C (fl_M_83 D dA) d_M_hearSnapshot_152 (n := 155) rfl hM.1 rfl ?_
                  refine fv_iload_n C d_M_hearSnapshot_155 (n := 156) rfl (i := 1) rfl rfl ?_
                  refine fv_ialdN C (t0 := 0) rfl d_M_hearSnapshot_156 (n := 157) rfl (mc_25 hM) (by omega) (by decide) ?_
                  rw [s2]
                  refine fv_icmpN_gt C (by omega) (by omega) d_M_hearSnapshot_157 (tgt := 174) rfl (n := 160) rfl (fun hc157 => ?_) (fun hc157 => ?_)
                  · refine fv_aload_n C d_M_hearSnapshot_174 (n := 175) rfl (i := 0) rfl rfl ?_
                    refine fv_iload_n C d_M_hearSnapshot_175 (n := 176) rfl (i := 2) rfl rfl ?_
                    refine fv_iload C d_M_hearSnapshot_176 (n := 178) rfl rfl ?_
                    refine fv_aload_n C d_M_hearSnapshot_178 (n := 179) rfl (i := 0) rfl rfl ?_
                    refine fv_get C (fl_M_83 D dA) d_M_hearSnapshot_179 (n := 182) rfl hM.1 rfl ?_
                    refine fv_iload_n C d_M_hearSnapshot_182 (n := 183) rfl (i := 1) rfl rfl ?_
                    refine fv_ialdN C (t0 := 0) rfl d_M_hearSnapshot_183 (n := 184) rfl (mc_25 hM) (by omega) (by decide) ?_
                    rw [s2]
                    refine fv_callV_v C (ml_M_176 D dA) im_M_become se_M_become hM.1 rfl (ct_M_become (m := q.2.1) hBs (by omega) hM4 hI hq4 (by show va_up _ _ _ _ ≤ 400; rw [va_up_self]; exact hap) hlen hT.2.2.2.2.1 hT.2.2.2.2.2) d_M_hearSnapshot_184 (n := 187) rfl rfl rfl rfl (Nat.le_of_ble_eq_true rfl) (Nat.le_of_ble_eq_true rfl) (Nat.le_of_ble_eq_true rfl) (Nat.le_refl _) (Nat.le_refl _) (fun h4 hp2 => ?_)
                    obtain ⟨hM5, f1⟩ := hp2
                    have hF := hF.tr f1 (U := MS m0) (fun x hx => hx) (fun x hx => hx)
                    obtain ⟨F, bl, bh, hM, hR⟩ := id hM5
                    have hM : MC dA h4 m0 S.1.length S.2.1.length bl bh (sp_sh S).length F := hM
                    have hRV := hR.rv (show k < 2 by omega)
                    obtain ⟨s1, s2, s3⟩ := hR.2.2.2.2.1 _ _ hqm
                    rw [Nat.sub_add_cancel hm1] at s1 s2 s3
                    obtain ⟨v1, v2, v3, v4⟩ := hRV.1 q.1 hq4
                    refine fv_aload_n C d_M_hearSnapshot_187 (n := 188) rfl (i := 0) rfl rfl ?_
                    refine fv_iload_n C d_M_hearSnapshot_188 (n := 189) rfl (i := 2) rfl rfl ?_
                    refine fv_iload C d_M_hearSnapshot_189 (n := 191) rfl rfl ?_
                    refine fv_callV_v C (ml_M_180 D dA) im_M_follow se_M_follow hM.1 rfl (ct_M_follow hBs (by omega) hM5 hI hq4 (by rw [rc_tr_set, rc_tr_set]; exact tr_bec_J hq4 a2 ⟨hT.1, hT.2.1.filter _, fun n hn => ⟨by have h9 : rc_ap R q.1 + 1 < n := (hT.2.2.1 n (List.mem_filter.mp hn).1).1; exact Nat.lt_of_succ_lt h9, (hT.2.2.1 n (List.mem_filter.mp hn).1).2⟩, Nat.le_trans (List.length_filter_le _ _) hT.2.2.2.1, hT.2.2.2.2⟩ (fun n hn => by simpa using (List.mem_filter.mp hn).2))) d_M_hearSnapshot_191 (n := 194) rfl rfl rfl rfl (Nat.le_of_ble_eq_true rfl) (Nat.le_of_ble_eq_true rfl) (Nat.le_of_ble_eq_true rfl) (Nat.le_refl _) (Nat.le_refl _) (fun h5 hp2 => ?_)
                    obtain ⟨hM6, f1⟩ := hp2
                    have hF := hF.tr f1 (U := MS m0) (fun x hx => hx) (fun x hx => hx)
                    refine fv_iconst C d_M_hearSnapshot_194 (n := 195) rfl kI_1 ?_
                    refine fv_iret C rfl d_M_hearSnapshot_195 (Nat.le_refl _) (Nat.le_refl _) ?_
                    refine ⟨_, rfl, rfl, by unfold rs_a; rw [if_pos hlt], ?_, hF⟩
                    rw [rc_rs_eq]
                    rw [rc_set_set, rc_set_set, rc_tr_set, rc_tr_set] at hM6
                    have e8 : rs_t S.1 q.1 q.2.1 (rc_tr R q.1) = tr_fol S.1 q.1 ((rc_hl R q.1).filter (fun x => decide (q.2.1 < x))).length (tr_bec S.1 q.1 q.2.1 (rc_ap R q.1, (rc_hl R q.1).filter (fun x => decide (q.2.1 < x)), rc_rw R)) := if_pos hlt
                    rw [e8]
                    rw [rc_set_set] at hM6
                    have e7 : rc_hl (rc_set (rc_ns R q.1 q.2.2) q.1 (tr_bec S.1 q.1 q.2.1 (rc_ap R q.1, (rc_hl R q.1).filter (fun x => decide (q.2.1 < x)), rc_rw R))) q.1 = (rc_hl R q.1).filter (fun x => decide (q.2.1 < x)) := by show va_up _ _ _ _ = _; rw [va_up_self]; rfl
                    rw [e7] at hM6
                    exact hM6
                  · exact absurd hc157 (by omega)
                | succ z ih =>
                  intro p h3 hp hpl hM4 hF
                  obtain ⟨F, bl, bh, hM, hR⟩ := id hM4
                  have hM : MC dA h3 m0 S.1.length S.2.1.length bl bh (sp_sh S).length F := hM
                  have hRV := hR.rv (show k < 2 by omega)
                  obtain ⟨s1, s2, s3⟩ := hR.2.2.2.2.1 _ _ hqm
                  rw [Nat.sub_add_cancel hm1] at s1 s2 s3
                  obtain ⟨v1, v2, v3, v4⟩ := hRV.1 q.1 hq4
                  refine fv_iload C d_M_hearSnapshot_149 (n := 151) rfl rfl ?_
                  refine fv_aload_n C d_M_hearSnapshot_151 (n := 152) rfl (i := 0) rfl rfl ?_
                  refine fv_get C (fl_M_83 D dA) d_M_hearSnapshot_152 (n := 155) rfl hM.1 rfl ?_
                  refine fv_iload_n C d_M_hearSnapshot_155 (n := 156) rfl (i := 1) rfl rfl ?_
                  refine fv_ialdN C (t0 := 0) rfl d_M_hearSnapshot_156 (n := 157) rfl (mc_25 hM) (by omega) (by decide) ?_
                  rw [s2]
                  refine fv_icmpN_gt C (by omega) (by omega) d_M_hearSnapshot_157 (tgt := 174) rfl (n := 160) rfl (fun hc157 => ?_) (fun hc157 => ?_)
                  · exact absurd hc157 (by omega)
                  · refine fv_aload_n C d_M_hearSnapshot_160 (n := 161) rfl (i := 0) rfl rfl ?_
                    refine fv_iload C d_M_hearSnapshot_161 (n := 163) rfl rfl ?_
                    refine fv_iload C d_M_hearSnapshot_163 (n := 165) rfl rfl ?_
                    refine fv_callV_v C (ml_M_173 D dA) im_M_release se_M_release hM.1 rfl (ct_M_release (i := q.1) (n := p + 1) hBs (by omega) hM4 hI hq4 (by omega) (by show List.Nodup (va_up _ _ _ _); rw [va_up_self]; exact hT.2.1.filter _) (by show List.length (va_up _ _ _ _) ≤ 30; rw [va_up_self]; exact Nat.le_trans (List.length_filter_le _ _) hT.2.2.2.1)) d_M_hearSnapshot_165 (n := 168) rfl rfl rfl rfl (Nat.le_of_ble_eq_true rfl) (Nat.le_of_ble_eq_true rfl) (Nat.le_of_ble_eq_true rfl) (Nat.le_refl _) (Nat.le_refl _) (fun h4 hp2 => ?_)
                    obtain ⟨hM5, f1⟩ := hp2
                    have hF := hF.tr f1 (U := MS m0) (fun x hx => hx) (fun x hx => hx)
                    refine fv_iincN C d_M_hearSnapshot_168 (n := 171) rfl rfl (by decide) (L' := [_, _, _, _, _, _, _, _]) rfl ?_
                    refine fv_goto C d_M_hearSnapshot_171 (tgt := 149) rfl ?_
                    refine ih (p + 1) _ (by omega) (by omega) ?_ hF
                    rw [rc_rel_eq, rc_set_set] at hM5
                    have e7 : rc_hl (rc_set (rc_ns R q.1 q.2.2) q.1 (rc_ap R q.1, (rc_hl R q.1).filter (fun x => decide (p < x)), rc_rw R)) q.1 = (rc_hl R q.1).filter (fun x => decide (p < x)) := by show va_up _ _ _ _ = _; rw [va_up_self]
                    have e6 : rc_ap (rc_set (rc_ns R q.1 q.2.2) q.1 (rc_ap R q.1, (rc_hl R q.1).filter (fun x => decide (p < x)), rc_rw R)) q.1 = rc_ap R q.1 := by show va_up _ _ _ _ = _; rw [va_up_self]
                    have hnd9 : (rc_hl R q.1).Nodup := hT.2.1
                    rw [e6, e7, fl_step hnd9] at hM5
                    exact hM5
              refine fv_aload_n C d_M_hearSnapshot_111 (n := 112) rfl (i := 0) rfl rfl ?_
              refine fv_get C (fl_M_83 D dA) d_M_hearSnapshot_112 (n := 115) rfl hM.1 rfl ?_
              refine fv_iload_n C d_M_hearSnapshot_115 (n := 116) rfl (i := 1) rfl rfl ?_
              refine fv_ialdN C (t0 := 0) rfl d_M_hearSnapshot_116 (n := 117) rfl (mc_25 hM) (by omega) (by decide) ?_
              rw [s2]
              refine fv_aload_n C d_M_hearSnapshot_117 (n := 118) rfl (i := 0) rfl rfl ?_
              refine fv_get C (fl_M_55 D dA) d_M_hearSnapshot_118 (n := 121) rfl hM.1 rfl ?_
              refine fv_iload C d_M_hearSnapshot_121 (n := 123) rfl rfl ?_
              refine fv_ialdN C (t0 := 0) rfl d_M_hearSnapshot_123 (n := 124) rfl (mc_16 hM) (by omega) (by decide) ?_
              rw [v1]
              refine fv_icmpN_gt C (by omega) (by omega) d_M_hearSnapshot_124 (tgt := 138) rfl (n := 127) rfl (fun hc124 => ?_) (fun hc124 => ?_)
              · have hlt : rc_ap R q.1 < q.2.1 := by omega
                refine fv_aload_n C d_M_hearSnapshot_138 (n := 139) rfl (i := 0) rfl rfl ?_
                refine fv_get C (fl_M_55 D dA) d_M_hearSnapshot_139 (n := 142) rfl hM.1 rfl ?_
                refine fv_iload C d_M_hearSnapshot_142 (n := 144) rfl rfl ?_
                refine fv_ialdN C (t0 := 0) rfl d_M_hearSnapshot_144 (n := 145) rfl (mc_16 hM) (by omega) (by decide) ?_
                rw [v1]
                refine fv_iconst C d_M_hearSnapshot_145 (n := 146) rfl kI_1 ?_
                first | refine fv_iaddN C d_M_hearSnapshot_146 (n := 147) rfl ?_ | refine fv_iadd C d_M_hearSnapshot_146 (n := 147) rfl ?_
                refine fv_istore C d_M_hearSnapshot_147 (n := 149) rfl (by decide) (L' := [_, _, _, _, _, _, _, _]) rfl ?_
                refine loop hlt (q.2.1 - rc_ap R q.1) (rc_ap R q.1) _ (by omega) (Nat.le_refl _) ?_ hF
                rw [fl_id (fun x hx => by have h9 : rc_ap R q.1 + 1 < x := (hT.2.2.1 x hx).1; omega)]
                have e5 : rc_set (rc_ns R q.1 q.2.2) q.1 (rc_ap R q.1, rc_hl R q.1, rc_rw R) = rc_ns R q.1 q.2.2 := rc_set_id (rc_ns R q.1 q.2.2) q.1
                rw [e5]
                exact hM3
              · have hge : ¬ rc_ap R q.1 < q.2.1 := by omega
                have hfin : RM dA h2 m0 (sp_setR S k (rc_rs S.1 R q.1 q.2.1 q.2.2)) := by
                  rw [rc_rs_eq, show rs_t S.1 q.1 q.2.1 (rc_tr R q.1) = rc_tr (rc_ns R q.1 q.2.2) q.1 from if_neg hge, rc_set_id]
                  exact hM3
                refine fv_iload C d_M_hearSnapshot_127 (n := 129) rfl rfl ?_
                refine fv_ifB_eq C d_M_hearSnapshot_129 (tgt := 136) rfl (n := 132) rfl (fun hc129 => ?_) (fun hc129 => ?_)
                · have ha : rs_a (rc_nd R q.1) q.2.2 (rc_ap R q.1) q.2.1 = 0 := by unfold rs_a; rw [if_neg hge, hc129]; rfl
                  refine fv_iconst C d_M_hearSnapshot_136 (n := 137) rfl kI_0 ?_
                  refine fv_iret C rfl d_M_hearSnapshot_137 (Nat.le_refl _) (Nat.le_refl _) ?_
                  exact ⟨_, rfl, rfl, by rw [ha], hfin, hF⟩
                · have ha : rs_a (rc_nd R q.1) q.2.2 (rc_ap R q.1) q.2.1 = 2 := by unfold rs_a; rw [if_neg hge, hc129]; rfl
                  refine fv_iconst C d_M_hearSnapshot_132 (n := 133) rfl kI_2 ?_
                  refine fv_goto C d_M_hearSnapshot_133 (tgt := 137) rfl ?_
                  refine fv_iret C rfl d_M_hearSnapshot_137 (Nat.le_refl _) (Nat.le_refl _) ?_
                  exact ⟨_, rfl, rfl, by rw [ha], hfin, hF⟩
            have t96 : ∀ b6, b6 = rs_cv (rc_nd R q.1) q.2.2 → fv_V (fk D dA) Bs X 8 (fv_MQ (fk D dA) Bs X (fp_i sz (fun r0 h' => r0 = nI (rs_a (rc_nd R q.1) q.2.2 (rc_ap R q.1) q.2.1) ∧ RM dA h' m0 (sp_setR S k (rc_rs S.1 R q.1 q.2.1 q.2.2)) ∧ fs h h' (MS m0))) 0 0) 96 [some (.ref m0), some (.int (nI m)), some (.int (nI k)), some (.int y), some (.int (nI q.1)), some (.int (nI (4 * k + q.1))), none, none] [.int (fv_b b6)] sz h1 0 0 := by
              intro b6 e6
              subst e6
              obtain ⟨F, bl, bh, hM, hR⟩ := id hM2
              have hM : MC dA h1 m0 S.1.length S.2.1.length bl bh (sp_sh S).length F := hM
              have hRV := hR.rv (show k < 2 by omega)
              obtain ⟨s1, s2, s3⟩ := hR.2.2.2.2.1 _ _ hqm
              rw [Nat.sub_add_cancel hm1] at s1 s2 s3
              obtain ⟨v1, v2, v3, v4⟩ := hRV.1 q.1 hq4
              refine fv_istore C d_M_hearSnapshot_96 (n := 98) rfl (by decide) (L' := [_, _, _, _, _, _, _, _]) rfl ?_
              refine fv_iload C d_M_hearSnapshot_98 (n := 100) rfl rfl ?_
              refine fv_ifB_eq C d_M_hearSnapshot_100 (tgt := 111) rfl (n := 103) rfl (fun hc100 => ?_) (fun hc100 => ?_)
              · have e5 : rc_ns R q.1 q.2.2 = R := by unfold rc_ns rs_nd; rw [hc100, if_neg (by decide), va_up_id]
                first | exact t111 _ (by rw [e5]; exact hM2) hF | exact t111 _ (by rw [e5]; exact ⟨F1, bl, bh, hM, mr_rcv (by omega) hI hR (fun z hz => g2 z (by omega)) (OT.one g1 g2 (fun e => by omega) (fun e => by omega) (fun e => by omega) (fun e => by omega)) (fun hv => rv_nd hq4 hv g1 g2)⟩) hF
              · have e5 : rc_ns R q.1 q.2.2 = (R.1, R.2.1, R.2.2.1, rc_kp R, rc_ap R, rc_hl R, rc_rw R, va_up (rc_nd R) q.1 0) := by unfold rc_ns rs_nd; rw [hc100, if_pos rfl]
                refine fv_aload_n C d_M_hearSnapshot_103 (n := 104) rfl (i := 0) rfl rfl ?_
                refine fv_get C (fl_M_58 D dA) d_M_hearSnapshot_104 (n := 107) rfl hM.1 rfl ?_
                refine fv_iload C d_M_hearSnapshot_107 (n := 109) rfl rfl ?_
                refine fv_iconst C d_M_hearSnapshot_109 (n := 110) rfl kI_0 ?_
                refine mc_ia C 17 (by decide) (by decide) rfl d_M_hearSnapshot_110 (n := 111) rfl hM hBs (by decide) (show _ < 8 by omega) (fun h1 F1 hM g1 g2 f1 => ?_)
                have hF := hF.tr f1 (U := MS m0) (fun x hx => hx) (fun x hx => hx)
                first | exact t111 _ (by rw [e5]; exact hM2) hF | exact t111 _ (by rw [e5]; exact ⟨F1, bl, bh, hM, mr_rcv (by omega) hI hR (fun z hz => g2 z (by omega)) (OT.one g1 g2 (fun e => by omega) (fun e => by omega) (fun e => by omega) (fun e => by omega)) (fun hv => rv_nd hq4 hv g1 g2)⟩) hF
            obtain ⟨F, bl, bh, hM, hR⟩ := id hM2
            have hM : MC dA h1 m0 S.1.length S.2.1.length bl bh (sp_sh S).length F := hM
            have hRV := hR.rv (show k < 2 by omega)
            obtain ⟨s1, s2, s3⟩ := hR.2.2.2.2.1 _ _ hqm
            rw [Nat.sub_add_cancel hm1] at s1 s2 s3
            obtain ⟨v1, v2, v3, v4⟩ := hRV.1 q.1 hq4
            refine fv_aload_n C d_M_hearSnapshot_49 (n := 50) rfl (i := 0) rfl rfl ?_
            refine fv_get C (fl_M_80 D dA) d_M_hearSnapshot_50 (n := 53) rfl hM.1 rfl ?_
            refine fv_iload_n C d_M_hearSnapshot_53 (n := 54) rfl (i := 1) rfl rfl ?_
            refine fv_ialdN C (t0 := 0) rfl d_M_hearSnapshot_54 (n := 55) rfl (mc_24 hM) (by omega) (by decide) ?_
            rw [s1]
            refine fv_istore C d_M_hearSnapshot_55 (n := 57) rfl (by decide) (L' := [_, _, _, _, _, _, _, _]) rfl ?_
            refine fv_iconst C d_M_hearSnapshot_57 (n := 58) rfl kI_4 ?_
            refine fv_iload_n C d_M_hearSnapshot_58 (n := 59) rfl (i := 2) rfl rfl ?_
            first | refine fv_imulN C d_M_hearSnapshot_59 (n := 60) rfl ?_ | refine fv_imul C d_M_hearSnapshot_59 (n := 60) rfl ?_
            refine fv_iload C d_M_hearSnapshot_60 (n := 62) rfl rfl ?_
            first | refine fv_iaddN C d_M_hearSnapshot_62 (n := 63) rfl ?_ | refine fv_iadd C d_M_hearSnapshot_62 (n := 63) rfl ?_
            refine fv_istore C d_M_hearSnapshot_63 (n := 65) rfl (by decide) (L' := [_, _, _, _, _, _, _, _]) rfl ?_
            refine fv_aload_n C d_M_hearSnapshot_65 (n := 66) rfl (i := 0) rfl rfl ?_
            refine fv_get C (fl_M_58 D dA) d_M_hearSnapshot_66 (n := 69) rfl hM.1 rfl ?_
            refine fv_iload C d_M_hearSnapshot_69 (n := 71) rfl rfl ?_
            refine fv_ialdN C (t0 := 0) rfl d_M_hearSnapshot_71 (n := 72) rfl (mc_17 hM) (by omega) (by decide) ?_
            rw [v2]
            refine fv_ifN_le C (by omega) d_M_hearSnapshot_72 (tgt := 95) rfl (n := 75) rfl (fun hc72 => ?_) (fun hc72 => ?_)
            · refine fv_iconst C d_M_hearSnapshot_95 (n := 96) rfl kI_0 ?_
              first | exact t96 false (decide_eq_false (by omega)).symm | exact t96 true (decide_eq_true ⟨by omega, by omega⟩).symm
            · refine fv_aload_n C d_M_hearSnapshot_75 (n := 76) rfl (i := 0) rfl rfl ?_
              refine fv_get C (fl_M_86 D dA) d_M_hearSnapshot_76 (n := 79) rfl hM.1 rfl ?_
              refine fv_iload_n C d_M_hearSnapshot_79 (n := 80) rfl (i := 1) rfl rfl ?_
              refine fv_ialdN C (t0 := 0) rfl d_M_hearSnapshot_80 (n := 81) rfl (mc_26 hM) (by omega) (by decide) ?_
              rw [s3]
              refine fv_aload_n C d_M_hearSnapshot_81 (n := 82) rfl (i := 0) rfl rfl ?_
              refine fv_get C (fl_M_58 D dA) d_M_hearSnapshot_82 (n := 85) rfl hM.1 rfl ?_
              refine fv_iload C d_M_hearSnapshot_85 (n := 87) rfl rfl ?_
              refine fv_ialdN C (t0 := 0) rfl d_M_hearSnapshot_87 (n := 88) rfl (mc_17 hM) (by omega) (by decide) ?_
              rw [v2]
              refine fv_icmpN_lt C (by omega) (by omega) d_M_hearSnapshot_88 (tgt := 95) rfl (n := 91) rfl (fun hc88 => ?_) (fun hc88 => ?_)
              · refine fv_iconst C d_M_hearSnapshot_95 (n := 96) rfl kI_0 ?_
                first | exact t96 false (decide_eq_false (by omega)).symm | exact t96 true (decide_eq_true ⟨by omega, by omega⟩).symm
              · refine fv_iconst C d_M_hearSnapshot_91 (n := 92) rfl kI_1 ?_
                refine fv_goto C d_M_hearSnapshot_92 (tgt := 96) rfl ?_
                first | exact t96 false (decide_eq_false (by omega)).symm | exact t96 true (decide_eq_true ⟨by omega, by omega⟩).symm
          · have hph2 : sp_hp S (nI m) y = true := hc44
            refine fv_iconst C d_M_hearSnapshot_47 (n := 48) rfl kI_0 ?_
            refine fv_iret C rfl d_M_hearSnapshot_48 (Nat.le_refl _) (Nat.le_refl _) ?_
            exact ⟨_, rfl, rfl, by unfold sp_hsA; rw [if_pos hgood, if_pos hph2], by unfold sp_hsS; rw [if_pos hgood, if_pos hph2]; exact hM1, hF⟩
        · have hx9 : fe_hr x (sp_sh S).length = false := decide_eq_false (fun q => hc28 q.2.2)
          have hbad : ¬ (fe_hr x (sp_sh S).length && iv r 0 1) = true := by simp [hx9]
          refine fv_bipush C d_M_hearSnapshot_31 (n := 33) rfl kB_m2 ?_
          refine fv_iret C rfl d_M_hearSnapshot_33 (Nat.le_refl _) (Nat.le_refl _) ?_
          exact ⟨_, rfl, rfl, by unfold sp_hsA; rw [if_neg hbad], by unfold sp_hsS; rw [if_neg hbad]; exact hM0, fs_rf _ _⟩
end MD11
