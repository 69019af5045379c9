/-! FeedDeskModel: what a receiver does with an event -/
def rc_rel (R : rc_T) (i n : Nat) : rc_T := (R.1, R.2.1, R.2.2.1, rc_kp R, rc_ap R, va_up (rc_hl R) i ((rc_hl R i).erase n), rc_rw R, rc_nd R)
theorem tr_same (f g : Nat → Int32) : (List.range 19).all (fun c => decide (f c = g c)) = !(tr_dif f g) := by
  rw [List.all_eq_not_any_not]
  unfold tr_dif
  simp
section MD6
variable {l : Launch} {D : va_G} {dA : Nat → ClassId} {Bs sz : Nat} {h : fv_H} {m0 : Nat} {S : sp_T} {r : Nat} {R : rc_T}
theorem ct_M_release {i n : Nat} (hBs : Bs ≤ m0) (hr : r < 2) (hM0 : RM dA h m0 (sp_setR S r R)) (hI : sp_I S) (hi : i < 4) (hn : n ≤ 400) (hnd : (rc_hl R i).Nodup) (h30 : (rc_hl R i).length ≤ 30) : fv_T l (fk D dA) Bs WA m_M_release [.ref m0, .int (nI (4 * r + i)), .int (nI n)] sz h 0 0 (fp_v sz (fun h' => RM dA h' m0 (sp_setR S r (rc_rel R i n)) ∧ fs h h' (MS m0))) := by
  have hM1 := hM0
  obtain ⟨F, bl, bh, hM, hR⟩ := hM1
  have hM : MC dA h m0 S.1.length S.2.1.length bl bh (sp_sh S).length F := hM
  have hRV := hR.rv hr
  have hF : fs h h (MS m0) := fs_rf _ _
  have hl4 := hI.2.1.1
  refine fv_of (L := [_, _, _]) (by decide +kernel) rfl (Nat.le_of_ble_eq_true rfl) rfl ?_
  intro X hX C
  subst hX
  refine fv_aload_n C d_M_release_0 (n := 1) rfl (i := 0) rfl rfl ?_
  refine fv_get C (fl_M_61 D dA) d_M_release_1 (n := 4) rfl hM.1 rfl ?_
  refine fv_sipush C d_M_release_4 (n := 7) rfl kS_401 ?_
  refine fv_iload_n C d_M_release_7 (n := 8) rfl (i := 1) rfl rfl ?_
  first | refine fv_imulN C d_M_release_8 (n := 9) rfl ?_ | refine fv_imul C d_M_release_8 (n := 9) rfl ?_
  refine fv_iload_n C d_M_release_9 (n := 10) rfl (i := 2) rfl rfl ?_
  first | refine fv_iaddN C d_M_release_10 (n := 11) rfl ?_ | refine fv_iadd C d_M_release_10 (n := 11) rfl ?_
  refine fv_zaldJ C d_M_release_11 (n := 12) rfl (mc_18 hM) (by omega) (by decide) ?_
  rw [(hRV.1 i hi).2.2.1 n hn]
  refine fv_ifB_eq C d_M_release_12 (tgt := 38) rfl (n := 15) rfl (fun hc12 => ?_) (fun hc12 => ?_)
  · have hx : n ∉ rc_hl R i := of_decide_eq_false hc12
    have hrel : rc_rel R i n = R := by unfold rc_rel; rw [List.erase_of_not_mem hx, va_up_id]
    refine fv_vret C rfl d_M_release_38 (Nat.le_refl _) (Nat.le_refl _) ?_
    first | exact ⟨rfl, rfl, by rw [hrel]; exact hM0, hF⟩ | (refine ⟨rfl, rfl, ⟨F2, bl, bh, hM, mr_rcv hr hI hR (fun k hk => ?_) ((OT.one g1 g2 (fun e => by omega) (fun e => by omega) (fun e => by omega) (fun e => by omega)).tr (OT.one p1 p2 (fun e => by omega) (fun e => by omega) (fun e => by omega) (fun e => by omega))) (fun hv => rv_hl hi hn hv g1 g2 p1 p2 (List.length_erase_of_mem hx).symm (fun t => ?_))⟩, hF⟩; (rw [p2 k (by omega), g2 k (by omega)]); (by_cases c : t = n; (rw [if_pos c, c]; exact decide_eq_false (List.Nodup.not_mem_erase hnd)); (rw [if_neg c]; exact decide_eq_decide.mpr (List.mem_erase_of_ne c))))
  · have hx : n ∈ rc_hl R i := of_decide_eq_true hc12
    have hpos : 0 < (rc_hl R i).length := List.length_pos_of_mem hx
    refine fv_aload_n C d_M_release_15 (n := 16) rfl (i := 0) rfl rfl ?_
    refine fv_get C (fl_M_61 D dA) d_M_release_16 (n := 19) rfl hM.1 rfl ?_
    refine fv_sipush C d_M_release_19 (n := 22) rfl kS_401 ?_
    refine fv_iload_n C d_M_release_22 (n := 23) rfl (i := 1) rfl rfl ?_
    first | refine fv_imulN C d_M_release_23 (n := 24) rfl ?_ | refine fv_imul C d_M_release_23 (n := 24) rfl ?_
    refine fv_iload_n C d_M_release_24 (n := 25) rfl (i := 2) rfl rfl ?_
    first | refine fv_iaddN C d_M_release_25 (n := 26) rfl ?_ | refine fv_iadd C d_M_release_25 (n := 26) rfl ?_
    refine fv_iconst C d_M_release_26 (n := 27) rfl kI_0 ?_
    refine mc_za C 18 false rfl (by decide) (by decide) rfl d_M_release_27 (n := 28) rfl hM hBs (by decide) (show _ < 3208 by omega) (fun h1 F1 hM g1 g2 f1 => ?_)
    have hF := hF.tr f1 (U := MS m0) (fun x hx => hx) (fun x hx => hx)
    refine fv_aload_n C d_M_release_28 (n := 29) rfl (i := 0) rfl rfl ?_
    refine fv_get C (fl_M_65 D dA) d_M_release_29 (n := 32) rfl hM.1 rfl ?_
    refine fv_iload_n C d_M_release_32 (n := 33) rfl (i := 1) rfl rfl ?_
    refine fv_dup2 C d_M_release_33 (n := 34) rfl rfl rfl ?_
    refine fv_ialdN C (t0 := 0) rfl d_M_release_34 (n := 35) rfl (mc_19 hM) (by omega) (by decide) ?_
    rw [show F1 19 (4 * r + i) = nI (rc_hl R i).length by rw [g2 19 (by decide)]; exact (hRV.1 i hi).2.2.2]
    refine fv_iconst C d_M_release_35 (n := 36) rfl kI_1 ?_
    refine fv_isubN C (by omega) d_M_release_36 (n := 37) rfl ?_
    refine mc_ia C 19 (by decide) (by decide) rfl d_M_release_37 (n := 38) rfl hM hBs (by decide) (show _ < 8 by omega) (fun h1 F2 hM p1 p2 f1 => ?_)
    have hF := hF.tr f1 (U := MS m0) (fun x hx => hx) (fun x hx => hx)
    refine fv_vret C rfl d_M_release_38 (Nat.le_refl _) (Nat.le_refl _) ?_
    first | exact ⟨rfl, rfl, by rw [hrel]; exact hM0, hF⟩ | (refine ⟨rfl, rfl, ⟨F2, bl, bh, hM, mr_rcv hr hI hR (fun k hk => ?_) ((OT.one g1 g2 (fun e => by omega) (fun e => by omega) (fun e => by omega) (fun e => by omega)).tr (OT.one p1 p2 (fun e => by omega) (fun e => by omega) (fun e => by omega) (fun e => by omega))) (fun hv => rv_hl hi hn hv g1 g2 p1 p2 (List.length_erase_of_mem hx).symm (fun t => ?_))⟩, hF⟩; (rw [p2 k (by omega), g2 k (by omega)]); (by_cases c : t = n; (rw [if_pos c, c]; exact decide_eq_false (List.Nodup.not_mem_erase hnd)); (rw [if_neg c]; exact decide_eq_decide.mpr (List.mem_erase_of_ne c))))
theorem ct_M_become {i m : Nat} (hBs : Bs ≤ m0) (hr : r < 2) (hM0 : RM dA h m0 (sp_setR S r R)) (hI : sp_I S) (hi : i < 4) (hap : rc_ap R i ≤ 400) (hm : m ≤ 400) (hrn : (rc_rw R).Nodup) (hr4 : ∀ j ∈ rc_rw R, j < 4) : fv_T l (fk D dA) Bs WA m_M_become [.ref m0, .int (nI r), .int (nI i), .int (nI m)] sz h 0 0 (fp_v sz (fun h' => RM dA h' m0 (sp_setR S r (rc_set R i (tr_bec S.1 i m (rc_tr R i)))) ∧ fs h h' (MS m0))) := by
  have hM1 := hM0
  obtain ⟨F, bl, bh, hM, hR⟩ := hM1
  have hM : MC dA h m0 S.1.length S.2.1.length bl bh (sp_sh S).length F := hM
  have hRV := hR.rv hr
  have hF : fs h h (MS m0) := fs_rf _ _
  have hl4 := hI.2.1.1
  have hrl := row_len 4 _ hrn hr4
  have hset : rc_set R i (tr_bec S.1 i m (rc_tr R i)) = (R.1, R.2.1, R.2.2.1, rc_kp R, va_up (rc_ap R) i m, rc_hl R, (if tr_dif (fe_vw (fe_bk S.1 i (rc_ap R i))) (fe_vw (fe_bk S.1 i m)) = true then tr_mark i (rc_rw R) else rc_rw R), rc_nd R) := by
    unfold rc_set tr_bec rc_tr
    dsimp only
    rw [va_up_id]
  refine fv_of (L := [_, _, _, _, _, _]) (by decide +kernel) rfl (Nat.le_of_ble_eq_true rfl) rfl ?_
  intro X hX C
  subst hX
  refine fv_aload_n C d_M_become_0 (n := 1) rfl (i := 0) rfl rfl ?_
  refine fv_iload_n C d_M_become_1 (n := 2) rfl (i := 2) rfl rfl ?_
  refine fv_aload_n C d_M_become_2 (n := 3) rfl (i := 0) rfl rfl ?_
  refine fv_get C (fl_M_55 D dA) d_M_become_3 (n := 6) rfl hM.1 rfl ?_
  refine fv_iconst C d_M_become_6 (n := 7) rfl kI_4 ?_
  refine fv_iload_n C d_M_become_7 (n := 8) rfl (i := 1) rfl rfl ?_
  first | refine fv_imulN C d_M_become_8 (n := 9) rfl ?_ | refine fv_imul C d_M_become_8 (n := 9) rfl ?_
  refine fv_iload_n C d_M_become_9 (n := 10) rfl (i := 2) rfl rfl ?_
  first | refine fv_iaddN C d_M_become_10 (n := 11) rfl ?_ | refine fv_iadd C d_M_become_10 (n := 11) rfl ?_
  refine fv_ialdN C (t0 := 0) rfl d_M_become_11 (n := 12) rfl (mc_16 hM) (by omega) (by decide) ?_
  rw [(hRV.1 i hi).1]
  refine fv_callV_v C (ml_M_144 D dA) im_M_goOver se_M_goOver hM.1 rfl (ct_M_goOver hBs hM hR.1 hI.1 hI.2.1 hi hap) d_M_become_12 (n := 15) rfl rfl rfl rfl (Nat.le_of_ble_eq_true rfl) (Nat.le_of_ble_eq_true rfl) (Nat.le_of_ble_eq_true rfl) (Nat.le_refl _) (Nat.le_refl _) (fun h1 hp => ?_)
  obtain ⟨⟨F1, hM, hA, hK1⟩, f1⟩ := hp
  have hF := hF.tr f1 (U := MS m0) (fun x hx => hx) (fun x hx => hx)
  have hw1 : bo_wf (fe_bk S.1 i (rc_ap R i)).1 := by have := go_wf hI.1 i (rc_ap R i) S.1.length; rw [List.take_length] at this; exact this
  refine fv_aload_n C d_M_become_15 (n := 16) rfl (i := 0) rfl rfl ?_
  refine fv_aload_n C d_M_become_16 (n := 17) rfl (i := 0) rfl rfl ?_
  refine fv_get C (fl_M_49 D dA) d_M_become_17 (n := 20) rfl hM.1 rfl ?_
  refine fv_callV_v C (ml_M_169 D dA) im_M_look se_M_look hM.1 rfl (ct_M_look (kk := 14) hBs hM hw1.2.2.2 hA hw1.2.1 (Or.inl rfl)) d_M_become_20 (n := 23) rfl rfl rfl rfl (Nat.le_of_ble_eq_true rfl) (Nat.le_of_ble_eq_true rfl) (Nat.le_of_ble_eq_true rfl) (Nat.le_refl _) (Nat.le_refl _) (fun h1 hp => ?_)
  obtain ⟨⟨F2, hM, hv14, hK2⟩, f1⟩ := hp
  have hF := hF.tr f1 (U := MS m0) (fun x hx => hx) (fun x hx => hx)
  have hK2 : KE 10 15 F F2 := fun k hk => (hK2 k (by omega)).trans (hK1 k (by omega))
  have hR2 := hR.ke hK2
  refine fv_aload_n C d_M_become_23 (n := 24) rfl (i := 0) rfl rfl ?_
  refine fv_get C (fl_M_55 D dA) d_M_become_24 (n := 27) rfl hM.1 rfl ?_
  refine fv_iconst C d_M_become_27 (n := 28) rfl kI_4 ?_
  refine fv_iload_n C d_M_become_28 (n := 29) rfl (i := 1) rfl rfl ?_
  first | refine fv_imulN C d_M_become_29 (n := 30) rfl ?_ | refine fv_imul C d_M_become_29 (n := 30) rfl ?_
  refine fv_iload_n C d_M_become_30 (n := 31) rfl (i := 2) rfl rfl ?_
  first | refine fv_iaddN C d_M_become_31 (n := 32) rfl ?_ | refine fv_iadd C d_M_become_31 (n := 32) rfl ?_
  refine fv_iload_n C d_M_become_32 (n := 33) rfl (i := 3) rfl rfl ?_
  refine mc_ia C 16 (by decide) (by decide) rfl d_M_become_33 (n := 34) rfl hM hBs (by decide) (show _ < 8 by omega) (fun h1 F3 hM g1 g2 f1 => ?_)
  have hF := hF.tr f1 (U := MS m0) (fun x hx => hx) (fun x hx => hx)
  have hR3 : MR F3 (sp_setR S r (R.1, R.2.1, R.2.2.1, rc_kp R, va_up (rc_ap R) i m, rc_hl R, rc_rw R, rc_nd R)) := mr_rcv hr hI hR2 (fun k hk => g2 k (by omega)) (OT.one g1 g2 (fun e => by omega) (fun e => by omega) (fun e => by omega) (fun e => by omega)) (fun hv => rv_ap hi hv g1 g2)
  refine fv_aload_n C d_M_become_34 (n := 35) rfl (i := 0) rfl rfl ?_
  refine fv_iload_n C d_M_become_35 (n := 36) rfl (i := 2) rfl rfl ?_
  refine fv_iload_n C d_M_become_36 (n := 37) rfl (i := 3) rfl rfl ?_
  refine fv_callV_v C (ml_M_144 D dA) im_M_goOver se_M_goOver hM.1 rfl (ct_M_goOver hBs hM hR3.1 hI.1 hI.2.1 hi hm) d_M_become_37 (n := 40) rfl rfl rfl rfl (Nat.le_of_ble_eq_true rfl) (Nat.le_of_ble_eq_true rfl) (Nat.le_of_ble_eq_true rfl) (Nat.le_refl _) (Nat.le_refl _) (fun h1 hp => ?_)
  obtain ⟨⟨F4, hM, hA, hK4⟩, f1⟩ := hp
  have hF := hF.tr f1 (U := MS m0) (fun x hx => hx) (fun x hx => hx)
  have hw2 : bo_wf (fe_bk S.1 i m).1 := by have := go_wf hI.1 i m S.1.length; rw [List.take_length] at this; exact this
  refine fv_aload_n C d_M_become_40 (n := 41) rfl (i := 0) rfl rfl ?_
  refine fv_aload_n C d_M_become_41 (n := 42) rfl (i := 0) rfl rfl ?_
  refine fv_get C (fl_M_52 D dA) d_M_become_42 (n := 45) rfl hM.1 rfl ?_
  refine fv_callV_v C (ml_M_169 D dA) im_M_look se_M_look hM.1 rfl (ct_M_look (kk := 15) hBs hM hw2.2.2.2 hA hw2.2.1 (Or.inr rfl)) d_M_become_45 (n := 48) rfl rfl rfl rfl (Nat.le_of_ble_eq_true rfl) (Nat.le_of_ble_eq_true rfl) (Nat.le_of_ble_eq_true rfl) (Nat.le_refl _) (Nat.le_refl _) (fun h1 hp => ?_)
  obtain ⟨⟨F5, hM, hv15, hK5⟩, f1⟩ := hp
  have hF := hF.tr f1 (U := MS m0) (fun x hx => hx) (fun x hx => hx)
  have hK6 : KE 10 15 F3 F5 := fun k hk => (hK5 k (by omega)).trans (hK4 k (by omega))
  have hR5 := hR3.ke hK6
  have hV5 := hR5.rv hr
  have hv14 : ∀ c, c < 19 → F5 14 c = fe_vw (fe_bk S.1 i (rc_ap R i)) c := fun c hc => by rw [hK5 14 (by decide), hK4 14 (by decide), g2 14 (by decide)]; exact hv14 c hc
  have hv15 : ∀ c, c < 19 → F5 15 c = fe_vw (fe_bk S.1 i m) c := hv15
  have hv28 : F5 28 r = nI (rc_rw R).length := hV5.2.2.2.2.2.2
  have hv27 : ∀ j i, (rc_rw R)[j]? = some i → F5 27 (4 * r + j) = nI i := hV5.2.2.2.2.2.1
  have loop2 : ∀ k j b0, j + k = (rc_rw R).length → b0 = (!(tr_dif (fe_vw (fe_bk S.1 i (rc_ap R i))) (fe_vw (fe_bk S.1 i m))) || decide (i ∈ (rc_rw R).take j)) → fv_V (fk D dA) Bs X 6 (fv_MQ (fk D dA) Bs X (fp_v sz (fun h' => RM dA h' m0 (sp_setR S r (rc_set R i (tr_bec S.1 i m (rc_tr R i)))) ∧ fs h h' (MS m0))) 0 0) 90 [some (.ref m0), some (.int (nI r)), some (.int (nI i)), some (.int (nI m)), some (.int (fv_b b0)), some (.int (nI j))] [] sz h1 0 0 := by
    intro k
    induction k with
    | zero =>
      intro j b0 hj hb0
      rw [List.take_of_length_le (by omega)] at hb0
      refine fv_iload C d_M_become_90 (n := 92) rfl rfl ?_
      refine fv_aload_n C d_M_become_92 (n := 93) rfl (i := 0) rfl rfl ?_
      refine fv_get C (fl_M_92 D dA) d_M_become_93 (n := 96) rfl hM.1 rfl ?_
      refine fv_iload_n C d_M_become_96 (n := 97) rfl (i := 1) rfl rfl ?_
      refine fv_ialdN C (t0 := 0) rfl d_M_become_97 (n := 98) rfl (mc_28 hM) (by omega) (by decide) ?_
      rw [hv28]
      refine fv_icmpN_ge C (by omega) (by omega) d_M_become_98 (tgt := 125) rfl (n := 101) rfl (fun hc98 => ?_) (fun hc98 => ?_)
      · refine fv_iload C d_M_become_125 (n := 127) rfl rfl ?_
        refine fv_ifB_eq C d_M_become_127 (tgt := 131) rfl (n := 130) rfl (fun hc127 => ?_) (fun hc127 => ?_)
        · have hq := hb0.symm.trans hc127
          simp only [Bool.or_eq_false_iff, Bool.not_eq_false', decide_eq_false_iff_not] at hq
          have hrl2 : (rc_rw R).length < 4 := by
            have := row_len 4 (i :: rc_rw R) (List.nodup_cons.mpr ⟨hq.2, hrn⟩) (fun j hj => by rcases List.mem_cons.mp hj with rfl | hj; exact hi; exact hr4 j hj)
            simp at this
            omega
          refine fv_aload_n C d_M_become_131 (n := 132) rfl (i := 0) rfl rfl ?_
          refine fv_get C (fl_M_89 D dA) d_M_become_132 (n := 135) rfl hM.1 rfl ?_
          refine fv_iconst C d_M_become_135 (n := 136) rfl kI_4 ?_
          refine fv_iload_n C d_M_become_136 (n := 137) rfl (i := 1) rfl rfl ?_
          first | refine fv_imulN C d_M_become_137 (n := 138) rfl ?_ | refine fv_imul C d_M_become_137 (n := 138) rfl ?_
          refine fv_aload_n C d_M_become_138 (n := 139) rfl (i := 0) rfl rfl ?_
          refine fv_get C (fl_M_92 D dA) d_M_become_139 (n := 142) rfl hM.1 rfl ?_
          refine fv_iload_n C d_M_become_142 (n := 143) rfl (i := 1) rfl rfl ?_
          refine fv_ialdN C (t0 := 0) rfl d_M_become_143 (n := 144) rfl (mc_28 hM) (by omega) (by decide) ?_
          rw [hv28]
          first | refine fv_iaddN C d_M_become_144 (n := 145) rfl ?_ | refine fv_iadd C d_M_become_144 (n := 145) rfl ?_
          refine fv_iload_n C d_M_become_145 (n := 146) rfl (i := 2) rfl rfl ?_
          refine mc_ia C 27 (by decide) (by decide) rfl d_M_become_146 (n := 147) rfl hM hBs (by decide) (show _ < 8 by omega) (fun h1 F6 hM g1 g2 f1 => ?_)
          have hF := hF.tr f1 (U := MS m0) (fun x hx => hx) (fun x hx => hx)
          refine fv_aload_n C d_M_become_147 (n := 148) rfl (i := 0) rfl rfl ?_
          refine fv_get C (fl_M_92 D dA) d_M_become_148 (n := 151) rfl hM.1 rfl ?_
          refine fv_iload_n C d_M_become_151 (n := 152) rfl (i := 1) rfl rfl ?_
          refine fv_dup2 C d_M_become_152 (n := 153) rfl rfl rfl ?_
          refine fv_ialdN C (t0 := 0) rfl d_M_become_153 (n := 154) rfl (mc_28 hM) (by omega) (by decide) ?_
          rw [show F6 28 r = nI (rc_rw R).length by rw [g2 28 (by decide)]; exact hv28]
          refine fv_iconst C d_M_become_154 (n := 155) rfl kI_1 ?_
          first | refine fv_iaddN C d_M_become_155 (n := 156) rfl ?_ | refine fv_iadd C d_M_become_155 (n := 156) rfl ?_
          refine mc_ia C 28 (by decide) (by decide) rfl d_M_become_156 (n := 157) rfl hM hBs (by decide) (show _ < 2 by omega) (fun h1 F7 hM p1 p2 f1 => ?_)
          have hF := hF.tr f1 (U := MS m0) (fun x hx => hx) (fun x hx => hx)
          refine fv_vret C rfl d_M_become_157 (Nat.le_refl _) (Nat.le_refl _) ?_
          refine ⟨rfl, rfl, ⟨F7, _, _, hM, ?_⟩, hF⟩
          rw [hset, if_pos hq.1, show tr_mark i (rc_rw R) = rc_rw R ++ [i] from if_neg hq.2]
          exact mr_rcv hr hI hR5 (fun k hk => by rw [p2 k (by omega), g2 k (by omega)]) ((OT.one g1 g2 (fun e => by omega) (fun e => by omega) (fun e => by omega) (fun e => by omega)).tr (OT.one p1 p2 (fun e => by omega) (fun e => by omega) (fun e => by omega) (fun e => by omega))) (fun hv => rv_rw hv g1 g2 p1 p2)
        · have hq := hb0.symm.trans hc127
          simp only [Bool.or_eq_true, Bool.not_eq_true', decide_eq_true_eq] at hq
          refine fv_vret C rfl d_M_become_130 (Nat.le_refl _) (Nat.le_refl _) ?_
          refine ⟨rfl, rfl, ⟨F5, _, _, hM, ?_⟩, hF⟩
          rw [hset]
          rcases hq with hq | hq
          · rw [if_neg (by rw [hq]; decide)]; exact hR5
          · have e : tr_mark i (rc_rw R) = rc_rw R := if_pos hq
            rw [e, ite_self]; exact hR5
      · exact absurd hc98 (by omega)
    | succ k ih =>
      intro j b0 hj hb0
      obtain ⟨z, hz⟩ : ∃ z, (rc_rw R)[j]? = some z := ⟨_, List.getElem?_eq_getElem (by omega)⟩
      have hz4 := hr4 z (List.mem_of_getElem? hz)
      have htk : (rc_rw R).take (j + 1) = (rc_rw R).take j ++ [z] := by rw [List.take_succ, hz]; rfl
      refine fv_iload C d_M_become_90 (n := 92) rfl rfl ?_
      refine fv_aload_n C d_M_become_92 (n := 93) rfl (i := 0) rfl rfl ?_
      refine fv_get C (fl_M_92 D dA) d_M_become_93 (n := 96) rfl hM.1 rfl ?_
      refine fv_iload_n C d_M_become_96 (n := 97) rfl (i := 1) rfl rfl ?_
      refine fv_ialdN C (t0 := 0) rfl d_M_become_97 (n := 98) rfl (mc_28 hM) (by omega) (by decide) ?_
      rw [hv28]
      refine fv_icmpN_ge C (by omega) (by omega) d_M_become_98 (tgt := 125) rfl (n := 101) rfl (fun hc98 => ?_) (fun hc98 => ?_)
      · exact absurd hc98 (by omega)
      · refine fv_aload_n C d_M_become_101 (n := 102) rfl (i := 0) rfl rfl ?_
        refine fv_get C (fl_M_89 D dA) d_M_become_102 (n := 105) rfl hM.1 rfl ?_
        refine fv_iconst C d_M_become_105 (n := 106) rfl kI_4 ?_
        refine fv_iload_n C d_M_become_106 (n := 107) rfl (i := 1) rfl rfl ?_
        first | refine fv_imulN C d_M_become_107 (n := 108) rfl ?_ | refine fv_imul C d_M_become_107 (n := 108) rfl ?_
        refine fv_iload C d_M_become_108 (n := 110) rfl rfl ?_
        first | refine fv_iaddN C d_M_become_110 (n := 111) rfl ?_ | refine fv_iadd C d_M_become_110 (n := 111) rfl ?_
        refine fv_ialdN C (t0 := 0) rfl d_M_become_111 (n := 112) rfl (mc_27 hM) (by omega) (by decide) ?_
        rw [hv27 j z hz]
        refine fv_iload_n C d_M_become_112 (n := 113) rfl (i := 2) rfl rfl ?_
        refine fv_icmpN_ne C (by omega) (by omega) d_M_become_113 (tgt := 119) rfl (n := 116) rfl (fun hc113 => ?_) (fun hc113 => ?_)
        · have hb1 : b0 = (!(tr_dif (fe_vw (fe_bk S.1 i (rc_ap R i))) (fe_vw (fe_bk S.1 i m))) || decide (i ∈ (rc_rw R).take (j + 1))) := by rw [hb0, htk]; simp [Ne.symm hc113]
          refine fv_iincN C d_M_become_119 (n := 122) rfl rfl (by decide) (L' := [_, _, _, _, _, _]) rfl ?_
          refine fv_goto C d_M_become_122 (tgt := 90) rfl ?_
          exact ih (j + 1) _ (by omega) hb1
        · have hb1 : true = (!(tr_dif (fe_vw (fe_bk S.1 i (rc_ap R i))) (fe_vw (fe_bk S.1 i m))) || decide (i ∈ (rc_rw R).take (j + 1))) := by rw [htk, hc113]; simp
          refine fv_iconst C d_M_become_116 (n := 117) rfl kI_1 ?_
          refine fv_istore C d_M_become_117 (n := 119) rfl (by decide) (L' := [_, _, _, _, _, _]) rfl ?_
          refine fv_iincN C d_M_become_119 (n := 122) rfl rfl (by decide) (L' := [_, _, _, _, _, _]) rfl ?_
          refine fv_goto C d_M_become_122 (tgt := 90) rfl ?_
          exact ih (j + 1) _ (by omega) hb1
  have loop1 : ∀ k j b0, j + k = 19 → b0 = (List.range j).all (fun c => decide (fe_vw (fe_bk S.1 i (rc_ap R i)) c = fe_vw (fe_bk S.1 i m) c)) → fv_V (fk D dA) Bs X 6 (fv_MQ (fk D dA) Bs X (fp_v sz (fun h' => RM dA h' m0 (sp_setR S r (rc_set R i (tr_bec S.1 i m (rc_tr R i)))) ∧ fs h h' (MS m0))) 0 0) 54 [some (.ref m0), some (.int (nI r)), some (.int (nI i)), some (.int (nI m)), some (.int (fv_b b0)), some (.int (nI j))] [] sz h1 0 0 := by
    intro k
    induction k with
    | zero =>
      intro j b0 hj hb0
      have hj19 : j = 19 := by omega
      rw [hj19, tr_same] at hb0
      refine fv_iload C d_M_become_54 (n := 56) rfl rfl ?_
      refine fv_bipush C d_M_become_56 (n := 58) rfl kB_19 ?_
      refine fv_icmpN_ge C (by omega) (by omega) d_M_become_58 (tgt := 87) rfl (n := 61) rfl (fun hc58 => ?_) (fun hc58 => ?_)
      · refine fv_iconst C d_M_become_87 (n := 88) rfl kI_0 ?_
        refine fv_istore C d_M_become_88 (n := 90) rfl (by decide) (L' := [_, _, _, _, _, _]) rfl ?_
        exact loop2 _ 0 _ (Nat.zero_add _) (by rw [hb0]; simp)
      · exact absurd hc58 (by omega)
    | succ k ih =>
      intro j b0 hj hb0
      have hall : (List.range (j + 1)).all (fun c => decide (fe_vw (fe_bk S.1 i (rc_ap R i)) c = fe_vw (fe_bk S.1 i m) c)) = ((List.range j).all (fun c => decide (fe_vw (fe_bk S.1 i (rc_ap R i)) c = fe_vw (fe_bk S.1 i m) c)) && decide (fe_vw (fe_bk S.1 i (rc_ap R i)) j = fe_vw (fe_bk S.1 i m) j)) := by rw [List.range_succ, List.all_append]; simp
      refine fv_iload C d_M_become_54 (n := 56) rfl rfl ?_
      refine fv_bipush C d_M_become_56 (n := 58) rfl kB_19 ?_
      refine fv_icmpN_ge C (by omega) (by omega) d_M_become_58 (tgt := 87) rfl (n := 61) rfl (fun hc58 => ?_) (fun hc58 => ?_)
      · exact absurd hc58 (by omega)
      · refine fv_aload_n C d_M_become_61 (n := 62) rfl (i := 0) rfl rfl ?_
        refine fv_get C (fl_M_49 D dA) d_M_become_62 (n := 65) rfl hM.1 rfl ?_
        refine fv_iload C d_M_become_65 (n := 67) rfl rfl ?_
        refine fv_ialdN C (t0 := 0) rfl d_M_become_67 (n := 68) rfl (mc_14 hM) (by omega) (by decide) ?_
        rw [hv14 j (by omega)]
        refine fv_aload_n C d_M_become_68 (n := 69) rfl (i := 0) rfl rfl ?_
        refine fv_get C (fl_M_52 D dA) d_M_become_69 (n := 72) rfl hM.1 rfl ?_
        refine fv_iload C d_M_become_72 (n := 74) rfl rfl ?_
        refine fv_ialdN C (t0 := 0) rfl d_M_become_74 (n := 75) rfl (mc_15 hM) (by omega) (by decide) ?_
        rw [hv15 j (by omega)]
        refine fv_icmp_eq C d_M_become_75 (tgt := 81) rfl (n := 78) rfl (fun hc75 => ?_) (fun hc75 => ?_)
        · have hb1 := hb0.trans (show _ = (List.range (j + 1)).all (fun c => decide (fe_vw (fe_bk S.1 i (rc_ap R i)) c = fe_vw (fe_bk S.1 i m) c)) by rw [hall, decide_eq_true hc75, Bool.and_true])
          refine fv_iincN C d_M_become_81 (n := 84) rfl rfl (by decide) (L' := [_, _, _, _, _, _]) rfl ?_
          refine fv_goto C d_M_become_84 (tgt := 54) rfl ?_
          exact ih (j + 1) _ (by omega) hb1
        · have hb1 : false = (List.range (j + 1)).all (fun c => decide (fe_vw (fe_bk S.1 i (rc_ap R i)) c = fe_vw (fe_bk S.1 i m) c)) := by rw [hall, decide_eq_false hc75, Bool.and_false]
          refine fv_iconst C d_M_become_78 (n := 79) rfl kI_0 ?_
          refine fv_istore C d_M_become_79 (n := 81) rfl (by decide) (L' := [_, _, _, _, _, _]) rfl ?_
          refine fv_iincN C d_M_become_81 (n := 84) rfl rfl (by decide) (L' := [_, _, _, _, _, _]) rfl ?_
          refine fv_goto C d_M_become_84 (tgt := 54) rfl ?_
          exact ih (j + 1) _ (by omega) hb1
  refine fv_iconst C d_M_become_48 (n := 49) rfl kI_1 ?_
  refine fv_istore C d_M_become_49 (n := 51) rfl (by decide) (L' := [_, _, _, _, _, _]) rfl ?_
  refine fv_iconst C d_M_become_51 (n := 52) rfl kI_0 ?_
  refine fv_istore C d_M_become_52 (n := 54) rfl (by decide) (L' := [_, _, _, _, _, _]) rfl ?_
  exact loop1 19 0 true (by omega) rfl
end MD6
