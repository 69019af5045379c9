/-! Book: what changes it -/
section BK4
variable {l : Launch} {D : va_G} {dA : Nat → ClassId} {Bs sz : Nat} {h : fv_H} {a : Nat} {b : bo_B} {nn e : Nat} {ev : bo_E}
theorem ct_B_insert (hE : EV h e ev) (he : e < a ∨ a + 4 ≤ e) (hBs : Bs ≤ a) (h0 : ev.1 = 0) (hew : bo_ewf ev) (hok : bo_ok b ev.1 ev.2.2.2.1 ev.2.2.2.2.2.2 = true) (hL : BL dA h a b nn) : fv_T l (fk D dA) Bs WA m_B_insert [.ref a, .ref e] sz h 0 0 (fp_v sz (fun h' => BL dA h' a (bo_apl b ev) nn ∧ fr h h' a 4)) := by
  obtain ⟨so, ins, num, id, s, pr, v⟩ := ev
  dsimp only at h0 hok
  subst h0
  have hE : h e = some (.inr (2, [.int (nI 0), .int (nI ins), .int (nI num), .int id, .int (nI s), .int pr, .int v])) := hE
  have hwf := bo_wf_apl hL.wf hew hok
  obtain ⟨ids, pri, siz, hB, hA, hw⟩ := hL
  have hlt : b.1.length < 24 := by
    simp only [bo_ok, if_true, Bool.and_eq_true, decide_eq_true_eq] at hok
    exact hok.2
  have hs1 : s = 0 ∨ s = 1 := hew.2.2.1
  have hs : s < 2 := by omega
  have he0 := bo_en_st hw.2.1 hs
  have he2 := bo_en_le hw.2.1 hs
  have hap : bo_apl b (0, ins, num, id, s, pr, v) = (b.1 ++ [(id, s, pr, v)], b.2) := by simp [bo_apl]
  obtain ⟨sl, hsl⟩ : ∃ sl, sl = bo_srt s b.1 := ⟨_, rfl⟩
  rw [← hsl] at he0
  have hG := fr_rf h a 4
  refine fv_of (L := [_, _, _, _, _]) (by decide +kernel) rfl (Nat.le_of_ble_eq_true rfl) rfl ?_
  intro X hX C
  subst hX
  have fin : ∀ t, bo_pl s (id, s, pr, v) sl = t → t ≤ sl.length → fv_V (fk D dA) Bs X 5 (fv_MQ (fk D dA) Bs X (fp_v sz (fun h' => BL dA h' a (bo_apl b (0, ins, num, id, s, pr, v)) nn ∧ fr h h' a 4)) 0 0) 87 [some (.ref a), some (.ref e), some (.int (fv_b (decide (s = 0)))), some (.int (nI (bo_st0 b.1 s + t))), some (.int (nI (bo_en0 b.1 s)))] [] sz h 0 0 := by
    intro t ht htl
    have hA2 := bo_AR_ins (o := (id, s, pr, v)) (p := bo_st0 b.1 s + t) hA (by rw [bo_arr_len hw.2.1]; omega)
    rw [bo_arr_len hw.2.1] at hA2
    have hai := bo_arr_ins (l := b.1) (o := (id, s, pr, v)) hs1
    dsimp only at hai hA2
    rw [← hsl, ht] at hai
    rw [← hai] at hA2
    have hb0 := bo_srt0_ins (l := b.1) (o := (id, s, pr, v)) hs1
    dsimp only at hb0
    refine fv_aload_n C d_B_insert_87 (n := 88) rfl (i := 0) rfl rfl ?_
    refine fv_get C (fl_B_9 D dA) d_B_insert_88 (n := 91) rfl hB.1 rfl ?_
    refine fv_iload_n C d_B_insert_91 (n := 92) rfl (i := 3) rfl rfl ?_
    refine fv_aload_n C d_B_insert_92 (n := 93) rfl (i := 0) rfl rfl ?_
    refine fv_get C (fl_B_9 D dA) d_B_insert_93 (n := 96) rfl hB.1 rfl ?_
    refine fv_iload_n C d_B_insert_96 (n := 97) rfl (i := 3) rfl rfl ?_
    refine fv_iconst C d_B_insert_97 (n := 98) rfl kI_1 ?_
    first | refine fv_iaddN C d_B_insert_98 (n := 99) rfl ?_ | refine fv_iadd C d_B_insert_98 (n := 99) rfl ?_
    refine fv_aload_n C d_B_insert_99 (n := 100) rfl (i := 0) rfl rfl ?_
    refine fv_get C (fl_B_25 D dA) d_B_insert_100 (n := 103) rfl hB.1 rfl ?_
    refine fv_iload_n C d_B_insert_103 (n := 104) rfl (i := 3) rfl rfl ?_
    refine fv_isubN C (by omega) d_B_insert_104 (n := 105) rfl ?_
    refine bk_cids C nl_B_74 d_B_insert_105 (n := 108) rfl rfl hB.2.1 hB hBs (by omega) (by omega) (by decide) (Nat.le_of_ble_eq_true rfl) (Nat.le_of_ble_eq_true rfl) (fun h1 hB hF => ?_)
    have hE := (hF.at (by omega)).trans hE
    have hG := hG.tr hF
    refine fv_aload_n C d_B_insert_108 (n := 109) rfl (i := 0) rfl rfl ?_
    refine fv_get C (fl_B_15 D dA) d_B_insert_109 (n := 112) rfl hB.1 rfl ?_
    refine fv_iload_n C d_B_insert_112 (n := 113) rfl (i := 3) rfl rfl ?_
    refine fv_aload_n C d_B_insert_113 (n := 114) rfl (i := 0) rfl rfl ?_
    refine fv_get C (fl_B_15 D dA) d_B_insert_114 (n := 117) rfl hB.1 rfl ?_
    refine fv_iload_n C d_B_insert_117 (n := 118) rfl (i := 3) rfl rfl ?_
    refine fv_iconst C d_B_insert_118 (n := 119) rfl kI_1 ?_
    first | refine fv_iaddN C d_B_insert_119 (n := 120) rfl ?_ | refine fv_iadd C d_B_insert_119 (n := 120) rfl ?_
    refine fv_aload_n C d_B_insert_120 (n := 121) rfl (i := 0) rfl rfl ?_
    refine fv_get C (fl_B_25 D dA) d_B_insert_121 (n := 124) rfl hB.1 rfl ?_
    refine fv_iload_n C d_B_insert_124 (n := 125) rfl (i := 3) rfl rfl ?_
    refine fv_isubN C (by omega) d_B_insert_125 (n := 126) rfl ?_
    refine bk_cpri C nl_B_74 d_B_insert_126 (n := 129) rfl rfl hB.2.2.1 hB hBs (by omega) (by omega) (by decide) (Nat.le_of_ble_eq_true rfl) (Nat.le_of_ble_eq_true rfl) (fun h1 hB hF => ?_)
    have hE := (hF.at (by omega)).trans hE
    have hG := hG.tr hF
    refine fv_aload_n C d_B_insert_129 (n := 130) rfl (i := 0) rfl rfl ?_
    refine fv_get C (fl_B_18 D dA) d_B_insert_130 (n := 133) rfl hB.1 rfl ?_
    refine fv_iload_n C d_B_insert_133 (n := 134) rfl (i := 3) rfl rfl ?_
    refine fv_aload_n C d_B_insert_134 (n := 135) rfl (i := 0) rfl rfl ?_
    refine fv_get C (fl_B_18 D dA) d_B_insert_135 (n := 138) rfl hB.1 rfl ?_
    refine fv_iload_n C d_B_insert_138 (n := 139) rfl (i := 3) rfl rfl ?_
    refine fv_iconst C d_B_insert_139 (n := 140) rfl kI_1 ?_
    first | refine fv_iaddN C d_B_insert_140 (n := 141) rfl ?_ | refine fv_iadd C d_B_insert_140 (n := 141) rfl ?_
    refine fv_aload_n C d_B_insert_141 (n := 142) rfl (i := 0) rfl rfl ?_
    refine fv_get C (fl_B_25 D dA) d_B_insert_142 (n := 145) rfl hB.1 rfl ?_
    refine fv_iload_n C d_B_insert_145 (n := 146) rfl (i := 3) rfl rfl ?_
    refine fv_isubN C (by omega) d_B_insert_146 (n := 147) rfl ?_
    refine bk_csiz C nl_B_74 d_B_insert_147 (n := 150) rfl rfl hB.2.2.2 hB hBs (by omega) (by omega) (by decide) (Nat.le_of_ble_eq_true rfl) (Nat.le_of_ble_eq_true rfl) (fun h1 hB hF => ?_)
    have hE := (hF.at (by omega)).trans hE
    have hG := hG.tr hF
    refine fv_aload_n C d_B_insert_150 (n := 151) rfl (i := 0) rfl rfl ?_
    refine fv_get C (fl_B_9 D dA) d_B_insert_151 (n := 154) rfl hB.1 rfl ?_
    refine fv_iload_n C d_B_insert_154 (n := 155) rfl (i := 3) rfl rfl ?_
    refine fv_aload_n C d_B_insert_155 (n := 156) rfl (i := 1) rfl rfl ?_
    refine fv_get C (fl_B_55 D dA) d_B_insert_156 (n := 159) rfl hE rfl ?_
    refine bk_sids C d_B_insert_159 (n := 160) rfl hB hBs (by omega) (fun h1 hB hF => ?_)
    have hE := (hF.at (by omega)).trans hE
    have hG := hG.tr hF
    refine fv_aload_n C d_B_insert_160 (n := 161) rfl (i := 0) rfl rfl ?_
    refine fv_get C (fl_B_15 D dA) d_B_insert_161 (n := 164) rfl hB.1 rfl ?_
    refine fv_iload_n C d_B_insert_164 (n := 165) rfl (i := 3) rfl rfl ?_
    refine fv_aload_n C d_B_insert_165 (n := 166) rfl (i := 1) rfl rfl ?_
    refine fv_get C (fl_B_71 D dA) d_B_insert_166 (n := 169) rfl hE rfl ?_
    refine bk_spri C d_B_insert_169 (n := 170) rfl hB hBs (by omega) (fun h1 hB hF => ?_)
    have hE := (hF.at (by omega)).trans hE
    have hG := hG.tr hF
    refine fv_aload_n C d_B_insert_170 (n := 171) rfl (i := 0) rfl rfl ?_
    refine fv_get C (fl_B_18 D dA) d_B_insert_171 (n := 174) rfl hB.1 rfl ?_
    refine fv_iload_n C d_B_insert_174 (n := 175) rfl (i := 3) rfl rfl ?_
    refine fv_aload_n C d_B_insert_175 (n := 176) rfl (i := 1) rfl rfl ?_
    refine fv_get C (fl_B_52 D dA) d_B_insert_176 (n := 179) rfl hE rfl ?_
    refine bk_ssiz C d_B_insert_179 (n := 180) rfl hB hBs (by omega) (fun h1 hB hF => ?_)
    have hE := (hF.at (by omega)).trans hE
    have hG := hG.tr hF
    refine fv_aload_n C d_B_insert_180 (n := 181) rfl (i := 0) rfl rfl ?_
    refine fv_dup C d_B_insert_181 (n := 182) rfl rfl ?_
    refine fv_get C (fl_B_25 D dA) d_B_insert_182 (n := 185) rfl hB.1 rfl ?_
    refine fv_iconst C d_B_insert_185 (n := 186) rfl kI_1 ?_
    first | refine fv_iaddN C d_B_insert_186 (n := 187) rfl ?_ | refine fv_iadd C d_B_insert_186 (n := 187) rfl ?_
    refine bk_ptot C (fl_B_25 D dA) d_B_insert_187 (n := 190) rfl hB hBs (fun h1 hB hF => ?_)
    have hE := (hF.at (by omega)).trans hE
    have hG := hG.tr hF
    refine fv_iload_n C d_B_insert_190 (n := 191) rfl (i := 2) rfl rfl ?_
    refine fv_ifB_eq C d_B_insert_191 (tgt := 204) rfl (n := 194) rfl (fun hc191 => ?_) (fun hc191 => ?_)
    · have h9 : ¬ s = 0 := by simpa using hc191
      rw [if_neg h9] at hb0
      refine fv_vret C rfl d_B_insert_204 (Nat.le_refl _) (Nat.le_refl _) ?_
      refine ⟨rfl, rfl, ⟨_, _, _, ?_, by rw [hap]; exact hA2, hwf⟩, hG⟩
      rw [hap]
      dsimp only
      rw [hb0, List.length_append]
      exact hB
    · have h9 : s = 0 := by simpa using hc191
      rw [if_pos h9] at hb0
      refine fv_aload_n C d_B_insert_194 (n := 195) rfl (i := 0) rfl rfl ?_
      refine fv_dup C d_B_insert_195 (n := 196) rfl rfl ?_
      refine fv_get C (fl_B_21 D dA) d_B_insert_196 (n := 199) rfl hB.1 rfl ?_
      refine fv_iconst C d_B_insert_199 (n := 200) rfl kI_1 ?_
      first | refine fv_iaddN C d_B_insert_200 (n := 201) rfl ?_ | refine fv_iadd C d_B_insert_200 (n := 201) rfl ?_
      refine bk_pbuys C (fl_B_21 D dA) d_B_insert_201 (n := 204) rfl hB hBs (fun h1 hB hF => ?_)
      have hE := (hF.at (by omega)).trans hE
      have hG := hG.tr hF
      refine fv_vret C rfl d_B_insert_204 (Nat.le_refl _) (Nat.le_refl _) ?_
      refine ⟨rfl, rfl, ⟨_, _, _, ?_, by rw [hap]; exact hA2, hwf⟩, hG⟩
      rw [hap]
      dsimp only
      rw [hb0, List.length_append]
      exact hB
  have loop : ∀ k t, t + k = sl.length → (∀ i o, i < t → sl[i]? = some o → bo_ge s o (id, s, pr, v) = true) → fv_V (fk D dA) Bs X 5 (fv_MQ (fk D dA) Bs X (fp_v sz (fun h' => BL dA h' a (bo_apl b (0, ins, num, id, s, pr, v)) nn ∧ fr h h' a 4)) 0 0) 42 [some (.ref a), some (.ref e), some (.int (fv_b (decide (s = 0)))), some (.int (nI (bo_st0 b.1 s + t))), some (.int (nI (bo_en0 b.1 s)))] [] sz h 0 0 := by
    intro k
    induction k with
    | zero =>
      intro t ht hge
      refine fv_iload_n C d_B_insert_42 (n := 43) rfl (i := 3) rfl rfl ?_
      refine fv_iload C d_B_insert_43 (n := 45) rfl rfl ?_
      refine fv_icmpN_ge C (by omega) (by omega) d_B_insert_45 (tgt := 87) rfl (n := 48) rfl (fun hc45 => ?_) (fun hc45 => ?_)
      · refine fin t (bo_pl_unique (by omega) hge (fun o ho => ?_)) (by omega)
        rw [List.getElem?_eq_none_iff.mpr (by omega)] at ho
        cases ho
      · exact absurd hc45 (by omega)
    | succ k ih =>
      intro t ht hge
      obtain ⟨o, ho⟩ : ∃ o, sl[t]? = some o := ⟨_, List.getElem?_eq_getElem (by omega)⟩
      have hat : (bo_arr b.1)[bo_st0 b.1 s + t]? = some o := by rw [bo_arr_side hs (by rw [← hsl]; omega), ← hsl]; exact ho
      obtain ⟨-, hp, -⟩ := hA _ _ hat
      have stop : ¬ bo_ge s o (id, s, pr, v) = true → bo_pl s (id, s, pr, v) sl = t := fun hn => bo_pl_unique (by omega) hge (fun o2 ho2 => by cases ho.symm.trans ho2; exact hn)
      have more : bo_ge s o (id, s, pr, v) = true → ∀ i o, i < t + 1 → sl[i]? = some o → bo_ge s o (id, s, pr, v) = true := by
        intro hn i o2 hi ho2
        by_cases h9 : i = t
        · subst h9
          cases ho.symm.trans ho2
          exact hn
        · exact hge i o2 (by omega) ho2
      refine fv_iload_n C d_B_insert_42 (n := 43) rfl (i := 3) rfl rfl ?_
      refine fv_iload C d_B_insert_43 (n := 45) rfl rfl ?_
      refine fv_icmpN_ge C (by omega) (by omega) d_B_insert_45 (tgt := 87) rfl (n := 48) rfl (fun hc45 => ?_) (fun hc45 => ?_)
      · exact absurd hc45 (by omega)
      · refine fv_iload_n C d_B_insert_48 (n := 49) rfl (i := 2) rfl rfl ?_
        refine fv_ifB_eq C d_B_insert_49 (tgt := 68) rfl (n := 52) rfl (fun hc49 => ?_) (fun hc49 => ?_)
        · have h9 : ¬ s = 0 := by simpa using hc49
          have hgd : bo_ge s o (id, s, pr, v) = decide (o.2.2.1 ≤ pr) := by unfold bo_ge; rw [if_neg h9]
          refine fv_aload_n C d_B_insert_68 (n := 69) rfl (i := 0) rfl rfl ?_
          refine fv_get C (fl_B_15 D dA) d_B_insert_69 (n := 72) rfl hB.1 rfl ?_
          refine fv_iload_n C d_B_insert_72 (n := 73) rfl (i := 3) rfl rfl ?_
          refine fv_ialdN C (t0 := 0) rfl d_B_insert_73 (n := 74) rfl hB.2.2.1 (by omega) (by decide) ?_
          refine fv_aload_n C d_B_insert_74 (n := 75) rfl (i := 1) rfl rfl ?_
          refine fv_get C (fl_B_71 D dA) d_B_insert_75 (n := 78) rfl hE rfl ?_
          refine fv_icmp_gt C d_B_insert_78 (tgt := 87) rfl (n := 81) rfl (fun hc78 => ?_) (fun hc78 => ?_)
          · rw [hp] at hc78
            have hng : ¬ bo_ge s o (id, s, pr, v) = true := by rw [hgd]; simpa using Int32.not_le.mpr hc78
            exact fin t (stop hng) (by omega)
          · rw [hp] at hc78
            have hyg : bo_ge s o (id, s, pr, v) = true := by rw [hgd]; simpa using Int32.not_lt.mp hc78
            refine fv_iincN C d_B_insert_81 (n := 84) rfl rfl (by decide) (L' := [_, _, _, _, _]) rfl ?_
            refine fv_goto C d_B_insert_84 (tgt := 42) rfl ?_
            exact ih (t + 1) (by omega) (more hyg)
        · have h9 : s = 0 := by simpa using hc49
          have hgd : bo_ge s o (id, s, pr, v) = decide (pr ≤ o.2.2.1) := by unfold bo_ge; rw [if_pos h9]
          refine fv_aload_n C d_B_insert_52 (n := 53) rfl (i := 0) rfl rfl ?_
          refine fv_get C (fl_B_15 D dA) d_B_insert_53 (n := 56) rfl hB.1 rfl ?_
          refine fv_iload_n C d_B_insert_56 (n := 57) rfl (i := 3) rfl rfl ?_
          refine fv_ialdN C (t0 := 0) rfl d_B_insert_57 (n := 58) rfl hB.2.2.1 (by omega) (by decide) ?_
          refine fv_aload_n C d_B_insert_58 (n := 59) rfl (i := 1) rfl rfl ?_
          refine fv_get C (fl_B_71 D dA) d_B_insert_59 (n := 62) rfl hE rfl ?_
          refine fv_icmp_lt C d_B_insert_62 (tgt := 87) rfl (n := 65) rfl (fun hc62 => ?_) (fun hc62 => ?_)
          · rw [hp] at hc62
            have hng : ¬ bo_ge s o (id, s, pr, v) = true := by rw [hgd]; simpa using Int32.not_le.mpr hc62
            exact fin t (stop hng) (by omega)
          · rw [hp] at hc62
            have hyg : bo_ge s o (id, s, pr, v) = true := by rw [hgd]; simpa using Int32.not_lt.mp hc62
            refine fv_goto C d_B_insert_65 (tgt := 81) rfl ?_
            refine fv_iincN C d_B_insert_81 (n := 84) rfl rfl (by decide) (L' := [_, _, _, _, _]) rfl ?_
            refine fv_goto C d_B_insert_84 (tgt := 42) rfl ?_
            exact ih (t + 1) (by omega) (more hyg)
  refine fv_aload_n C d_B_insert_0 (n := 1) rfl (i := 0) rfl rfl ?_
  refine fv_get C (fl_B_25 D dA) d_B_insert_1 (n := 4) rfl hB.1 rfl ?_
  refine fv_bipush C d_B_insert_4 (n := 6) rfl kB_24 ?_
  refine fv_icmpN_lt C (by omega) (by omega) d_B_insert_6 (tgt := 10) rfl (n := 9) rfl (fun hc6 => ?_) (fun hc6 => ?_)
  · refine fv_aload_n C d_B_insert_10 (n := 11) rfl (i := 1) rfl rfl ?_
    refine fv_get C (fl_B_62 D dA) d_B_insert_11 (n := 14) rfl hE rfl ?_
    refine fv_ifN_ne C (by omega) d_B_insert_14 (tgt := 21) rfl (n := 17) rfl (fun hc14 => ?_) (fun hc14 => ?_)
    · have hcv : nI 0 = fv_b (decide (s = 0)) := by simp [hc14]; rfl
      refine fv_iconst C d_B_insert_21 (n := 22) rfl kI_0 ?_
      rw [hcv]
      refine fv_istore_n C d_B_insert_22 (n := 23) rfl (i := 2) rfl (by decide) (L' := [_, _, _, _, _]) rfl ?_
      refine fv_aload_n C d_B_insert_23 (n := 24) rfl (i := 0) rfl rfl ?_
      refine fv_aload_n C d_B_insert_24 (n := 25) rfl (i := 1) rfl rfl ?_
      refine fv_get C (fl_B_62 D dA) d_B_insert_25 (n := 28) rfl hE rfl ?_
      refine fv_callV_r C (ml_B_65 D dA) im_B_startOf se_B_startOf hB.1 rfl (ct_B_start0 hs hB) d_B_insert_28 (n := 31) rfl rfl rfl rfl (Nat.le_of_ble_eq_true rfl) (Nat.le_of_ble_eq_true rfl) (Nat.le_of_ble_eq_true rfl) (Nat.le_refl _) (Nat.le_refl _) ?_
      refine fv_istore_n C d_B_insert_31 (n := 32) rfl (i := 3) rfl (by decide) (L' := [_, _, _, _, _]) rfl ?_
      refine fv_aload_n C d_B_insert_32 (n := 33) rfl (i := 0) rfl rfl ?_
      refine fv_aload_n C d_B_insert_33 (n := 34) rfl (i := 1) rfl rfl ?_
      refine fv_get C (fl_B_62 D dA) d_B_insert_34 (n := 37) rfl hE rfl ?_
      refine fv_callV_r C (ml_B_68 D dA) im_B_endOf se_B_endOf hB.1 rfl (ct_B_end0 hs hB) d_B_insert_37 (n := 40) rfl rfl rfl rfl (Nat.le_of_ble_eq_true rfl) (Nat.le_of_ble_eq_true rfl) (Nat.le_of_ble_eq_true rfl) (Nat.le_refl _) (Nat.le_refl _) ?_
      refine fv_istore C d_B_insert_40 (n := 42) rfl (by decide) (L' := [_, _, _, _, _]) rfl ?_
      exact loop sl.length 0 (by omega) (fun i o hi => absurd hi (by omega))
    · have hcv : nI 1 = fv_b (decide (s = 0)) := by simp [hc14]; rfl
      refine fv_iconst C d_B_insert_17 (n := 18) rfl kI_1 ?_
      refine fv_goto C d_B_insert_18 (tgt := 22) rfl ?_
      rw [hcv]
      refine fv_istore_n C d_B_insert_22 (n := 23) rfl (i := 2) rfl (by decide) (L' := [_, _, _, _, _]) rfl ?_
      refine fv_aload_n C d_B_insert_23 (n := 24) rfl (i := 0) rfl rfl ?_
      refine fv_aload_n C d_B_insert_24 (n := 25) rfl (i := 1) rfl rfl ?_
      refine fv_get C (fl_B_62 D dA) d_B_insert_25 (n := 28) rfl hE rfl ?_
      refine fv_callV_r C (ml_B_65 D dA) im_B_startOf se_B_startOf hB.1 rfl (ct_B_start0 hs hB) d_B_insert_28 (n := 31) rfl rfl rfl rfl (Nat.le_of_ble_eq_true rfl) (Nat.le_of_ble_eq_true rfl) (Nat.le_of_ble_eq_true rfl) (Nat.le_refl _) (Nat.le_refl _) ?_
      refine fv_istore_n C d_B_insert_31 (n := 32) rfl (i := 3) rfl (by decide) (L' := [_, _, _, _, _]) rfl ?_
      refine fv_aload_n C d_B_insert_32 (n := 33) rfl (i := 0) rfl rfl ?_
      refine fv_aload_n C d_B_insert_33 (n := 34) rfl (i := 1) rfl rfl ?_
      refine fv_get C (fl_B_62 D dA) d_B_insert_34 (n := 37) rfl hE rfl ?_
      refine fv_callV_r C (ml_B_68 D dA) im_B_endOf se_B_endOf hB.1 rfl (ct_B_end0 hs hB) d_B_insert_37 (n := 40) rfl rfl rfl rfl (Nat.le_of_ble_eq_true rfl) (Nat.le_of_ble_eq_true rfl) (Nat.le_of_ble_eq_true rfl) (Nat.le_refl _) (Nat.le_refl _) ?_
      refine fv_istore C d_B_insert_40 (n := 42) rfl (by decide) (L' := [_, _, _, _, _]) rfl ?_
      exact loop sl.length 0 (by omega) (fun i o hi => absurd hi (by omega))
  · exact absurd hc6 (by omega)
def bk_left (z : Int32) (ev : bo_E) : Int32 := if ev.1 = 1 then ev.2.2.2.2.2.2 else if ev.1 = 2 then z - ev.2.2.2.2.2.2 else 0
theorem ct_B_sizeLeft {z : Int32} (hE : EV h e ev) (h13 : ev.1 = 1 ∨ ev.1 = 2 ∨ ev.1 = 3) : fv_T l (fk D dA) Bs WA m_B_sizeLeft [.int z, .ref e] sz h 0 0 (fp_r (.int (bk_left z ev)) sz h) := by
  obtain ⟨so, ins, num, id, s, pr, v⟩ := ev
  dsimp only at h13
  have hE : h e = some (.inr (2, [.int (nI so), .int (nI ins), .int (nI num), .int id, .int (nI s), .int pr, .int v])) := hE
  refine fv_of (L := [_, _]) (by decide +kernel) rfl (Nat.le_of_ble_eq_true rfl) rfl ?_
  intro X hX C
  subst hX
  refine fv_aload_n C d_B_sizeLeft_0 (n := 1) rfl (i := 1) rfl rfl ?_
  refine fv_get C (fl_B_43 D dA) d_B_sizeLeft_1 (n := 4) rfl hE rfl ?_
  rcases h13 with rfl | rfl | rfl
  · refine fv_lookup C d_B_sizeLeft_4 (by decide +kernel) (off := 28) (by decide +kernel) (tgt := 32) rfl ?_
    refine fv_aload_n C d_B_sizeLeft_32 (n := 33) rfl (i := 1) rfl rfl ?_
    refine fv_get C (fl_B_52 D dA) d_B_sizeLeft_33 (n := 36) rfl hE rfl ?_
    refine fv_iret C rfl d_B_sizeLeft_36 (Nat.le_refl _) (Nat.le_refl _) ?_
    exact ⟨rfl, rfl, rfl⟩
  · refine fv_lookup C d_B_sizeLeft_4 (by decide +kernel) (off := 33) (by decide +kernel) (tgt := 37) rfl ?_
    refine fv_iload_n C d_B_sizeLeft_37 (n := 38) rfl (i := 0) rfl rfl ?_
    refine fv_aload_n C d_B_sizeLeft_38 (n := 39) rfl (i := 1) rfl rfl ?_
    refine fv_get C (fl_B_52 D dA) d_B_sizeLeft_39 (n := 42) rfl hE rfl ?_
    refine fv_isub C d_B_sizeLeft_42 (n := 43) rfl ?_
    refine fv_iret C rfl d_B_sizeLeft_43 (Nat.le_refl _) (Nat.le_refl _) ?_
    exact ⟨rfl, rfl, rfl⟩
  · refine fv_lookup C d_B_sizeLeft_4 (by decide +kernel) (off := 40) (by decide +kernel) (tgt := 44) rfl ?_
    refine fv_iconst C d_B_sizeLeft_44 (n := 45) rfl kI_0 ?_
    refine fv_iret C rfl d_B_sizeLeft_45 (Nat.le_refl _) (Nat.le_refl _) ?_
    exact ⟨rfl, rfl, rfl⟩
theorem bk_shrink {ev : bo_E} {o : bo_O} (h13 : ev.1 = 1 ∨ ev.1 = 2 ∨ ev.1 = 3) (hew : bo_ewf ev) (hw : bo_wf b.1) (hok : bo_ok b ev.1 ev.2.2.2.1 ev.2.2.2.2.2.2 = true) (hf : bo_fi b.1 ev.2.2.2.1 = some o) :
    (0 < bk_left o.2.2.2 ev ∧ bo_apl b ev = (bo_siz b.1 o.1 (bk_left o.2.2.2 ev), b.2)) ∨ (bk_left o.2.2.2 ev = 0 ∧ bo_apl b ev = (bo_del b.1 o.1, b.2)) := by
  obtain ⟨so, ins, num, id, s, pr, v⟩ := ev
  dsimp only at h13 hok hf
  obtain ⟨-, -, -, hpos⟩ := hew
  dsimp only at hpos
  obtain ⟨hm, hid⟩ := bo_fi_some hf
  have hsz : bo_szo b.1 id = o.2.2.2 := by simp [bo_szo, hf]
  rcases h13 with rfl | rfl | rfl
  · exact Or.inl ⟨by simpa [bk_left] using hpos (by decide), by simp [bo_apl, bk_left, hid]⟩
  · simp [bo_ok, hf] at hok
    by_cases hz : o.2.2.2 = v
    · refine Or.inr ⟨by simp [bk_left, hz, Int32.sub_self], ?_⟩
      simp [bo_apl, hsz, hz, hid]
    · refine Or.inl ⟨?_, ?_⟩
      · simp only [bk_left]
        exact bo_sub_pos (hw.2.2.1 o hm) (hpos (by decide)) hok.2 hz
      · simp [bo_apl, hsz, hz, hid, bk_left]
  · exact Or.inr ⟨by simp [bk_left], by simp [bo_apl, hid]⟩
theorem ct_B_shrink {k : Nat} {o : bo_O} (hE : EV h e ev) (he : e < a ∨ a + 4 ≤ e) (hBs : Bs ≤ a) (h13 : ev.1 = 1 ∨ ev.1 = 2 ∨ ev.1 = 3) (hew : bo_ewf ev) (hok : bo_ok b ev.1 ev.2.2.2.1 ev.2.2.2.2.2.2 = true) (hk : (bo_arr b.1)[k]? = some o) (hf : bo_fi b.1 ev.2.2.2.1 = some o) (hL : BL dA h a b nn) : fv_T l (fk D dA) Bs WA m_B_shrink [.ref a, .int (nI k), .ref e] sz h 0 0 (fp_v sz (fun h' => BL dA h' a (bo_apl b ev) nn ∧ fr h h' a 4)) := by
  have hwf := bo_wf_apl hL.wf hew hok
  obtain ⟨ids, pri, siz, hB, hA, hw⟩ := hL
  have hkl : k < b.1.length := by
    have := (List.getElem?_eq_some_iff.mp hk).1
    rwa [bo_arr_len hw.2.1] at this
  have h24 := hw.2.2.2
  have hkm := nI_nm1 (k := k) (by omega)
  obtain ⟨-, -, hz⟩ := hA k o hk
  have hcs := bk_shrink h13 hew hw hok hf
  have hbl := bo_len_sum hw.2.1
  have hnd := bo_arr_nodup hw
  have hG := fr_rf h a 4
  refine fv_of (L := [_, _, _, _]) (by decide +kernel) rfl (Nat.le_of_ble_eq_true rfl) rfl ?_
  intro X hX C
  subst hX
  rcases hcs with ⟨hpos, hap⟩ | ⟨hzero, hap⟩
  · refine fv_iload_n C d_B_shrink_0 (n := 1) rfl (i := 1) rfl rfl ?_
    refine fv_iconst C d_B_shrink_1 (n := 2) rfl kI_m1 ?_
    refine fv_icmp_ne C d_B_shrink_2 (tgt := 6) rfl (n := 5) rfl (fun hc2 => ?_) (fun hc2 => ?_)
    · refine fv_aload_n C d_B_shrink_6 (n := 7) rfl (i := 0) rfl rfl ?_
      refine fv_get C (fl_B_18 D dA) d_B_shrink_7 (n := 10) rfl hB.1 rfl ?_
      refine fv_iload_n C d_B_shrink_10 (n := 11) rfl (i := 1) rfl rfl ?_
      refine fv_ialdN C (t0 := 0) rfl d_B_shrink_11 (n := 12) rfl hB.2.2.2 (by omega) (by decide) ?_
      refine fv_aload_n C d_B_shrink_12 (n := 13) rfl (i := 2) rfl rfl ?_
      refine fv_callS_r C (ml_B_80 D dA) sm_B_sizeLeft (ct_B_sizeLeft hE h13) d_B_shrink_13 (n := 16) rfl rfl rfl rfl (Nat.le_of_ble_eq_true rfl) (Nat.le_of_ble_eq_true rfl) (Nat.le_of_ble_eq_true rfl) (Nat.le_refl _) (Nat.le_refl _) ?_
      refine fv_istore_n C d_B_shrink_16 (n := 17) rfl (i := 3) rfl (by decide) (L' := [_, _, _, _]) rfl ?_
      rw [hz]
      refine fv_iload_n C d_B_shrink_17 (n := 18) rfl (i := 3) rfl rfl ?_
      refine fv_if_le C d_B_shrink_18 (tgt := 29) rfl (n := 21) rfl (fun hc18 => ?_) (fun hc18 => ?_)
      · exact absurd hc18 (Int32.not_le.mpr hpos)
      · refine fv_aload_n C d_B_shrink_21 (n := 22) rfl (i := 0) rfl rfl ?_
        refine fv_get C (fl_B_18 D dA) d_B_shrink_22 (n := 25) rfl hB.1 rfl ?_
        refine fv_iload_n C d_B_shrink_25 (n := 26) rfl (i := 1) rfl rfl ?_
        refine fv_iload_n C d_B_shrink_26 (n := 27) rfl (i := 3) rfl rfl ?_
        refine bk_ssiz C d_B_shrink_27 (n := 28) rfl hB hBs (by omega) (fun h1 hB hF => ?_)
        have hE := (hF.at (by omega)).trans hE
        have hG := hG.tr hF
        refine fv_vret C rfl d_B_shrink_28 (Nat.le_refl _) (Nat.le_refl _) ?_
        have hA2 := bo_AR_set (v := bk_left o.2.2.2 ev) hA hk
        rw [bo_set_siz hnd hk, ← bo_arr_siz] at hA2
        refine ⟨rfl, rfl, ⟨_, _, _, ?_, by rw [hap]; exact hA2, hwf⟩, hG⟩
        rw [hap]
        dsimp only
        rw [bo_srt_siz, bo_siz_len, bo_siz_len]
        exact hB
    · exact absurd hc2 hkm
  · refine fv_iload_n C d_B_shrink_0 (n := 1) rfl (i := 1) rfl rfl ?_
    refine fv_iconst C d_B_shrink_1 (n := 2) rfl kI_m1 ?_
    refine fv_icmp_ne C d_B_shrink_2 (tgt := 6) rfl (n := 5) rfl (fun hc2 => ?_) (fun hc2 => ?_)
    · refine fv_aload_n C d_B_shrink_6 (n := 7) rfl (i := 0) rfl rfl ?_
      refine fv_get C (fl_B_18 D dA) d_B_shrink_7 (n := 10) rfl hB.1 rfl ?_
      refine fv_iload_n C d_B_shrink_10 (n := 11) rfl (i := 1) rfl rfl ?_
      refine fv_ialdN C (t0 := 0) rfl d_B_shrink_11 (n := 12) rfl hB.2.2.2 (by omega) (by decide) ?_
      refine fv_aload_n C d_B_shrink_12 (n := 13) rfl (i := 2) rfl rfl ?_
      refine fv_callS_r C (ml_B_80 D dA) sm_B_sizeLeft (ct_B_sizeLeft hE h13) d_B_shrink_13 (n := 16) rfl rfl rfl rfl (Nat.le_of_ble_eq_true rfl) (Nat.le_of_ble_eq_true rfl) (Nat.le_of_ble_eq_true rfl) (Nat.le_refl _) (Nat.le_refl _) ?_
      refine fv_istore_n C d_B_shrink_16 (n := 17) rfl (i := 3) rfl (by decide) (L' := [_, _, _, _]) rfl ?_
      rw [hz, hzero]
      refine fv_iload_n C d_B_shrink_17 (n := 18) rfl (i := 3) rfl rfl ?_
      refine fv_if_le C d_B_shrink_18 (tgt := 29) rfl (n := 21) rfl (fun hc18 => ?_) (fun hc18 => ?_)
      · refine fv_aload_n C d_B_shrink_29 (n := 30) rfl (i := 0) rfl rfl ?_
        refine fv_dup C d_B_shrink_30 (n := 31) rfl rfl ?_
        refine fv_get C (fl_B_25 D dA) d_B_shrink_31 (n := 34) rfl hB.1 rfl ?_
        refine fv_iconst C d_B_shrink_34 (n := 35) rfl kI_1 ?_
        refine fv_isubN C (by omega) d_B_shrink_35 (n := 36) rfl ?_
        refine bk_ptot C (fl_B_25 D dA) d_B_shrink_36 (n := 39) rfl hB hBs (fun h1 hB hF => ?_)
        have hE := (hF.at (by omega)).trans hE
        have hG := hG.tr hF
        refine fv_iload_n C d_B_shrink_39 (n := 40) rfl (i := 1) rfl rfl ?_
        refine fv_aload_n C d_B_shrink_40 (n := 41) rfl (i := 0) rfl rfl ?_
        refine fv_get C (fl_B_21 D dA) d_B_shrink_41 (n := 44) rfl hB.1 rfl ?_
        refine fv_icmpN_ge C (by omega) (by omega) d_B_shrink_44 (tgt := 57) rfl (n := 47) rfl (fun hc44 => ?_) (fun hc44 => ?_)
        · refine fv_aload_n C d_B_shrink_57 (n := 58) rfl (i := 0) rfl rfl ?_
          refine fv_get C (fl_B_9 D dA) d_B_shrink_58 (n := 61) rfl hB.1 rfl ?_
          refine fv_iload_n C d_B_shrink_61 (n := 62) rfl (i := 1) rfl rfl ?_
          refine fv_iconst C d_B_shrink_62 (n := 63) rfl kI_1 ?_
          first | refine fv_iaddN C d_B_shrink_63 (n := 64) rfl ?_ | refine fv_iadd C d_B_shrink_63 (n := 64) rfl ?_
          refine fv_aload_n C d_B_shrink_64 (n := 65) rfl (i := 0) rfl rfl ?_
          refine fv_get C (fl_B_9 D dA) d_B_shrink_65 (n := 68) rfl hB.1 rfl ?_
          refine fv_iload_n C d_B_shrink_68 (n := 69) rfl (i := 1) rfl rfl ?_
          refine fv_aload_n C d_B_shrink_69 (n := 70) rfl (i := 0) rfl rfl ?_
          refine fv_get C (fl_B_25 D dA) d_B_shrink_70 (n := 73) rfl hB.1 rfl ?_
          refine fv_iload_n C d_B_shrink_73 (n := 74) rfl (i := 1) rfl rfl ?_
          refine fv_isubN C (by omega) d_B_shrink_74 (n := 75) rfl ?_
          refine bk_cids C nl_B_74 d_B_shrink_75 (n := 78) rfl rfl hB.2.1 hB hBs (by omega) (by omega) (by decide) (Nat.le_of_ble_eq_true rfl) (Nat.le_of_ble_eq_true rfl) (fun h1 hB hF => ?_)
          have hE := (hF.at (by omega)).trans hE
          have hG := hG.tr hF
          refine fv_aload_n C d_B_shrink_78 (n := 79) rfl (i := 0) rfl rfl ?_
          refine fv_get C (fl_B_15 D dA) d_B_shrink_79 (n := 82) rfl hB.1 rfl ?_
          refine fv_iload_n C d_B_shrink_82 (n := 83) rfl (i := 1) rfl rfl ?_
          refine fv_iconst C d_B_shrink_83 (n := 84) rfl kI_1 ?_
          first | refine fv_iaddN C d_B_shrink_84 (n := 85) rfl ?_ | refine fv_iadd C d_B_shrink_84 (n := 85) rfl ?_
          refine fv_aload_n C d_B_shrink_85 (n := 86) rfl (i := 0) rfl rfl ?_
          refine fv_get C (fl_B_15 D dA) d_B_shrink_86 (n := 89) rfl hB.1 rfl ?_
          refine fv_iload_n C d_B_shrink_89 (n := 90) rfl (i := 1) rfl rfl ?_
          refine fv_aload_n C d_B_shrink_90 (n := 91) rfl (i := 0) rfl rfl ?_
          refine fv_get C (fl_B_25 D dA) d_B_shrink_91 (n := 94) rfl hB.1 rfl ?_
          refine fv_iload_n C d_B_shrink_94 (n := 95) rfl (i := 1) rfl rfl ?_
          refine fv_isubN C (by omega) d_B_shrink_95 (n := 96) rfl ?_
          refine bk_cpri C nl_B_74 d_B_shrink_96 (n := 99) rfl rfl hB.2.2.1 hB hBs (by omega) (by omega) (by decide) (Nat.le_of_ble_eq_true rfl) (Nat.le_of_ble_eq_true rfl) (fun h1 hB hF => ?_)
          have hE := (hF.at (by omega)).trans hE
          have hG := hG.tr hF
          refine fv_aload_n C d_B_shrink_99 (n := 100) rfl (i := 0) rfl rfl ?_
          refine fv_get C (fl_B_18 D dA) d_B_shrink_100 (n := 103) rfl hB.1 rfl ?_
          refine fv_iload_n C d_B_shrink_103 (n := 104) rfl (i := 1) rfl rfl ?_
          refine fv_iconst C d_B_shrink_104 (n := 105) rfl kI_1 ?_
          first | refine fv_iaddN C d_B_shrink_105 (n := 106) rfl ?_ | refine fv_iadd C d_B_shrink_105 (n := 106) rfl ?_
          refine fv_aload_n C d_B_shrink_106 (n := 107) rfl (i := 0) rfl rfl ?_
          refine fv_get C (fl_B_18 D dA) d_B_shrink_107 (n := 110) rfl hB.1 rfl ?_
          refine fv_iload_n C d_B_shrink_110 (n := 111) rfl (i := 1) rfl rfl ?_
          refine fv_aload_n C d_B_shrink_111 (n := 112) rfl (i := 0) rfl rfl ?_
          refine fv_get C (fl_B_25 D dA) d_B_shrink_112 (n := 115) rfl hB.1 rfl ?_
          refine fv_iload_n C d_B_shrink_115 (n := 116) rfl (i := 1) rfl rfl ?_
          refine fv_isubN C (by omega) d_B_shrink_116 (n := 117) rfl ?_
          refine bk_csiz C nl_B_74 d_B_shrink_117 (n := 120) rfl rfl hB.2.2.2 hB hBs (by omega) (by omega) (by decide) (Nat.le_of_ble_eq_true rfl) (Nat.le_of_ble_eq_true rfl) (fun h1 hB hF => ?_)
          have hE := (hF.at (by omega)).trans hE
          have hG := hG.tr hF
          refine fv_vret C rfl d_B_shrink_120 (Nat.le_refl _) (Nat.le_refl _) ?_
          have hA2 := bo_AR_del hA (k := k) (by rw [bo_arr_len hw.2.1]; exact hkl)
          rw [bo_arr_len hw.2.1, bo_erase_del hnd hk, ← bo_arr_del] at hA2
          refine ⟨rfl, rfl, ⟨_, _, _, ?_, by rw [hap]; exact hA2, hwf⟩, hG⟩
          rw [hap]
          dsimp only
          rw [bo_buys_del hw hk, bo_len_del hw hk]
          first | (rw [if_pos hc44]; exact hB) | (rw [if_neg (by omega)]; exact hB)
        · refine fv_aload_n C d_B_shrink_47 (n := 48) rfl (i := 0) rfl rfl ?_
          refine fv_dup C d_B_shrink_48 (n := 49) rfl rfl ?_
          refine fv_get C (fl_B_21 D dA) d_B_shrink_49 (n := 52) rfl hB.1 rfl ?_
          refine fv_iconst C d_B_shrink_52 (n := 53) rfl kI_1 ?_
          refine fv_isubN C (by omega) d_B_shrink_53 (n := 54) rfl ?_
          refine bk_pbuys C (fl_B_21 D dA) d_B_shrink_54 (n := 57) rfl hB hBs (fun h1 hB hF => ?_)
          have hE := (hF.at (by omega)).trans hE
          have hG := hG.tr hF
          refine fv_aload_n C d_B_shrink_57 (n := 58) rfl (i := 0) rfl rfl ?_
          refine fv_get C (fl_B_9 D dA) d_B_shrink_58 (n := 61) rfl hB.1 rfl ?_
          refine fv_iload_n C d_B_shrink_61 (n := 62) rfl (i := 1) rfl rfl ?_
          refine fv_iconst C d_B_shrink_62 (n := 63) rfl kI_1 ?_
          first | refine fv_iaddN C d_B_shrink_63 (n := 64) rfl ?_ | refine fv_iadd C d_B_shrink_63 (n := 64) rfl ?_
          refine fv_aload_n C d_B_shrink_64 (n := 65) rfl (i := 0) rfl rfl ?_
          refine fv_get C (fl_B_9 D dA) d_B_shrink_65 (n := 68) rfl hB.1 rfl ?_
          refine fv_iload_n C d_B_shrink_68 (n := 69) rfl (i := 1) rfl rfl ?_
          refine fv_aload_n C d_B_shrink_69 (n := 70) rfl (i := 0) rfl rfl ?_
          refine fv_get C (fl_B_25 D dA) d_B_shrink_70 (n := 73) rfl hB.1 rfl ?_
          refine fv_iload_n C d_B_shrink_73 (n := 74) rfl (i := 1) rfl rfl ?_
          refine fv_isubN C (by omega) d_B_shrink_74 (n := 75) rfl ?_
          refine bk_cids C nl_B_74 d_B_shrink_75 (n := 78) rfl rfl hB.2.1 hB hBs (by omega) (by omega) (by decide) (Nat.le_of_ble_eq_true rfl) (Nat.le_of_ble_eq_true rfl) (fun h1 hB hF => ?_)
          have hE := (hF.at (by omega)).trans hE
          have hG := hG.tr hF
          refine fv_aload_n C d_B_shrink_78 (n := 79) rfl (i := 0) rfl rfl ?_
          refine fv_get C (fl_B_15 D dA) d_B_shrink_79 (n := 82) rfl hB.1 rfl ?_
          refine fv_iload_n C d_B_shrink_82 (n := 83) rfl (i := 1) rfl rfl ?_
          refine fv_iconst C d_B_shrink_83 (n := 84) rfl kI_1 ?_
          first | refine fv_iaddN C d_B_shrink_84 (n := 85) rfl ?_ | refine fv_iadd C d_B_shrink_84 (n := 85) rfl ?_
          refine fv_aload_n C d_B_shrink_85 (n := 86) rfl (i := 0) rfl rfl ?_
          refine fv_get C (fl_B_15 D dA) d_B_shrink_86 (n := 89) rfl hB.1 rfl ?_
          refine fv_iload_n C d_B_shrink_89 (n := 90) rfl (i := 1) rfl rfl ?_
          refine fv_aload_n C d_B_shrink_90 (n := 91) rfl (i := 0) rfl rfl ?_
          refine fv_get C (fl_B_25 D dA) d_B_shrink_91 (n := 94) rfl hB.1 rfl ?_
          refine fv_iload_n C d_B_shrink_94 (n := 95) rfl (i := 1) rfl rfl ?_
          refine fv_isubN C (by omega) d_B_shrink_95 (n := 96) rfl ?_
          refine bk_cpri C nl_B_74 d_B_shrink_96 (n := 99) rfl rfl hB.2.2.1 hB hBs (by omega) (by omega) (by decide) (Nat.le_of_ble_eq_true rfl) (Nat.le_of_ble_eq_true rfl) (fun h1 hB hF => ?_)
          have hE := (hF.at (by omega)).trans hE
          have hG := hG.tr hF
          refine fv_aload_n C d_B_shrink_99 (n := 100) rfl (i := 0) rfl rfl ?_
          refine fv_get C (fl_B_18 D dA) d_B_shrink_100 (n := 103) rfl hB.1 rfl ?_
          refine fv_iload_n C d_B_shrink_103 (n := 104) rfl (i := 1) rfl rfl ?_
          refine fv_iconst C d_B_shrink_104 (n := 105) rfl kI_1 ?_
          first | refine fv_iaddN C d_B_shrink_105 (n := 106) rfl ?_ | refine fv_iadd C d_B_shrink_105 (n := 106) rfl ?_
          refine fv_aload_n C d_B_shrink_106 (n := 107) rfl (i := 0) rfl rfl ?_
          refine fv_get C (fl_B_18 D dA) d_B_shrink_107 (n := 110) rfl hB.1 rfl ?_
          refine fv_iload_n C d_B_shrink_110 (n := 111) rfl (i := 1) rfl rfl ?_
          refine fv_aload_n C d_B_shrink_111 (n := 112) rfl (i := 0) rfl rfl ?_
          refine fv_get C (fl_B_25 D dA) d_B_shrink_112 (n := 115) rfl hB.1 rfl ?_
          refine fv_iload_n C d_B_shrink_115 (n := 116) rfl (i := 1) rfl rfl ?_
          refine fv_isubN C (by omega) d_B_shrink_116 (n := 117) rfl ?_
          refine bk_csiz C nl_B_74 d_B_shrink_117 (n := 120) rfl rfl hB.2.2.2 hB hBs (by omega) (by omega) (by decide) (Nat.le_of_ble_eq_true rfl) (Nat.le_of_ble_eq_true rfl) (fun h1 hB hF => ?_)
          have hE := (hF.at (by omega)).trans hE
          have hG := hG.tr hF
          refine fv_vret C rfl d_B_shrink_120 (Nat.le_refl _) (Nat.le_refl _) ?_
          have hA2 := bo_AR_del hA (k := k) (by rw [bo_arr_len hw.2.1]; exact hkl)
          rw [bo_arr_len hw.2.1, bo_erase_del hnd hk, ← bo_arr_del] at hA2
          refine ⟨rfl, rfl, ⟨_, _, _, ?_, by rw [hap]; exact hA2, hwf⟩, hG⟩
          rw [hap]
          dsimp only
          rw [bo_buys_del hw hk, bo_len_del hw hk]
          first | (rw [if_pos hc44]; exact hB) | (rw [if_neg (by omega)]; exact hB)
      · exact absurd (show (0 : Int32) ≤ 0 by decide +kernel) (by first | exact hc18 | exact Int32.not_le.mpr hc18)
    · exact absurd hc2 hkm
theorem bo_AR_cpy {ids pri siz i2 p2 z2 : Nat → Int32} {arr : List bo_O} {n : Nat} (hA : bo_AR ids pri siz arr) (hn : arr.length = n) : bo_AR (va_cpy ids i2 0 0 n) (va_cpy pri p2 0 0 n) (va_cpy siz z2 0 0 n) arr := by
  intro j o ho
  have hj := (List.getElem?_eq_some_iff.mp ho).1
  have h1 : 0 ≤ j ∧ j < 0 + n := by omega
  simp only [va_cpy, if_pos h1]
  rw [show 0 + (j - 0) = j by omega]
  exact hA j o ho
theorem ct_B_become {a2 : Nat} {b2 : bo_B} {n2 : Nat} (hBs : Bs ≤ a) (hd : a2 + 4 ≤ a ∨ a + 4 ≤ a2) (hL : BL dA h a b nn) (hL2 : BL dA h a2 b2 n2) : fv_T l (fk D dA) Bs WA m_B_become [.ref a, .ref a2] sz h 0 0 (fp_v sz (fun h' => BL dA h' a b2 n2 ∧ fr h h' a 4)) := by
  obtain ⟨ids, pri, siz, hB, hA, hw⟩ := hL
  obtain ⟨i2, p2, z2, hO, hA2, hw2⟩ := hL2
  have h24 := hw2.2.2.2
  have hA3 := bo_AR_cpy (i2 := ids) (p2 := pri) (z2 := siz) hA2 (bo_arr_len hw2.2.1)
  have hG := fr_rf h a 4
  refine fv_of (L := [_, _]) (by decide +kernel) rfl (Nat.le_of_ble_eq_true rfl) rfl ?_
  intro X hX C
  subst hX
  refine fv_aload_n C d_B_become_0 (n := 1) rfl (i := 1) rfl rfl ?_
  refine fv_get C (fl_B_9 D dA) d_B_become_1 (n := 4) rfl hO.1 rfl ?_
  refine fv_iconst C d_B_become_4 (n := 5) rfl kI_0 ?_
  refine fv_aload_n C d_B_become_5 (n := 6) rfl (i := 0) rfl rfl ?_
  refine fv_get C (fl_B_9 D dA) d_B_become_6 (n := 9) rfl hB.1 rfl ?_
  refine fv_iconst C d_B_become_9 (n := 10) rfl kI_0 ?_
  refine fv_aload_n C d_B_become_10 (n := 11) rfl (i := 1) rfl rfl ?_
  refine fv_get C (fl_B_25 D dA) d_B_become_11 (n := 14) rfl hO.1 rfl ?_
  refine bk_cids C nl_B_74 d_B_become_14 (n := 17) rfl rfl hO.2.1 hB hBs (by omega) (by omega) (by decide) (Nat.le_of_ble_eq_true rfl) (Nat.le_of_ble_eq_true rfl) (fun h1 hB hF => ?_)
  have hO := hO.fr hF (by omega)
  have hG := hG.tr hF
  refine fv_aload_n C d_B_become_17 (n := 18) rfl (i := 1) rfl rfl ?_
  refine fv_get C (fl_B_15 D dA) d_B_become_18 (n := 21) rfl hO.1 rfl ?_
  refine fv_iconst C d_B_become_21 (n := 22) rfl kI_0 ?_
  refine fv_aload_n C d_B_become_22 (n := 23) rfl (i := 0) rfl rfl ?_
  refine fv_get C (fl_B_15 D dA) d_B_become_23 (n := 26) rfl hB.1 rfl ?_
  refine fv_iconst C d_B_become_26 (n := 27) rfl kI_0 ?_
  refine fv_aload_n C d_B_become_27 (n := 28) rfl (i := 1) rfl rfl ?_
  refine fv_get C (fl_B_25 D dA) d_B_become_28 (n := 31) rfl hO.1 rfl ?_
  refine bk_cpri C nl_B_74 d_B_become_31 (n := 34) rfl rfl hO.2.2.1 hB hBs (by omega) (by omega) (by decide) (Nat.le_of_ble_eq_true rfl) (Nat.le_of_ble_eq_true rfl) (fun h1 hB hF => ?_)
  have hO := hO.fr hF (by omega)
  have hG := hG.tr hF
  refine fv_aload_n C d_B_become_34 (n := 35) rfl (i := 1) rfl rfl ?_
  refine fv_get C (fl_B_18 D dA) d_B_become_35 (n := 38) rfl hO.1 rfl ?_
  refine fv_iconst C d_B_become_38 (n := 39) rfl kI_0 ?_
  refine fv_aload_n C d_B_become_39 (n := 40) rfl (i := 0) rfl rfl ?_
  refine fv_get C (fl_B_18 D dA) d_B_become_40 (n := 43) rfl hB.1 rfl ?_
  refine fv_iconst C d_B_become_43 (n := 44) rfl kI_0 ?_
  refine fv_aload_n C d_B_become_44 (n := 45) rfl (i := 1) rfl rfl ?_
  refine fv_get C (fl_B_25 D dA) d_B_become_45 (n := 48) rfl hO.1 rfl ?_
  refine bk_csiz C nl_B_74 d_B_become_48 (n := 51) rfl rfl hO.2.2.2 hB hBs (by omega) (by omega) (by decide) (Nat.le_of_ble_eq_true rfl) (Nat.le_of_ble_eq_true rfl) (fun h1 hB hF => ?_)
  have hO := hO.fr hF (by omega)
  have hG := hG.tr hF
  refine fv_aload_n C d_B_become_51 (n := 52) rfl (i := 0) rfl rfl ?_
  refine fv_aload_n C d_B_become_52 (n := 53) rfl (i := 1) rfl rfl ?_
  refine fv_get C (fl_B_21 D dA) d_B_become_53 (n := 56) rfl hO.1 rfl ?_
  refine bk_pbuys C (fl_B_21 D dA) d_B_become_56 (n := 59) rfl hB hBs (fun h1 hB hF => ?_)
  have hO := hO.fr hF (by omega)
  have hG := hG.tr hF
  refine fv_aload_n C d_B_become_59 (n := 60) rfl (i := 0) rfl rfl ?_
  refine fv_aload_n C d_B_become_60 (n := 61) rfl (i := 1) rfl rfl ?_
  refine fv_get C (fl_B_25 D dA) d_B_become_61 (n := 64) rfl hO.1 rfl ?_
  refine bk_ptot C (fl_B_25 D dA) d_B_become_64 (n := 67) rfl hB hBs (fun h1 hB hF => ?_)
  have hO := hO.fr hF (by omega)
  have hG := hG.tr hF
  refine fv_aload_n C d_B_become_67 (n := 68) rfl (i := 0) rfl rfl ?_
  refine fv_aload_n C d_B_become_68 (n := 69) rfl (i := 1) rfl rfl ?_
  refine fv_get C (fl_B_28 D dA) d_B_become_69 (n := 72) rfl hO.1 rfl ?_
  refine bk_phlt C (fl_B_28 D dA) d_B_become_72 (n := 75) rfl hB hBs (fun h1 hB hF => ?_)
  have hO := hO.fr hF (by omega)
  have hG := hG.tr hF
  refine fv_aload_n C d_B_become_75 (n := 76) rfl (i := 0) rfl rfl ?_
  refine fv_aload_n C d_B_become_76 (n := 77) rfl (i := 1) rfl rfl ?_
  refine fv_get C (fl_B_32 D dA) d_B_become_77 (n := 80) rfl hO.1 rfl ?_
  refine bk_papp C (fl_B_32 D dA) d_B_become_80 (n := 83) rfl hB hBs (fun h1 hB hF => ?_)
  have hO := hO.fr hF (by omega)
  have hG := hG.tr hF
  refine fv_vret C rfl d_B_become_83 (Nat.le_refl _) (Nat.le_refl _) ?_
  exact ⟨rfl, rfl, ⟨_, _, _, hB, hA3, hw2⟩, hG⟩
theorem ct_B_apply (hE : EV h e ev) (he : e < a ∨ a + 4 ≤ e) (hBs : Bs ≤ a) (hew : bo_ewf ev) (hok : bo_ok b ev.1 ev.2.2.2.1 ev.2.2.2.2.2.2 = true) (hL : BL dA h a b nn) : fv_T l (fk D dA) Bs WA m_B_apply [.ref a, .ref e] sz h 0 0 (fp_v sz (fun h' => BL dA h' a (bo_apl b ev) (nn + 1) ∧ fr h h' a 4)) := by
  have hwf := bo_wf_apl hL.wf hew hok
  obtain ⟨so, ins, num, id, s, pr, v⟩ := ev
  have hso : so ≤ 5 := hew.1
  have hE0 := hE
  have hE : h e = some (.inr (2, [.int (nI so), .int (nI ins), .int (nI num), .int id, .int (nI s), .int pr, .int v])) := hE
  obtain ⟨ids, pri, siz, hB, hA, hw⟩ := hL
  have hG := fr_rf h a 4
  refine fv_of (L := [_, _]) (by decide +kernel) rfl (Nat.le_of_ble_eq_true rfl) rfl ?_
  intro X hX C
  subst hX
  refine fv_aload_n C d_B_apply_0 (n := 1) rfl (i := 0) rfl rfl ?_
  refine fv_dup C d_B_apply_1 (n := 2) rfl rfl ?_
  refine fv_get C (fl_B_32 D dA) d_B_apply_2 (n := 5) rfl hB.1 rfl ?_
  refine fv_iconst C d_B_apply_5 (n := 6) rfl kI_1 ?_
  first | refine fv_iaddN C d_B_apply_6 (n := 7) rfl ?_ | refine fv_iadd C d_B_apply_6 (n := 7) rfl ?_
  refine bk_papp C (fl_B_32 D dA) d_B_apply_7 (n := 10) rfl hB hBs (fun h1 hB hF => ?_)
  have hE := (hF.at (by omega)).trans hE
  have hG := hG.tr hF
  refine fv_aload_n C d_B_apply_10 (n := 11) rfl (i := 1) rfl rfl ?_
  refine fv_get C (fl_B_43 D dA) d_B_apply_11 (n := 14) rfl hE rfl ?_
  have hcase : so = 0 ∨ so = 4 ∨ so = 5 ∨ so = 1 ∨ so = 2 ∨ so = 3 := by omega
  rcases hcase with rfl | rfl | rfl | rfl | rfl | rfl
  · refine fv_lookup C d_B_apply_14 (by decide +kernel) (off := 34) (by decide +kernel) (tgt := 48) rfl ?_
    refine fv_aload_n C d_B_apply_48 (n := 49) rfl (i := 0) rfl rfl ?_
    refine fv_aload_n C d_B_apply_49 (n := 50) rfl (i := 1) rfl rfl ?_
    refine fv_callV_v C (ml_B_48 D dA) im_B_insert se_B_insert hB.1 rfl (ct_B_insert (ev := (0, ins, num, id, s, pr, v)) hE (by omega) hBs rfl hew hok ⟨ids, pri, siz, hB, hA, hw⟩) d_B_apply_50 (n := 53) rfl rfl rfl rfl (Nat.le_of_ble_eq_true rfl) (Nat.le_of_ble_eq_true rfl) (Nat.le_of_ble_eq_true rfl) (Nat.le_refl _) (Nat.le_refl _) (fun h2 hp => ?_)
    refine fv_goto C d_B_apply_53 (tgt := 102) rfl ?_
    refine fv_vret C rfl d_B_apply_102 (Nat.le_refl _) (Nat.le_refl _) ?_
    first | exact ⟨rfl, rfl, hp.1, hG.tr hp.2⟩ | exact ⟨rfl, rfl, ⟨ids, pri, siz, hB, hA, hw⟩, hG⟩ | exact ⟨rfl, rfl, ⟨ids, pri, siz, hB, fun j o ho => by simp [bo_apl, bo_arr, bo_srt] at ho, hwf⟩, hG⟩
  · refine fv_lookup C d_B_apply_14 (by decide +kernel) (off := 42) (by decide +kernel) (tgt := 56) rfl ?_
    refine fv_aload_n C d_B_apply_56 (n := 57) rfl (i := 0) rfl rfl ?_
    refine fv_aload_n C d_B_apply_57 (n := 58) rfl (i := 1) rfl rfl ?_
    refine fv_get C (fl_B_52 D dA) d_B_apply_58 (n := 61) rfl hE rfl ?_
    refine fv_iconst C d_B_apply_61 (n := 62) rfl kI_1 ?_
    refine fv_icmp_ne C d_B_apply_62 (tgt := 69) rfl (n := 65) rfl (fun hc62 => ?_) (fun hc62 => ?_)
    · have h9 : ¬ v = 1 := fun q => hc62 (by rw [q]; decide +kernel)
      have hcv : nI 0 = fv_b (decide (v = 1)) := by rw [decide_eq_false h9]; rfl
      refine fv_iconst C d_B_apply_69 (n := 70) rfl kI_0 ?_
      rw [hcv]
      refine bk_phlt C (fl_B_28 D dA) d_B_apply_70 (n := 73) rfl hB hBs (fun h1 hB hF => ?_)
      have hE := (hF.at (by omega)).trans hE
      have hG := hG.tr hF
      refine fv_goto C d_B_apply_73 (tgt := 102) rfl ?_
      refine fv_vret C rfl d_B_apply_102 (Nat.le_refl _) (Nat.le_refl _) ?_
      first | exact ⟨rfl, rfl, hp.1, hG.tr hp.2⟩ | exact ⟨rfl, rfl, ⟨ids, pri, siz, hB, hA, hw⟩, hG⟩ | exact ⟨rfl, rfl, ⟨ids, pri, siz, hB, fun j o ho => by simp [bo_apl, bo_arr, bo_srt] at ho, hwf⟩, hG⟩
    · have h9 : v = 1 := by rw [hc62]; decide +kernel
      have hcv : nI 1 = fv_b (decide (v = 1)) := by rw [decide_eq_true h9]; rfl
      refine fv_iconst C d_B_apply_65 (n := 66) rfl kI_1 ?_
      refine fv_goto C d_B_apply_66 (tgt := 70) rfl ?_
      rw [hcv]
      refine bk_phlt C (fl_B_28 D dA) d_B_apply_70 (n := 73) rfl hB hBs (fun h1 hB hF => ?_)
      have hE := (hF.at (by omega)).trans hE
      have hG := hG.tr hF
      refine fv_goto C d_B_apply_73 (tgt := 102) rfl ?_
      refine fv_vret C rfl d_B_apply_102 (Nat.le_refl _) (Nat.le_refl _) ?_
      first | exact ⟨rfl, rfl, hp.1, hG.tr hp.2⟩ | exact ⟨rfl, rfl, ⟨ids, pri, siz, hB, hA, hw⟩, hG⟩ | exact ⟨rfl, rfl, ⟨ids, pri, siz, hB, fun j o ho => by simp [bo_apl, bo_arr, bo_srt] at ho, hwf⟩, hG⟩
  · refine fv_lookup C d_B_apply_14 (by decide +kernel) (off := 62) (by decide +kernel) (tgt := 76) rfl ?_
    refine fv_aload_n C d_B_apply_76 (n := 77) rfl (i := 0) rfl rfl ?_
    refine fv_iconst C d_B_apply_77 (n := 78) rfl kI_0 ?_
    refine bk_pbuys C (fl_B_21 D dA) d_B_apply_78 (n := 81) rfl hB hBs (fun h1 hB hF => ?_)
    have hE := (hF.at (by omega)).trans hE
    have hG := hG.tr hF
    refine fv_aload_n C d_B_apply_81 (n := 82) rfl (i := 0) rfl rfl ?_
    refine fv_iconst C d_B_apply_82 (n := 83) rfl kI_0 ?_
    refine bk_ptot C (fl_B_25 D dA) d_B_apply_83 (n := 86) rfl hB hBs (fun h1 hB hF => ?_)
    have hE := (hF.at (by omega)).trans hE
    have hG := hG.tr hF
    refine fv_goto C d_B_apply_86 (tgt := 102) rfl ?_
    refine fv_vret C rfl d_B_apply_102 (Nat.le_refl _) (Nat.le_refl _) ?_
    first | exact ⟨rfl, rfl, hp.1, hG.tr hp.2⟩ | exact ⟨rfl, rfl, ⟨ids, pri, siz, hB, hA, hw⟩, hG⟩ | exact ⟨rfl, rfl, ⟨ids, pri, siz, hB, fun j o ho => by simp [bo_apl, bo_arr, bo_srt] at ho, hwf⟩, hG⟩
  · refine fv_lookup C d_B_apply_14 (by decide +kernel) (off := 75) (by decide +kernel) (tgt := 89) rfl ?_
    obtain ⟨o, hf⟩ : ∃ o, bo_fi b.1 id = some o := by
      cases hf : bo_fi b.1 id with
      | none => simp [bo_ok, hf] at hok
      | some o => exact ⟨o, rfl⟩
    obtain ⟨k, hkl, hk, hpl⟩ := bk_pl_some hA hw hf
    refine fv_aload_n C d_B_apply_89 (n := 90) rfl (i := 0) rfl rfl ?_
    refine fv_aload_n C d_B_apply_90 (n := 91) rfl (i := 0) rfl rfl ?_
    refine fv_aload_n C d_B_apply_91 (n := 92) rfl (i := 1) rfl rfl ?_
    refine fv_get C (fl_B_55 D dA) d_B_apply_92 (n := 95) rfl hE rfl ?_
    refine fv_callV_r C (ml_B_35 D dA) im_B_placeOf se_B_placeOf hB.1 rfl (ct_B_placeOf hw.2.2.2 hB) d_B_apply_95 (n := 98) rfl rfl rfl rfl (Nat.le_of_ble_eq_true rfl) (Nat.le_of_ble_eq_true rfl) (Nat.le_of_ble_eq_true rfl) (Nat.le_refl _) (Nat.le_refl _) ?_
    rw [hpl]
    refine fv_aload_n C d_B_apply_98 (n := 99) rfl (i := 1) rfl rfl ?_
    refine fv_callV_v C (ml_B_58 D dA) im_B_shrink se_B_shrink hB.1 rfl (ct_B_shrink (ev := (_, ins, num, id, s, pr, v)) hE (by omega) hBs (by simp) hew hok hk hf ⟨ids, pri, siz, hB, hA, hw⟩) d_B_apply_99 (n := 102) rfl rfl rfl rfl (Nat.le_of_ble_eq_true rfl) (Nat.le_of_ble_eq_true rfl) (Nat.le_of_ble_eq_true rfl) (Nat.le_refl _) (Nat.le_refl _) (fun h2 hp => ?_)
    refine fv_vret C rfl d_B_apply_102 (Nat.le_refl _) (Nat.le_refl _) ?_
    first | exact ⟨rfl, rfl, hp.1, hG.tr hp.2⟩ | exact ⟨rfl, rfl, ⟨ids, pri, siz, hB, hA, hw⟩, hG⟩ | exact ⟨rfl, rfl, ⟨ids, pri, siz, hB, fun j o ho => by simp [bo_apl, bo_arr, bo_srt] at ho, hwf⟩, hG⟩
  · refine fv_lookup C d_B_apply_14 (by decide +kernel) (off := 75) (by decide +kernel) (tgt := 89) rfl ?_
    obtain ⟨o, hf⟩ : ∃ o, bo_fi b.1 id = some o := by
      cases hf : bo_fi b.1 id with
      | none => simp [bo_ok, hf] at hok
      | some o => exact ⟨o, rfl⟩
    obtain ⟨k, hkl, hk, hpl⟩ := bk_pl_some hA hw hf
    refine fv_aload_n C d_B_apply_89 (n := 90) rfl (i := 0) rfl rfl ?_
    refine fv_aload_n C d_B_apply_90 (n := 91) rfl (i := 0) rfl rfl ?_
    refine fv_aload_n C d_B_apply_91 (n := 92) rfl (i := 1) rfl rfl ?_
    refine fv_get C (fl_B_55 D dA) d_B_apply_92 (n := 95) rfl hE rfl ?_
    refine fv_callV_r C (ml_B_35 D dA) im_B_placeOf se_B_placeOf hB.1 rfl (ct_B_placeOf hw.2.2.2 hB) d_B_apply_95 (n := 98) rfl rfl rfl rfl (Nat.le_of_ble_eq_true rfl) (Nat.le_of_ble_eq_true rfl) (Nat.le_of_ble_eq_true rfl) (Nat.le_refl _) (Nat.le_refl _) ?_
    rw [hpl]
    refine fv_aload_n C d_B_apply_98 (n := 99) rfl (i := 1) rfl rfl ?_
    refine fv_callV_v C (ml_B_58 D dA) im_B_shrink se_B_shrink hB.1 rfl (ct_B_shrink (ev := (_, ins, num, id, s, pr, v)) hE (by omega) hBs (by simp) hew hok hk hf ⟨ids, pri, siz, hB, hA, hw⟩) d_B_apply_99 (n := 102) rfl rfl rfl rfl (Nat.le_of_ble_eq_true rfl) (Nat.le_of_ble_eq_true rfl) (Nat.le_of_ble_eq_true rfl) (Nat.le_refl _) (Nat.le_refl _) (fun h2 hp => ?_)
    refine fv_vret C rfl d_B_apply_102 (Nat.le_refl _) (Nat.le_refl _) ?_
    first | exact ⟨rfl, rfl, hp.1, hG.tr hp.2⟩ | exact ⟨rfl, rfl, ⟨ids, pri, siz, hB, hA, hw⟩, hG⟩ | exact ⟨rfl, rfl, ⟨ids, pri, siz, hB, fun j o ho => by simp [bo_apl, bo_arr, bo_srt] at ho, hwf⟩, hG⟩
  · refine fv_lookup C d_B_apply_14 (by decide +kernel) (off := 75) (by decide +kernel) (tgt := 89) rfl ?_
    obtain ⟨o, hf⟩ : ∃ o, bo_fi b.1 id = some o := by
      cases hf : bo_fi b.1 id with
      | none => simp [bo_ok, hf] at hok
      | some o => exact ⟨o, rfl⟩
    obtain ⟨k, hkl, hk, hpl⟩ := bk_pl_some hA hw hf
    refine fv_aload_n C d_B_apply_89 (n := 90) rfl (i := 0) rfl rfl ?_
    refine fv_aload_n C d_B_apply_90 (n := 91) rfl (i := 0) rfl rfl ?_
    refine fv_aload_n C d_B_apply_91 (n := 92) rfl (i := 1) rfl rfl ?_
    refine fv_get C (fl_B_55 D dA) d_B_apply_92 (n := 95) rfl hE rfl ?_
    refine fv_callV_r C (ml_B_35 D dA) im_B_placeOf se_B_placeOf hB.1 rfl (ct_B_placeOf hw.2.2.2 hB) d_B_apply_95 (n := 98) rfl rfl rfl rfl (Nat.le_of_ble_eq_true rfl) (Nat.le_of_ble_eq_true rfl) (Nat.le_of_ble_eq_true rfl) (Nat.le_refl _) (Nat.le_refl _) ?_
    rw [hpl]
    refine fv_aload_n C d_B_apply_98 (n := 99) rfl (i := 1) rfl rfl ?_
    refine fv_callV_v C (ml_B_58 D dA) im_B_shrink se_B_shrink hB.1 rfl (ct_B_shrink (ev := (_, ins, num, id, s, pr, v)) hE (by omega) hBs (by simp) hew hok hk hf ⟨ids, pri, siz, hB, hA, hw⟩) d_B_apply_99 (n := 102) rfl rfl rfl rfl (Nat.le_of_ble_eq_true rfl) (Nat.le_of_ble_eq_true rfl) (Nat.le_of_ble_eq_true rfl) (Nat.le_refl _) (Nat.le_refl _) (fun h2 hp => ?_)
    refine fv_vret C rfl d_B_apply_102 (Nat.le_refl _) (Nat.le_refl _) ?_
    first | exact ⟨rfl, rfl, hp.1, hG.tr hp.2⟩ | exact ⟨rfl, rfl, ⟨ids, pri, siz, hB, hA, hw⟩, hG⟩ | exact ⟨rfl, rfl, ⟨ids, pri, siz, hB, fun j o ho => by simp [bo_apl, bo_arr, bo_srt] at ho, hwf⟩, hG⟩
end BK4
