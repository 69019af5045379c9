/-! Book: answers out of the lists -/
section BK2
variable {l : Launch} {D : va_G} {dA : Nat → ClassId} {Bs sz : Nat} {h : fv_H} {a : Nat} {b : bo_B} {nn : Nat}
theorem ct_B_allows {sort : Nat} {x v : Int32} (hs : sort ≤ 5) (hv : sort = 4 → v = 0 ∨ v = 1) (hL : BL dA h a b nn) : fv_T l (fk D dA) Bs WA m_B_allows [.ref a, .int (nI sort), .int x, .int v] sz h 0 0 (fp_r (.int (fv_b (bo_ok b sort x v))) sz h) := by
  obtain ⟨ids, pri, siz, hB, hA, hw⟩ := hL
  have h24 := hw.2.2.2
  refine fv_of (L := [_, _, _, _, _]) (by decide +kernel) rfl (Nat.le_of_ble_eq_true rfl) rfl ?_
  intro X hX C
  subst hX
  refine fv_aload_n C d_B_allows_0 (n := 1) rfl (i := 0) rfl rfl ?_
  refine fv_iload_n C d_B_allows_1 (n := 2) rfl (i := 2) rfl rfl ?_
  refine fv_callV_r C (ml_B_35 D dA) im_B_placeOf se_B_placeOf hB.1 rfl (ct_B_placeOf h24 hB) d_B_allows_2 (n := 5) rfl rfl rfl rfl (Nat.le_of_ble_eq_true rfl) (Nat.le_of_ble_eq_true rfl) (Nat.le_of_ble_eq_true rfl) (Nat.le_refl _) (Nat.le_refl _) ?_
  refine fv_istore C d_B_allows_5 (n := 7) rfl (by decide) (L' := [_, _, _, _, _]) rfl ?_
  have hcase : sort = 0 ∨ sort = 1 ∨ sort = 2 ∨ sort = 3 ∨ sort = 4 ∨ sort = 5 := by omega
  rcases hcase with rfl | rfl | rfl | rfl | rfl | rfl
  · refine fv_iload_n C d_B_allows_7 (n := 8) rfl (i := 1) rfl rfl ?_
    refine fv_tableIn C d_B_allows_8 (by decide +kernel) (by decide +kernel) (off := 36) (by decide +kernel) (tgt := 44) rfl ?_
    cases hf : bo_fi b.1 x with
    | none =>
      rw [bk_pl_none hA hw hf]
      refine fv_iload C d_B_allows_44 (n := 46) rfl rfl ?_
      refine fv_iconst C d_B_allows_46 (n := 47) rfl kI_m1 ?_
      refine fv_icmp_ne C d_B_allows_47 (tgt := 63) rfl (n := 50) rfl (fun hc47 => ?_) (fun hc47 => ?_)
      · exact absurd rfl hc47
      · refine fv_aload_n C d_B_allows_50 (n := 51) rfl (i := 0) rfl rfl ?_
        refine fv_get C (fl_B_25 D dA) d_B_allows_51 (n := 54) rfl hB.1 rfl ?_
        refine fv_bipush C d_B_allows_54 (n := 56) rfl kB_24 ?_
        refine fv_icmpN_ge C (by omega) (by omega) d_B_allows_56 (tgt := 63) rfl (n := 59) rfl (fun hc56 => ?_) (fun hc56 => ?_)
        · refine fv_iconst C d_B_allows_63 (n := 64) rfl kI_0 ?_
          refine fv_zret C rfl d_B_allows_64 rfl (Nat.le_refl _) (Nat.le_refl _) ?_
          refine ⟨?_, rfl, rfl⟩
          simp [bo_ok, hf, hc56, nI, fv_b, Nat.not_lt.mpr, Nat.not_lt]; first | done | omega | rfl | decide
        · refine fv_iconst C d_B_allows_59 (n := 60) rfl kI_1 ?_
          refine fv_goto C d_B_allows_60 (tgt := 64) rfl ?_
          refine fv_zret C rfl d_B_allows_64 rfl (Nat.le_refl _) (Nat.le_refl _) ?_
          refine ⟨?_, rfl, rfl⟩
          simp [bo_ok, hf, hc56, nI, fv_b, Nat.not_lt.mpr, Nat.not_lt]; first | done | omega | rfl | decide
    | some o =>
      obtain ⟨k, hk, ho, e⟩ := bk_pl_some hA hw hf
      have hkm := nI_nm1 (k := k) (by omega)
      obtain ⟨-, -, hz⟩ := hA k o ho
      rw [e]
      refine fv_iload C d_B_allows_44 (n := 46) rfl rfl ?_
      refine fv_iconst C d_B_allows_46 (n := 47) rfl kI_m1 ?_
      refine fv_icmp_ne C d_B_allows_47 (tgt := 63) rfl (n := 50) rfl (fun hc47 => ?_) (fun hc47 => ?_)
      · refine fv_iconst C d_B_allows_63 (n := 64) rfl kI_0 ?_
        refine fv_zret C rfl d_B_allows_64 rfl (Nat.le_refl _) (Nat.le_refl _) ?_
        refine ⟨?_, rfl, rfl⟩
        simp [bo_ok, hf]; rfl
      · exact absurd hc47 hkm
  · refine fv_iload_n C d_B_allows_7 (n := 8) rfl (i := 1) rfl rfl ?_
    refine fv_tableIn C d_B_allows_8 (by decide +kernel) (by decide +kernel) (off := 57) (by decide +kernel) (tgt := 65) rfl ?_
    cases hf : bo_fi b.1 x with
    | none =>
      rw [bk_pl_none hA hw hf]
      refine fv_iload C d_B_allows_65 (n := 67) rfl rfl ?_
      refine fv_iconst C d_B_allows_67 (n := 68) rfl kI_m1 ?_
      refine fv_icmp_eq C d_B_allows_68 (tgt := 86) rfl (n := 71) rfl (fun hc68 => ?_) (fun hc68 => ?_)
      · refine fv_iconst C d_B_allows_86 (n := 87) rfl kI_0 ?_
        refine fv_zret C rfl d_B_allows_87 rfl (Nat.le_refl _) (Nat.le_refl _) ?_
        refine ⟨?_, rfl, rfl⟩
        simp [bo_ok, hf]; rfl
      · exact absurd rfl hc68
    | some o =>
      obtain ⟨k, hk, ho, e⟩ := bk_pl_some hA hw hf
      have hkm := nI_nm1 (k := k) (by omega)
      obtain ⟨-, -, hz⟩ := hA k o ho
      rw [e]
      refine fv_iload C d_B_allows_65 (n := 67) rfl rfl ?_
      refine fv_iconst C d_B_allows_67 (n := 68) rfl kI_m1 ?_
      refine fv_icmp_eq C d_B_allows_68 (tgt := 86) rfl (n := 71) rfl (fun hc68 => ?_) (fun hc68 => ?_)
      · exact absurd hc68 hkm
      · refine fv_iload_n C d_B_allows_71 (n := 72) rfl (i := 3) rfl rfl ?_
        refine fv_aload_n C d_B_allows_72 (n := 73) rfl (i := 0) rfl rfl ?_
        refine fv_get C (fl_B_18 D dA) d_B_allows_73 (n := 76) rfl hB.1 rfl ?_
        refine fv_iload C d_B_allows_76 (n := 78) rfl rfl ?_
        refine fv_ialdN C (t0 := 0) rfl d_B_allows_78 (n := 79) rfl hB.2.2.2 (by omega) (by decide) ?_
        refine fv_icmp_ge C d_B_allows_79 (tgt := 86) rfl (n := 82) rfl (fun hc79 => ?_) (fun hc79 => ?_)
        · refine fv_iconst C d_B_allows_86 (n := 87) rfl kI_0 ?_
          refine fv_zret C rfl d_B_allows_87 rfl (Nat.le_refl _) (Nat.le_refl _) ?_
          refine ⟨?_, rfl, rfl⟩
          rw [hz] at hc79
          simp only [bo_ok, hf]
          first | (rw [show decide (v < o.2.2.2) = true from decide_eq_true (Int32.not_le.mp hc79)]; rfl) | (rw [show decide (v < o.2.2.2) = false from decide_eq_false (Int32.not_lt.mpr hc79)]; rfl)
        · refine fv_iconst C d_B_allows_82 (n := 83) rfl kI_1 ?_
          refine fv_goto C d_B_allows_83 (tgt := 87) rfl ?_
          refine fv_zret C rfl d_B_allows_87 rfl (Nat.le_refl _) (Nat.le_refl _) ?_
          refine ⟨?_, rfl, rfl⟩
          rw [hz] at hc79
          simp only [bo_ok, hf]
          first | (rw [show decide (v < o.2.2.2) = true from decide_eq_true (Int32.not_le.mp hc79)]; rfl) | (rw [show decide (v < o.2.2.2) = false from decide_eq_false (Int32.not_lt.mpr hc79)]; rfl)
  · refine fv_iload_n C d_B_allows_7 (n := 8) rfl (i := 1) rfl rfl ?_
    refine fv_tableIn C d_B_allows_8 (by decide +kernel) (by decide +kernel) (off := 80) (by decide +kernel) (tgt := 88) rfl ?_
    cases hf : bo_fi b.1 x with
    | none =>
      rw [bk_pl_none hA hw hf]
      refine fv_iload C d_B_allows_88 (n := 90) rfl rfl ?_
      refine fv_iconst C d_B_allows_90 (n := 91) rfl kI_m1 ?_
      refine fv_icmp_eq C d_B_allows_91 (tgt := 116) rfl (n := 94) rfl (fun hc91 => ?_) (fun hc91 => ?_)
      · refine fv_iconst C d_B_allows_116 (n := 117) rfl kI_0 ?_
        refine fv_zret C rfl d_B_allows_117 rfl (Nat.le_refl _) (Nat.le_refl _) ?_
        refine ⟨?_, rfl, rfl⟩
        simp [bo_ok, hf]; rfl
      · exact absurd rfl hc91
    | some o =>
      obtain ⟨k, hk, ho, e⟩ := bk_pl_some hA hw hf
      have hkm := nI_nm1 (k := k) (by omega)
      obtain ⟨-, -, hz⟩ := hA k o ho
      rw [e]
      refine fv_iload C d_B_allows_88 (n := 90) rfl rfl ?_
      refine fv_iconst C d_B_allows_90 (n := 91) rfl kI_m1 ?_
      refine fv_icmp_eq C d_B_allows_91 (tgt := 116) rfl (n := 94) rfl (fun hc91 => ?_) (fun hc91 => ?_)
      · exact absurd hc91 hkm
      · refine fv_aload_n C d_B_allows_94 (n := 95) rfl (i := 0) rfl rfl ?_
        refine fv_get C (fl_B_28 D dA) d_B_allows_95 (n := 98) rfl hB.1 rfl ?_
        refine fv_ifB_ne C d_B_allows_98 (tgt := 116) rfl (n := 101) rfl (fun hc98 => ?_) (fun hc98 => ?_)
        · refine fv_iconst C d_B_allows_116 (n := 117) rfl kI_0 ?_
          refine fv_zret C rfl d_B_allows_117 rfl (Nat.le_refl _) (Nat.le_refl _) ?_
          refine ⟨?_, rfl, rfl⟩
          simp only [bo_ok, hf, hc98]
          first | rfl | (rw [hz] at hc109; first | (rw [show decide (v ≤ o.2.2.2) = true from decide_eq_true (Int32.not_lt.mp hc109)]; rfl) | (rw [show decide (v ≤ o.2.2.2) = false from decide_eq_false (Int32.not_le.mpr hc109)]; rfl))
        · refine fv_iload_n C d_B_allows_101 (n := 102) rfl (i := 3) rfl rfl ?_
          refine fv_aload_n C d_B_allows_102 (n := 103) rfl (i := 0) rfl rfl ?_
          refine fv_get C (fl_B_18 D dA) d_B_allows_103 (n := 106) rfl hB.1 rfl ?_
          refine fv_iload C d_B_allows_106 (n := 108) rfl rfl ?_
          refine fv_ialdN C (t0 := 0) rfl d_B_allows_108 (n := 109) rfl hB.2.2.2 (by omega) (by decide) ?_
          refine fv_icmp_gt C d_B_allows_109 (tgt := 116) rfl (n := 112) rfl (fun hc109 => ?_) (fun hc109 => ?_)
          · refine fv_iconst C d_B_allows_116 (n := 117) rfl kI_0 ?_
            refine fv_zret C rfl d_B_allows_117 rfl (Nat.le_refl _) (Nat.le_refl _) ?_
            refine ⟨?_, rfl, rfl⟩
            simp only [bo_ok, hf, hc98]
            first | rfl | (rw [hz] at hc109; first | (rw [show decide (v ≤ o.2.2.2) = true from decide_eq_true (Int32.not_lt.mp hc109)]; rfl) | (rw [show decide (v ≤ o.2.2.2) = false from decide_eq_false (Int32.not_le.mpr hc109)]; rfl))
          · refine fv_iconst C d_B_allows_112 (n := 113) rfl kI_1 ?_
            refine fv_goto C d_B_allows_113 (tgt := 117) rfl ?_
            refine fv_zret C rfl d_B_allows_117 rfl (Nat.le_refl _) (Nat.le_refl _) ?_
            refine ⟨?_, rfl, rfl⟩
            simp only [bo_ok, hf, hc98]
            first | rfl | (rw [hz] at hc109; first | (rw [show decide (v ≤ o.2.2.2) = true from decide_eq_true (Int32.not_lt.mp hc109)]; rfl) | (rw [show decide (v ≤ o.2.2.2) = false from decide_eq_false (Int32.not_le.mpr hc109)]; rfl))
  · refine fv_iload_n C d_B_allows_7 (n := 8) rfl (i := 1) rfl rfl ?_
    refine fv_tableIn C d_B_allows_8 (by decide +kernel) (by decide +kernel) (off := 110) (by decide +kernel) (tgt := 118) rfl ?_
    cases hf : bo_fi b.1 x with
    | none =>
      rw [bk_pl_none hA hw hf]
      refine fv_iload C d_B_allows_118 (n := 120) rfl rfl ?_
      refine fv_iconst C d_B_allows_120 (n := 121) rfl kI_m1 ?_
      refine fv_icmp_eq C d_B_allows_121 (tgt := 128) rfl (n := 124) rfl (fun hc121 => ?_) (fun hc121 => ?_)
      · refine fv_iconst C d_B_allows_128 (n := 129) rfl kI_0 ?_
        refine fv_zret C rfl d_B_allows_129 rfl (Nat.le_refl _) (Nat.le_refl _) ?_
        refine ⟨?_, rfl, rfl⟩
        simp [bo_ok, hf]; rfl
      · exact absurd rfl hc121
    | some o =>
      obtain ⟨k, hk, ho, e⟩ := bk_pl_some hA hw hf
      have hkm := nI_nm1 (k := k) (by omega)
      obtain ⟨-, -, hz⟩ := hA k o ho
      rw [e]
      refine fv_iload C d_B_allows_118 (n := 120) rfl rfl ?_
      refine fv_iconst C d_B_allows_120 (n := 121) rfl kI_m1 ?_
      refine fv_icmp_eq C d_B_allows_121 (tgt := 128) rfl (n := 124) rfl (fun hc121 => ?_) (fun hc121 => ?_)
      · exact absurd hc121 hkm
      · refine fv_iconst C d_B_allows_124 (n := 125) rfl kI_1 ?_
        refine fv_goto C d_B_allows_125 (tgt := 129) rfl ?_
        refine fv_zret C rfl d_B_allows_129 rfl (Nat.le_refl _) (Nat.le_refl _) ?_
        refine ⟨?_, rfl, rfl⟩
        simp [bo_ok, hf]; rfl
  · refine fv_iload_n C d_B_allows_7 (n := 8) rfl (i := 1) rfl rfl ?_
    refine fv_tableIn C d_B_allows_8 (by decide +kernel) (by decide +kernel) (off := 122) (by decide +kernel) (tgt := 130) rfl ?_
    rcases hv rfl with rfl | rfl
    all_goals cases hb2 : b.2
    all_goals rw [hb2] at hB
    · refine fv_aload_n C d_B_allows_130 (n := 131) rfl (i := 0) rfl rfl ?_
      refine fv_callV_r C (ml_B_39 D dA) im_B_haltValue se_B_haltValue hB.1 rfl (ct_B_haltValue hB) d_B_allows_131 (n := 134) rfl rfl rfl rfl (Nat.le_of_ble_eq_true rfl) (Nat.le_of_ble_eq_true rfl) (Nat.le_of_ble_eq_true rfl) (Nat.le_refl _) (Nat.le_refl _) ?_
      refine fv_iload_n C d_B_allows_134 (n := 135) rfl (i := 3) rfl rfl ?_
      refine fv_icmp_eq C d_B_allows_135 (tgt := 142) rfl (n := 138) rfl (fun hc135 => ?_) (fun hc135 => ?_)
      · refine fv_iconst C d_B_allows_142 (n := 143) rfl kI_0 ?_
        refine fv_zret C rfl d_B_allows_143 rfl (Nat.le_refl _) (Nat.le_refl _) ?_
        refine ⟨?_, rfl, rfl⟩
        simp [bo_ok, hb2]; rfl
      · exact absurd rfl hc135
    · refine fv_aload_n C d_B_allows_130 (n := 131) rfl (i := 0) rfl rfl ?_
      refine fv_callV_r C (ml_B_39 D dA) im_B_haltValue se_B_haltValue hB.1 rfl (ct_B_haltValue hB) d_B_allows_131 (n := 134) rfl rfl rfl rfl (Nat.le_of_ble_eq_true rfl) (Nat.le_of_ble_eq_true rfl) (Nat.le_of_ble_eq_true rfl) (Nat.le_refl _) (Nat.le_refl _) ?_
      refine fv_iload_n C d_B_allows_134 (n := 135) rfl (i := 3) rfl rfl ?_
      refine fv_icmp_eq C d_B_allows_135 (tgt := 142) rfl (n := 138) rfl (fun hc135 => ?_) (fun hc135 => ?_)
      · exact absurd hc135 (by decide +kernel)
      · refine fv_iconst C d_B_allows_138 (n := 139) rfl kI_1 ?_
        refine fv_goto C d_B_allows_139 (tgt := 143) rfl ?_
        refine fv_zret C rfl d_B_allows_143 rfl (Nat.le_refl _) (Nat.le_refl _) ?_
        refine ⟨?_, rfl, rfl⟩
        simp [bo_ok, hb2]; rfl
    · refine fv_aload_n C d_B_allows_130 (n := 131) rfl (i := 0) rfl rfl ?_
      refine fv_callV_r C (ml_B_39 D dA) im_B_haltValue se_B_haltValue hB.1 rfl (ct_B_haltValue hB) d_B_allows_131 (n := 134) rfl rfl rfl rfl (Nat.le_of_ble_eq_true rfl) (Nat.le_of_ble_eq_true rfl) (Nat.le_of_ble_eq_true rfl) (Nat.le_refl _) (Nat.le_refl _) ?_
      refine fv_iload_n C d_B_allows_134 (n := 135) rfl (i := 3) rfl rfl ?_
      refine fv_icmp_eq C d_B_allows_135 (tgt := 142) rfl (n := 138) rfl (fun hc135 => ?_) (fun hc135 => ?_)
      · exact absurd hc135 (by decide +kernel)
      · refine fv_iconst C d_B_allows_138 (n := 139) rfl kI_1 ?_
        refine fv_goto C d_B_allows_139 (tgt := 143) rfl ?_
        refine fv_zret C rfl d_B_allows_143 rfl (Nat.le_refl _) (Nat.le_refl _) ?_
        refine ⟨?_, rfl, rfl⟩
        simp [bo_ok, hb2]; rfl
    · refine fv_aload_n C d_B_allows_130 (n := 131) rfl (i := 0) rfl rfl ?_
      refine fv_callV_r C (ml_B_39 D dA) im_B_haltValue se_B_haltValue hB.1 rfl (ct_B_haltValue hB) d_B_allows_131 (n := 134) rfl rfl rfl rfl (Nat.le_of_ble_eq_true rfl) (Nat.le_of_ble_eq_true rfl) (Nat.le_of_ble_eq_true rfl) (Nat.le_refl _) (Nat.le_refl _) ?_
      refine fv_iload_n C d_B_allows_134 (n := 135) rfl (i := 3) rfl rfl ?_
      refine fv_icmp_eq C d_B_allows_135 (tgt := 142) rfl (n := 138) rfl (fun hc135 => ?_) (fun hc135 => ?_)
      · refine fv_iconst C d_B_allows_142 (n := 143) rfl kI_0 ?_
        refine fv_zret C rfl d_B_allows_143 rfl (Nat.le_refl _) (Nat.le_refl _) ?_
        refine ⟨?_, rfl, rfl⟩
        simp [bo_ok, hb2]; rfl
      · exact absurd rfl hc135
  · refine fv_iload_n C d_B_allows_7 (n := 8) rfl (i := 1) rfl rfl ?_
    refine fv_tableOut C d_B_allows_8 (by decide +kernel) (tgt := 144) rfl ?_
    refine fv_iconst C d_B_allows_144 (n := 145) rfl kI_1 ?_
    refine fv_zret C rfl d_B_allows_145 rfl (Nat.le_refl _) (Nat.le_refl _) ?_
    refine ⟨?_, rfl, rfl⟩
    simp [bo_ok]; rfl
theorem ct_B_start0 {s : Nat} {ids pri siz : Nat → Int32} {n : Nat} (hs : s < 2) (hB : BK dA h a ids pri siz (bo_srt 0 b.1).length b.1.length b.2 n) : fv_T l (fk D dA) Bs WA m_B_startOf [.ref a, .int (nI s)] sz h 0 0 (fp_r (.int (nI (bo_st0 b.1 s))) sz h) := ct_B_startOf hs hB
theorem ct_B_end0 {s : Nat} {ids pri siz : Nat → Int32} {n : Nat} (hs : s < 2) (hB : BK dA h a ids pri siz (bo_srt 0 b.1).length b.1.length b.2 n) : fv_T l (fk D dA) Bs WA m_B_endOf [.ref a, .int (nI s)] sz h 0 0 (fp_r (.int (nI (bo_en0 b.1 s))) sz h) := ct_B_endOf hs hB
theorem ct_B_idAt {s j : Nat} (hs : s < 2) (hj : j < 24) (hL : BL dA h a b nn) : fv_T l (fk D dA) Bs WA m_B_idAt [.ref a, .int (nI s), .int (nI j)] sz h 0 0 (fp_r (.int (match (bo_srt s b.1)[j]? with | some o => o.1 | none => -1)) sz h) := by
  obtain ⟨ids, pri, siz, hB, hA, hw⟩ := hL
  have h24 := hw.2.2.2
  have he := bo_en_st hw.2.1 hs
  have he2 := bo_en_le hw.2.1 hs
  refine fv_of (L := [_, _, _, _]) (by decide +kernel) rfl (Nat.le_of_ble_eq_true rfl) rfl ?_
  intro X hX C
  subst hX
  refine fv_aload_n C d_B_idAt_0 (n := 1) rfl (i := 0) rfl rfl ?_
  refine fv_iload_n C d_B_idAt_1 (n := 2) rfl (i := 1) rfl rfl ?_
  refine fv_callV_r C (ml_B_65 D dA) im_B_startOf se_B_startOf hB.1 rfl (ct_B_start0 hs hB) d_B_idAt_2 (n := 5) rfl rfl rfl rfl (Nat.le_of_ble_eq_true rfl) (Nat.le_of_ble_eq_true rfl) (Nat.le_of_ble_eq_true rfl) (Nat.le_refl _) (Nat.le_refl _) ?_
  refine fv_iload_n C d_B_idAt_5 (n := 6) rfl (i := 2) rfl rfl ?_
  first | refine fv_iaddN C d_B_idAt_6 (n := 7) rfl ?_ | refine fv_iadd C d_B_idAt_6 (n := 7) rfl ?_
  refine fv_istore_n C d_B_idAt_7 (n := 8) rfl (i := 3) rfl (by decide) (L' := [_, _, _, _]) rfl ?_
  refine fv_iload_n C d_B_idAt_8 (n := 9) rfl (i := 3) rfl rfl ?_
  refine fv_aload_n C d_B_idAt_9 (n := 10) rfl (i := 0) rfl rfl ?_
  refine fv_iload_n C d_B_idAt_10 (n := 11) rfl (i := 1) rfl rfl ?_
  refine fv_callV_r C (ml_B_68 D dA) im_B_endOf se_B_endOf hB.1 rfl (ct_B_end0 hs hB) d_B_idAt_11 (n := 14) rfl rfl rfl rfl (Nat.le_of_ble_eq_true rfl) (Nat.le_of_ble_eq_true rfl) (Nat.le_of_ble_eq_true rfl) (Nat.le_refl _) (Nat.le_refl _) ?_
  refine fv_icmpN_ge C (by omega) (by omega) d_B_idAt_14 (tgt := 26) rfl (n := 17) rfl (fun hc14 => ?_) (fun hc14 => ?_)
  · have hn : (bo_srt s b.1)[j]? = none := List.getElem?_eq_none_iff.mpr (by omega)
    refine fv_iconst C d_B_idAt_26 (n := 27) rfl kI_m1 ?_
    refine fv_iret C rfl d_B_idAt_27 (Nat.le_refl _) (Nat.le_refl _) ?_
    refine ⟨?_, rfl, rfl⟩
    first | rw [hn] | rw [hg, hi]
  · have hlt : j < (bo_srt s b.1).length := by omega
    have hg := List.getElem?_eq_getElem hlt
    obtain ⟨hi, -, -⟩ := hA _ _ ((bo_arr_side hs hlt).trans hg)
    refine fv_aload_n C d_B_idAt_17 (n := 18) rfl (i := 0) rfl rfl ?_
    refine fv_get C (fl_B_9 D dA) d_B_idAt_18 (n := 21) rfl hB.1 rfl ?_
    refine fv_iload_n C d_B_idAt_21 (n := 22) rfl (i := 3) rfl rfl ?_
    refine fv_ialdN C (t0 := 0) rfl d_B_idAt_22 (n := 23) rfl hB.2.1 (by omega) (by decide) ?_
    refine fv_goto C d_B_idAt_23 (tgt := 27) rfl ?_
    refine fv_iret C rfl d_B_idAt_27 (Nat.le_refl _) (Nat.le_refl _) ?_
    refine ⟨?_, rfl, rfl⟩
    first | rw [hn] | rw [hg, hi]
theorem bo_tri_0 (lev : Nat) : bo_tri lev [] = (0, 0, 0) := by simp [bo_tri, bo_dp]
/-- the scan's state after t orders -/
theorem bo_tri_end {s lev what t : Nat} {sl : List bo_O} (hS : bo_S s sl) (ht : t ≤ sl.length) (h : t = sl.length ∨ lev + 1 < (bo_dp (sl.take t)).length) : bo_tri lev sl = bo_tri lev (sl.take t) := by
  rcases h with h | h
  · rw [h, List.take_length]
  · have e := List.take_append_drop t sl
    have h2 := bo_tri_past (r := sl.drop t) (by rw [e]; exact hS) h
    rw [e] at h2
    exact h2
theorem ct_B_levelValue {s lv wh : Nat} (hs : s < 2) (hlv : lv < 2 ^ 31) (hwh : wh < 3) (hL : BL dA h a b nn) : fv_T l (fk D dA) Bs WA m_B_levelValue [.ref a, .int (nI s), .int (nI lv), .int (nI wh)] sz h 0 0 (fp_r (.int (bo_lv (bo_srt s b.1) lv wh)) sz h) := by
  obtain ⟨ids, pri, siz, hB, hA, hw⟩ := hL
  have h24 := hw.2.2.2
  have he := bo_en_st hw.2.1 hs
  have he2 := bo_en_le hw.2.1 hs
  have hS := bo_srt_S s b.1
  have hsl : ∃ sl, sl = bo_srt s b.1 := ⟨_, rfl⟩
  obtain ⟨sl, hsl⟩ := hsl
  rw [← hsl] at he hS ⊢
  rw [bo_tri_lv hS]
  refine fv_of (L := [_, _, _, _, _, _, _, _, _, _, _]) (by decide +kernel) rfl (Nat.le_of_ble_eq_true rfl) rfl ?_
  intro X hX C
  subst hX
  have fin : ∀ t, t ≤ sl.length → (t = sl.length ∨ lv + 1 < (bo_dp (sl.take t)).length) → fv_V (fk D dA) Bs X 11 (fv_MQ (fk D dA) Bs X (fp_r (.int (if (bo_tri lv sl).2.2 = 0 then -2000000 else if wh = 0 then (bo_tri lv sl).1 else if wh = 1 then (bo_tri lv sl).2.1 else nI (bo_tri lv sl).2.2)) sz h) 0 0) 108 [some (.ref a), some (.int (nI s)), some (.int (nI lv)), some (.int (nI wh)), some (.int (nI (bo_st0 b.1 s))), some (.int (nI (bo_en0 b.1 s))), some (.int (nI (bo_dp (sl.take t)).length + (-1))), some (.int (bo_tri lv (sl.take t)).1), some (.int (bo_tri lv (sl.take t)).2.1), some (.int (nI (bo_tri lv (sl.take t)).2.2)), some (.int (nI (bo_st0 b.1 s + t)))] [] sz h 0 0 := by
    intro t ht hend
    rw [bo_tri_end (what := 0) hS ht hend]
    have hcn := bo_tri_cnt lv (sl.take t)
    rw [List.length_take] at hcn
    refine fv_iload C d_B_levelValue_108 (n := 110) rfl rfl ?_
    refine fv_ifN_ne C (by omega) d_B_levelValue_110 (tgt := 116) rfl (n := 113) rfl (fun hc110 => ?_) (fun hc110 => ?_)
    · refine fv_iload_n C d_B_levelValue_116 (n := 117) rfl (i := 3) rfl rfl ?_
      refine fv_ifN_ne C (by omega) d_B_levelValue_117 (tgt := 125) rfl (n := 120) rfl (fun hc117 => ?_) (fun hc117 => ?_)
      · refine fv_iload_n C d_B_levelValue_125 (n := 126) rfl (i := 3) rfl rfl ?_
        refine fv_iconst C d_B_levelValue_126 (n := 127) rfl kI_1 ?_
        refine fv_icmpN_ne C (by omega) (by omega) d_B_levelValue_127 (tgt := 135) rfl (n := 130) rfl (fun hc127 => ?_) (fun hc127 => ?_)
        · refine fv_iload C d_B_levelValue_135 (n := 137) rfl rfl ?_
          refine fv_iret C rfl d_B_levelValue_137 (Nat.le_refl _) (Nat.le_refl _) ?_
          refine ⟨?_, rfl, rfl⟩
          rw [if_neg hc110]
          first | rw [if_pos hc117] | rw [if_neg hc117, if_pos hc127] | rw [if_neg hc117, if_neg hc127]
        · refine fv_iload C d_B_levelValue_130 (n := 132) rfl rfl ?_
          refine fv_goto C d_B_levelValue_132 (tgt := 137) rfl ?_
          refine fv_iret C rfl d_B_levelValue_137 (Nat.le_refl _) (Nat.le_refl _) ?_
          refine ⟨?_, rfl, rfl⟩
          rw [if_neg hc110]
          first | rw [if_pos hc117] | rw [if_neg hc117, if_pos hc127] | rw [if_neg hc117, if_neg hc127]
      · refine fv_iload C d_B_levelValue_120 (n := 122) rfl rfl ?_
        refine fv_goto C d_B_levelValue_122 (tgt := 137) rfl ?_
        refine fv_iret C rfl d_B_levelValue_137 (Nat.le_refl _) (Nat.le_refl _) ?_
        refine ⟨?_, rfl, rfl⟩
        rw [if_neg hc110]
        first | rw [if_pos hc117] | rw [if_neg hc117, if_pos hc127] | rw [if_neg hc117, if_neg hc127]
    · refine fv_ldc C d_B_levelValue_113 (n := 115) rfl kc_B_84 ?_
      refine fv_iret C rfl d_B_levelValue_115 (Nat.le_refl _) (Nat.le_refl _) ?_
      refine ⟨?_, rfl, rfl⟩
      rw [if_pos hc110]
  have loop : ∀ k t, t + k = sl.length → fv_V (fk D dA) Bs X 11 (fv_MQ (fk D dA) Bs X (fp_r (.int (if (bo_tri lv sl).2.2 = 0 then -2000000 else if wh = 0 then (bo_tri lv sl).1 else if wh = 1 then (bo_tri lv sl).2.1 else nI (bo_tri lv sl).2.2)) sz h) 0 0) 30 [some (.ref a), some (.int (nI s)), some (.int (nI lv)), some (.int (nI wh)), some (.int (nI (bo_st0 b.1 s))), some (.int (nI (bo_en0 b.1 s))), some (.int (nI (bo_dp (sl.take t)).length + (-1))), some (.int (bo_tri lv (sl.take t)).1), some (.int (bo_tri lv (sl.take t)).2.1), some (.int (nI (bo_tri lv (sl.take t)).2.2)), some (.int (nI (bo_st0 b.1 s + t)))] [] sz h 0 0 := by
    intro k
    induction k with
    | zero =>
      intro t ht
      refine fv_iload C d_B_levelValue_30 (n := 32) rfl rfl ?_
      refine fv_iload C d_B_levelValue_32 (n := 34) rfl rfl ?_
      refine fv_icmpN_ge C (by omega) (by omega) d_B_levelValue_34 (tgt := 108) rfl (n := 37) rfl (fun hc34 => ?_) (fun hc34 => ?_)
      · exact fin t (by omega) (Or.inl (by omega))
      · exact absurd hc34 (by omega)
    | succ k ih =>
      intro t ht
      have hd := Nat.le_trans (bo_dp_len (sl.take t)) (by rw [List.length_take]; exact Nat.min_le_left _ _)
      have hlt : t < sl.length := by omega
      have hg := List.getElem?_eq_getElem hlt
      obtain ⟨o, ho⟩ : ∃ o, sl[t]? = some o := ⟨_, hg⟩
      have hat : (bo_arr b.1)[bo_st0 b.1 s + t]? = some o := by rw [bo_arr_side hs (by rw [← hsl]; exact hlt), ← hsl]; exact ho
      obtain ⟨-, hp, hz⟩ := hA _ _ hat
      have hts := bo_take_succ ho
      have hS2 : bo_S s (sl.take t ++ [o]) := by rw [← hts]; exact bo_S_take _ hS
      have hgr := bo_dp_grow (sl.take t) o
      have hlast := bo_dp_last (sl.take t)
      refine fv_iload C d_B_levelValue_30 (n := 32) rfl rfl ?_
      refine fv_iload C d_B_levelValue_32 (n := 34) rfl rfl ?_
      refine fv_icmpN_ge C (by omega) (by omega) d_B_levelValue_34 (tgt := 108) rfl (n := 37) rfl (fun hc34 => ?_) (fun hc34 => ?_)
      · exact absurd hc34 (by omega)
      · refine fv_iload C d_B_levelValue_37 (n := 39) rfl rfl ?_
        refine fv_iload_n C d_B_levelValue_39 (n := 40) rfl (i := 2) rfl rfl ?_
        refine fv_icmp_gt C d_B_levelValue_40 (tgt := 108) rfl (n := 43) rfl (fun hc40 => ?_) (fun hc40 => ?_)
        · rw [cur_gt (by omega) hlv] at hc40
          exact fin t (by omega) (Or.inr hc40)
        · rw [cur_gt (by omega) hlv] at hc40
          have hd1 : (bo_dp (sl.take t)).length ≤ lv + 1 := by omega
          have hst := bo_tri_step hS2 hd1
          rw [← hts] at hst hgr
          refine fv_iload C d_B_levelValue_43 (n := 45) rfl rfl ?_
          refine fv_iload C d_B_levelValue_45 (n := 47) rfl rfl ?_
          refine fv_icmpN_eq C (by omega) (by omega) d_B_levelValue_47 (tgt := 69) rfl (n := 50) rfl (fun hc47 => ?_) (fun hc47 => ?_)
          · have ht0 : t = 0 := by omega
            have hnew : ¬ (bo_dp (sl.take t)).getLast? = some o.2.2.1 := by rw [ht0]; simp [bo_dp]
            rw [if_neg hnew] at hgr
            refine fv_iinc C d_B_levelValue_69 (n := 72) rfl rfl (cur_inc _) (by decide) (L' := [_, _, _, _, _, _, _, _, _, _, _]) rfl ?_
            refine fv_iload C d_B_levelValue_72 (n := 74) rfl rfl ?_
            refine fv_iload_n C d_B_levelValue_74 (n := 75) rfl (i := 2) rfl rfl ?_
            refine fv_icmp_ne C d_B_levelValue_75 (tgt := 102) rfl (n := 78) rfl (fun hc75 => ?_) (fun hc75 => ?_)
            · rw [cur_eq (by omega) hlv] at hc75
              rw [if_neg (by omega)] at hst
              refine fv_iincN C d_B_levelValue_102 (n := 105) rfl rfl (by decide) (L' := [_, _, _, _, _, _, _, _, _, _, _]) rfl ?_
              refine fv_goto C d_B_levelValue_105 (tgt := 30) rfl ?_
              refine fv_eqL ?_ (ih (t + 1) (by omega))
              simp only [hgr, hst, hp, hz, Nat.add_assoc]
            · rw [cur_eq (by omega) hlv] at hc75
              rw [if_pos (by omega)] at hst
              refine fv_aload_n C d_B_levelValue_78 (n := 79) rfl (i := 0) rfl rfl ?_
              refine fv_get C (fl_B_15 D dA) d_B_levelValue_79 (n := 82) rfl hB.1 rfl ?_
              refine fv_iload C d_B_levelValue_82 (n := 84) rfl rfl ?_
              refine fv_ialdN C (t0 := 0) rfl d_B_levelValue_84 (n := 85) rfl hB.2.2.1 (by omega) (by decide) ?_
              refine fv_istore C d_B_levelValue_85 (n := 87) rfl (by decide) (L' := [_, _, _, _, _, _, _, _, _, _, _]) rfl ?_
              refine fv_iload C d_B_levelValue_87 (n := 89) rfl rfl ?_
              refine fv_aload_n C d_B_levelValue_89 (n := 90) rfl (i := 0) rfl rfl ?_
              refine fv_get C (fl_B_18 D dA) d_B_levelValue_90 (n := 93) rfl hB.1 rfl ?_
              refine fv_iload C d_B_levelValue_93 (n := 95) rfl rfl ?_
              refine fv_ialdN C (t0 := 0) rfl d_B_levelValue_95 (n := 96) rfl hB.2.2.2 (by omega) (by decide) ?_
              refine fv_iadd C d_B_levelValue_96 (n := 97) rfl ?_
              refine fv_istore C d_B_levelValue_97 (n := 99) rfl (by decide) (L' := [_, _, _, _, _, _, _, _, _, _, _]) rfl ?_
              refine fv_iincN C d_B_levelValue_99 (n := 102) rfl rfl (by decide) (L' := [_, _, _, _, _, _, _, _, _, _, _]) rfl ?_
              refine fv_iincN C d_B_levelValue_102 (n := 105) rfl rfl (by decide) (L' := [_, _, _, _, _, _, _, _, _, _, _]) rfl ?_
              refine fv_goto C d_B_levelValue_105 (tgt := 30) rfl ?_
              refine fv_eqL ?_ (ih (t + 1) (by omega))
              simp only [hgr, hst, hp, hz, Nat.add_assoc]
          · obtain ⟨t1, ht1⟩ : ∃ t1, t = t1 + 1 := ⟨t - 1, by omega⟩
            obtain ⟨o1, ho1⟩ : ∃ o1, sl[t1]? = some o1 := ⟨_, List.getElem?_eq_getElem (by omega)⟩
            have hat1 : (bo_arr b.1)[bo_st0 b.1 s + t1]? = some o1 := by rw [bo_arr_side hs (by rw [← hsl]; omega), ← hsl]; exact ho1
            obtain ⟨-, hp1, -⟩ := hA _ _ hat1
            have hl1 : (sl.take t).getLast? = some o1 := by rw [ht1, bo_take_succ ho1]; simp
            rw [hl1] at hlast
            rw [hlast] at hgr
            refine fv_aload_n C d_B_levelValue_50 (n := 51) rfl (i := 0) rfl rfl ?_
            refine fv_get C (fl_B_15 D dA) d_B_levelValue_51 (n := 54) rfl hB.1 rfl ?_
            refine fv_iload C d_B_levelValue_54 (n := 56) rfl rfl ?_
            refine fv_ialdN C (t0 := 0) rfl d_B_levelValue_56 (n := 57) rfl hB.2.2.1 (by omega) (by decide) ?_
            refine fv_aload_n C d_B_levelValue_57 (n := 58) rfl (i := 0) rfl rfl ?_
            refine fv_get C (fl_B_15 D dA) d_B_levelValue_58 (n := 61) rfl hB.1 rfl ?_
            refine fv_iload C d_B_levelValue_61 (n := 63) rfl rfl ?_
            refine fv_iconst C d_B_levelValue_63 (n := 64) rfl kI_1 ?_
            refine fv_isubN C (by omega) d_B_levelValue_64 (n := 65) rfl ?_
            refine fv_ialdN C (t0 := 0) rfl d_B_levelValue_65 (n := 66) rfl hB.2.2.1 (by omega) (by decide) ?_
            refine fv_icmp_eq C d_B_levelValue_66 (tgt := 72) rfl (n := 69) rfl (fun hc66 => ?_) (fun hc66 => ?_)
            · rw [hp, show bo_st0 b.1 s + t - 1 = bo_st0 b.1 s + t1 by omega, hp1] at hc66
              simp only [Option.map_some, hc66, if_true] at hgr
              refine fv_iload C d_B_levelValue_72 (n := 74) rfl rfl ?_
              refine fv_iload_n C d_B_levelValue_74 (n := 75) rfl (i := 2) rfl rfl ?_
              refine fv_icmp_ne C d_B_levelValue_75 (tgt := 102) rfl (n := 78) rfl (fun hc75 => ?_) (fun hc75 => ?_)
              · rw [cur_eq (by omega) hlv] at hc75
                rw [if_neg (by omega)] at hst
                refine fv_iincN C d_B_levelValue_102 (n := 105) rfl rfl (by decide) (L' := [_, _, _, _, _, _, _, _, _, _, _]) rfl ?_
                refine fv_goto C d_B_levelValue_105 (tgt := 30) rfl ?_
                refine fv_eqL ?_ (ih (t + 1) (by omega))
                simp only [hgr, hst, hp, hz, Nat.add_assoc]
              · rw [cur_eq (by omega) hlv] at hc75
                rw [if_pos (by omega)] at hst
                refine fv_aload_n C d_B_levelValue_78 (n := 79) rfl (i := 0) rfl rfl ?_
                refine fv_get C (fl_B_15 D dA) d_B_levelValue_79 (n := 82) rfl hB.1 rfl ?_
                refine fv_iload C d_B_levelValue_82 (n := 84) rfl rfl ?_
                refine fv_ialdN C (t0 := 0) rfl d_B_levelValue_84 (n := 85) rfl hB.2.2.1 (by omega) (by decide) ?_
                refine fv_istore C d_B_levelValue_85 (n := 87) rfl (by decide) (L' := [_, _, _, _, _, _, _, _, _, _, _]) rfl ?_
                refine fv_iload C d_B_levelValue_87 (n := 89) rfl rfl ?_
                refine fv_aload_n C d_B_levelValue_89 (n := 90) rfl (i := 0) rfl rfl ?_
                refine fv_get C (fl_B_18 D dA) d_B_levelValue_90 (n := 93) rfl hB.1 rfl ?_
                refine fv_iload C d_B_levelValue_93 (n := 95) rfl rfl ?_
                refine fv_ialdN C (t0 := 0) rfl d_B_levelValue_95 (n := 96) rfl hB.2.2.2 (by omega) (by decide) ?_
                refine fv_iadd C d_B_levelValue_96 (n := 97) rfl ?_
                refine fv_istore C d_B_levelValue_97 (n := 99) rfl (by decide) (L' := [_, _, _, _, _, _, _, _, _, _, _]) rfl ?_
                refine fv_iincN C d_B_levelValue_99 (n := 102) rfl rfl (by decide) (L' := [_, _, _, _, _, _, _, _, _, _, _]) rfl ?_
                refine fv_iincN C d_B_levelValue_102 (n := 105) rfl rfl (by decide) (L' := [_, _, _, _, _, _, _, _, _, _, _]) rfl ?_
                refine fv_goto C d_B_levelValue_105 (tgt := 30) rfl ?_
                refine fv_eqL ?_ (ih (t + 1) (by omega))
                simp only [hgr, hst, hp, hz, Nat.add_assoc]
            · rw [hp, show bo_st0 b.1 s + t - 1 = bo_st0 b.1 s + t1 by omega, hp1] at hc66
              have hne : ¬ some o1.2.2.1 = some o.2.2.1 := fun q => hc66 (Option.some.inj q).symm
              simp only [Option.map_some, if_neg hne] at hgr
              refine fv_iinc C d_B_levelValue_69 (n := 72) rfl rfl (cur_inc _) (by decide) (L' := [_, _, _, _, _, _, _, _, _, _, _]) rfl ?_
              refine fv_iload C d_B_levelValue_72 (n := 74) rfl rfl ?_
              refine fv_iload_n C d_B_levelValue_74 (n := 75) rfl (i := 2) rfl rfl ?_
              refine fv_icmp_ne C d_B_levelValue_75 (tgt := 102) rfl (n := 78) rfl (fun hc75 => ?_) (fun hc75 => ?_)
              · rw [cur_eq (by omega) hlv] at hc75
                rw [if_neg (by omega)] at hst
                refine fv_iincN C d_B_levelValue_102 (n := 105) rfl rfl (by decide) (L' := [_, _, _, _, _, _, _, _, _, _, _]) rfl ?_
                refine fv_goto C d_B_levelValue_105 (tgt := 30) rfl ?_
                refine fv_eqL ?_ (ih (t + 1) (by omega))
                simp only [hgr, hst, hp, hz, Nat.add_assoc]
              · rw [cur_eq (by omega) hlv] at hc75
                rw [if_pos (by omega)] at hst
                refine fv_aload_n C d_B_levelValue_78 (n := 79) rfl (i := 0) rfl rfl ?_
                refine fv_get C (fl_B_15 D dA) d_B_levelValue_79 (n := 82) rfl hB.1 rfl ?_
                refine fv_iload C d_B_levelValue_82 (n := 84) rfl rfl ?_
                refine fv_ialdN C (t0 := 0) rfl d_B_levelValue_84 (n := 85) rfl hB.2.2.1 (by omega) (by decide) ?_
                refine fv_istore C d_B_levelValue_85 (n := 87) rfl (by decide) (L' := [_, _, _, _, _, _, _, _, _, _, _]) rfl ?_
                refine fv_iload C d_B_levelValue_87 (n := 89) rfl rfl ?_
                refine fv_aload_n C d_B_levelValue_89 (n := 90) rfl (i := 0) rfl rfl ?_
                refine fv_get C (fl_B_18 D dA) d_B_levelValue_90 (n := 93) rfl hB.1 rfl ?_
                refine fv_iload C d_B_levelValue_93 (n := 95) rfl rfl ?_
                refine fv_ialdN C (t0 := 0) rfl d_B_levelValue_95 (n := 96) rfl hB.2.2.2 (by omega) (by decide) ?_
                refine fv_iadd C d_B_levelValue_96 (n := 97) rfl ?_
                refine fv_istore C d_B_levelValue_97 (n := 99) rfl (by decide) (L' := [_, _, _, _, _, _, _, _, _, _, _]) rfl ?_
                refine fv_iincN C d_B_levelValue_99 (n := 102) rfl rfl (by decide) (L' := [_, _, _, _, _, _, _, _, _, _, _]) rfl ?_
                refine fv_iincN C d_B_levelValue_102 (n := 105) rfl rfl (by decide) (L' := [_, _, _, _, _, _, _, _, _, _, _]) rfl ?_
                refine fv_goto C d_B_levelValue_105 (tgt := 30) rfl ?_
                refine fv_eqL ?_ (ih (t + 1) (by omega))
                simp only [hgr, hst, hp, hz, Nat.add_assoc]
  refine fv_aload_n C d_B_levelValue_0 (n := 1) rfl (i := 0) rfl rfl ?_
  refine fv_iload_n C d_B_levelValue_1 (n := 2) rfl (i := 1) rfl rfl ?_
  refine fv_callV_r C (ml_B_65 D dA) im_B_startOf se_B_startOf hB.1 rfl (ct_B_start0 hs hB) d_B_levelValue_2 (n := 5) rfl rfl rfl rfl (Nat.le_of_ble_eq_true rfl) (Nat.le_of_ble_eq_true rfl) (Nat.le_of_ble_eq_true rfl) (Nat.le_refl _) (Nat.le_refl _) ?_
  refine fv_istore C d_B_levelValue_5 (n := 7) rfl (by decide) (L' := [_, _, _, _, _, _, _, _, _, _, _]) rfl ?_
  refine fv_aload_n C d_B_levelValue_7 (n := 8) rfl (i := 0) rfl rfl ?_
  refine fv_iload_n C d_B_levelValue_8 (n := 9) rfl (i := 1) rfl rfl ?_
  refine fv_callV_r C (ml_B_68 D dA) im_B_endOf se_B_endOf hB.1 rfl (ct_B_end0 hs hB) d_B_levelValue_9 (n := 12) rfl rfl rfl rfl (Nat.le_of_ble_eq_true rfl) (Nat.le_of_ble_eq_true rfl) (Nat.le_of_ble_eq_true rfl) (Nat.le_refl _) (Nat.le_refl _) ?_
  refine fv_istore C d_B_levelValue_12 (n := 14) rfl (by decide) (L' := [_, _, _, _, _, _, _, _, _, _, _]) rfl ?_
  refine fv_iconst C d_B_levelValue_14 (n := 15) rfl kI_m1 ?_
  refine fv_istore C d_B_levelValue_15 (n := 17) rfl (by decide) (L' := [_, _, _, _, _, _, _, _, _, _, _]) rfl ?_
  refine fv_iconst C d_B_levelValue_17 (n := 18) rfl kI_0 ?_
  refine fv_istore C d_B_levelValue_18 (n := 20) rfl (by decide) (L' := [_, _, _, _, _, _, _, _, _, _, _]) rfl ?_
  refine fv_iconst C d_B_levelValue_20 (n := 21) rfl kI_0 ?_
  refine fv_istore C d_B_levelValue_21 (n := 23) rfl (by decide) (L' := [_, _, _, _, _, _, _, _, _, _, _]) rfl ?_
  refine fv_iconst C d_B_levelValue_23 (n := 24) rfl kI_0 ?_
  refine fv_istore C d_B_levelValue_24 (n := 26) rfl (by decide) (L' := [_, _, _, _, _, _, _, _, _, _, _]) rfl ?_
  refine fv_iload C d_B_levelValue_26 (n := 28) rfl rfl ?_
  refine fv_istore C d_B_levelValue_28 (n := 30) rfl (by decide) (L' := [_, _, _, _, _, _, _, _, _, _, _]) rfl ?_
  refine fv_eqL ?_ (loop sl.length 0 (by omega))
  simp only [List.take_zero, bo_tri_0, bo_dp_nil, List.length_nil, nI_0, Nat.add_zero, Int32.zero_add]
end BK2
