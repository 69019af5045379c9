/-! Publisher: bytes, snapshots, offers -/
/-- byte y of packet x -/
def fe_pb (log : List bo_E) (ends : List Nat) (x y : Int32) : Int32 := if fe_cl x ends.length = true ∧ ¬ y < 0 then (if y.toNatClampNeg < 4 then ev_by x y else if y.toNatClampNeg < 5 then nI (fe_E ends x.toNatClampNeg - fe_E ends (x.toNatClampNeg - 1)) else if fe_E ends (x.toNatClampNeg - 1) + (y.toNatClampNeg - 5) / 19 < fe_E ends x.toNatClampNeg then ev_bt (log.getD (fe_E ends (x.toNatClampNeg - 1) + (y.toNatClampNeg - 5) / 19) bo_e0) ((y.toNatClampNeg - 5) % 19) else -1) else -1
theorem fe_cl_of {x : Int32} {n : Nat} (hn : n < 2 ^ 31) (h : fe_cl x n = true) : ∃ p, 1 ≤ p ∧ p ≤ n ∧ x = nI p := by
  obtain ⟨h1, h2⟩ := of_decide_eq_true h
  obtain ⟨p, hp, e⟩ := nI_of2 (nI_toInt hn) (fun q => by
    rw [Int32.lt_iff_toInt_lt, Int32.toInt_zero] at q
    rw [Int32.le_iff_toInt_le, nI_toInt (by decide)] at h1
    omega) h2
  subst e
  exact ⟨p, (nI_leI (by decide) (by omega)).mp h1, hp, rfl⟩
theorem fe_cl_nI {p n : Nat} (h1 : 1 ≤ p) (h2 : p ≤ n) (hn : n < 2 ^ 31) : fe_cl (nI p) n = true := decide_eq_true ⟨(nI_leI (by decide) (by omega)).mpr h1, (nI_leI (by omega) hn).mpr h2⟩
section PB2
variable {l : Launch} {D : va_G} {dA : Nat → ClassId} {Bs sz : Nat} {h : fv_H} {a aE sc : Nat} {log : List bo_E} {ends : List Nat}
theorem ct_P_byteOfPacket {x y : Int32} (hE : EVS h aE log) (hEn : fe_ends log ends) (hP : PB dA h a aE log ends sc) : fv_T l (fk D dA) Bs WA m_P_byteOfPacket [.ref a, .int x, .int y] sz h 0 0 (fp_r (.int (fe_pb log ends x y)) sz h) := by
  have hP0 := hP
  obtain ⟨evs, en, hO, hev, hen⟩ := hP
  have hcl := fe_ends_len hEn
  have hmo := fe_ends_mono hEn
  have m3 := hEn.2.2.2
  refine fv_of (L := [_, _, _, _]) (by decide +kernel) rfl (Nat.le_of_ble_eq_true rfl) rfl ?_
  intro X hX C
  subst hX
  by_cases hcx : fe_cl x ends.length = true
  · by_cases hy : y < 0
    · refine fv_aload_n C d_P_byteOfPacket_0 (n := 1) rfl (i := 0) rfl rfl ?_
      refine fv_iload_n C d_P_byteOfPacket_1 (n := 2) rfl (i := 1) rfl rfl ?_
      refine fv_callV_r C (ml_P_69 D dA) im_P_isClosed se_P_isClosed hO.1 rfl (ct_P_isClosed hEn hP0) d_P_byteOfPacket_2 (n := 5) rfl rfl rfl rfl (Nat.le_of_ble_eq_true rfl) (Nat.le_of_ble_eq_true rfl) (Nat.le_of_ble_eq_true rfl) (Nat.le_refl _) (Nat.le_refl _) ?_
      refine fv_ifB_eq C d_P_byteOfPacket_5 (tgt := 12) rfl (n := 8) rfl (fun hc5 => ?_) (fun hc5 => ?_)
      · exact absurd hcx (by rw [hc5]; decide)
      · refine fv_iload_n C d_P_byteOfPacket_8 (n := 9) rfl (i := 2) rfl rfl ?_
        refine fv_if_ge C d_P_byteOfPacket_9 (tgt := 14) rfl (n := 12) rfl (fun hc9 => ?_) (fun hc9 => ?_)
        · exact absurd hy (by first | exact hc9 | exact Int32.not_lt.mpr hc9)
        · refine fv_iconst C d_P_byteOfPacket_12 (n := 13) rfl kI_m1 ?_
          refine fv_iret C rfl d_P_byteOfPacket_13 (Nat.le_refl _) (Nat.le_refl _) ?_
          unfold fe_pb
          rw [if_neg (fun q => q.2 hy)]
          exact ⟨rfl, rfl, rfl⟩
    · obtain ⟨p, hp1, hp2, rfl⟩ := fe_cl_of (by omega) hcx
      obtain ⟨j, hj, rfl⟩ := nI_of hy
      have m1 := hmo (p - 1) (by omega)
      have m2 := hmo p hp2
      have m4 := hEn.1 (p - 1) (by omega)
      rw [Nat.sub_add_cancel hp1] at m4
      have hpb : fe_pb log ends (nI p) (nI j) = if j < 4 then ev_by (nI p) (nI j) else if j < 5 then nI (fe_E ends p - fe_E ends (p - 1)) else if fe_E ends (p - 1) + (j - 5) / 19 < fe_E ends p then ev_bt (log.getD (fe_E ends (p - 1) + (j - 5) / 19) bo_e0) ((j - 5) % 19) else -1 := by
        unfold fe_pb
        rw [if_pos ⟨hcx, hy⟩, nI_clamp hj, nI_clamp (show p < 2 ^ 31 by omega)]
      rw [hpb]
      refine fv_aload_n C d_P_byteOfPacket_0 (n := 1) rfl (i := 0) rfl rfl ?_
      refine fv_iload_n C d_P_byteOfPacket_1 (n := 2) rfl (i := 1) rfl rfl ?_
      refine fv_callV_r C (ml_P_69 D dA) im_P_isClosed se_P_isClosed hO.1 rfl (ct_P_isClosed hEn hP0) d_P_byteOfPacket_2 (n := 5) rfl rfl rfl rfl (Nat.le_of_ble_eq_true rfl) (Nat.le_of_ble_eq_true rfl) (Nat.le_of_ble_eq_true rfl) (Nat.le_refl _) (Nat.le_refl _) ?_
      refine fv_ifB_eq C d_P_byteOfPacket_5 (tgt := 12) rfl (n := 8) rfl (fun hc5 => ?_) (fun hc5 => ?_)
      · exact absurd hcx (by rw [hc5]; decide)
      · refine fv_iload_n C d_P_byteOfPacket_8 (n := 9) rfl (i := 2) rfl rfl ?_
        refine fv_ifN_ge C (by omega) d_P_byteOfPacket_9 (tgt := 14) rfl (n := 12) rfl ?_
        refine fv_iload_n C d_P_byteOfPacket_14 (n := 15) rfl (i := 2) rfl rfl ?_
        refine fv_iconst C d_P_byteOfPacket_15 (n := 16) rfl kI_4 ?_
        refine fv_icmpN_ge C (by omega) (by omega) d_P_byteOfPacket_16 (tgt := 25) rfl (n := 19) rfl (fun hc16 => ?_) (fun hc16 => ?_)
        · refine fv_iload_n C d_P_byteOfPacket_25 (n := 26) rfl (i := 2) rfl rfl ?_
          refine fv_iconst C d_P_byteOfPacket_26 (n := 27) rfl kI_5 ?_
          refine fv_icmpN_ge C (by omega) (by omega) d_P_byteOfPacket_27 (tgt := 42) rfl (n := 30) rfl (fun hc27 => ?_) (fun hc27 => ?_)
          · refine fv_aload_n C d_P_byteOfPacket_42 (n := 43) rfl (i := 0) rfl rfl ?_
            refine fv_iload_n C d_P_byteOfPacket_43 (n := 44) rfl (i := 1) rfl rfl ?_
            refine fv_callV_r C (ml_P_62 D dA) im_P_startOf se_P_startOf hO.1 rfl (ct_P_startOf hp1 (by omega) hEn hP0) d_P_byteOfPacket_44 (n := 47) rfl rfl rfl rfl (Nat.le_of_ble_eq_true rfl) (Nat.le_of_ble_eq_true rfl) (Nat.le_of_ble_eq_true rfl) (Nat.le_refl _) (Nat.le_refl _) ?_
            refine fv_iload_n C d_P_byteOfPacket_47 (n := 48) rfl (i := 2) rfl rfl ?_
            refine fv_iconst C d_P_byteOfPacket_48 (n := 49) rfl kI_5 ?_
            refine fv_isubN C (by omega) d_P_byteOfPacket_49 (n := 50) rfl ?_
            refine fv_bipush C d_P_byteOfPacket_50 (n := 52) rfl kB_19 ?_
            refine fv_idivN C (by omega) (by omega) (by omega) d_P_byteOfPacket_52 (n := 53) rfl ?_
            first | refine fv_iaddN C d_P_byteOfPacket_53 (n := 54) rfl ?_ | refine fv_iadd C d_P_byteOfPacket_53 (n := 54) rfl ?_
            refine fv_istore_n C d_P_byteOfPacket_54 (n := 55) rfl (i := 3) rfl (by decide) (L' := [_, _, _, _]) rfl ?_
            refine fv_iload_n C d_P_byteOfPacket_55 (n := 56) rfl (i := 3) rfl rfl ?_
            refine fv_aload_n C d_P_byteOfPacket_56 (n := 57) rfl (i := 0) rfl rfl ?_
            refine fv_iload_n C d_P_byteOfPacket_57 (n := 58) rfl (i := 1) rfl rfl ?_
            refine fv_callV_r C (ml_P_66 D dA) im_P_endOf se_P_endOf hO.1 rfl (ct_P_endOf hp2 hEn hP0) d_P_byteOfPacket_58 (n := 61) rfl rfl rfl rfl (Nat.le_of_ble_eq_true rfl) (Nat.le_of_ble_eq_true rfl) (Nat.le_of_ble_eq_true rfl) (Nat.le_refl _) (Nat.le_refl _) ?_
            refine fv_icmpN_ge C (by omega) (by omega) d_P_byteOfPacket_61 (tgt := 73) rfl (n := 64) rfl (fun hc61 => ?_) (fun hc61 => ?_)
            · refine fv_iconst C d_P_byteOfPacket_73 (n := 74) rfl kI_m1 ?_
              refine fv_iret C rfl d_P_byteOfPacket_74 (Nat.le_refl _) (Nat.le_refl _) ?_
              rw [if_neg (by omega), if_neg (by omega), if_neg (by omega)]
              exact ⟨rfl, rfl, rfl⟩
            · obtain ⟨ev, hevn⟩ : ∃ ev, log[fe_E ends (p - 1) + (j - 5) / 19]? = some ev := ⟨_, List.getElem?_eq_getElem (by omega)⟩
              have hgd : log.getD (fe_E ends (p - 1) + (j - 5) / 19) bo_e0 = ev := by rw [List.getD_eq_getElem?_getD, hevn]; rfl
              have hEe := hE _ ev hevn
              have hae := hev (fe_E ends (p - 1) + (j - 5) / 19) (by omega)
              refine fv_aload_n C d_P_byteOfPacket_64 (n := 65) rfl (i := 0) rfl rfl ?_
              refine fv_get C (fl_P_19 D dA) d_P_byteOfPacket_65 (n := 68) rfl hO.1 rfl ?_
              refine fv_iload_n C d_P_byteOfPacket_68 (n := 69) rfl (i := 3) rfl rfl ?_
              refine fv_aaldN C (t0 := 3) rfl d_P_byteOfPacket_69 (n := 70) rfl hO.2.2.1 (by omega) (by decide) (show va_rf (evs (fe_E ends (p - 1) + (j - 5) / 19)) = .ref (aE + (fe_E ends (p - 1) + (j - 5) / 19)) by rw [hae]; rfl) ?_
              refine fv_ifnonnull C d_P_byteOfPacket_70 (tgt := 75) rfl ?_
              refine fv_aload_n C d_P_byteOfPacket_75 (n := 76) rfl (i := 0) rfl rfl ?_
              refine fv_get C (fl_P_19 D dA) d_P_byteOfPacket_76 (n := 79) rfl hO.1 rfl ?_
              refine fv_iload_n C d_P_byteOfPacket_79 (n := 80) rfl (i := 3) rfl rfl ?_
              refine fv_aaldN C (t0 := 3) rfl d_P_byteOfPacket_80 (n := 81) rfl hO.2.2.1 (by omega) (by decide) (show va_rf (evs (fe_E ends (p - 1) + (j - 5) / 19)) = .ref (aE + (fe_E ends (p - 1) + (j - 5) / 19)) by rw [hae]; rfl) ?_
              refine fv_iload_n C d_P_byteOfPacket_81 (n := 82) rfl (i := 2) rfl rfl ?_
              refine fv_iconst C d_P_byteOfPacket_82 (n := 83) rfl kI_5 ?_
              refine fv_isubN C (by omega) d_P_byteOfPacket_83 (n := 84) rfl ?_
              refine fv_bipush C d_P_byteOfPacket_84 (n := 86) rfl kB_19 ?_
              refine fv_iremN C (by omega) (by omega) (by omega) d_P_byteOfPacket_86 (n := 87) rfl ?_
              refine fv_callV_r C (ml_P_77 D dA) im_E_byteAt se_E_byteAt hEe rfl (ct_E_byteAt (by omega) hEe) d_P_byteOfPacket_87 (n := 90) rfl rfl rfl rfl (Nat.le_of_ble_eq_true rfl) (Nat.le_of_ble_eq_true rfl) (Nat.le_of_ble_eq_true rfl) (Nat.le_refl _) (Nat.le_refl _) ?_
              refine fv_iret C rfl d_P_byteOfPacket_90 (Nat.le_refl _) (Nat.le_refl _) ?_
              rw [if_neg (by omega), if_neg (by omega), if_pos (by omega), hgd]
              exact ⟨rfl, rfl, rfl⟩
          · refine fv_aload_n C d_P_byteOfPacket_30 (n := 31) rfl (i := 0) rfl rfl ?_
            refine fv_iload_n C d_P_byteOfPacket_31 (n := 32) rfl (i := 1) rfl rfl ?_
            refine fv_callV_r C (ml_P_66 D dA) im_P_endOf se_P_endOf hO.1 rfl (ct_P_endOf hp2 hEn hP0) d_P_byteOfPacket_32 (n := 35) rfl rfl rfl rfl (Nat.le_of_ble_eq_true rfl) (Nat.le_of_ble_eq_true rfl) (Nat.le_of_ble_eq_true rfl) (Nat.le_refl _) (Nat.le_refl _) ?_
            refine fv_aload_n C d_P_byteOfPacket_35 (n := 36) rfl (i := 0) rfl rfl ?_
            refine fv_iload_n C d_P_byteOfPacket_36 (n := 37) rfl (i := 1) rfl rfl ?_
            refine fv_callV_r C (ml_P_62 D dA) im_P_startOf se_P_startOf hO.1 rfl (ct_P_startOf hp1 (by omega) hEn hP0) d_P_byteOfPacket_37 (n := 40) rfl rfl rfl rfl (Nat.le_of_ble_eq_true rfl) (Nat.le_of_ble_eq_true rfl) (Nat.le_of_ble_eq_true rfl) (Nat.le_refl _) (Nat.le_refl _) ?_
            refine fv_isubN C (by omega) d_P_byteOfPacket_40 (n := 41) rfl ?_
            refine fv_iret C rfl d_P_byteOfPacket_41 (Nat.le_refl _) (Nat.le_refl _) ?_
            rw [if_neg (by omega), if_pos (by omega)]
            exact ⟨rfl, rfl, rfl⟩
        · refine fv_iload_n C d_P_byteOfPacket_19 (n := 20) rfl (i := 1) rfl rfl ?_
          refine fv_iload_n C d_P_byteOfPacket_20 (n := 21) rfl (i := 2) rfl rfl ?_
          refine fv_callS_r C (ml_P_73 D dA) sm_E_byteOf ct_E_byteOf d_P_byteOfPacket_21 (n := 24) rfl rfl rfl rfl (Nat.le_of_ble_eq_true rfl) (Nat.le_of_ble_eq_true rfl) (Nat.le_of_ble_eq_true rfl) (Nat.le_refl _) (Nat.le_refl _) ?_
          refine fv_iret C rfl d_P_byteOfPacket_24 (Nat.le_refl _) (Nat.le_refl _) ?_
          rw [if_pos (by omega)]
          exact ⟨rfl, rfl, rfl⟩
  · refine fv_aload_n C d_P_byteOfPacket_0 (n := 1) rfl (i := 0) rfl rfl ?_
    refine fv_iload_n C d_P_byteOfPacket_1 (n := 2) rfl (i := 1) rfl rfl ?_
    refine fv_callV_r C (ml_P_69 D dA) im_P_isClosed se_P_isClosed hO.1 rfl (ct_P_isClosed hEn hP0) d_P_byteOfPacket_2 (n := 5) rfl rfl rfl rfl (Nat.le_of_ble_eq_true rfl) (Nat.le_of_ble_eq_true rfl) (Nat.le_of_ble_eq_true rfl) (Nat.le_refl _) (Nat.le_refl _) ?_
    refine fv_ifB_eq C d_P_byteOfPacket_5 (tgt := 12) rfl (n := 8) rfl (fun hc5 => ?_) (fun hc5 => ?_)
    · refine fv_iconst C d_P_byteOfPacket_12 (n := 13) rfl kI_m1 ?_
      refine fv_iret C rfl d_P_byteOfPacket_13 (Nat.le_refl _) (Nat.le_refl _) ?_
      unfold fe_pb
      rw [if_neg (fun q => hcx q.1)]
      exact ⟨rfl, rfl, rfl⟩
    · exact absurd hc5 hcx
/-- can snapshot x be heard when sc were made -/
def fe_hr (x : Int32) (sc : Nat) : Bool := decide (nI 1 ≤ x ∧ x ≤ nI sc ∧ nI sc - nI 8 < x)
theorem ct_P_canHear {x : Int32} (hEn : fe_ends log ends) (hP : PB dA h a aE log ends sc) : fv_T l (fk D dA) Bs WA m_P_canHear [.ref a, .int x] sz h 0 0 (fp_r (.int (fv_b (fe_hr x sc))) sz h) := by
  obtain ⟨evs, en, hO, hev, hen⟩ := hP
  have hcl := fe_ends_len hEn
  have hmo := fe_ends_mono hEn
  have m3 := hEn.2.2.2
  refine fv_of (L := [_, _]) (by decide +kernel) rfl (Nat.le_of_ble_eq_true rfl) rfl ?_
  intro X hX C
  subst hX
  refine fv_iload_n C d_P_canHear_0 (n := 1) rfl (i := 1) rfl rfl ?_
  refine fv_iconst C d_P_canHear_1 (n := 2) rfl kI_1 ?_
  refine fv_icmp_lt C d_P_canHear_2 (tgt := 28) rfl (n := 5) rfl (fun hc2 => ?_) (fun hc2 => ?_)
  · have hcv : nI 0 = fv_b (fe_hr x sc) := by unfold fe_hr; rw [decide_eq_false (fun q => absurd hc2 (Int32.not_lt.mpr q.1))]; rfl
    refine fv_iconst C d_P_canHear_28 (n := 29) rfl kI_0 ?_
    rw [hcv]
    refine fv_zret C rfl d_P_canHear_29 (fv_b_nar _) (Nat.le_refl _) (Nat.le_refl _) ?_
    exact ⟨rfl, rfl, rfl⟩
  · have h9 := Int32.not_lt.mp hc2
    refine fv_iload_n C d_P_canHear_5 (n := 6) rfl (i := 1) rfl rfl ?_
    refine fv_aload_n C d_P_canHear_6 (n := 7) rfl (i := 0) rfl rfl ?_
    refine fv_get C (fl_P_40 D dA) d_P_canHear_7 (n := 10) rfl hO.1 rfl ?_
    refine fv_icmp_gt C d_P_canHear_10 (tgt := 28) rfl (n := 13) rfl (fun hc10 => ?_) (fun hc10 => ?_)
    · have hcv : nI 0 = fv_b (fe_hr x sc) := by unfold fe_hr; rw [decide_eq_false (fun q => absurd hc10 (Int32.not_lt.mpr q.2.1))]; rfl
      refine fv_iconst C d_P_canHear_28 (n := 29) rfl kI_0 ?_
      rw [hcv]
      refine fv_zret C rfl d_P_canHear_29 (fv_b_nar _) (Nat.le_refl _) (Nat.le_refl _) ?_
      exact ⟨rfl, rfl, rfl⟩
    · have h10 := Int32.not_lt.mp hc10
      refine fv_iload_n C d_P_canHear_13 (n := 14) rfl (i := 1) rfl rfl ?_
      refine fv_aload_n C d_P_canHear_14 (n := 15) rfl (i := 0) rfl rfl ?_
      refine fv_get C (fl_P_40 D dA) d_P_canHear_15 (n := 18) rfl hO.1 rfl ?_
      refine fv_bipush C d_P_canHear_18 (n := 20) rfl kB_8 ?_
      refine fv_isub C d_P_canHear_20 (n := 21) rfl ?_
      refine fv_icmp_le C d_P_canHear_21 (tgt := 28) rfl (n := 24) rfl (fun hc21 => ?_) (fun hc21 => ?_)
      · have hcv : nI 0 = fv_b (fe_hr x sc) := by unfold fe_hr; rw [decide_eq_false (fun q => absurd q.2.2 (Int32.not_lt.mpr hc21))]; rfl
        refine fv_iconst C d_P_canHear_28 (n := 29) rfl kI_0 ?_
        rw [hcv]
        refine fv_zret C rfl d_P_canHear_29 (fv_b_nar _) (Nat.le_refl _) (Nat.le_refl _) ?_
        exact ⟨rfl, rfl, rfl⟩
      · have hcv : nI 1 = fv_b (fe_hr x sc) := by unfold fe_hr; rw [decide_eq_true ⟨h9, h10, Int32.not_le.mp hc21⟩]; rfl
        refine fv_iconst C d_P_canHear_24 (n := 25) rfl kI_1 ?_
        refine fv_goto C d_P_canHear_25 (tgt := 29) rfl ?_
        rw [hcv]
        refine fv_zret C rfl d_P_canHear_29 (fv_b_nar _) (Nat.le_refl _) (Nat.le_refl _) ?_
        exact ⟨rfl, rfl, rfl⟩
theorem ct_P_snapshot {k : Nat} (hk : k < 2 ^ 31) (hEn : fe_ends log ends) (hP : PB dA h a aE log ends sc) : fv_T l (fk D dA) Bs WA m_P_snapshot [.ref a, .int (nI k)] sz h 0 0 (fp_r (.ref (a + 21 + 5 * (k % 8))) sz h) := by
  obtain ⟨evs, en, hO, hev, hen⟩ := hP
  have hcl := fe_ends_len hEn
  have hmo := fe_ends_mono hEn
  have m3 := hEn.2.2.2
  refine fv_of (L := [_, _]) (by decide +kernel) rfl (Nat.le_of_ble_eq_true rfl) rfl ?_
  intro X hX C
  subst hX
  refine fv_aload_n C d_P_snapshot_0 (n := 1) rfl (i := 0) rfl rfl ?_
  refine fv_get C (fl_P_36 D dA) d_P_snapshot_1 (n := 4) rfl hO.1 rfl ?_
  refine fv_iload_n C d_P_snapshot_4 (n := 5) rfl (i := 1) rfl rfl ?_
  refine fv_bipush C d_P_snapshot_5 (n := 7) rfl kB_7 ?_
  refine fv_iandN C 3 (by omega) (by decide +kernel) d_P_snapshot_7 (n := 8) rfl ?_
  refine fv_aaldN C (t0 := 6) rfl d_P_snapshot_8 (n := 9) rfl hO.2.2.2.2 (by omega) (by decide) (show va_rf (if k % 2 ^ 3 < 8 then some (a + 21 + 5 * (k % 2 ^ 3)) else none) = .ref (a + 21 + 5 * (k % 8)) by rw [if_pos (by omega)]; rfl) ?_
  refine fv_aret C rfl (Or.inl ⟨_, rfl⟩) (Or.inr ⟨_, rfl⟩) d_P_snapshot_9 (Nat.le_refl _) (Nat.le_refl _) ?_
  exact ⟨rfl, rfl, rfl⟩
theorem ct_P_makeSnapshot {n si0 cov0 n1 : Nat} {b1 : bo_B} (hsc : sc < 1000) (hBs : Bs ≤ a) (hL : BL dA h (a + 5 + 4 * (sc % 4)) (fe_bk log (sc % 4) n) n) (hS : SNr dA h (a + 21 + 5 * ((sc + 1) % 8)) si0 cov0) (hSL : BL dA h (a + 21 + 5 * ((sc + 1) % 8) + 1) b1 n1) (hEn : fe_ends log ends) (hP : PB dA h a aE log ends sc) : fv_T l (fk D dA) Bs WA m_P_makeSnapshot [.ref a] sz h 0 0 (fp_i sz (fun r h' => r = nI (sc + 1) ∧ PB dA h' a aE log ends (sc + 1) ∧ SNr dA h' (a + 21 + 5 * ((sc + 1) % 8)) (sc % 4) ends.length ∧ BL dA h' (a + 21 + 5 * ((sc + 1) % 8) + 1) (fe_bk log (sc % 4) n) n ∧ fs h h' (fun x => x = a ∨ (a + 21 + 5 * ((sc + 1) % 8) ≤ x ∧ x < a + 21 + 5 * ((sc + 1) % 8) + 5)))) := by
  obtain ⟨evs, en, hO, hev, hen⟩ := hP
  have hcl := fe_ends_len hEn
  have hmo := fe_ends_mono hEn
  have m3 := hEn.2.2.2
  refine fv_of (L := [_, _]) (by decide +kernel) rfl (Nat.le_of_ble_eq_true rfl) rfl ?_
  intro X hX C
  subst hX
  refine fv_aload_n C d_P_makeSnapshot_0 (n := 1) rfl (i := 0) rfl rfl ?_
  refine fv_get C (fl_P_40 D dA) d_P_makeSnapshot_1 (n := 4) rfl hO.1 rfl ?_
  refine fv_iconst C d_P_makeSnapshot_4 (n := 5) rfl kI_3 ?_
  refine fv_iandN C 2 (by omega) (by decide +kernel) d_P_makeSnapshot_5 (n := 6) rfl ?_
  refine fv_istore_n C d_P_makeSnapshot_6 (n := 7) rfl (i := 1) rfl (by decide) (L' := [_, _]) rfl ?_
  refine fv_aload_n C d_P_makeSnapshot_7 (n := 8) rfl (i := 0) rfl rfl ?_
  refine fv_dup C d_P_makeSnapshot_8 (n := 9) rfl rfl ?_
  refine fv_get C (fl_P_40 D dA) d_P_makeSnapshot_9 (n := 12) rfl hO.1 rfl ?_
  refine fv_iconst C d_P_makeSnapshot_12 (n := 13) rfl kI_1 ?_
  first | refine fv_iaddN C d_P_makeSnapshot_13 (n := 14) rfl ?_ | refine fv_iadd C d_P_makeSnapshot_13 (n := 14) rfl ?_
  refine pb_psc C (fl_P_40 D dA) d_P_makeSnapshot_14 (n := 17) rfl hO hBs (fun h1 hO hF1 => ?_)
  have hL := hL.fs hF1 ⟨by omega, by omega, by omega, by omega⟩
  have hSL := hSL.fs hF1 ⟨by omega, by omega, by omega, by omega⟩
  have hS : SNr dA h1 (a + 21 + 5 * ((sc + 1) % 8)) si0 cov0 := hS.fs hF1 (by omega)
  have hP1 : PB dA h1 a aE log ends (sc + 1) := ⟨evs, en, hO, hev, hen⟩
  refine fv_aload_n C d_P_makeSnapshot_17 (n := 18) rfl (i := 0) rfl rfl ?_
  refine fv_aload_n C d_P_makeSnapshot_18 (n := 19) rfl (i := 0) rfl rfl ?_
  refine fv_get C (fl_P_40 D dA) d_P_makeSnapshot_19 (n := 22) rfl hO.1 rfl ?_
  refine fv_callV_r C (ml_P_80 D dA) im_P_snapshot se_P_snapshot hO.1 rfl (ct_P_snapshot (by omega) hEn hP1) d_P_makeSnapshot_22 (n := 25) rfl rfl rfl rfl (Nat.le_of_ble_eq_true rfl) (Nat.le_of_ble_eq_true rfl) (Nat.le_of_ble_eq_true rfl) (Nat.le_refl _) (Nat.le_refl _) ?_
  refine fv_iload_n C d_P_makeSnapshot_25 (n := 26) rfl (i := 1) rfl rfl ?_
  refine fv_aload_n C d_P_makeSnapshot_26 (n := 27) rfl (i := 0) rfl rfl ?_
  refine fv_get C (fl_P_11 D dA) d_P_makeSnapshot_27 (n := 30) rfl hO.1 rfl ?_
  refine fv_iload_n C d_P_makeSnapshot_30 (n := 31) rfl (i := 1) rfl rfl ?_
  refine fv_aaldN C (t0 := 2) rfl d_P_makeSnapshot_31 (n := 32) rfl hO.2.1 (by omega) (by decide) (show va_rf (if sc % 2 ^ 2 < 4 then some (a + 5 + 4 * (sc % 2 ^ 2)) else none) = .ref (a + 5 + 4 * (sc % 4)) by rw [if_pos (by omega)]; rfl) ?_
  refine fv_aload_n C d_P_makeSnapshot_32 (n := 33) rfl (i := 0) rfl rfl ?_
  refine fv_get C (fl_P_31 D dA) d_P_makeSnapshot_33 (n := 36) rfl hO.1 rfl ?_
  refine fv_callV_v C (ml_P_84 D dA) im_S_fix se_S_fix hS rfl (ct_S_fix (by omega) (by omega) hS hSL hL) d_P_makeSnapshot_36 (n := 39) rfl rfl rfl rfl (Nat.le_of_ble_eq_true rfl) (Nat.le_of_ble_eq_true rfl) (Nat.le_of_ble_eq_true rfl) (Nat.le_refl _) (Nat.le_refl _) (fun h2 hp2 => ?_)
  obtain ⟨q1, q2, q3⟩ := hp2
  have hO : PBr dA h2 a evs log.length en ends.length (sc + 1) := hO.fs q3 ⟨by omega, by omega, by omega, by omega, by omega⟩
  refine fv_aload_n C d_P_makeSnapshot_39 (n := 40) rfl (i := 0) rfl rfl ?_
  refine fv_get C (fl_P_40 D dA) d_P_makeSnapshot_40 (n := 43) rfl hO.1 rfl ?_
  refine fv_iret C rfl d_P_makeSnapshot_43 (Nat.le_refl _) (Nat.le_refl _) ?_
  exact ⟨_, rfl, rfl, rfl, ⟨evs, en, hO, hev, hen⟩, q1, q2, hF1.tr q3 (fun x hx => Or.inl hx) (fun x hx => Or.inr hx)⟩
theorem ct_P_offer {so ins s n : Nat} {id pr v : Int32} (hso : so ≤ 5) (hi : ins < 4) (hs : s = 0 ∨ s = 1) (hv4 : so = 4 → v = 0 ∨ v = 1) (hpos : so ≤ 2 → 0 < v) (hBs : Bs ≤ a) (hsz : sz = aE + log.length) (haE : a + 61 ≤ aE) (hn : n = (fe_li log ins).length) (hL : BL dA h (a + 5 + 4 * ins) (fe_bk log ins n) n) (hEn : fe_ends log ends) (hP : PB dA h a aE log ends sc) : fv_T l (fk D dA) Bs WA m_P_offer [.ref a, .int (nI so), .int (nI ins), .int id, .int (nI s), .int pr, .int v] sz h 1 7 (fun vv sz' h' => (bo_ok (fe_bk log ins n) so id v = false ∧ vv = some (.int (-3)) ∧ sz' = sz ∧ h' = h) ∨ (bo_ok (fe_bk log ins n) so id v = true ∧ (fe_E ends ends.length + 5 ≤ log.length ∨ 400 ≤ log.length) ∧ vv = some (.int (-4)) ∧ sz' = sz ∧ h' = h) ∨ (bo_ok (fe_bk log ins n) so id v = true ∧ log.length < fe_E ends ends.length + 5 ∧ log.length < 400 ∧ vv = some (.int (nI (n + 1))) ∧ sz' = sz + 1 ∧ PB dA h' a aE (log ++ [(so, ins, n + 1, id, s, pr, v)]) ends sc ∧ BL dA h' (a + 5 + 4 * ins) (fe_bk (log ++ [(so, ins, n + 1, id, s, pr, v)]) ins (n + 1)) (n + 1) ∧ EV h' sz (so, ins, n + 1, id, s, pr, v) ∧ fs h h' (fun x => x = a ∨ x = a + 2 ∨ (a + 5 + 4 * ins ≤ x ∧ x < a + 5 + 4 * ins + 4) ∨ x = sz))) := by
  obtain ⟨evs, en, hO, hev, hen⟩ := hP
  have hcl := fe_ends_len hEn
  have hmo := fe_ends_mono hEn
  have m3 := hEn.2.2.2
  have m2 := hmo ends.length (Nat.le_refl _)
  have he0 := hen ends.length (Nat.le_refl _)
  have hnl : n ≤ log.length := by rw [hn]; exact fe_li_len log ins
  have hew : bo_ewf (so, ins, n + 1, id, s, pr, v) := ⟨hso, hi, hs, hpos⟩
  have hL0 := hL
  obtain ⟨ids, pri, siz, hB, hA, hw⟩ := hL0
  have hbk : fe_bk (log ++ [(so, ins, n + 1, id, s, pr, v)]) ins (n + 1) = bo_apl (fe_bk log ins n) (so, ins, n + 1, id, s, pr, v) := by
    have h9 : (fe_li (log ++ [(so, ins, n + 1, id, s, pr, v)]) ins)[n]? = some (so, ins, n + 1, id, s, pr, v) := by
      rw [fe_li_app, if_pos rfl, hn, List.getElem?_append_right (Nat.le_refl _), Nat.sub_self, List.getElem?_cons_zero]
    rw [fe_bk_succ h9, fe_bk_app (by omega)]
  refine fv_of (L := [_, _, _, _, _, _, _, _, _]) (by decide +kernel) rfl (Nat.le_of_ble_eq_true rfl) rfl ?_
  intro X hX C
  subst hX
  refine fv_aload_n C d_P_offer_0 (n := 1) rfl (i := 0) rfl rfl ?_
  refine fv_get C (fl_P_11 D dA) d_P_offer_1 (n := 4) rfl hO.1 rfl ?_
  refine fv_iload_n C d_P_offer_4 (n := 5) rfl (i := 2) rfl rfl ?_
  refine fv_aaldN C (t0 := 2) rfl d_P_offer_5 (n := 6) rfl hO.2.1 (by omega) (by decide) (show va_rf (if ins < 4 then some (a + 5 + 4 * ins) else none) = .ref (a + 5 + 4 * ins) by rw [if_pos hi]; rfl) ?_
  refine fv_astore C d_P_offer_6 (n := 8) rfl (by decide) (L' := [_, _, _, _, _, _, _, _, _]) rfl ?_
  refine fv_aload C d_P_offer_8 (n := 10) rfl rfl ?_
  refine fv_iload_n C d_P_offer_10 (n := 11) rfl (i := 1) rfl rfl ?_
  refine fv_iload_n C d_P_offer_11 (n := 12) rfl (i := 3) rfl rfl ?_
  refine fv_iload C d_P_offer_12 (n := 14) rfl rfl ?_
  refine fv_callV_r C (ml_P_45 D dA) im_B_allows se_B_allows hB.1 rfl (ct_B_allows hso hv4 hL) d_P_offer_14 (n := 17) rfl rfl rfl rfl (Nat.le_of_ble_eq_true rfl) (Nat.le_of_ble_eq_true rfl) (Nat.le_of_ble_eq_true rfl) (Nat.zero_le _) (Nat.zero_le _) ?_
  refine fv_ifB_ne C d_P_offer_17 (tgt := 23) rfl (n := 20) rfl (fun hc17 => ?_) (fun hc17 => ?_)
  · refine fv_aload_n C d_P_offer_23 (n := 24) rfl (i := 0) rfl rfl ?_
    refine fv_get C (fl_P_23 D dA) d_P_offer_24 (n := 27) rfl hO.1 rfl ?_
    refine fv_aload_n C d_P_offer_27 (n := 28) rfl (i := 0) rfl rfl ?_
    refine fv_get C (fl_P_27 D dA) d_P_offer_28 (n := 31) rfl hO.1 rfl ?_
    refine fv_aload_n C d_P_offer_31 (n := 32) rfl (i := 0) rfl rfl ?_
    refine fv_get C (fl_P_31 D dA) d_P_offer_32 (n := 35) rfl hO.1 rfl ?_
    refine fv_ialdN C (t0 := 0) rfl d_P_offer_35 (n := 36) rfl hO.2.2.2.1 (by omega) (by decide) ?_
    rw [he0]
    refine fv_isubN C (by omega) d_P_offer_36 (n := 37) rfl ?_
    refine fv_iconst C d_P_offer_37 (n := 38) rfl kI_5 ?_
    refine fv_icmpN_ge C (by omega) (by omega) d_P_offer_38 (tgt := 51) rfl (n := 41) rfl (fun hc38 => ?_) (fun hc38 => ?_)
    · refine fv_bipush C d_P_offer_51 (n := 53) rfl kB_m4 ?_
      refine fv_iret C rfl d_P_offer_53 (Nat.zero_le _) (Nat.zero_le _) ?_
      exact Or.inr (Or.inl ⟨hc17, by omega, rfl, rfl, rfl⟩)
    · refine fv_aload_n C d_P_offer_41 (n := 42) rfl (i := 0) rfl rfl ?_
      refine fv_get C (fl_P_23 D dA) d_P_offer_42 (n := 45) rfl hO.1 rfl ?_
      refine fv_sipush C d_P_offer_45 (n := 48) rfl kS_400 ?_
      refine fv_icmpN_lt C (by omega) (by omega) d_P_offer_48 (tgt := 54) rfl (n := 51) rfl (fun hc48 => ?_) (fun hc48 => ?_)
      · refine fv_new C (fs := [.int 0, .int 0, .int 0, .int 0, .int 0, .int 0, .int 0]) ty_E uw_E tk_E (ci := 2) rfl kl_P_17 in_E ii_E (fun j hj => by rcases (show j = 0 ∨ j = 1 ∨ j = 2 ∨ j = 3 ∨ j = 4 ∨ j = 5 ∨ j = 6 by omega) with rfl | rfl | rfl | rfl | rfl | rfl | rfl <;> rfl) d_P_offer_54 (n := 57) rfl (Nat.le_of_ble_eq_true rfl) (Nat.le_of_ble_eq_true rfl) ?_
        have hF1 : fs h (va_up h sz (some (.inr (2, [.int 0, .int 0, .int 0, .int 0, .int 0, .int 0, .int 0])))) (fun x => x = sz) := fun x hx => va_up_ne _ _ hx
        have hq := va_up_self h sz (some (.inr (2, [.int 0, .int 0, .int 0, .int 0, .int 0, .int 0, .int 0]) : va_E))
        generalize va_up h sz (some (.inr (2, [.int 0, .int 0, .int 0, .int 0, .int 0, .int 0, .int 0]))) = h1 at hF1 hq ⊢
        have hO := hO.fs hF1 ⟨by omega, by omega, by omega, by omega, by omega⟩
        have hL1 := hL.fs hF1 ⟨by omega, by omega, by omega, by omega⟩
        have hB : BK dA h1 (a + 5 + 4 * ins) ids pri siz (bo_srt 0 (fe_bk log ins n).1).length (fe_bk log ins n).1.length (fe_bk log ins n).2 n := ⟨(hF1 _ (by omega)).trans hB.1, (hF1 _ (by omega)).trans hB.2.1, (hF1 _ (by omega)).trans hB.2.2.1, (hF1 _ (by omega)).trans hB.2.2.2⟩
        refine fv_dup C d_P_offer_57 (n := 58) rfl rfl ?_
        refine fv_iload_n C d_P_offer_58 (n := 59) rfl (i := 1) rfl rfl ?_
        refine fv_iload_n C d_P_offer_59 (n := 60) rfl (i := 2) rfl rfl ?_
        refine fv_aload C d_P_offer_60 (n := 62) rfl rfl ?_
        refine fv_get C (fl_P_49 D dA) d_P_offer_62 (n := 65) rfl hB.1 rfl ?_
        refine fv_iconst C d_P_offer_65 (n := 66) rfl kI_1 ?_
        first | refine fv_iaddN C d_P_offer_66 (n := 67) rfl ?_ | refine fv_iadd C d_P_offer_66 (n := 67) rfl ?_
        refine fv_iload_n C d_P_offer_67 (n := 68) rfl (i := 3) rfl rfl ?_
        refine fv_iload C d_P_offer_68 (n := 70) rfl rfl ?_
        refine fv_iload C d_P_offer_70 (n := 72) rfl rfl ?_
        refine fv_iload C d_P_offer_72 (n := 74) rfl rfl ?_
        refine fv_callI_v C (ml_P_52 D dA) im_E_init rfl rfl (ct_E_init hq (by omega)) d_P_offer_74 (n := 77) rfl rfl rfl rfl (Nat.le_of_ble_eq_true rfl) (Nat.le_of_ble_eq_true rfl) (Nat.le_of_ble_eq_true rfl) (Nat.le_refl _) (Nat.le_refl _) (fun h2 hp2 => ?_)
        have hF2 : fs h1 h2 (fun x => x = sz) := by rw [hp2]; exact fun x hx => va_up_ne _ _ hx
        have hEv : EV h2 sz (so, ins, n + 1, id, s, pr, v) := by rw [hp2]; exact va_up_self _ _ _
        clear hp2
        have hO := hO.fs hF2 ⟨by omega, by omega, by omega, by omega, by omega⟩
        have hL2 := hL1.fs hF2 ⟨by omega, by omega, by omega, by omega⟩
        have hB : BK dA h2 (a + 5 + 4 * ins) ids pri siz (bo_srt 0 (fe_bk log ins n).1).length (fe_bk log ins n).1.length (fe_bk log ins n).2 n := ⟨(hF2 _ (by omega)).trans hB.1, (hF2 _ (by omega)).trans hB.2.1, (hF2 _ (by omega)).trans hB.2.2.1, (hF2 _ (by omega)).trans hB.2.2.2⟩
        refine fv_astore C d_P_offer_77 (n := 79) rfl (by decide) (L' := [_, _, _, _, _, _, _, _, _]) rfl ?_
        refine fv_aload_n C d_P_offer_79 (n := 80) rfl (i := 0) rfl rfl ?_
        refine fv_get C (fl_P_19 D dA) d_P_offer_80 (n := 83) rfl hO.1 rfl ?_
        refine fv_aload_n C d_P_offer_83 (n := 84) rfl (i := 0) rfl rfl ?_
        refine fv_get C (fl_P_23 D dA) d_P_offer_84 (n := 87) rfl hO.1 rfl ?_
        refine fv_aload C d_P_offer_87 (n := 89) rfl rfl ?_
        refine pb_sev C d_P_offer_89 (n := 90) rfl hO hEv hBs (by omega) (fun h3 hO hF3 => ?_)
        refine fv_aload_n C d_P_offer_90 (n := 91) rfl (i := 0) rfl rfl ?_
        refine fv_dup C d_P_offer_91 (n := 92) rfl rfl ?_
        refine fv_get C (fl_P_23 D dA) d_P_offer_92 (n := 95) rfl hO.1 rfl ?_
        refine fv_iconst C d_P_offer_95 (n := 96) rfl kI_1 ?_
        first | refine fv_iaddN C d_P_offer_96 (n := 97) rfl ?_ | refine fv_iadd C d_P_offer_96 (n := 97) rfl ?_
        refine pb_pne C (fl_P_23 D dA) d_P_offer_97 (n := 100) rfl hO hBs (fun h4 hO hF4 => ?_)
        have hF34 := hF3.tr hF4 (U := fun x => x = a ∨ x = a + 2) (fun x hx => Or.inr hx) (fun x hx => Or.inl hx)
        have hEv : EV h4 sz (so, ins, n + 1, id, s, pr, v) := (hF34 _ (by omega)).trans hEv
        have hL4 := hL2.fs hF34 ⟨by omega, by omega, by omega, by omega⟩
        have hB : BK dA h4 (a + 5 + 4 * ins) ids pri siz (bo_srt 0 (fe_bk log ins n).1).length (fe_bk log ins n).1.length (fe_bk log ins n).2 n := ⟨(hF34 _ (by omega)).trans hB.1, (hF34 _ (by omega)).trans hB.2.1, (hF34 _ (by omega)).trans hB.2.2.1, (hF34 _ (by omega)).trans hB.2.2.2⟩
        refine fv_aload C d_P_offer_100 (n := 102) rfl rfl ?_
        refine fv_aload C d_P_offer_102 (n := 104) rfl rfl ?_
        refine fv_callV_v C (ml_P_55 D dA) im_B_apply se_B_apply hB.1 rfl (ct_B_apply hEv (by omega) (by omega) hew hc17 hL4) d_P_offer_104 (n := 107) rfl rfl rfl rfl (Nat.le_of_ble_eq_true rfl) (Nat.le_of_ble_eq_true rfl) (Nat.le_of_ble_eq_true rfl) (Nat.le_refl _) (Nat.le_refl _) (fun h5 hp5 => ?_)
        obtain ⟨hL5, hF5⟩ := hp5
        have hEv : EV h5 sz (so, ins, n + 1, id, s, pr, v) := hEv.fr hF5 (by omega)
        have hO := hO.fs hF5.fs ⟨by omega, by omega, by omega, by omega, by omega⟩
        refine fv_aload C d_P_offer_107 (n := 109) rfl rfl ?_
        refine fv_get C (fl_P_59 D dA) d_P_offer_109 (n := 112) rfl hEv rfl ?_
        refine fv_iret C rfl d_P_offer_112 (Nat.le_refl _) (Nat.le_refl _) ?_
        refine Or.inr (Or.inr ⟨hc17, by omega, by omega, rfl, rfl, ⟨va_up evs log.length (some sz), en, ?_, ?_, hen⟩, by rw [hbk]; exact hL5, hEv, ?_⟩)
        · rw [List.length_append]; exact hO
        · intro j hj
          rw [List.length_append] at hj
          simp only [List.length_cons, List.length_nil] at hj
          by_cases h9 : j = log.length
          · rw [h9, va_up_self, hsz]
          · rw [va_up_ne _ _ h9]; exact hev j (by omega)
        · exact (((hF1.tr hF2 (U := fun x => x = sz) (fun x hx => hx) (fun x hx => hx)).tr hF34 (U := fun x => x = a ∨ x = a + 2 ∨ x = sz) (fun x hx => by omega) (fun x hx => by omega)).tr hF5.fs (fun x hx => by omega) (fun x hx => by omega))
      · refine fv_bipush C d_P_offer_51 (n := 53) rfl kB_m4 ?_
        refine fv_iret C rfl d_P_offer_53 (Nat.zero_le _) (Nat.zero_le _) ?_
        exact Or.inr (Or.inl ⟨hc17, by omega, rfl, rfl, rfl⟩)
  · refine fv_bipush C d_P_offer_20 (n := 22) rfl kB_m3 ?_
    refine fv_iret C rfl d_P_offer_22 (Nat.zero_le _) (Nat.zero_le _) ?_
    exact Or.inl ⟨hc17, rfl, rfl, rfl⟩
end PB2
