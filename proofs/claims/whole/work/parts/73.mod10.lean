/-! FeedDeskModel: read and view -/
theorem rv_rd {F F' : Nat → Nat → Int32} {r i : Nat} {t : List Nat} {R : rc_T} (h : RV F r R) (hrow : rc_rw R = i :: t) (g1 : ∀ q, F' 27 q = if 4 * r ≤ q ∧ q < 4 * r + t.length then F 27 (q + 1) else F 27 q) (g2 : F' 28 = upd (F 28) r (nI t.length)) (g3 : ∀ q, q ≠ 27 → q ≠ 28 → F' q = F q) : RV F' r (rc_rr R t) := by
  obtain ⟨a1, a2, a3, a4, a5, a6, a7⟩ := h
  refine ⟨?_, by rw [g3 20 (by decide) (by decide)]; exact a2, by rw [g3 21 (by decide) (by decide)]; exact a3, by rw [g3 22 (by decide) (by decide)]; exact a4, by rw [g3 23 (by decide) (by decide)]; exact a5, fun j z hj => ?_, ?_⟩
  · rw [g3 16 (by decide) (by decide), g3 17 (by decide) (by decide), g3 18 (by decide) (by decide), g3 19 (by decide) (by decide)]
    exact a1
  · have hj : t[j]? = some z := hj
    have := (List.getElem?_eq_some_iff.mp hj).1
    rw [g1, if_pos (by omega)]
    exact a6 (j + 1) z (by rw [hrow, List.getElem?_cons_succ]; exact hj)
  · rw [g2, upd_at, if_pos rfl]
    rfl
theorem ot_rd {F F' : Nat → Nat → Int32} {r n : Nat} (hn : n ≤ 4) (g1 : ∀ q, F' 27 q = if 4 * r ≤ q ∧ q < 4 * r + n then F 27 (q + 1) else F 27 q) (g2 : F' 28 = upd (F 28) r (nI n)) (g3 : ∀ q, q ≠ 27 → q ≠ 28 → F' q = F q) : OT F F' r := by
  refine ⟨fun k hk j hj => ?_, fun j _ => by rw [g3 18 (by decide) (by decide)], fun k hk j hj => ?_, fun j _ => by rw [g3 22 (by decide) (by decide)]⟩
  · by_cases c : k = 27
    · rw [c, g1, if_neg (by omega)]
    · rw [g3 k c (by omega)]
  · by_cases c : k = 28
    · rw [c, g2, upd_at, if_neg hj]
    · rw [g3 k (by omega) c]
theorem MR.fix {F F' : Nat → Nat → Int32} {S : sp_T} {k : Nat} {g : Nat → Int32} (h : MR F S) (g3 : ∀ q, q ≠ 29 → q ≠ 30 → F' q = F q) (g1 : ∀ q, F' 29 q = if 19 * k ≤ q ∧ q < 19 * k + 19 then g (q - 19 * k) else F 29 q) (g2 : F' 30 = upd (F 30) k (fv_b true)) : MR F' (S.1, S.2.1, sp_sh S, sp_R S, va_up (sp_fx S) k (some g)) := by
  obtain ⟨h1, h2, h3, h4, h5, h6⟩ := h
  refine ⟨h1.ke (lo := 29) (hi := 30) (fun q hq => g3 q (by omega) (by omega)) (by decide), ?_, ?_, fun r hr => (h4 r hr).eq (fun q a b => g3 q (by omega) (by omega)) (g3 27 (by decide) (by decide)) (g3 28 (by decide) (by decide)), h5.eq (g3 24 (by decide) (by decide)) (g3 25 (by decide) (by decide)) (g3 26 (by decide) (by decide)), fun r hr => ?_⟩
  · rw [g3 8 (by decide) (by decide)]; exact h2
  · rw [g3 9 (by decide) (by decide)]; exact h3
  · show FXR F' r (va_up (sp_fx S) k (some g) r)
    by_cases c : r = k
    · rw [c, va_up_self]
      refine ⟨by rw [g2, upd_at, if_pos rfl]; rfl, fun g' hg c2 hc2 => ?_⟩
      cases hg
      rw [g1, if_pos (by omega), show 19 * k + c2 - 19 * k = c2 by omega]
    · rw [va_up_ne _ _ c]
      obtain ⟨b1, b2⟩ := h6 r hr
      refine ⟨by rw [g2, upd_at, if_neg c]; exact b1, fun g' hg c2 hc2 => ?_⟩
      rw [g1, if_neg (by omega)]
      exact b2 g' hg c2 hc2
section MD10
variable {l : Launch} {D : va_G} {dA : Nat → ClassId} {Bs sz : Nat} {h : fv_H} {m0 : Nat} {S : sp_T}
theorem ct_M_view {r s lv wh : Int32} (hM0 : RM dA h m0 S) (hI : sp_I S) : fv_T l (fk D dA) Bs WA m_M_view [.ref m0, .int r, .int s, .int lv, .int wh] sz h 0 0 (fp_r (.int (sp_vwA S r s lv wh)) sz h) := by
  obtain ⟨F, bl, bh, hM, hR⟩ := id hM0
  have hF : fs h h (MS m0) := fs_rf _ _
  have hl4 := hI.2.1.1
  have hel := fe_ends_len hI.2.2.1
  refine fv_of (L := [_, _, _, _, _, _]) (by decide +kernel) rfl (Nat.le_of_ble_eq_true rfl) rfl ?_
  intro X hX C
  subst hX
  have t54 : ∀ b5, b5 = (iv r 0 1 && (sp_vh s lv wh || sp_vl s lv wh)) → fv_V (fk D dA) Bs X 6 (fv_MQ (fk D dA) Bs X (fp_r (.int (sp_vwA S r s lv wh)) sz h) 0 0) 54 [some (.ref m0), some (.int r), some (.int s), some (.int lv), some (.int wh), none] [.int (fv_b b5)] sz h 0 0 := by
    intro b5 e5
    refine fv_istore C d_M_view_54 (n := 56) rfl (by decide) (L' := [_, _, _, _, _, _]) rfl ?_
    refine fv_iload C d_M_view_56 (n := 58) rfl rfl ?_
    refine fv_ifB_ne C d_M_view_58 (tgt := 64) rfl (n := 61) rfl (fun hc58 => ?_) (fun hc58 => ?_)
    · have hgood : (iv r 0 1 && (sp_vh s lv wh || sp_vl s lv wh)) = true := by rw [← e5, hc58]
      have hg2 := hgood
      rw [Bool.and_eq_true] at hg2
      obtain ⟨k, -, hk, rfl⟩ := iv_of (by decide) (by decide) hg2.1
      have hcl : (nI k).toNatClampNeg = k := nI_clamp (by omega)
      have hRI := hI.2.2.2.1 k (by omega)
      have hRV : RV F k (sp_R S k) := hR.2.2.2.1 k (by omega)
      have hj1 := hRI.1.2.1
      have hj2 := hRI.1.2.2.1
      have hj0 := hRI.1.1
      obtain ⟨s2, l2, w2, rfl, rfl, rfl, q1, q2, q3, q4⟩ := sp_vv hg2.2
      have hcs : (nI s2).toNatClampNeg = s2 := nI_clamp (by omega)
      have hcl2 : (nI l2).toNatClampNeg = l2 := nI_clamp (by omega)
      have hcw : (nI w2).toNatClampNeg = w2 := nI_clamp (by omega)
      obtain ⟨f30, f29⟩ := hR.2.2.2.2.2 k (by omega)
      have hans : sp_vwA S (nI k) (nI s2) (nI l2) (nI w2) = (match sp_fx S k with | none => -2000000 | some g => g (s2 * 9 + l2 * 3 + w2)) := by unfold sp_vwA; rw [if_pos hgood, hcl, hcs, hcl2, hcw]; rfl
      generalize sp_fx S k = fx9 at *
      refine fv_aload_n C d_M_view_64 (n := 65) rfl (i := 0) rfl rfl ?_
      refine fv_get C (fl_M_98 D dA) d_M_view_65 (n := 68) rfl hM.1 rfl ?_
      refine fv_iload_n C d_M_view_68 (n := 69) rfl (i := 1) rfl rfl ?_
      refine fv_zaldJ C d_M_view_69 (n := 70) rfl (mc_30 hM) (by omega) (by decide) ?_
      rw [f30]
      refine fv_ifB_ne C d_M_view_70 (tgt := 76) rfl (n := 73) rfl (fun hc70 => ?_) (fun hc70 => ?_)
      · obtain ⟨g, hg⟩ : ∃ g, fx9 = some g := by cases fx9 with | none => exact absurd hc70 (by simp) | some g => exact ⟨g, rfl⟩
        rw [hg] at hans
        have hv := f29 g hg (s2 * 9 + l2 * 3 + w2) q4
        refine fv_iload_n C d_M_view_76 (n := 77) rfl (i := 2) rfl rfl ?_
        refine fv_iconst C d_M_view_77 (n := 78) rfl kI_2 ?_
        refine fv_icmpN_ne C (by omega) (by omega) d_M_view_78 (tgt := 96) rfl (n := 81) rfl (fun hc78 => ?_) (fun hc78 => ?_)
        · refine fv_aload_n C d_M_view_96 (n := 97) rfl (i := 0) rfl rfl ?_
          refine fv_get C (fl_M_95 D dA) d_M_view_97 (n := 100) rfl hM.1 rfl ?_
          refine fv_bipush C d_M_view_100 (n := 102) rfl kB_19 ?_
          refine fv_iload_n C d_M_view_102 (n := 103) rfl (i := 1) rfl rfl ?_
          first | refine fv_imulN C d_M_view_103 (n := 104) rfl ?_ | refine fv_imul C d_M_view_103 (n := 104) rfl ?_
          refine fv_bipush C d_M_view_104 (n := 106) rfl kB_9 ?_
          refine fv_iload_n C d_M_view_106 (n := 107) rfl (i := 2) rfl rfl ?_
          first | refine fv_imulN C d_M_view_107 (n := 108) rfl ?_ | refine fv_imul C d_M_view_107 (n := 108) rfl ?_
          first | refine fv_iaddN C d_M_view_108 (n := 109) rfl ?_ | refine fv_iadd C d_M_view_108 (n := 109) rfl ?_
          refine fv_iconst C d_M_view_109 (n := 110) rfl kI_3 ?_
          refine fv_iload_n C d_M_view_110 (n := 111) rfl (i := 3) rfl rfl ?_
          first | refine fv_imulN C d_M_view_111 (n := 112) rfl ?_ | refine fv_imul C d_M_view_111 (n := 112) rfl ?_
          first | refine fv_iaddN C d_M_view_112 (n := 113) rfl ?_ | refine fv_iadd C d_M_view_112 (n := 113) rfl ?_
          refine fv_iload C d_M_view_113 (n := 115) rfl rfl ?_
          first | refine fv_iaddN C d_M_view_115 (n := 116) rfl ?_ | refine fv_iadd C d_M_view_115 (n := 116) rfl ?_
          refine fv_ialdN C (t0 := 0) rfl d_M_view_116 (n := 117) rfl (mc_29 hM) (by omega) (by decide) ?_
          rw [show F 29 (19 * k + 9 * s2 + 3 * l2 + w2) = g (s2 * 9 + l2 * 3 + w2) by rw [← hv]; congr 1; omega]
          refine fv_iret C rfl d_M_view_117 (Nat.le_refl _) (Nat.le_refl _) ?_
          exact ⟨by rw [hans], rfl, rfl⟩
        · refine fv_aload_n C d_M_view_81 (n := 82) rfl (i := 0) rfl rfl ?_
          refine fv_get C (fl_M_95 D dA) d_M_view_82 (n := 85) rfl hM.1 rfl ?_
          refine fv_bipush C d_M_view_85 (n := 87) rfl kB_19 ?_
          refine fv_iload_n C d_M_view_87 (n := 88) rfl (i := 1) rfl rfl ?_
          first | refine fv_imulN C d_M_view_88 (n := 89) rfl ?_ | refine fv_imul C d_M_view_88 (n := 89) rfl ?_
          refine fv_bipush C d_M_view_89 (n := 91) rfl kB_18 ?_
          first | refine fv_iaddN C d_M_view_91 (n := 92) rfl ?_ | refine fv_iadd C d_M_view_91 (n := 92) rfl ?_
          refine fv_ialdN C (t0 := 0) rfl d_M_view_92 (n := 93) rfl (mc_29 hM) (by omega) (by decide) ?_
          rw [show F 29 (19 * k + 18) = g (s2 * 9 + l2 * 3 + w2) by rw [← hv]; congr 1; omega]
          refine fv_goto C d_M_view_93 (tgt := 117) rfl ?_
          refine fv_iret C rfl d_M_view_117 (Nat.le_refl _) (Nat.le_refl _) ?_
          exact ⟨by rw [hans], rfl, rfl⟩
      · have hn : fx9 = none := by cases fx9 with | none => rfl | some g => exact absurd hc70 (by simp)
        rw [hn] at hans
        refine fv_ldc C d_M_view_73 (n := 75) rfl kc_M_139 ?_
        refine fv_iret C rfl d_M_view_75 (Nat.le_refl _) (Nat.le_refl _) ?_
        exact ⟨by rw [hans], rfl, rfl⟩
    · have hbad : ¬ (iv r 0 1 && (sp_vh s lv wh || sp_vl s lv wh)) = true := by rw [← e5, hc58]; decide
      refine fv_ldc C d_M_view_61 (n := 63) rfl kc_M_213 ?_
      refine fv_iret C rfl d_M_view_63 (Nat.le_refl _) (Nat.le_refl _) ?_
      exact ⟨by unfold sp_vwA; rw [if_neg hbad], rfl, rfl⟩
  refine fv_iload_n C d_M_view_0 (n := 1) rfl (i := 1) rfl rfl ?_
  refine fv_callS_r C (ml_M_192 D dA) sm_M_isReceiver ct_M_isReceiver d_M_view_1 (n := 4) rfl rfl rfl rfl (Nat.le_of_ble_eq_true rfl) (Nat.le_of_ble_eq_true rfl) (Nat.le_of_ble_eq_true rfl) (Nat.le_refl _) (Nat.le_refl _) ?_
  refine fv_ifB_eq C d_M_view_4 (tgt := 53) rfl (n := 7) rfl (fun hc4 => ?_) (fun hc4 => ?_)
  · have e5 : false = (iv r 0 1 && (sp_vh s lv wh || sp_vl s lv wh)) := by simp [hc4]
    refine fv_iconst C d_M_view_53 (n := 54) rfl kI_0 ?_
    exact t54 _ e5
  · refine fv_iload_n C d_M_view_7 (n := 8) rfl (i := 2) rfl rfl ?_
    refine fv_iconst C d_M_view_8 (n := 9) rfl kI_0 ?_
    refine fv_iconst C d_M_view_9 (n := 10) rfl kI_1 ?_
    refine fv_callS_r C (ml_M_101 D dA) sm_M_within ct_M_within d_M_view_10 (n := 13) rfl rfl rfl rfl (Nat.le_of_ble_eq_true rfl) (Nat.le_of_ble_eq_true rfl) (Nat.le_of_ble_eq_true rfl) (Nat.le_refl _) (Nat.le_refl _) ?_
    refine fv_ifB_eq C d_M_view_13 (tgt := 35) rfl (n := 16) rfl (fun hc13 => ?_) (fun hc13 => ?_)
    · have hs9 : iv s 0 1 = false := hc13
      have hvl : sp_vl s lv wh = false := by unfold sp_vl; simp [hs9]
      refine fv_iload_n C d_M_view_35 (n := 36) rfl (i := 2) rfl rfl ?_
      refine fv_iconst C d_M_view_36 (n := 37) rfl kI_2 ?_
      refine fv_icmp_ne C d_M_view_37 (tgt := 53) rfl (n := 40) rfl (fun hc37 => ?_) (fun hc37 => ?_)
      · have hvh : sp_vh s lv wh = false := decide_eq_false (fun q => hc37 q.1)
        have e5 : false = (iv r 0 1 && (sp_vh s lv wh || sp_vl s lv wh)) := by simp [hvh, hvl]
        refine fv_iconst C d_M_view_53 (n := 54) rfl kI_0 ?_
        exact t54 _ e5
      · refine fv_iload_n C d_M_view_40 (n := 41) rfl (i := 3) rfl rfl ?_
        refine fv_if_ne C d_M_view_41 (tgt := 53) rfl (n := 44) rfl (fun hc41 => ?_) (fun hc41 => ?_)
        · have hvh : sp_vh s lv wh = false := decide_eq_false (fun q => hc41 q.2.1)
          have e5 : false = (iv r 0 1 && (sp_vh s lv wh || sp_vl s lv wh)) := by simp [hvh, hvl]
          refine fv_iconst C d_M_view_53 (n := 54) rfl kI_0 ?_
          exact t54 _ e5
        · refine fv_iload C d_M_view_44 (n := 46) rfl rfl ?_
          refine fv_if_ne C d_M_view_46 (tgt := 53) rfl (n := 49) rfl (fun hc46 => ?_) (fun hc46 => ?_)
          · have hvh : sp_vh s lv wh = false := decide_eq_false (fun q => hc46 q.2.2)
            have e5 : false = (iv r 0 1 && (sp_vh s lv wh || sp_vl s lv wh)) := by simp [hvh, hvl]
            refine fv_iconst C d_M_view_53 (n := 54) rfl kI_0 ?_
            exact t54 _ e5
          · have hvh : sp_vh s lv wh = true := decide_eq_true ⟨hc37, hc41, hc46⟩
            have e5 : true = (iv r 0 1 && (sp_vh s lv wh || sp_vl s lv wh)) := by simp [hc4, hvh]
            refine fv_iconst C d_M_view_49 (n := 50) rfl kI_1 ?_
            refine fv_goto C d_M_view_50 (tgt := 54) rfl ?_
            exact t54 _ e5
    · have hs9 : iv s 0 1 = true := hc13
      refine fv_iload_n C d_M_view_16 (n := 17) rfl (i := 3) rfl rfl ?_
      refine fv_iconst C d_M_view_17 (n := 18) rfl kI_0 ?_
      refine fv_iconst C d_M_view_18 (n := 19) rfl kI_2 ?_
      refine fv_callS_r C (ml_M_101 D dA) sm_M_within ct_M_within d_M_view_19 (n := 22) rfl rfl rfl rfl (Nat.le_of_ble_eq_true rfl) (Nat.le_of_ble_eq_true rfl) (Nat.le_of_ble_eq_true rfl) (Nat.le_refl _) (Nat.le_refl _) ?_
      refine fv_ifB_eq C d_M_view_22 (tgt := 35) rfl (n := 25) rfl (fun hc22 => ?_) (fun hc22 => ?_)
      · have hl9 : iv lv 0 2 = false := hc22
        have hvl : sp_vl s lv wh = false := by unfold sp_vl; simp [hl9]
        refine fv_iload_n C d_M_view_35 (n := 36) rfl (i := 2) rfl rfl ?_
        refine fv_iconst C d_M_view_36 (n := 37) rfl kI_2 ?_
        refine fv_icmp_ne C d_M_view_37 (tgt := 53) rfl (n := 40) rfl (fun hc37 => ?_) (fun hc37 => ?_)
        · have hvh : sp_vh s lv wh = false := decide_eq_false (fun q => hc37 q.1)
          have e5 : false = (iv r 0 1 && (sp_vh s lv wh || sp_vl s lv wh)) := by simp [hvh, hvl]
          refine fv_iconst C d_M_view_53 (n := 54) rfl kI_0 ?_
          exact t54 _ e5
        · refine fv_iload_n C d_M_view_40 (n := 41) rfl (i := 3) rfl rfl ?_
          refine fv_if_ne C d_M_view_41 (tgt := 53) rfl (n := 44) rfl (fun hc41 => ?_) (fun hc41 => ?_)
          · have hvh : sp_vh s lv wh = false := decide_eq_false (fun q => hc41 q.2.1)
            have e5 : false = (iv r 0 1 && (sp_vh s lv wh || sp_vl s lv wh)) := by simp [hvh, hvl]
            refine fv_iconst C d_M_view_53 (n := 54) rfl kI_0 ?_
            exact t54 _ e5
          · refine fv_iload C d_M_view_44 (n := 46) rfl rfl ?_
            refine fv_if_ne C d_M_view_46 (tgt := 53) rfl (n := 49) rfl (fun hc46 => ?_) (fun hc46 => ?_)
            · have hvh : sp_vh s lv wh = false := decide_eq_false (fun q => hc46 q.2.2)
              have e5 : false = (iv r 0 1 && (sp_vh s lv wh || sp_vl s lv wh)) := by simp [hvh, hvl]
              refine fv_iconst C d_M_view_53 (n := 54) rfl kI_0 ?_
              exact t54 _ e5
            · have hvh : sp_vh s lv wh = true := decide_eq_true ⟨hc37, hc41, hc46⟩
              have e5 : true = (iv r 0 1 && (sp_vh s lv wh || sp_vl s lv wh)) := by simp [hc4, hvh]
              refine fv_iconst C d_M_view_49 (n := 50) rfl kI_1 ?_
              refine fv_goto C d_M_view_50 (tgt := 54) rfl ?_
              exact t54 _ e5
      · have hl9 : iv lv 0 2 = true := hc22
        refine fv_iload C d_M_view_25 (n := 27) rfl rfl ?_
        refine fv_iconst C d_M_view_27 (n := 28) rfl kI_0 ?_
        refine fv_iconst C d_M_view_28 (n := 29) rfl kI_2 ?_
        refine fv_callS_r C (ml_M_101 D dA) sm_M_within ct_M_within d_M_view_29 (n := 32) rfl rfl rfl rfl (Nat.le_of_ble_eq_true rfl) (Nat.le_of_ble_eq_true rfl) (Nat.le_of_ble_eq_true rfl) (Nat.le_refl _) (Nat.le_refl _) ?_
        refine fv_ifB_ne C d_M_view_32 (tgt := 49) rfl (n := 35) rfl (fun hc32 => ?_) (fun hc32 => ?_)
        · have hw9 : iv wh 0 2 = true := hc32
          have hvl : sp_vl s lv wh = true := by unfold sp_vl; simp [hs9, hl9, hw9]
          have e5 : true = (iv r 0 1 && (sp_vh s lv wh || sp_vl s lv wh)) := by simp [hc4, hvl]
          refine fv_iconst C d_M_view_49 (n := 50) rfl kI_1 ?_
          refine fv_goto C d_M_view_50 (tgt := 54) rfl ?_
          exact t54 _ e5
        · have hw9 : iv wh 0 2 = false := hc32
          have hvl : sp_vl s lv wh = false := by unfold sp_vl; simp [hw9]
          refine fv_iload_n C d_M_view_35 (n := 36) rfl (i := 2) rfl rfl ?_
          refine fv_iconst C d_M_view_36 (n := 37) rfl kI_2 ?_
          refine fv_icmp_ne C d_M_view_37 (tgt := 53) rfl (n := 40) rfl (fun hc37 => ?_) (fun hc37 => ?_)
          · have hvh : sp_vh s lv wh = false := decide_eq_false (fun q => hc37 q.1)
            have e5 : false = (iv r 0 1 && (sp_vh s lv wh || sp_vl s lv wh)) := by simp [hvh, hvl]
            refine fv_iconst C d_M_view_53 (n := 54) rfl kI_0 ?_
            exact t54 _ e5
          · refine fv_iload_n C d_M_view_40 (n := 41) rfl (i := 3) rfl rfl ?_
            refine fv_if_ne C d_M_view_41 (tgt := 53) rfl (n := 44) rfl (fun hc41 => ?_) (fun hc41 => ?_)
            · have hvh : sp_vh s lv wh = false := decide_eq_false (fun q => hc41 q.2.1)
              have e5 : false = (iv r 0 1 && (sp_vh s lv wh || sp_vl s lv wh)) := by simp [hvh, hvl]
              refine fv_iconst C d_M_view_53 (n := 54) rfl kI_0 ?_
              exact t54 _ e5
            · refine fv_iload C d_M_view_44 (n := 46) rfl rfl ?_
              refine fv_if_ne C d_M_view_46 (tgt := 53) rfl (n := 49) rfl (fun hc46 => ?_) (fun hc46 => ?_)
              · have hvh : sp_vh s lv wh = false := decide_eq_false (fun q => hc46 q.2.2)
                have e5 : false = (iv r 0 1 && (sp_vh s lv wh || sp_vl s lv wh)) := by simp [hvh, hvl]
                refine fv_iconst C d_M_view_53 (n := 54) rfl kI_0 ?_
                exact t54 _ e5
              · have hvh : sp_vh s lv wh = true := decide_eq_true ⟨hc37, hc41, hc46⟩
                have e5 : true = (iv r 0 1 && (sp_vh s lv wh || sp_vl s lv wh)) := by simp [hc4, hvh]
                refine fv_iconst C d_M_view_49 (n := 50) rfl kI_1 ?_
                refine fv_goto C d_M_view_50 (tgt := 54) rfl ?_
                exact t54 _ e5
theorem ct_M_read {r : Int32} (hBs : Bs ≤ m0) (hM0 : RM dA h m0 S) (hI : sp_I S) : fv_T l (fk D dA) Bs WA m_M_read [.ref m0, .int r] sz h 0 0 (fp_i sz (fun r0 h' => r0 = sp_rdA S r ∧ RM dA h' m0 (sp_rdS S r) ∧ fs h h' (MS m0))) := by
  obtain ⟨F, bl, bh, hM, hR⟩ := id hM0
  have hF : fs h h (MS m0) := fs_rf _ _
  have hl4 := hI.2.1.1
  have hel := fe_ends_len hI.2.2.1
  refine fv_of (L := [_, _, _, _]) (by decide +kernel) rfl (Nat.le_of_ble_eq_true rfl) rfl ?_
  intro X hX C
  subst hX
  refine fv_iload_n C d_M_read_0 (n := 1) rfl (i := 1) rfl rfl ?_
  refine fv_callS_r C (ml_M_192 D dA) sm_M_isReceiver ct_M_isReceiver d_M_read_1 (n := 4) rfl rfl rfl rfl (Nat.le_of_ble_eq_true rfl) (Nat.le_of_ble_eq_true rfl) (Nat.le_of_ble_eq_true rfl) (Nat.le_refl _) (Nat.le_refl _) ?_
  refine fv_ifB_ne C d_M_read_4 (tgt := 10) rfl (n := 7) rfl (fun hc4 => ?_) (fun hc4 => ?_)
  · have hgood := hc4
    obtain ⟨k, -, hk, rfl⟩ := iv_of (by decide) (by decide) hc4
    have hcl : (nI k).toNatClampNeg = k := nI_clamp (by omega)
    have hRI := hI.2.2.2.1 k (by omega)
    have hRV : RV F k (sp_R S k) := hR.2.2.2.1 k (by omega)
    have hj1 := hRI.1.2.1
    have hj2 := hRI.1.2.2.1
    have hj0 := hRI.1.1
    cases hrow : rc_rw (sp_R S k) with
    | nil =>
      refine fv_aload_n C d_M_read_10 (n := 11) rfl (i := 0) rfl rfl ?_
      refine fv_get C (fl_M_92 D dA) d_M_read_11 (n := 14) rfl hM.1 rfl ?_
      refine fv_iload_n C d_M_read_14 (n := 15) rfl (i := 1) rfl rfl ?_
      refine fv_ialdN C (t0 := 0) rfl d_M_read_15 (n := 16) rfl (mc_28 hM) (by omega) (by decide) ?_
      rw [show F 28 k = nI 0 by rw [hRV.2.2.2.2.2.2, hrow]; rfl]
      refine fv_ifN_ne C (by omega) d_M_read_16 (tgt := 21) rfl (n := 19) rfl (fun hc16 => ?_) (fun hc16 => ?_)
      · exact absurd rfl hc16
      · refine fv_iconst C d_M_read_19 (n := 20) rfl kI_m1 ?_
        refine fv_iret C rfl d_M_read_20 (Nat.le_refl _) (Nat.le_refl _) ?_
        exact ⟨_, rfl, rfl, by unfold sp_rdA; rw [if_pos hgood, hcl, hrow], by unfold sp_rdS; rw [if_pos hgood, hcl, hrow]; exact hM0, fs_rf _ _⟩
    | cons i t =>
      have hrl : (rc_rw (sp_R S k)).length = t.length + 1 := by rw [hrow]; rfl
      have hr4 := rw_len hRI.1
      have h28 : F 28 k = nI (t.length + 1) := by rw [hRV.2.2.2.2.2.2, hrl]
      have h27 : F 27 (4 * k) = nI i := by have := hRV.2.2.2.2.2.1 0 i (by rw [hrow]; rfl); exact this
      have hi4 : i < 4 := (hRI.1.2.2.2.2.1 0 (by omega)).2.2.2.2.2 i (by show i ∈ rc_rw (sp_R S k); rw [hrow]; exact List.mem_cons_self)
      have hap : rc_ap (sp_R S k) i ≤ 400 := Nat.le_trans (hRI.1.2.2.2.2.1 i hi4).1 (Nat.le_trans (fe_li_len _ _) hl4)
      have loop2 : ∀ m j (h1 : fv_H) (F2 F3 : Nat → Nat → Int32), j + m = 19 → MC dA h1 m0 S.1.length S.2.1.length (fe_bk S.1 i (rc_ap (sp_R S k) i)).1.length (fe_bk S.1 i (rc_ap (sp_R S k) i)).2 (sp_sh S).length F3 → MR F2 (sp_setR S k (rc_rr (sp_R S k) t)) → (∀ c, c < 19 → F2 15 c = fe_vw (fe_bk S.1 i (rc_ap (sp_R S k) i)) c) → (∀ q, q ≠ 29 → F3 q = F2 q) → (∀ q, F3 29 q = if 19 * k ≤ q ∧ q < 19 * k + j then fe_vw (fe_bk S.1 i (rc_ap (sp_R S k) i)) (q - 19 * k) else F2 29 q) → fs h h1 (MS m0) → fv_V (fk D dA) Bs X 4 (fv_MQ (fk D dA) Bs X (fp_i sz (fun r0 h' => r0 = sp_rdA S (nI k) ∧ RM dA h' m0 (sp_rdS S (nI k)) ∧ fs h h' (MS m0))) 0 0) 105 [some (.ref m0), some (.int (nI k)), some (.int (nI i)), some (.int (nI j))] [] sz h1 0 0 := by
        intro m
        induction m with
        | zero =>
          intro j h1 F2 F3 hj hM hR2 h15 hq h29 hF
          have hj19 : j = 19 := by omega
          subst hj19
          refine fv_iload_n C d_M_read_105 (n := 106) rfl (i := 3) rfl rfl ?_
          refine fv_bipush C d_M_read_106 (n := 108) rfl kB_19 ?_
          refine fv_icmpN_ge C (by omega) (by omega) d_M_read_108 (tgt := 134) rfl (n := 111) rfl (fun hc108 => ?_) (fun hc108 => ?_)
          · refine fv_aload_n C d_M_read_134 (n := 135) rfl (i := 0) rfl rfl ?_
            refine fv_get C (fl_M_98 D dA) d_M_read_135 (n := 138) rfl hM.1 rfl ?_
            refine fv_iload_n C d_M_read_138 (n := 139) rfl (i := 1) rfl rfl ?_
            refine fv_iconst C d_M_read_139 (n := 140) rfl kI_1 ?_
            refine mc_za C 30 true rfl (by decide) (by decide) rfl d_M_read_140 (n := 141) rfl hM hBs (by decide) (show _ < 2 by omega) (fun h1 F4 hM g1 g2 f1 => ?_)
            have hF := hF.tr f1 (U := MS m0) (fun x hx => hx) (fun x hx => hx)
            refine fv_iload_n C d_M_read_141 (n := 142) rfl (i := 2) rfl rfl ?_
            refine fv_iret C rfl d_M_read_142 (Nat.le_refl _) (Nat.le_refl _) ?_
            refine ⟨_, rfl, rfl, by unfold sp_rdA; rw [if_pos hgood, hcl, hrow], ?_, hF⟩
            unfold sp_rdS
            rw [if_pos hgood, hcl, hrow]
            refine ⟨F4, _, _, hM, hR2.fix (k := k) (g := fe_vw (fe_bk S.1 i (rc_ap (sp_R S k) i))) (fun q a b => by rw [g2 q b, hq q a]) (fun q => by rw [g2 29 (by decide)]; exact h29 q) (by rw [g1, hq 30 (by decide)])⟩
          · exact absurd hc108 (by omega)
        | succ m ih =>
          intro j h1 F2 F3 hj hM hR2 h15 hq h29 hF
          have hv : F3 15 j = fe_vw (fe_bk S.1 i (rc_ap (sp_R S k) i)) j := by rw [hq 15 (by decide)]; exact h15 j (by omega)
          refine fv_iload_n C d_M_read_105 (n := 106) rfl (i := 3) rfl rfl ?_
          refine fv_bipush C d_M_read_106 (n := 108) rfl kB_19 ?_
          refine fv_icmpN_ge C (by omega) (by omega) d_M_read_108 (tgt := 134) rfl (n := 111) rfl (fun hc108 => ?_) (fun hc108 => ?_)
          · exact absurd hc108 (by omega)
          · refine fv_aload_n C d_M_read_111 (n := 112) rfl (i := 0) rfl rfl ?_
            refine fv_get C (fl_M_95 D dA) d_M_read_112 (n := 115) rfl hM.1 rfl ?_
            refine fv_bipush C d_M_read_115 (n := 117) rfl kB_19 ?_
            refine fv_iload_n C d_M_read_117 (n := 118) rfl (i := 1) rfl rfl ?_
            first | refine fv_imulN C d_M_read_118 (n := 119) rfl ?_ | refine fv_imul C d_M_read_118 (n := 119) rfl ?_
            refine fv_iload_n C d_M_read_119 (n := 120) rfl (i := 3) rfl rfl ?_
            first | refine fv_iaddN C d_M_read_120 (n := 121) rfl ?_ | refine fv_iadd C d_M_read_120 (n := 121) rfl ?_
            refine fv_aload_n C d_M_read_121 (n := 122) rfl (i := 0) rfl rfl ?_
            refine fv_get C (fl_M_52 D dA) d_M_read_122 (n := 125) rfl hM.1 rfl ?_
            refine fv_iload_n C d_M_read_125 (n := 126) rfl (i := 3) rfl rfl ?_
            refine fv_ialdN C (t0 := 0) rfl d_M_read_126 (n := 127) rfl (mc_15 hM) (by omega) (by decide) ?_
            rw [hv]
            refine mc_ia C 29 (by decide) (by decide) rfl d_M_read_127 (n := 128) rfl hM hBs (by decide) (show _ < 38 by omega) (fun h1 F4 hM g1 g2 f1 => ?_)
            have hF := hF.tr f1 (U := MS m0) (fun x hx => hx) (fun x hx => hx)
            refine fv_iincN C d_M_read_128 (n := 131) rfl rfl (by decide) (L' := [_, _, _, _]) rfl ?_
            refine fv_goto C d_M_read_131 (tgt := 105) rfl ?_
            refine ih (j + 1) _ F2 F4 (by omega) hM hR2 h15 (fun q a => by rw [g2 q a, hq q a]) (fun q => ?_) hF
            rw [g1, upd_at]
            by_cases c : q = 19 * k + j
            · rw [if_pos c, if_pos (by omega), c, show 19 * k + j - 19 * k = j by omega]
            · rw [if_neg c, h29]
              by_cases c2 : 19 * k ≤ q ∧ q < 19 * k + j
              · rw [if_pos c2, if_pos (by omega)]
              · rw [if_neg c2, if_neg (by omega)]
      have loop : ∀ m j (h1 : fv_H) (F1 : Nat → Nat → Int32), j + m = t.length → MC dA h1 m0 S.1.length S.2.1.length bl bh (sp_sh S).length F1 → (∀ q, F1 27 q = if 4 * k ≤ q ∧ q < 4 * k + j then F 27 (q + 1) else F 27 q) → F1 28 = upd (F 28) k (nI t.length) → (∀ q, q ≠ 27 → q ≠ 28 → F1 q = F q) → fs h h1 (MS m0) → fv_V (fk D dA) Bs X 4 (fv_MQ (fk D dA) Bs X (fp_i sz (fun r0 h' => r0 = sp_rdA S (nI k) ∧ RM dA h' m0 (sp_rdS S (nI k)) ∧ fs h h' (MS m0))) 0 0) 42 [some (.ref m0), some (.int (nI k)), some (.int (nI i)), some (.int (nI j))] [] sz h1 0 0 := by
        intro m
        induction m with
        | zero =>
          intro j h1 F1 hj hM h27b h28b hq hF
          have hjt : j = t.length := by omega
          subst hjt
          have h28c : F1 28 k = nI t.length := by rw [h28b, upd_at, if_pos rfl]
          have hR1 : MR F1 (sp_setR S k (rc_rr (sp_R S k) t)) := mr_rcv (by omega) hI (by rw [sp_setR_id]; exact hR) (fun q a => hq q (by omega) (by omega)) (ot_rd (by omega) h27b h28b hq) (fun hv => rv_rd hv hrow h27b h28b hq)
          have h16 : F1 16 (4 * k + i) = nI (rc_ap (sp_R S k) i) := by rw [hq 16 (by decide) (by decide)]; exact (hRV.1 i hi4).1
          refine fv_iload_n C d_M_read_42 (n := 43) rfl (i := 3) rfl rfl ?_
          refine fv_aload_n C d_M_read_43 (n := 44) rfl (i := 0) rfl rfl ?_
          refine fv_get C (fl_M_92 D dA) d_M_read_44 (n := 47) rfl hM.1 rfl ?_
          refine fv_iload_n C d_M_read_47 (n := 48) rfl (i := 1) rfl rfl ?_
          refine fv_ialdN C (t0 := 0) rfl d_M_read_48 (n := 49) rfl (mc_28 hM) (by omega) (by decide) ?_
          rw [h28c]
          refine fv_icmpN_ge C (by omega) (by omega) d_M_read_49 (tgt := 80) rfl (n := 52) rfl (fun hc49 => ?_) (fun hc49 => ?_)
          · refine fv_aload_n C d_M_read_80 (n := 81) rfl (i := 0) rfl rfl ?_
            refine fv_iload_n C d_M_read_81 (n := 82) rfl (i := 2) rfl rfl ?_
            refine fv_aload_n C d_M_read_82 (n := 83) rfl (i := 0) rfl rfl ?_
            refine fv_get C (fl_M_55 D dA) d_M_read_83 (n := 86) rfl hM.1 rfl ?_
            refine fv_iconst C d_M_read_86 (n := 87) rfl kI_4 ?_
            refine fv_iload_n C d_M_read_87 (n := 88) rfl (i := 1) rfl rfl ?_
            first | refine fv_imulN C d_M_read_88 (n := 89) rfl ?_ | refine fv_imul C d_M_read_88 (n := 89) rfl ?_
            refine fv_iload_n C d_M_read_89 (n := 90) rfl (i := 2) rfl rfl ?_
            first | refine fv_iaddN C d_M_read_90 (n := 91) rfl ?_ | refine fv_iadd C d_M_read_90 (n := 91) rfl ?_
            refine fv_ialdN C (t0 := 0) rfl d_M_read_91 (n := 92) rfl (mc_16 hM) (by omega) (by decide) ?_
            rw [h16]
            refine fv_callV_v C (ml_M_144 D dA) im_M_goOver se_M_goOver hM.1 rfl (ct_M_goOver hBs hM hR1.1 hI.1 hI.2.1 hi4 hap) d_M_read_92 (n := 95) rfl rfl rfl rfl (Nat.le_of_ble_eq_true rfl) (Nat.le_of_ble_eq_true rfl) (Nat.le_of_ble_eq_true rfl) (Nat.le_refl _) (Nat.le_refl _) (fun h1 hp => ?_)
            obtain ⟨⟨Fa, hM, hA, hK1⟩, f1⟩ := hp
            have hF := hF.tr f1 (U := MS m0) (fun x hx => hx) (fun x hx => hx)
            have hw1 : bo_wf (fe_bk S.1 i (rc_ap (sp_R S k) i)).1 := by have := go_wf hI.1 i (rc_ap (sp_R S k) i) S.1.length; rw [List.take_length] at this; exact this
            refine fv_aload_n C d_M_read_95 (n := 96) rfl (i := 0) rfl rfl ?_
            refine fv_aload_n C d_M_read_96 (n := 97) rfl (i := 0) rfl rfl ?_
            refine fv_get C (fl_M_52 D dA) d_M_read_97 (n := 100) rfl hM.1 rfl ?_
            refine fv_callV_v C (ml_M_169 D dA) im_M_look se_M_look hM.1 rfl (ct_M_look (kk := 15) hBs hM hw1.2.2.2 hA hw1.2.1 (Or.inr rfl)) d_M_read_100 (n := 103) rfl rfl rfl rfl (Nat.le_of_ble_eq_true rfl) (Nat.le_of_ble_eq_true rfl) (Nat.le_of_ble_eq_true rfl) (Nat.le_refl _) (Nat.le_refl _) (fun h1 hp => ?_)
            obtain ⟨⟨Fb, hM, hv15, hK2⟩, f1⟩ := hp
            have hF := hF.tr f1 (U := MS m0) (fun x hx => hx) (fun x hx => hx)
            have hRb := hR1.ke (F' := Fb) (fun q hq => (hK2 q (by omega)).trans (hK1 q (by omega)))
            refine fv_iconst C d_M_read_103 (n := 104) rfl kI_0 ?_
            refine fv_istore_n C d_M_read_104 (n := 105) rfl (i := 3) rfl (by decide) (L' := [_, _, _, _]) rfl ?_
            exact loop2 19 0 _ Fb Fb (by omega) hM hRb hv15 (fun _ _ => rfl) (fun q => by rw [if_neg (by omega)]) hF
          · exact absurd hc49 (by omega)
        | succ m ih =>
          intro j h1 F1 hj hM h27b h28b hq hF
          have h28c : F1 28 k = nI t.length := by rw [h28b, upd_at, if_pos rfl]
          refine fv_iload_n C d_M_read_42 (n := 43) rfl (i := 3) rfl rfl ?_
          refine fv_aload_n C d_M_read_43 (n := 44) rfl (i := 0) rfl rfl ?_
          refine fv_get C (fl_M_92 D dA) d_M_read_44 (n := 47) rfl hM.1 rfl ?_
          refine fv_iload_n C d_M_read_47 (n := 48) rfl (i := 1) rfl rfl ?_
          refine fv_ialdN C (t0 := 0) rfl d_M_read_48 (n := 49) rfl (mc_28 hM) (by omega) (by decide) ?_
          rw [h28c]
          refine fv_icmpN_ge C (by omega) (by omega) d_M_read_49 (tgt := 80) rfl (n := 52) rfl (fun hc49 => ?_) (fun hc49 => ?_)
          · exact absurd hc49 (by omega)
          · refine fv_aload_n C d_M_read_52 (n := 53) rfl (i := 0) rfl rfl ?_
            refine fv_get C (fl_M_89 D dA) d_M_read_53 (n := 56) rfl hM.1 rfl ?_
            refine fv_iconst C d_M_read_56 (n := 57) rfl kI_4 ?_
            refine fv_iload_n C d_M_read_57 (n := 58) rfl (i := 1) rfl rfl ?_
            first | refine fv_imulN C d_M_read_58 (n := 59) rfl ?_ | refine fv_imul C d_M_read_58 (n := 59) rfl ?_
            refine fv_iload_n C d_M_read_59 (n := 60) rfl (i := 3) rfl rfl ?_
            first | refine fv_iaddN C d_M_read_60 (n := 61) rfl ?_ | refine fv_iadd C d_M_read_60 (n := 61) rfl ?_
            refine fv_aload_n C d_M_read_61 (n := 62) rfl (i := 0) rfl rfl ?_
            refine fv_get C (fl_M_89 D dA) d_M_read_62 (n := 65) rfl hM.1 rfl ?_
            refine fv_iconst C d_M_read_65 (n := 66) rfl kI_4 ?_
            refine fv_iload_n C d_M_read_66 (n := 67) rfl (i := 1) rfl rfl ?_
            first | refine fv_imulN C d_M_read_67 (n := 68) rfl ?_ | refine fv_imul C d_M_read_67 (n := 68) rfl ?_
            refine fv_iload_n C d_M_read_68 (n := 69) rfl (i := 3) rfl rfl ?_
            first | refine fv_iaddN C d_M_read_69 (n := 70) rfl ?_ | refine fv_iadd C d_M_read_69 (n := 70) rfl ?_
            refine fv_iconst C d_M_read_70 (n := 71) rfl kI_1 ?_
            first | refine fv_iaddN C d_M_read_71 (n := 72) rfl ?_ | refine fv_iadd C d_M_read_71 (n := 72) rfl ?_
            refine fv_ialdN C (t0 := 0) rfl d_M_read_72 (n := 73) rfl (mc_27 hM) (by omega) (by decide) ?_
            refine mc_ia C 27 (by decide) (by decide) rfl d_M_read_73 (n := 74) rfl hM hBs (by decide) (show _ < 8 by omega) (fun h1 F4 hM g1 g2 f1 => ?_)
            have hF := hF.tr f1 (U := MS m0) (fun x hx => hx) (fun x hx => hx)
            refine fv_iincN C d_M_read_74 (n := 77) rfl rfl (by decide) (L' := [_, _, _, _]) rfl ?_
            refine fv_goto C d_M_read_77 (tgt := 42) rfl ?_
            refine ih (j + 1) _ F4 (by omega) hM (fun q => ?_) (by rw [g2 28 (by decide)]; exact h28b) (fun q a b => by rw [g2 q a]; exact hq q a b) hF
            rw [g1, upd_at]
            by_cases c : q = 4 * k + j
            · rw [if_pos c, if_pos (by omega), h27b, if_neg (by omega), c]
            · rw [if_neg c, h27b]
              by_cases c2 : 4 * k ≤ q ∧ q < 4 * k + j
              · rw [if_pos c2, if_pos (by omega)]
              · rw [if_neg c2, if_neg (by omega)]
      refine fv_aload_n C d_M_read_10 (n := 11) rfl (i := 0) rfl rfl ?_
      refine fv_get C (fl_M_92 D dA) d_M_read_11 (n := 14) rfl hM.1 rfl ?_
      refine fv_iload_n C d_M_read_14 (n := 15) rfl (i := 1) rfl rfl ?_
      refine fv_ialdN C (t0 := 0) rfl d_M_read_15 (n := 16) rfl (mc_28 hM) (by omega) (by decide) ?_
      rw [h28]
      refine fv_ifN_ne C (by omega) d_M_read_16 (tgt := 21) rfl (n := 19) rfl (fun hc16 => ?_) (fun hc16 => ?_)
      · refine fv_aload_n C d_M_read_21 (n := 22) rfl (i := 0) rfl rfl ?_
        refine fv_get C (fl_M_89 D dA) d_M_read_22 (n := 25) rfl hM.1 rfl ?_
        refine fv_iconst C d_M_read_25 (n := 26) rfl kI_4 ?_
        refine fv_iload_n C d_M_read_26 (n := 27) rfl (i := 1) rfl rfl ?_
        first | refine fv_imulN C d_M_read_27 (n := 28) rfl ?_ | refine fv_imul C d_M_read_27 (n := 28) rfl ?_
        refine fv_ialdN C (t0 := 0) rfl d_M_read_28 (n := 29) rfl (mc_27 hM) (by omega) (by decide) ?_
        rw [h27]
        refine fv_istore_n C d_M_read_29 (n := 30) rfl (i := 2) rfl (by decide) (L' := [_, _, _, _]) rfl ?_
        refine fv_aload_n C d_M_read_30 (n := 31) rfl (i := 0) rfl rfl ?_
        refine fv_get C (fl_M_92 D dA) d_M_read_31 (n := 34) rfl hM.1 rfl ?_
        refine fv_iload_n C d_M_read_34 (n := 35) rfl (i := 1) rfl rfl ?_
        refine fv_dup2 C d_M_read_35 (n := 36) rfl rfl rfl ?_
        refine fv_ialdN C (t0 := 0) rfl d_M_read_36 (n := 37) rfl (mc_28 hM) (by omega) (by decide) ?_
        rw [h28]
        refine fv_iconst C d_M_read_37 (n := 38) rfl kI_1 ?_
        refine fv_isubN C (by omega) d_M_read_38 (n := 39) rfl ?_
        refine mc_ia C 28 (by decide) (by decide) rfl d_M_read_39 (n := 40) rfl hM hBs (by decide) (show _ < 2 by omega) (fun h1 F1 hM g1 g2 f1 => ?_)
        have hF := hF.tr f1 (U := MS m0) (fun x hx => hx) (fun x hx => hx)
        refine fv_iconst C d_M_read_40 (n := 41) rfl kI_0 ?_
        refine fv_istore_n C d_M_read_41 (n := 42) rfl (i := 3) rfl (by decide) (L' := [_, _, _, _]) rfl ?_
        exact loop t.length 0 _ F1 (by omega) hM (fun q => by rw [g2 27 (by decide), if_neg (by omega)]) (by rw [g1, Nat.add_sub_cancel]) (fun q _ b => g2 q b) hF
      · exact absurd hc16 (by omega)
  · have hbad : ¬ iv r 0 1 = true := by rw [hc4]; decide
    refine fv_bipush C d_M_read_7 (n := 9) rfl kB_m2 ?_
    refine fv_iret C rfl d_M_read_9 (Nat.le_refl _) (Nat.le_refl _) ?_
    exact ⟨_, rfl, rfl, by unfold sp_rdA; rw [if_neg hbad], by unfold sp_rdS; rw [if_neg hbad]; exact hM0, fs_rf _ _⟩
end MD10
