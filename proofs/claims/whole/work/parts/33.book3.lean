/-! Book: refresh -/
section BK3
variable {l : Launch} {D : va_G} {dA : Nat → ClassId} {Bs sz : Nat} {h : fv_H} {a : Nat} {b : bo_B} {nn : Nat}
def rf_ch (f : Nat → Int32) (b : bo_B) (k : Nat) : Bool := (List.range k).any (fun i => decide (f i ≠ fe_vw b i))
theorem rf_ch_succ (f : Nat → Int32) (b : bo_B) (k : Nat) : rf_ch f b (k + 1) = (rf_ch f b k || decide (f k ≠ fe_vw b k)) := by
  unfold rf_ch
  rw [List.range_succ, List.any_append]
  simp
theorem rf_upd (f : Nat → Int32) (b : bo_B) (k : Nat) : upd (fun j => if j < k then fe_vw b j else f j) k (fe_vw b k) = fun j => if j < k + 1 then fe_vw b j else f j := by
  funext j
  unfold upd
  by_cases h1 : j = k
  · subst h1
    simp
  · by_cases h2 : j < k
    · simp [h1, h2, Nat.lt_succ_of_lt h2]
    · have h3 : ¬ j < k + 1 := by omega
      simp [h1, h2, h3]
theorem ct_B_refresh {c : Nat} {f : Nat → Int32} (hc : h c = some (.inl (dA 0, 19, .inl f))) (hcd : c < a ∨ a + 4 ≤ c) (hBs : Bs ≤ c) (hL : BL dA h a b nn) : fv_T l (fk D dA) Bs WA m_B_refresh [.ref a, .ref c] sz h 0 0 (fp_i sz (fun r h' => r = fv_b (tr_dif f (fe_vw b)) ∧ h' c = some (.inl (dA 0, 19, .inl (fun j => if j < 19 then fe_vw b j else f j))) ∧ fr h h' c 1)) := by
  refine fv_of (L := [_, _, _, _, _]) (by decide +kernel) rfl (Nat.le_of_ble_eq_true rfl) rfl ?_
  intro X hX C
  subst hX
  have loop : ∀ (m k : Nat) (h1 : fv_H), k + m = 19 → h1 c = some (.inl (dA 0, 19, .inl (fun j => if j < k then fe_vw b j else f j))) → fr h h1 c 1 → fv_V (fk D dA) Bs X 5 (fv_MQ (fk D dA) Bs X (fp_i sz (fun r h' => r = fv_b (tr_dif f (fe_vw b)) ∧ h' c = some (.inl (dA 0, 19, .inl (fun j => if j < 19 then fe_vw b j else f j))) ∧ fr h h' c 1)) 0 0) 4 [some (.ref a), some (.ref c), some (.int (fv_b (rf_ch f b k))), some (.int (nI k)), none] [] sz h1 0 0 := by
    intro m
    induction m with
    | zero =>
      intro k h1 hk hc1 hf1
      have hk : k = 19 := by omega
      subst hk
      refine fv_iload_n C d_B_refresh_4 (n := 5) rfl (i := 3) rfl rfl ?_
      refine fv_bipush C d_B_refresh_5 (n := 7) rfl kB_19 ?_
      refine fv_icmpN_ge C (by omega) (by omega) d_B_refresh_7 (tgt := 77) rfl (n := 10) rfl (fun hc7 => ?_) (fun hc7 => ?_)
      · refine fv_iload_n C d_B_refresh_77 (n := 78) rfl (i := 2) rfl rfl ?_
        refine fv_zret C rfl d_B_refresh_78 (fv_b_nar _) (Nat.le_refl _) (Nat.le_refl _) ?_
        exact ⟨_, rfl, rfl, rfl, hc1, hf1⟩
      · exact absurd hc7 (by omega)
    | succ m ih =>
      intro k h1 hk hc1 hf1
      have hL1 := hL.fr hf1 (by omega)
      have hL2 := hL1
      obtain ⟨ids, pri, siz, hB, hA, hw⟩ := hL2
      have hs := rf_ch_succ f b k
      refine fv_iload_n C d_B_refresh_4 (n := 5) rfl (i := 3) rfl rfl ?_
      refine fv_bipush C d_B_refresh_5 (n := 7) rfl kB_19 ?_
      refine fv_icmpN_ge C (by omega) (by omega) d_B_refresh_7 (tgt := 77) rfl (n := 10) rfl (fun hc7 => ?_) (fun hc7 => ?_)
      · exact absurd hc7 (by omega)
      · refine fv_iload_n C d_B_refresh_10 (n := 11) rfl (i := 3) rfl rfl ?_
        refine fv_aload_n C d_B_refresh_11 (n := 12) rfl (i := 1) rfl rfl ?_
        refine fv_alen C (t0 := 0) rfl d_B_refresh_12 (n := 13) rfl hc1 (show _ = nI 19 from rfl) ?_
        refine fv_icmpN_ge C (by omega) (by omega) d_B_refresh_13 (tgt := 77) rfl (n := 16) rfl (fun hc13 => ?_) (fun hc13 => ?_)
        · exact absurd hc13 (by omega)
        · refine fv_iload_n C d_B_refresh_16 (n := 17) rfl (i := 3) rfl rfl ?_
          refine fv_bipush C d_B_refresh_17 (n := 19) rfl kB_18 ?_
          refine fv_icmpN_ne C (by omega) (by omega) d_B_refresh_19 (tgt := 29) rfl (n := 22) rfl (fun hc19 => ?_) (fun hc19 => ?_)
          · have hvv : bo_lv (bo_srt (k / 9) b.1) (k % 9 / 3) (k % 3) = fe_vw b k := by unfold fe_vw; rw [if_pos (by omega)]
            refine fv_aload_n C d_B_refresh_29 (n := 30) rfl (i := 0) rfl rfl ?_
            refine fv_iload_n C d_B_refresh_30 (n := 31) rfl (i := 3) rfl rfl ?_
            refine fv_bipush C d_B_refresh_31 (n := 33) rfl kB_9 ?_
            refine fv_idivN C (by omega) (by omega) (by omega) d_B_refresh_33 (n := 34) rfl ?_
            refine fv_iload_n C d_B_refresh_34 (n := 35) rfl (i := 3) rfl rfl ?_
            refine fv_bipush C d_B_refresh_35 (n := 37) rfl kB_9 ?_
            refine fv_iremN C (by omega) (by omega) (by omega) d_B_refresh_37 (n := 38) rfl ?_
            refine fv_iconst C d_B_refresh_38 (n := 39) rfl kI_3 ?_
            refine fv_idivN C (by omega) (by omega) (by omega) d_B_refresh_39 (n := 40) rfl ?_
            refine fv_iload_n C d_B_refresh_40 (n := 41) rfl (i := 3) rfl rfl ?_
            refine fv_iconst C d_B_refresh_41 (n := 42) rfl kI_3 ?_
            refine fv_iremN C (by omega) (by omega) (by omega) d_B_refresh_42 (n := 43) rfl ?_
            refine fv_callV_r C (ml_B_85 D dA) im_B_levelValue se_B_levelValue hB.1 rfl (ct_B_levelValue (by omega) (by omega) (by omega) hL1) d_B_refresh_43 (n := 46) rfl rfl rfl rfl (Nat.le_of_ble_eq_true rfl) (Nat.le_of_ble_eq_true rfl) (Nat.le_of_ble_eq_true rfl) (Nat.le_refl _) (Nat.le_refl _) ?_
            rw [hvv]
            refine fv_istore C d_B_refresh_46 (n := 48) rfl (by decide) (L' := [_, _, _, _, _]) rfl ?_
            refine fv_iload_n C d_B_refresh_48 (n := 49) rfl (i := 2) rfl rfl ?_
            refine fv_ifB_ne C d_B_refresh_49 (tgt := 60) rfl (n := 52) rfl (fun hc49 => ?_) (fun hc49 => ?_)
            · have hcv : nI 1 = fv_b (rf_ch f b (k + 1)) := by rw [hs, hc49]; rfl
              refine fv_iconst C d_B_refresh_60 (n := 61) rfl kI_1 ?_
              refine fv_goto C d_B_refresh_61 (tgt := 65) rfl ?_
              rw [hcv]
              refine fv_istore_n C d_B_refresh_65 (n := 66) rfl (i := 2) rfl (by decide) (L' := [_, _, _, _, _]) rfl ?_
              refine fv_aload_n C d_B_refresh_66 (n := 67) rfl (i := 1) rfl rfl ?_
              refine fv_iload_n C d_B_refresh_67 (n := 68) rfl (i := 3) rfl rfl ?_
              refine fv_iload C d_B_refresh_68 (n := 70) rfl rfl ?_
              refine fv_iastN C (t0 := 0) rfl d_B_refresh_70 (n := 71) rfl hc1 hBs (by omega) (by decide) ?_
              rw [rf_upd]
              refine fv_iincN C d_B_refresh_71 (n := 74) rfl rfl (by decide) (L' := [_, _, _, _, _]) rfl ?_
              refine fv_goto C d_B_refresh_74 (tgt := 4) rfl ?_
              refine fv_drop 4 (L' := [_, _, _, _, _]) rfl ?_
              exact ih (k + 1) _ (by omega) (va_up_self _ _ _) (hf1.tr (fr_up (by omega) (by omega)))
            · refine fv_aload_n C d_B_refresh_52 (n := 53) rfl (i := 1) rfl rfl ?_
              refine fv_iload_n C d_B_refresh_53 (n := 54) rfl (i := 3) rfl rfl ?_
              refine fv_ialdN C (t0 := 0) rfl d_B_refresh_54 (n := 55) rfl hc1 (by omega) (by decide) ?_
              refine fv_iload C d_B_refresh_55 (n := 57) rfl rfl ?_
              refine fv_icmp_eq C d_B_refresh_57 (tgt := 64) rfl (n := 60) rfl (fun hc57 => ?_) (fun hc57 => ?_)
              · simp only [Nat.lt_irrefl, if_false] at hc57
                have hcv : nI 0 = fv_b (rf_ch f b (k + 1)) := by rw [hs, hc49, hc57]; simp; rfl
                refine fv_iconst C d_B_refresh_64 (n := 65) rfl kI_0 ?_
                rw [hcv]
                refine fv_istore_n C d_B_refresh_65 (n := 66) rfl (i := 2) rfl (by decide) (L' := [_, _, _, _, _]) rfl ?_
                refine fv_aload_n C d_B_refresh_66 (n := 67) rfl (i := 1) rfl rfl ?_
                refine fv_iload_n C d_B_refresh_67 (n := 68) rfl (i := 3) rfl rfl ?_
                refine fv_iload C d_B_refresh_68 (n := 70) rfl rfl ?_
                refine fv_iastN C (t0 := 0) rfl d_B_refresh_70 (n := 71) rfl hc1 hBs (by omega) (by decide) ?_
                rw [rf_upd]
                refine fv_iincN C d_B_refresh_71 (n := 74) rfl rfl (by decide) (L' := [_, _, _, _, _]) rfl ?_
                refine fv_goto C d_B_refresh_74 (tgt := 4) rfl ?_
                refine fv_drop 4 (L' := [_, _, _, _, _]) rfl ?_
                exact ih (k + 1) _ (by omega) (va_up_self _ _ _) (hf1.tr (fr_up (by omega) (by omega)))
              · simp only [Nat.lt_irrefl, if_false] at hc57
                have hcv : nI 1 = fv_b (rf_ch f b (k + 1)) := by rw [hs, hc49]; simp [hc57]; rfl
                refine fv_iconst C d_B_refresh_60 (n := 61) rfl kI_1 ?_
                refine fv_goto C d_B_refresh_61 (tgt := 65) rfl ?_
                rw [hcv]
                refine fv_istore_n C d_B_refresh_65 (n := 66) rfl (i := 2) rfl (by decide) (L' := [_, _, _, _, _]) rfl ?_
                refine fv_aload_n C d_B_refresh_66 (n := 67) rfl (i := 1) rfl rfl ?_
                refine fv_iload_n C d_B_refresh_67 (n := 68) rfl (i := 3) rfl rfl ?_
                refine fv_iload C d_B_refresh_68 (n := 70) rfl rfl ?_
                refine fv_iastN C (t0 := 0) rfl d_B_refresh_70 (n := 71) rfl hc1 hBs (by omega) (by decide) ?_
                rw [rf_upd]
                refine fv_iincN C d_B_refresh_71 (n := 74) rfl rfl (by decide) (L' := [_, _, _, _, _]) rfl ?_
                refine fv_goto C d_B_refresh_74 (tgt := 4) rfl ?_
                refine fv_drop 4 (L' := [_, _, _, _, _]) rfl ?_
                exact ih (k + 1) _ (by omega) (va_up_self _ _ _) (hf1.tr (fr_up (by omega) (by omega)))
          · have hvv : fv_b b.2 = fe_vw b k := by unfold fe_vw; rw [if_neg (by omega)]; rfl
            refine fv_aload_n C d_B_refresh_22 (n := 23) rfl (i := 0) rfl rfl ?_
            refine fv_callV_r C (ml_B_39 D dA) im_B_haltValue se_B_haltValue hB.1 rfl (ct_B_haltValue hB) d_B_refresh_23 (n := 26) rfl rfl rfl rfl (Nat.le_of_ble_eq_true rfl) (Nat.le_of_ble_eq_true rfl) (Nat.le_of_ble_eq_true rfl) (Nat.le_refl _) (Nat.le_refl _) ?_
            refine fv_goto C d_B_refresh_26 (tgt := 46) rfl ?_
            rw [hvv]
            refine fv_istore C d_B_refresh_46 (n := 48) rfl (by decide) (L' := [_, _, _, _, _]) rfl ?_
            refine fv_iload_n C d_B_refresh_48 (n := 49) rfl (i := 2) rfl rfl ?_
            refine fv_ifB_ne C d_B_refresh_49 (tgt := 60) rfl (n := 52) rfl (fun hc49 => ?_) (fun hc49 => ?_)
            · have hcv : nI 1 = fv_b (rf_ch f b (k + 1)) := by rw [hs, hc49]; rfl
              refine fv_iconst C d_B_refresh_60 (n := 61) rfl kI_1 ?_
              refine fv_goto C d_B_refresh_61 (tgt := 65) rfl ?_
              rw [hcv]
              refine fv_istore_n C d_B_refresh_65 (n := 66) rfl (i := 2) rfl (by decide) (L' := [_, _, _, _, _]) rfl ?_
              refine fv_aload_n C d_B_refresh_66 (n := 67) rfl (i := 1) rfl rfl ?_
              refine fv_iload_n C d_B_refresh_67 (n := 68) rfl (i := 3) rfl rfl ?_
              refine fv_iload C d_B_refresh_68 (n := 70) rfl rfl ?_
              refine fv_iastN C (t0 := 0) rfl d_B_refresh_70 (n := 71) rfl hc1 hBs (by omega) (by decide) ?_
              rw [rf_upd]
              refine fv_iincN C d_B_refresh_71 (n := 74) rfl rfl (by decide) (L' := [_, _, _, _, _]) rfl ?_
              refine fv_goto C d_B_refresh_74 (tgt := 4) rfl ?_
              refine fv_drop 4 (L' := [_, _, _, _, _]) rfl ?_
              exact ih (k + 1) _ (by omega) (va_up_self _ _ _) (hf1.tr (fr_up (by omega) (by omega)))
            · refine fv_aload_n C d_B_refresh_52 (n := 53) rfl (i := 1) rfl rfl ?_
              refine fv_iload_n C d_B_refresh_53 (n := 54) rfl (i := 3) rfl rfl ?_
              refine fv_ialdN C (t0 := 0) rfl d_B_refresh_54 (n := 55) rfl hc1 (by omega) (by decide) ?_
              refine fv_iload C d_B_refresh_55 (n := 57) rfl rfl ?_
              refine fv_icmp_eq C d_B_refresh_57 (tgt := 64) rfl (n := 60) rfl (fun hc57 => ?_) (fun hc57 => ?_)
              · simp only [Nat.lt_irrefl, if_false] at hc57
                have hcv : nI 0 = fv_b (rf_ch f b (k + 1)) := by rw [hs, hc49, hc57]; simp; rfl
                refine fv_iconst C d_B_refresh_64 (n := 65) rfl kI_0 ?_
                rw [hcv]
                refine fv_istore_n C d_B_refresh_65 (n := 66) rfl (i := 2) rfl (by decide) (L' := [_, _, _, _, _]) rfl ?_
                refine fv_aload_n C d_B_refresh_66 (n := 67) rfl (i := 1) rfl rfl ?_
                refine fv_iload_n C d_B_refresh_67 (n := 68) rfl (i := 3) rfl rfl ?_
                refine fv_iload C d_B_refresh_68 (n := 70) rfl rfl ?_
                refine fv_iastN C (t0 := 0) rfl d_B_refresh_70 (n := 71) rfl hc1 hBs (by omega) (by decide) ?_
                rw [rf_upd]
                refine fv_iincN C d_B_refresh_71 (n := 74) rfl rfl (by decide) (L' := [_, _, _, _, _]) rfl ?_
                refine fv_goto C d_B_refresh_74 (tgt := 4) rfl ?_
                refine fv_drop 4 (L' := [_, _, _, _, _]) rfl ?_
                exact ih (k + 1) _ (by omega) (va_up_self _ _ _) (hf1.tr (fr_up (by omega) (by omega)))
              · simp only [Nat.lt_irrefl, if_false] at hc57
                have hcv : nI 1 = fv_b (rf_ch f b (k + 1)) := by rw [hs, hc49]; simp [hc57]; rfl
                refine fv_iconst C d_B_refresh_60 (n := 61) rfl kI_1 ?_
                refine fv_goto C d_B_refresh_61 (tgt := 65) rfl ?_
                rw [hcv]
                refine fv_istore_n C d_B_refresh_65 (n := 66) rfl (i := 2) rfl (by decide) (L' := [_, _, _, _, _]) rfl ?_
                refine fv_aload_n C d_B_refresh_66 (n := 67) rfl (i := 1) rfl rfl ?_
                refine fv_iload_n C d_B_refresh_67 (n := 68) rfl (i := 3) rfl rfl ?_
                refine fv_iload C d_B_refresh_68 (n := 70) rfl rfl ?_
                refine fv_iastN C (t0 := 0) rfl d_B_refresh_70 (n := 71) rfl hc1 hBs (by omega) (by decide) ?_
                rw [rf_upd]
                refine fv_iincN C d_B_refresh_71 (n := 74) rfl rfl (by decide) (L' := [_, _, _, _, _]) rfl ?_
                refine fv_goto C d_B_refresh_74 (tgt := 4) rfl ?_
                refine fv_drop 4 (L' := [_, _, _, _, _]) rfl ?_
                exact ih (k + 1) _ (by omega) (va_up_self _ _ _) (hf1.tr (fr_up (by omega) (by omega)))
  refine fv_iconst C d_B_refresh_0 (n := 1) rfl kI_0 ?_
  refine fv_istore_n C d_B_refresh_1 (n := 2) rfl (i := 2) rfl (by decide) (L' := [_, _, _, _, _]) rfl ?_
  refine fv_iconst C d_B_refresh_2 (n := 3) rfl kI_0 ?_
  refine fv_istore_n C d_B_refresh_3 (n := 4) rfl (i := 3) rfl (by decide) (L' := [_, _, _, _, _]) rfl ?_
  refine fv_eqL ?_ (loop 19 0 h (by omega) (by simpa using hc) (fr_rf h c 1))
  rfl
end BK3
