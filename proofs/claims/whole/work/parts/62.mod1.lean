/-! FeedDeskModel: small ones, and its book -/
section MD1
variable {l : Launch} {D : va_G} {dA : Nat → ClassId} {Bs sz : Nat} {h : fv_H} {m0 ev pk bl : Nat} {bh : Bool} {sh : Nat} {F : Nat → Nat → Int32}
theorem ct_M_within {x a b : Int32} : fv_T l (fk D dA) Bs WA m_M_within [.int x, .int a, .int b] sz h 0 0 (fp_r (.int (fv_b (decide (a ≤ x ∧ x ≤ b)))) sz h) := by
  refine fv_of (L := [_, _, _]) (by decide +kernel) rfl (Nat.le_of_ble_eq_true rfl) rfl ?_
  intro X hX C
  subst hX
  refine fv_iload_n C d_M_within_0 (n := 1) rfl (i := 0) rfl rfl ?_
  refine fv_iload_n C d_M_within_1 (n := 2) rfl (i := 1) rfl rfl ?_
  refine fv_icmp_lt C d_M_within_2 (tgt := 14) rfl (n := 5) rfl (fun hc2 => ?_) (fun hc2 => ?_)
  · have e : decide (a ≤ x ∧ x ≤ b) = false := decide_eq_false (fun q => absurd hc2 (Int32.not_lt.mpr q.1))
    refine fv_iconst C d_M_within_14 (n := 15) rfl kI_0 ?_
    refine fv_zret C rfl d_M_within_15 rfl (Nat.le_refl _) (Nat.le_refl _) ?_
    exact ⟨by rw [e]; rfl, rfl, rfl⟩
  · refine fv_iload_n C d_M_within_5 (n := 6) rfl (i := 0) rfl rfl ?_
    refine fv_iload_n C d_M_within_6 (n := 7) rfl (i := 2) rfl rfl ?_
    refine fv_icmp_gt C d_M_within_7 (tgt := 14) rfl (n := 10) rfl (fun hc7 => ?_) (fun hc7 => ?_)
    · have e : decide (a ≤ x ∧ x ≤ b) = false := decide_eq_false (fun q => absurd hc7 (Int32.not_lt.mpr q.2))
      refine fv_iconst C d_M_within_14 (n := 15) rfl kI_0 ?_
      refine fv_zret C rfl d_M_within_15 rfl (Nat.le_refl _) (Nat.le_refl _) ?_
      exact ⟨by rw [e]; rfl, rfl, rfl⟩
    · have e : decide (a ≤ x ∧ x ≤ b) = true := decide_eq_true ⟨Int32.not_lt.mp hc2, Int32.not_lt.mp hc7⟩
      refine fv_iconst C d_M_within_10 (n := 11) rfl kI_1 ?_
      refine fv_goto C d_M_within_11 (tgt := 15) rfl ?_
      refine fv_zret C rfl d_M_within_15 rfl (Nat.le_refl _) (Nat.le_refl _) ?_
      exact ⟨by rw [e]; rfl, rfl, rfl⟩
theorem ct_M_isInstrument {x : Int32} : fv_T l (fk D dA) Bs WA m_M_isInstrument [.int x] sz h 0 0 (fp_r (.int (fv_b (iv x 0 3))) sz h) := by
  refine fv_of (L := [_]) (by decide +kernel) rfl (Nat.le_of_ble_eq_true rfl) rfl ?_
  intro X hX C
  subst hX
  refine fv_iload_n C d_M_isInstrument_0 (n := 1) rfl (i := 0) rfl rfl ?_
  refine fv_iconst C d_M_isInstrument_1 (n := 2) rfl kI_0 ?_
  refine fv_iconst C d_M_isInstrument_2 (n := 3) rfl kI_3 ?_
  refine fv_callS_r C (ml_M_101 D dA) sm_M_within ct_M_within d_M_isInstrument_3 (n := 6) rfl rfl rfl rfl (Nat.le_of_ble_eq_true rfl) (Nat.le_of_ble_eq_true rfl) (Nat.le_of_ble_eq_true rfl) (Nat.le_refl _) (Nat.le_refl _) ?_
  refine fv_zret C rfl d_M_isInstrument_6 (fv_b_nar _) (Nat.le_refl _) (Nat.le_refl _) ?_
  exact ⟨rfl, rfl, rfl⟩
theorem ct_M_isId {x : Int32} : fv_T l (fk D dA) Bs WA m_M_isId [.int x] sz h 0 0 (fp_r (.int (fv_b (iv x 1 1000000))) sz h) := by
  refine fv_of (L := [_]) (by decide +kernel) rfl (Nat.le_of_ble_eq_true rfl) rfl ?_
  intro X hX C
  subst hX
  refine fv_iload_n C d_M_isId_0 (n := 1) rfl (i := 0) rfl rfl ?_
  refine fv_iconst C d_M_isId_1 (n := 2) rfl kI_1 ?_
  refine fv_ldc C d_M_isId_2 (n := 4) rfl kc_M_105 ?_
  rw [show ((1000000 : Int32)) = nI 1000000 from rfl]
  refine fv_callS_r C (ml_M_101 D dA) sm_M_within ct_M_within d_M_isId_4 (n := 7) rfl rfl rfl rfl (Nat.le_of_ble_eq_true rfl) (Nat.le_of_ble_eq_true rfl) (Nat.le_of_ble_eq_true rfl) (Nat.le_refl _) (Nat.le_refl _) ?_
  refine fv_zret C rfl d_M_isId_7 (fv_b_nar _) (Nat.le_refl _) (Nat.le_refl _) ?_
  exact ⟨rfl, rfl, rfl⟩
theorem ct_M_isReceiver {x : Int32} : fv_T l (fk D dA) Bs WA m_M_isReceiver [.int x] sz h 0 0 (fp_r (.int (fv_b (iv x 0 1))) sz h) := by
  refine fv_of (L := [_]) (by decide +kernel) rfl (Nat.le_of_ble_eq_true rfl) rfl ?_
  intro X hX C
  subst hX
  refine fv_iload_n C d_M_isReceiver_0 (n := 1) rfl (i := 0) rfl rfl ?_
  refine fv_iconst C d_M_isReceiver_1 (n := 2) rfl kI_0 ?_
  refine fv_iconst C d_M_isReceiver_2 (n := 3) rfl kI_1 ?_
  refine fv_callS_r C (ml_M_101 D dA) sm_M_within ct_M_within d_M_isReceiver_3 (n := 6) rfl rfl rfl rfl (Nat.le_of_ble_eq_true rfl) (Nat.le_of_ble_eq_true rfl) (Nat.le_of_ble_eq_true rfl) (Nat.le_refl _) (Nat.le_refl _) ?_
  refine fv_zret C rfl d_M_isReceiver_6 (fv_b_nar _) (Nat.le_refl _) (Nat.le_refl _) ?_
  exact ⟨rfl, rfl, rfl⟩
theorem ct_M_find {lo : List bo_O} {x : Int32} (hM : MC dA h m0 ev pk bl bh sh F) (hbl : bl = lo.length) (h24 : lo.length ≤ 24) (hA : BA F lo) : fv_T l (fk D dA) Bs WA m_M_find [.ref m0, .int x] sz h 0 0 (fp_i sz (fun r h' => h' = h ∧ (((∀ o ∈ lo, o.1 ≠ x) ∧ r = -1) ∨ ∃ k o, lo[k]? = some o ∧ o.1 = x ∧ k < lo.length ∧ r = nI k))) := by
  subst hbl
  refine fv_of (L := [_, _, _]) (by decide +kernel) rfl (Nat.le_of_ble_eq_true rfl) rfl ?_
  intro X hX C
  subst hX
  have loop : ∀ k j, j + k = lo.length → (∀ t o, t < j → lo[t]? = some o → o.1 ≠ x) → fv_V (fk D dA) Bs X 3 (fv_MQ (fk D dA) Bs X (fp_i sz (fun r h' => h' = h ∧ (((∀ o ∈ lo, o.1 ≠ x) ∧ r = -1) ∨ ∃ k o, lo[k]? = some o ∧ o.1 = x ∧ k < lo.length ∧ r = nI k))) 0 0) 2 [some (.ref m0), some (.int x), some (.int (nI j))] [] sz h 0 0 := by
    intro k
    induction k with
    | zero =>
      intro j hj hno
      refine fv_iload_n C d_M_find_2 (n := 3) rfl (i := 2) rfl rfl ?_
      refine fv_aload_n C d_M_find_3 (n := 4) rfl (i := 0) rfl rfl ?_
      refine fv_get C (fl_M_106 D dA) d_M_find_4 (n := 7) rfl hM.1 rfl ?_
      refine fv_icmpN_ge C (by omega) (by omega) d_M_find_7 (tgt := 28) rfl (n := 10) rfl (fun hc7 => ?_) (fun hc7 => ?_)
      · refine fv_iconst C d_M_find_28 (n := 29) rfl kI_m1 ?_
        refine fv_iret C rfl d_M_find_29 (Nat.le_refl _) (Nat.le_refl _) ?_
        refine ⟨_, rfl, rfl, rfl, Or.inl ⟨fun o ho => ?_, rfl⟩⟩
        obtain ⟨t, ht⟩ := List.getElem?_of_mem ho
        exact hno t o (by have := (List.getElem?_eq_some_iff.mp ht).1; omega) ht
      · exact absurd hc7 (by omega)
    | succ k ih =>
      intro j hj hno
      obtain ⟨o, ho⟩ : ∃ o, lo[j]? = some o := ⟨_, List.getElem?_eq_getElem (by omega)⟩
      have hg := (hA j o ho).1
      refine fv_iload_n C d_M_find_2 (n := 3) rfl (i := 2) rfl rfl ?_
      refine fv_aload_n C d_M_find_3 (n := 4) rfl (i := 0) rfl rfl ?_
      refine fv_get C (fl_M_106 D dA) d_M_find_4 (n := 7) rfl hM.1 rfl ?_
      refine fv_icmpN_ge C (by omega) (by omega) d_M_find_7 (tgt := 28) rfl (n := 10) rfl (fun hc7 => ?_) (fun hc7 => ?_)
      · exact absurd hc7 (by omega)
      · refine fv_aload_n C d_M_find_10 (n := 11) rfl (i := 0) rfl rfl ?_
        refine fv_get C (fl_M_37 D dA) d_M_find_11 (n := 14) rfl hM.1 rfl ?_
        refine fv_iload_n C d_M_find_14 (n := 15) rfl (i := 2) rfl rfl ?_
        refine fv_ialdN C (t0 := 0) rfl d_M_find_15 (n := 16) rfl (mc_10 hM) (by omega) (by decide) ?_
        rw [hg]
        refine fv_iload_n C d_M_find_16 (n := 17) rfl (i := 1) rfl rfl ?_
        refine fv_icmp_ne C d_M_find_17 (tgt := 22) rfl (n := 20) rfl (fun hc17 => ?_) (fun hc17 => ?_)
        · refine fv_iincN C d_M_find_22 (n := 25) rfl rfl (by decide) (L' := [_, _, _]) rfl ?_
          refine fv_goto C d_M_find_25 (tgt := 2) rfl ?_
          refine ih (j + 1) (by omega) (fun t b ht hb => ?_)
          by_cases c : t = j
          · subst c; rw [ho] at hb; cases hb; exact hc17
          · exact hno t b (by omega) hb
        · refine fv_iload_n C d_M_find_20 (n := 21) rfl (i := 2) rfl rfl ?_
          refine fv_iret C rfl d_M_find_21 (Nat.le_refl _) (Nat.le_refl _) ?_
          exact ⟨_, rfl, rfl, rfl, Or.inr ⟨j, o, ho, hc17, by omega, rfl⟩⟩
  refine fv_iconst C d_M_find_0 (n := 1) rfl kI_0 ?_
  refine fv_istore_n C d_M_find_1 (n := 2) rfl (i := 2) rfl (by decide) (L' := [_, _, _]) rfl ?_
  exact loop lo.length 0 (by omega) (fun t o ht => absurd ht (by omega))
theorem ct_M_drop {lo : List bo_O} {k : Nat} (hBs : Bs ≤ m0) (hM : MC dA h m0 ev pk bl bh sh F) (hbl : bl = lo.length) (h24 : lo.length ≤ 24) (hA : BA F lo) (hk : k < lo.length) : fv_T l (fk D dA) Bs WA m_M_drop [.ref m0, .int (nI k)] sz h 0 0 (fp_v sz (fun h' => (∃ F', MC dA h' m0 ev pk (lo.length - 1) bh sh F' ∧ BA F' (lo.eraseIdx k) ∧ KE 10 13 F F') ∧ fs h h' (MS m0))) := by
  subst hbl
  have hF : fs h h (MS m0) := fs_rf _ _
  have hKE : KE 10 13 F F := KE.rf _ _ _
  refine fv_of (L := [_, _, _]) (by decide +kernel) rfl (Nat.le_of_ble_eq_true rfl) rfl ?_
  intro X hX C
  subst hX
  have loop : ∀ m j (h1 : fv_H) (F1 : Nat → Nat → Int32), j + m = lo.length - 1 → k ≤ j → MC dA h1 m0 ev pk (lo.length - 1) bh sh F1 → (∀ c, 10 ≤ c → c ≤ 13 → ∀ t, F1 c t = if k ≤ t ∧ t < j then F c (t + 1) else F c t) → KE 10 13 F F1 → fs h h1 (MS m0) → fv_V (fk D dA) Bs X 3 (fv_MQ (fk D dA) Bs X (fp_v sz (fun h' => (∃ F', MC dA h' m0 ev pk (lo.length - 1) bh sh F' ∧ BA F' (lo.eraseIdx k) ∧ KE 10 13 F F') ∧ fs h h' (MS m0))) 0 0) 12 [some (.ref m0), some (.int (nI k)), some (.int (nI j))] [] sz h1 0 0 := by
    intro m
    induction m with
    | zero =>
      intro j h1 F1 hj hkj hM hT hKE hF
      refine fv_iload_n C d_M_drop_12 (n := 13) rfl (i := 2) rfl rfl ?_
      refine fv_aload_n C d_M_drop_13 (n := 14) rfl (i := 0) rfl rfl ?_
      refine fv_get C (fl_M_106 D dA) d_M_drop_14 (n := 17) rfl hM.1 rfl ?_
      refine fv_icmpN_ge C (by omega) (by omega) d_M_drop_17 (tgt := 82) rfl (n := 20) rfl (fun hc17 => ?_) (fun hc17 => ?_)
      · refine fv_vret C rfl d_M_drop_82 (Nat.le_refl _) (Nat.le_refl _) ?_
        refine ⟨rfl, rfl, ⟨F1, hM, fun t o ht => ?_, hKE⟩, hF⟩
        rw [List.getElem?_eraseIdx] at ht
        rw [hT 10 (by decide) (by decide), hT 11 (by decide) (by decide), hT 12 (by decide) (by decide), hT 13 (by decide) (by decide)]
        by_cases c : t < k
        · rw [if_pos c] at ht; rw [if_neg (by omega), if_neg (by omega), if_neg (by omega), if_neg (by omega)]; exact hA t o ht
        · rw [if_neg c] at ht
          have := (List.getElem?_eq_some_iff.mp ht).1
          rw [if_pos (by omega), if_pos (by omega), if_pos (by omega), if_pos (by omega)]; exact hA (t + 1) o ht
      · exact absurd hc17 (by omega)
    | succ m ih =>
      intro j h1 F1 hj hkj hM hT hKE hF
      refine fv_iload_n C d_M_drop_12 (n := 13) rfl (i := 2) rfl rfl ?_
      refine fv_aload_n C d_M_drop_13 (n := 14) rfl (i := 0) rfl rfl ?_
      refine fv_get C (fl_M_106 D dA) d_M_drop_14 (n := 17) rfl hM.1 rfl ?_
      refine fv_icmpN_ge C (by omega) (by omega) d_M_drop_17 (tgt := 82) rfl (n := 20) rfl (fun hc17 => ?_) (fun hc17 => ?_)
      · exact absurd hc17 (by omega)
      · refine fv_aload_n C d_M_drop_20 (n := 21) rfl (i := 0) rfl rfl ?_
        refine fv_get C (fl_M_37 D dA) d_M_drop_21 (n := 24) rfl hM.1 rfl ?_
        refine fv_iload_n C d_M_drop_24 (n := 25) rfl (i := 2) rfl rfl ?_
        refine fv_aload_n C d_M_drop_25 (n := 26) rfl (i := 0) rfl rfl ?_
        refine fv_get C (fl_M_37 D dA) d_M_drop_26 (n := 29) rfl hM.1 rfl ?_
        refine fv_iload_n C d_M_drop_29 (n := 30) rfl (i := 2) rfl rfl ?_
        refine fv_iconst C d_M_drop_30 (n := 31) rfl kI_1 ?_
        first | refine fv_iaddN C d_M_drop_31 (n := 32) rfl ?_ | refine fv_iadd C d_M_drop_31 (n := 32) rfl ?_
        refine fv_ialdN C (t0 := 0) rfl d_M_drop_32 (n := 33) rfl (mc_10 hM) (by omega) (by decide) ?_
        refine mc_ia C 10 (by decide) (by decide) rfl d_M_drop_33 (n := 34) rfl hM hBs (by decide) (show _ < 24 by omega) (fun h1 Fa hM a1 a2 f1 => ?_)
        have hF := hF.tr f1 (U := MS m0) (fun x hx => hx) (fun x hx => hx)
        refine fv_aload_n C d_M_drop_34 (n := 35) rfl (i := 0) rfl rfl ?_
        refine fv_get C (fl_M_40 D dA) d_M_drop_35 (n := 38) rfl hM.1 rfl ?_
        refine fv_iload_n C d_M_drop_38 (n := 39) rfl (i := 2) rfl rfl ?_
        refine fv_aload_n C d_M_drop_39 (n := 40) rfl (i := 0) rfl rfl ?_
        refine fv_get C (fl_M_40 D dA) d_M_drop_40 (n := 43) rfl hM.1 rfl ?_
        refine fv_iload_n C d_M_drop_43 (n := 44) rfl (i := 2) rfl rfl ?_
        refine fv_iconst C d_M_drop_44 (n := 45) rfl kI_1 ?_
        first | refine fv_iaddN C d_M_drop_45 (n := 46) rfl ?_ | refine fv_iadd C d_M_drop_45 (n := 46) rfl ?_
        refine fv_ialdN C (t0 := 0) rfl d_M_drop_46 (n := 47) rfl (mc_11 hM) (by omega) (by decide) ?_
        refine mc_ia C 11 (by decide) (by decide) rfl d_M_drop_47 (n := 48) rfl hM hBs (by decide) (show _ < 24 by omega) (fun h1 Fb hM b1 b2 f1 => ?_)
        have hF := hF.tr f1 (U := MS m0) (fun x hx => hx) (fun x hx => hx)
        refine fv_aload_n C d_M_drop_48 (n := 49) rfl (i := 0) rfl rfl ?_
        refine fv_get C (fl_M_43 D dA) d_M_drop_49 (n := 52) rfl hM.1 rfl ?_
        refine fv_iload_n C d_M_drop_52 (n := 53) rfl (i := 2) rfl rfl ?_
        refine fv_aload_n C d_M_drop_53 (n := 54) rfl (i := 0) rfl rfl ?_
        refine fv_get C (fl_M_43 D dA) d_M_drop_54 (n := 57) rfl hM.1 rfl ?_
        refine fv_iload_n C d_M_drop_57 (n := 58) rfl (i := 2) rfl rfl ?_
        refine fv_iconst C d_M_drop_58 (n := 59) rfl kI_1 ?_
        first | refine fv_iaddN C d_M_drop_59 (n := 60) rfl ?_ | refine fv_iadd C d_M_drop_59 (n := 60) rfl ?_
        refine fv_ialdN C (t0 := 0) rfl d_M_drop_60 (n := 61) rfl (mc_12 hM) (by omega) (by decide) ?_
        refine mc_ia C 12 (by decide) (by decide) rfl d_M_drop_61 (n := 62) rfl hM hBs (by decide) (show _ < 24 by omega) (fun h1 Fc hM c1 c2 f1 => ?_)
        have hF := hF.tr f1 (U := MS m0) (fun x hx => hx) (fun x hx => hx)
        refine fv_aload_n C d_M_drop_62 (n := 63) rfl (i := 0) rfl rfl ?_
        refine fv_get C (fl_M_46 D dA) d_M_drop_63 (n := 66) rfl hM.1 rfl ?_
        refine fv_iload_n C d_M_drop_66 (n := 67) rfl (i := 2) rfl rfl ?_
        refine fv_aload_n C d_M_drop_67 (n := 68) rfl (i := 0) rfl rfl ?_
        refine fv_get C (fl_M_46 D dA) d_M_drop_68 (n := 71) rfl hM.1 rfl ?_
        refine fv_iload_n C d_M_drop_71 (n := 72) rfl (i := 2) rfl rfl ?_
        refine fv_iconst C d_M_drop_72 (n := 73) rfl kI_1 ?_
        first | refine fv_iaddN C d_M_drop_73 (n := 74) rfl ?_ | refine fv_iadd C d_M_drop_73 (n := 74) rfl ?_
        refine fv_ialdN C (t0 := 0) rfl d_M_drop_74 (n := 75) rfl (mc_13 hM) (by omega) (by decide) ?_
        refine mc_ia C 13 (by decide) (by decide) rfl d_M_drop_75 (n := 76) rfl hM hBs (by decide) (show _ < 24 by omega) (fun h1 Fd hM d1 d2 f1 => ?_)
        have hF := hF.tr f1 (U := MS m0) (fun x hx => hx) (fun x hx => hx)
        refine fv_iincN C d_M_drop_76 (n := 79) rfl rfl (by decide) (L' := [_, _, _]) rfl ?_
        refine fv_goto C d_M_drop_79 (tgt := 12) rfl ?_
        refine ih (j + 1) _ Fd (by omega) (by omega) hM ?_ (fun c hc => ?_) hF
        · have e10 : Fd 10 = upd (F1 10) j (F1 10 (j + 1)) := by rw [d2 10 (by decide), c2 10 (by decide), b2 10 (by decide), a1]
          have e11 : Fd 11 = upd (F1 11) j (F1 11 (j + 1)) := by rw [d2 11 (by decide), c2 11 (by decide), b1, a2 11 (by decide)]
          have e12 : Fd 12 = upd (F1 12) j (F1 12 (j + 1)) := by rw [d2 12 (by decide), c1, b2 12 (by decide), a2 12 (by decide)]
          have e13 : Fd 13 = upd (F1 13) j (F1 13 (j + 1)) := by rw [d1, c2 13 (by decide), b2 13 (by decide), a2 13 (by decide)]
          intro c hc1 hc2
          have ec : Fd c = upd (F1 c) j (F1 c (j + 1)) := by
            rcases (show c = 10 ∨ c = 11 ∨ c = 12 ∨ c = 13 by omega) with rfl | rfl | rfl | rfl
            · exact e10
            · exact e11
            · exact e12
            · exact e13
          intro t
          rw [ec]
          unfold upd
          by_cases q : t = j
          · rw [if_pos q, if_pos (by omega), hT c hc1 hc2, if_neg (by omega), q]
          · rw [if_neg q, hT c hc1 hc2]
            by_cases q2 : k ≤ t ∧ t < j
            · rw [if_pos q2, if_pos (by omega)]
            · rw [if_neg q2, if_neg (by omega)]
        · rw [d2 c (by omega), c2 c (by omega), b2 c (by omega), a2 c (by omega)]; exact hKE c hc
  refine fv_aload_n C d_M_drop_0 (n := 1) rfl (i := 0) rfl rfl ?_
  refine fv_dup C d_M_drop_1 (n := 2) rfl rfl ?_
  refine fv_get C (fl_M_106 D dA) d_M_drop_2 (n := 5) rfl hM.1 rfl ?_
  refine fv_iconst C d_M_drop_5 (n := 6) rfl kI_1 ?_
  refine fv_isubN C (by omega) d_M_drop_6 (n := 7) rfl ?_
  refine mc_pbl C (fl_M_106 D dA) d_M_drop_7 (n := 10) rfl hM hBs (fun h1 hM f1 => ?_)
  have hF := hF.tr f1 (U := MS m0) (fun x hx => hx) (fun x hx => hx)
  refine fv_iload_n C d_M_drop_10 (n := 11) rfl (i := 1) rfl rfl ?_
  refine fv_istore_n C d_M_drop_11 (n := 12) rfl (i := 2) rfl (by decide) (L' := [_, _, _]) rfl ?_
  exact loop (lo.length - 1 - k) k _ F (by omega) (Nat.le_refl _) hM (fun c _ _ t => by rw [if_neg (by omega)]) hKE hF
end MD1
