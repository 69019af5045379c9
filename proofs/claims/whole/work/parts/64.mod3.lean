/-! FeedDeskModel: order in the book, levels, views -/
def nm (c : Nat) : Int32 := if c = 0 then -1 else nI (c - 1)
theorem nm_inc (c : Nat) : nm c + Int32.ofInt 1 = nm (c + 1) := by
  unfold nm
  by_cases h : c = 0
  · subst h
    decide +kernel
  · rw [if_neg h, if_neg (by omega), kI_1, nI_add, show c - 1 + 1 = c + 1 - 1 by omega]
theorem nm_eq {c v : Nat} (hc : c < 1000) (hv : v < 2 ^ 31) : nm c = nI v ↔ c = v + 1 := by
  unfold nm
  by_cases h : c = 0
  · rw [if_pos h]
    exact ⟨fun q => absurd q.symm (nI_nm1 hv), fun q => by omega⟩
  · rw [if_neg h]
    constructor
    · intro q
      have := congrArg Int32.toNatClampNeg q
      rw [nI_clamp (by omega), nI_clamp hv] at this
      omega
    · intro q
      rw [q]
      rfl
theorem nI_nn {k : Nat} (h : k < 2 ^ 31) : 0 ≤ nI k := by
  rw [Int32.le_iff_toInt_le, nI_toInt h]
  exact Int.natCast_nonneg k
section MD3
variable {l : Launch} {D : va_G} {dA : Nat → ClassId} {Bs sz : Nat} {h : fv_H} {m0 ev pk : Nat} {bh : Bool} {sh : Nat} {F : Nat → Nat → Int32} {lo : List bo_O}
theorem ct_M_ahead {a b : bo_O} {j k s : Nat} (hM : MC dA h m0 ev pk lo.length bh sh F) (h24 : lo.length ≤ 24) (hA : BA F lo) (hs2 : s < 2) (hj : lo[j]? = some a) (hk : lo[k]? = some b) (hs : a.2.1 = s) : fv_T l (fk D dA) Bs WA m_M_ahead [.ref m0, .int (nI j), .int (nI k)] sz h 0 0 (fp_r (.int (fv_b (bo_ah lo s j k))) sz h) := by
  have hjl := (List.getElem?_eq_some_iff.mp hj).1
  have hkl := (List.getElem?_eq_some_iff.mp hk).1
  have hah : bo_ah lo s j k = (if a.2.2.1 = b.2.2.1 then decide (j < k) else if s = 0 then decide (b.2.2.1 < a.2.2.1) else decide (a.2.2.1 < b.2.2.1)) := by unfold bo_ah; rw [hj, hk]; simp [hs]
  obtain ⟨-, a1, a2, -⟩ := hA j a hj
  obtain ⟨-, -, b2, -⟩ := hA k b hk
  rw [hs] at a1
  refine fv_of (L := [_, _, _]) (by decide +kernel) rfl (Nat.le_of_ble_eq_true rfl) rfl ?_
  intro X hX C
  subst hX
  refine fv_aload_n C d_M_ahead_0 (n := 1) rfl (i := 0) rfl rfl ?_
  refine fv_get C (fl_M_43 D dA) d_M_ahead_1 (n := 4) rfl hM.1 rfl ?_
  refine fv_iload_n C d_M_ahead_4 (n := 5) rfl (i := 1) rfl rfl ?_
  refine fv_ialdN C (t0 := 0) rfl d_M_ahead_5 (n := 6) rfl (mc_12 hM) (by omega) (by decide) ?_
  rw [a2]
  refine fv_aload_n C d_M_ahead_6 (n := 7) rfl (i := 0) rfl rfl ?_
  refine fv_get C (fl_M_43 D dA) d_M_ahead_7 (n := 10) rfl hM.1 rfl ?_
  refine fv_iload_n C d_M_ahead_10 (n := 11) rfl (i := 2) rfl rfl ?_
  refine fv_ialdN C (t0 := 0) rfl d_M_ahead_11 (n := 12) rfl (mc_12 hM) (by omega) (by decide) ?_
  rw [b2]
  refine fv_icmp_eq C d_M_ahead_12 (tgt := 68) rfl (n := 15) rfl (fun hc12 => ?_) (fun hc12 => ?_)
  · rw [if_pos hc12] at hah
    refine fv_iload_n C d_M_ahead_68 (n := 69) rfl (i := 1) rfl rfl ?_
    refine fv_iload_n C d_M_ahead_69 (n := 70) rfl (i := 2) rfl rfl ?_
    refine fv_icmpN_ge C (by omega) (by omega) d_M_ahead_70 (tgt := 77) rfl (n := 73) rfl (fun hc70 => ?_) (fun hc70 => ?_)
    · have e : bo_ah lo s j k = false := by rw [hah]; exact decide_eq_false (by omega)
      refine fv_iconst C d_M_ahead_77 (n := 78) rfl kI_0 ?_
      refine fv_zret C rfl d_M_ahead_78 rfl (Nat.le_refl _) (Nat.le_refl _) ?_
      exact ⟨by rw [e]; rfl, rfl, rfl⟩
    · have e : bo_ah lo s j k = true := by rw [hah]; exact decide_eq_true (by omega)
      refine fv_iconst C d_M_ahead_73 (n := 74) rfl kI_1 ?_
      refine fv_goto C d_M_ahead_74 (tgt := 78) rfl ?_
      refine fv_zret C rfl d_M_ahead_78 rfl (Nat.le_refl _) (Nat.le_refl _) ?_
      exact ⟨by rw [e]; rfl, rfl, rfl⟩
  · rw [if_neg hc12] at hah
    refine fv_aload_n C d_M_ahead_15 (n := 16) rfl (i := 0) rfl rfl ?_
    refine fv_get C (fl_M_40 D dA) d_M_ahead_16 (n := 19) rfl hM.1 rfl ?_
    refine fv_iload_n C d_M_ahead_19 (n := 20) rfl (i := 1) rfl rfl ?_
    refine fv_ialdN C (t0 := 0) rfl d_M_ahead_20 (n := 21) rfl (mc_11 hM) (by omega) (by decide) ?_
    rw [a1]
    refine fv_ifN_ne C (by omega) d_M_ahead_21 (tgt := 47) rfl (n := 24) rfl (fun hc21 => ?_) (fun hc21 => ?_)
    · rw [if_neg hc21] at hah
      refine fv_aload_n C d_M_ahead_47 (n := 48) rfl (i := 0) rfl rfl ?_
      refine fv_get C (fl_M_43 D dA) d_M_ahead_48 (n := 51) rfl hM.1 rfl ?_
      refine fv_iload_n C d_M_ahead_51 (n := 52) rfl (i := 1) rfl rfl ?_
      refine fv_ialdN C (t0 := 0) rfl d_M_ahead_52 (n := 53) rfl (mc_12 hM) (by omega) (by decide) ?_
      rw [a2]
      refine fv_aload_n C d_M_ahead_53 (n := 54) rfl (i := 0) rfl rfl ?_
      refine fv_get C (fl_M_43 D dA) d_M_ahead_54 (n := 57) rfl hM.1 rfl ?_
      refine fv_iload_n C d_M_ahead_57 (n := 58) rfl (i := 2) rfl rfl ?_
      refine fv_ialdN C (t0 := 0) rfl d_M_ahead_58 (n := 59) rfl (mc_12 hM) (by omega) (by decide) ?_
      rw [b2]
      refine fv_icmp_ge C d_M_ahead_59 (tgt := 66) rfl (n := 62) rfl (fun hc59 => ?_) (fun hc59 => ?_)
      · have e : bo_ah lo s j k = false := by rw [hah]; exact decide_eq_false (Int32.not_lt.mpr hc59)
        refine fv_iconst C d_M_ahead_66 (n := 67) rfl kI_0 ?_
        refine fv_zret C rfl d_M_ahead_67 rfl (Nat.le_refl _) (Nat.le_refl _) ?_
        exact ⟨by rw [e]; rfl, rfl, rfl⟩
      · have e : bo_ah lo s j k = true := by rw [hah]; exact decide_eq_true (Int32.not_le.mp hc59)
        refine fv_iconst C d_M_ahead_62 (n := 63) rfl kI_1 ?_
        refine fv_goto C d_M_ahead_63 (tgt := 67) rfl ?_
        refine fv_zret C rfl d_M_ahead_67 rfl (Nat.le_refl _) (Nat.le_refl _) ?_
        exact ⟨by rw [e]; rfl, rfl, rfl⟩
    · rw [if_pos hc21] at hah
      refine fv_aload_n C d_M_ahead_24 (n := 25) rfl (i := 0) rfl rfl ?_
      refine fv_get C (fl_M_43 D dA) d_M_ahead_25 (n := 28) rfl hM.1 rfl ?_
      refine fv_iload_n C d_M_ahead_28 (n := 29) rfl (i := 1) rfl rfl ?_
      refine fv_ialdN C (t0 := 0) rfl d_M_ahead_29 (n := 30) rfl (mc_12 hM) (by omega) (by decide) ?_
      rw [a2]
      refine fv_aload_n C d_M_ahead_30 (n := 31) rfl (i := 0) rfl rfl ?_
      refine fv_get C (fl_M_43 D dA) d_M_ahead_31 (n := 34) rfl hM.1 rfl ?_
      refine fv_iload_n C d_M_ahead_34 (n := 35) rfl (i := 2) rfl rfl ?_
      refine fv_ialdN C (t0 := 0) rfl d_M_ahead_35 (n := 36) rfl (mc_12 hM) (by omega) (by decide) ?_
      rw [b2]
      refine fv_icmp_le C d_M_ahead_36 (tgt := 43) rfl (n := 39) rfl (fun hc36 => ?_) (fun hc36 => ?_)
      · have e : bo_ah lo s j k = false := by rw [hah]; exact decide_eq_false (Int32.not_lt.mpr hc36)
        refine fv_iconst C d_M_ahead_43 (n := 44) rfl kI_0 ?_
        refine fv_goto C d_M_ahead_44 (tgt := 67) rfl ?_
        refine fv_zret C rfl d_M_ahead_67 rfl (Nat.le_refl _) (Nat.le_refl _) ?_
        exact ⟨by rw [e]; rfl, rfl, rfl⟩
      · have e : bo_ah lo s j k = true := by rw [hah]; exact decide_eq_true (Int32.not_le.mp hc36)
        refine fv_iconst C d_M_ahead_39 (n := 40) rfl kI_1 ?_
        refine fv_goto C d_M_ahead_40 (tgt := 67) rfl ?_
        refine fv_zret C rfl d_M_ahead_67 rfl (Nat.le_refl _) (Nat.le_refl _) ?_
        exact ⟨by rw [e]; rfl, rfl, rfl⟩
theorem ct_M_orderAt {s i : Nat} (hM : MC dA h m0 ev pk lo.length bh sh F) (h24 : lo.length ≤ 24) (hA : BA F lo) (hs2 : s < 2) (h2 : bo_two lo) (hi : i < 2 ^ 31) : fv_T l (fk D dA) Bs WA m_M_orderAt [.ref m0, .int (nI s), .int (nI i)] sz h 0 0 (fp_i sz (fun r h' => h' = h ∧ ((r = -1 ∧ (bo_srt s lo).length ≤ i) ∨ ∃ k b, r = nI k ∧ k < lo.length ∧ lo[k]? = some b ∧ b.2.1 = s ∧ (bo_srt s lo)[i]? = some b))) := by
  have hrk := bo_rank s _ lo rfl
  refine fv_of (L := [_, _, _, _, _, _]) (by decide +kernel) rfl (Nat.le_of_ble_eq_true rfl) rfl ?_
  intro X hX C
  subst hX
  have loop : ∀ m q, q + m = lo.length → (∀ t b, t < q → lo[t]? = some b → b.2.1 = s → bo_rk lo s t ≠ i) → fv_V (fk D dA) Bs X 6 (fv_MQ (fk D dA) Bs X (fp_i sz (fun r h' => h' = h ∧ ((r = -1 ∧ (bo_srt s lo).length ≤ i) ∨ ∃ k b, r = nI k ∧ k < lo.length ∧ lo[k]? = some b ∧ b.2.1 = s ∧ (bo_srt s lo)[i]? = some b))) 0 0) 2 [some (.ref m0), some (.int (nI s)), some (.int (nI i)), some (.int (nI q)), none, none] [] sz h 0 0 := by
    intro m
    induction m with
    | zero =>
      intro q hq hno
      refine fv_iload_n C d_M_orderAt_2 (n := 3) rfl (i := 3) rfl rfl ?_
      refine fv_aload_n C d_M_orderAt_3 (n := 4) rfl (i := 0) rfl rfl ?_
      refine fv_get C (fl_M_106 D dA) d_M_orderAt_4 (n := 7) rfl hM.1 rfl ?_
      refine fv_icmpN_ge C (by omega) (by omega) d_M_orderAt_7 (tgt := 79) rfl (n := 10) rfl (fun hc7 => ?_) (fun hc7 => ?_)
      · refine fv_iconst C d_M_orderAt_79 (n := 80) rfl kI_m1 ?_
        refine fv_iret C rfl d_M_orderAt_80 (Nat.le_refl _) (Nat.le_refl _) ?_
        refine ⟨_, rfl, rfl, rfl, Or.inl ⟨rfl, Decidable.byContradiction fun hz => ?_⟩⟩
        obtain ⟨k, b, k1, k2, k3⟩ := hrk.2 i (by omega)
        exact hno k b (by have := (List.getElem?_eq_some_iff.mp k1).1; omega) k1 k2 k3
      · exact absurd hc7 (by omega)
    | succ m ih =>
      intro q hq hno
      obtain ⟨o, ho⟩ : ∃ o, lo[q]? = some o := ⟨_, List.getElem?_eq_getElem (by omega)⟩
      have o1 := (hA q o ho).2.1
      have o2 := h2 o (List.mem_of_getElem? ho)
      have loop2 : o.2.1 = s → ∀ m2 j, j + m2 = lo.length → fv_V (fk D dA) Bs X 6 (fv_MQ (fk D dA) Bs X (fp_i sz (fun r h' => h' = h ∧ ((r = -1 ∧ (bo_srt s lo).length ≤ i) ∨ ∃ k b, r = nI k ∧ k < lo.length ∧ lo[k]? = some b ∧ b.2.1 = s ∧ (bo_srt s lo)[i]? = some b))) 0 0) 26 [some (.ref m0), some (.int (nI s)), some (.int (nI i)), some (.int (nI q)), some (.int (nI ((List.range j).filter (fun t => bo_ah lo s t q)).length)), some (.int (nI j))] [] sz h 0 0 := by
        intro hos m2
        induction m2 with
        | zero =>
          intro j hj
          have hjl : j = lo.length := by omega
          have hrq : ((List.range j).filter (fun t => bo_ah lo s t q)).length = bo_rk lo s q := by rw [hjl]; rfl
          have hrl : bo_rk lo s q ≤ lo.length := by unfold bo_rk; have := List.length_filter_le (fun t => bo_ah lo s t q) (List.range lo.length); rw [List.length_range] at this; exact this
          rw [hrq]
          refine fv_iload C d_M_orderAt_26 (n := 28) rfl rfl ?_
          refine fv_aload_n C d_M_orderAt_28 (n := 29) rfl (i := 0) rfl rfl ?_
          refine fv_get C (fl_M_106 D dA) d_M_orderAt_29 (n := 32) rfl hM.1 rfl ?_
          refine fv_icmpN_ge C (by omega) (by omega) d_M_orderAt_32 (tgt := 65) rfl (n := 35) rfl (fun hc32 => ?_) (fun hc32 => ?_)
          · refine fv_iload C d_M_orderAt_65 (n := 67) rfl rfl ?_
            refine fv_iload_n C d_M_orderAt_67 (n := 68) rfl (i := 2) rfl rfl ?_
            refine fv_icmpN_ne C (by omega) (by omega) d_M_orderAt_68 (tgt := 73) rfl (n := 71) rfl (fun hc68 => ?_) (fun hc68 => ?_)
            · refine fv_iincN C d_M_orderAt_73 (n := 76) rfl rfl (by decide) (L' := [_, _, _, _, _, _]) rfl ?_
              refine fv_goto C d_M_orderAt_76 (tgt := 2) rfl ?_
              refine fv_drop 4 rfl ?_
              refine fv_drop 5 rfl ?_
              refine ih (q + 1) (by omega) (fun t b ht hb hbs => ?_)
              by_cases c : t = q
              · subst c; exact hc68
              · exact hno t b (by omega) hb hbs
            · refine fv_iload_n C d_M_orderAt_71 (n := 72) rfl (i := 3) rfl rfl ?_
              refine fv_iret C rfl d_M_orderAt_72 (Nat.le_refl _) (Nat.le_refl _) ?_
              refine ⟨_, rfl, rfl, rfl, Or.inr ⟨q, o, rfl, by omega, ho, hos, ?_⟩⟩
              rw [← hc68]
              exact hrk.1 q o ho hos
          · exact absurd hc32 (by omega)
        | succ m2 ih2 =>
          intro j hj
          obtain ⟨a, ha⟩ : ∃ a, lo[j]? = some a := ⟨_, List.getElem?_eq_getElem (by omega)⟩
          have a1 := (hA j a ha).2.1
          have a2 := h2 a (List.mem_of_getElem? ha)
          have hst : ((List.range (j + 1)).filter (fun t => bo_ah lo s t q)).length = ((List.range j).filter (fun t => bo_ah lo s t q)).length + (if bo_ah lo s j q = true then 1 else 0) := by
            rw [List.range_succ, List.filter_append, List.length_append]
            by_cases c : bo_ah lo s j q = true <;> simp [c]
          have hnz : a.2.1 ≠ s → bo_ah lo s j q = false := fun z => by unfold bo_ah; rw [ha, ho]; simp [z]
          refine fv_iload C d_M_orderAt_26 (n := 28) rfl rfl ?_
          refine fv_aload_n C d_M_orderAt_28 (n := 29) rfl (i := 0) rfl rfl ?_
          refine fv_get C (fl_M_106 D dA) d_M_orderAt_29 (n := 32) rfl hM.1 rfl ?_
          refine fv_icmpN_ge C (by omega) (by omega) d_M_orderAt_32 (tgt := 65) rfl (n := 35) rfl (fun hc32 => ?_) (fun hc32 => ?_)
          · exact absurd hc32 (by omega)
          · refine fv_aload_n C d_M_orderAt_35 (n := 36) rfl (i := 0) rfl rfl ?_
            refine fv_get C (fl_M_40 D dA) d_M_orderAt_36 (n := 39) rfl hM.1 rfl ?_
            refine fv_iload C d_M_orderAt_39 (n := 41) rfl rfl ?_
            refine fv_ialdN C (t0 := 0) rfl d_M_orderAt_41 (n := 42) rfl (mc_11 hM) (by omega) (by decide) ?_
            rw [a1]
            refine fv_iload_n C d_M_orderAt_42 (n := 43) rfl (i := 1) rfl rfl ?_
            refine fv_icmpN_ne C (by omega) (by omega) d_M_orderAt_43 (tgt := 59) rfl (n := 46) rfl (fun hc43 => ?_) (fun hc43 => ?_)
            · have hz := hnz hc43
              have hst := hst.trans (show _ = ((List.range j).filter (fun t => bo_ah lo s t q)).length by rw [hz]; rfl)
              rw [← hst]
              refine fv_iincN C d_M_orderAt_59 (n := 62) rfl rfl (by decide) (L' := [_, _, _, _, _, _]) rfl ?_
              refine fv_goto C d_M_orderAt_62 (tgt := 26) rfl ?_
              first | exact ih2 (j + 1) (by omega) | (rw [← hst]; exact ih2 (j + 1) (by omega))
            · refine fv_aload_n C d_M_orderAt_46 (n := 47) rfl (i := 0) rfl rfl ?_
              refine fv_iload C d_M_orderAt_47 (n := 49) rfl rfl ?_
              refine fv_iload_n C d_M_orderAt_49 (n := 50) rfl (i := 3) rfl rfl ?_
              refine fv_callV_r C (ml_M_128 D dA) im_M_ahead se_M_ahead hM.1 rfl (ct_M_ahead hM h24 hA hs2 ha ho hc43) d_M_orderAt_50 (n := 53) rfl rfl rfl rfl (Nat.le_of_ble_eq_true rfl) (Nat.le_of_ble_eq_true rfl) (Nat.le_of_ble_eq_true rfl) (Nat.le_refl _) (Nat.le_refl _) ?_
              refine fv_ifB_eq C d_M_orderAt_53 (tgt := 59) rfl (n := 56) rfl (fun hc53 => ?_) (fun hc53 => ?_)
              · have hst := hst.trans (show _ = ((List.range j).filter (fun t => bo_ah lo s t q)).length by rw [hc53]; rfl)
                rw [← hst]
                refine fv_iincN C d_M_orderAt_59 (n := 62) rfl rfl (by decide) (L' := [_, _, _, _, _, _]) rfl ?_
                refine fv_goto C d_M_orderAt_62 (tgt := 26) rfl ?_
                first | exact ih2 (j + 1) (by omega) | (rw [← hst]; exact ih2 (j + 1) (by omega))
              · rw [hc53, if_pos rfl] at hst
                refine fv_iincN C d_M_orderAt_56 (n := 59) rfl rfl (by decide) (L' := [_, _, _, _, _, _]) rfl ?_
                refine fv_iincN C d_M_orderAt_59 (n := 62) rfl rfl (by decide) (L' := [_, _, _, _, _, _]) rfl ?_
                refine fv_goto C d_M_orderAt_62 (tgt := 26) rfl ?_
                first | exact ih2 (j + 1) (by omega) | (rw [← hst]; exact ih2 (j + 1) (by omega))
      refine fv_iload_n C d_M_orderAt_2 (n := 3) rfl (i := 3) rfl rfl ?_
      refine fv_aload_n C d_M_orderAt_3 (n := 4) rfl (i := 0) rfl rfl ?_
      refine fv_get C (fl_M_106 D dA) d_M_orderAt_4 (n := 7) rfl hM.1 rfl ?_
      refine fv_icmpN_ge C (by omega) (by omega) d_M_orderAt_7 (tgt := 79) rfl (n := 10) rfl (fun hc7 => ?_) (fun hc7 => ?_)
      · exact absurd hc7 (by omega)
      · refine fv_aload_n C d_M_orderAt_10 (n := 11) rfl (i := 0) rfl rfl ?_
        refine fv_get C (fl_M_40 D dA) d_M_orderAt_11 (n := 14) rfl hM.1 rfl ?_
        refine fv_iload_n C d_M_orderAt_14 (n := 15) rfl (i := 3) rfl rfl ?_
        refine fv_ialdN C (t0 := 0) rfl d_M_orderAt_15 (n := 16) rfl (mc_11 hM) (by omega) (by decide) ?_
        rw [o1]
        refine fv_iload_n C d_M_orderAt_16 (n := 17) rfl (i := 1) rfl rfl ?_
        refine fv_icmpN_ne C (by omega) (by omega) d_M_orderAt_17 (tgt := 73) rfl (n := 20) rfl (fun hc17 => ?_) (fun hc17 => ?_)
        · refine fv_iincN C d_M_orderAt_73 (n := 76) rfl rfl (by decide) (L' := [_, _, _, _, _, _]) rfl ?_
          refine fv_goto C d_M_orderAt_76 (tgt := 2) rfl ?_
          refine fv_drop 4 rfl ?_
          refine fv_drop 5 rfl ?_
          refine ih (q + 1) (by omega) (fun t b ht hb hbs => ?_)
          by_cases c : t = q
          · subst c; exact absurd (by rw [ho] at hb; cases hb; exact hbs) hc17
          · exact hno t b (by omega) hb hbs
        · refine fv_iconst C d_M_orderAt_20 (n := 21) rfl kI_0 ?_
          refine fv_istore C d_M_orderAt_21 (n := 23) rfl (by decide) (L' := [_, _, _, _, _, _]) rfl ?_
          refine fv_iconst C d_M_orderAt_23 (n := 24) rfl kI_0 ?_
          refine fv_istore C d_M_orderAt_24 (n := 26) rfl (by decide) (L' := [_, _, _, _, _, _]) rfl ?_
          exact loop2 hc17 lo.length 0 (by omega)
  refine fv_iconst C d_M_orderAt_0 (n := 1) rfl kI_0 ?_
  refine fv_istore_n C d_M_orderAt_1 (n := 2) rfl (i := 3) rfl (by decide) (L' := [_, _, _, _, _, _]) rfl ?_
  exact loop lo.length 0 (by omega) (fun t b ht => absurd ht (by omega))
theorem ct_M_levelAt {s lev : Nat} (hM : MC dA h m0 ev pk lo.length bh sh F) (h24 : lo.length ≤ 24) (hA : BA F lo) (hs2 : s < 2) (h2 : bo_two lo) (hlev : lev < 2 ^ 31) : fv_T l (fk D dA) Bs WA m_M_levelAt [.ref m0, .int (nI s), .int (nI lev)] sz h 0 0 (fp_i sz (fun r h' => h' = h ∧ ((r = -1 ∧ (bo_dp (bo_srt s lo))[lev]? = none) ∨ ∃ k b, r = nI k ∧ k < lo.length ∧ lo[k]? = some b ∧ (bo_dp (bo_srt s lo))[lev]? = some b.2.2.1))) := by
  have hTl : (bo_srt s lo).length ≤ 24 := by rw [bo_srt_len]; exact Nat.le_trans (List.length_filter_le _ _) h24
  refine fv_of (L := [_, _, _, _, _, _, _]) (by decide +kernel) rfl (Nat.le_of_ble_eq_true rfl) rfl ?_
  intro X hX C
  subst hX
  have loop : ∀ m i (bf : Int32), i + m = 24 → i ≤ (bo_srt s lo).length → (bo_dp ((bo_srt s lo).take i)).length ≤ lev → ((i = 0 ∧ bf = -1) ∨ ∃ kb bb, bf = nI kb ∧ kb < lo.length ∧ lo[kb]? = some bb ∧ ((bo_srt s lo).take i).getLast? = some bb) → fv_V (fk D dA) Bs X 7 (fv_MQ (fk D dA) Bs X (fp_i sz (fun r h' => h' = h ∧ ((r = -1 ∧ (bo_dp (bo_srt s lo))[lev]? = none) ∨ ∃ k b, r = nI k ∧ k < lo.length ∧ lo[k]? = some b ∧ (bo_dp (bo_srt s lo))[lev]? = some b.2.2.1))) 0 0) 8 [some (.ref m0), some (.int (nI s)), some (.int (nI lev)), some (.int (nm (bo_dp ((bo_srt s lo).take i)).length)), some (.int bf), some (.int (nI i)), none] [] sz h 0 0 := by
    intro m
    induction m with
    | zero =>
      intro i bf hi hil hd hbf
      refine fv_iload C d_M_levelAt_8 (n := 10) rfl rfl ?_
      refine fv_bipush C d_M_levelAt_10 (n := 12) rfl kB_24 ?_
      refine fv_icmpN_ge C (by omega) (by omega) d_M_levelAt_12 (tgt := 74) rfl (n := 15) rfl (fun hc12 => ?_) (fun hc12 => ?_)
      · refine fv_iconst C d_M_levelAt_74 (n := 75) rfl kI_m1 ?_
        refine fv_iret C rfl d_M_levelAt_75 (Nat.le_refl _) (Nat.le_refl _) ?_
        refine ⟨_, rfl, rfl, rfl, Or.inl ⟨rfl, ?_⟩⟩
        rw [List.take_of_length_le (by omega)] at hd
        rw [List.getElem?_eq_none_iff]; exact hd
      · exact absurd hc12 (by omega)
    | succ m ih =>
      intro i bf hi hil hd hbf
      refine fv_iload C d_M_levelAt_8 (n := 10) rfl rfl ?_
      refine fv_bipush C d_M_levelAt_10 (n := 12) rfl kB_24 ?_
      refine fv_icmpN_ge C (by omega) (by omega) d_M_levelAt_12 (tgt := 74) rfl (n := 15) rfl (fun hc12 => ?_) (fun hc12 => ?_)
      · exact absurd hc12 (by omega)
      · refine fv_aload_n C d_M_levelAt_15 (n := 16) rfl (i := 0) rfl rfl ?_
        refine fv_iload_n C d_M_levelAt_16 (n := 17) rfl (i := 1) rfl rfl ?_
        refine fv_iload C d_M_levelAt_17 (n := 19) rfl rfl ?_
        refine fv_callV_i C (ml_M_132 D dA) im_M_orderAt se_M_orderAt hM.1 rfl (ct_M_orderAt hM h24 hA hs2 h2 (by omega)) d_M_levelAt_19 (n := 22) rfl rfl rfl rfl (Nat.le_of_ble_eq_true rfl) (Nat.le_of_ble_eq_true rfl) (Nat.le_of_ble_eq_true rfl) (Nat.le_refl _) (Nat.le_refl _) (fun r0 h1 hp => ?_)
        obtain ⟨hh, hp⟩ := hp
        rw [hh]
        obtain ⟨rfl, hz⟩ | ⟨k, o, rfl, hk, hko, hos, hTi⟩ := hp
        · have hTe : (bo_srt s lo).take i = bo_srt s lo := List.take_of_length_le hz
          rw [hTe] at hd
          refine fv_istore C d_M_levelAt_22 (n := 24) rfl (by decide) (L' := [_, _, _, _, _, _, _]) rfl ?_
          refine fv_iload C d_M_levelAt_24 (n := 26) rfl rfl ?_
          refine fv_if_ge C d_M_levelAt_26 (tgt := 31) rfl (n := 29) rfl (fun hc26 => ?_) (fun hc26 => ?_)
          · exact absurd hc26 (by decide)
          · refine fv_iconst C d_M_levelAt_29 (n := 30) rfl kI_m1 ?_
            refine fv_iret C rfl d_M_levelAt_30 (Nat.le_refl _) (Nat.le_refl _) ?_
            refine ⟨_, rfl, rfl, rfl, Or.inl ⟨rfl, ?_⟩⟩
            rw [List.getElem?_eq_none_iff]; exact hd
        have hil2 : i < (bo_srt s lo).length := (List.getElem?_eq_some_iff.mp hTi).1
        have htk : (bo_srt s lo).take (i + 1) = (bo_srt s lo).take i ++ [o] := by rw [List.take_succ, hTi]; rfl
        have hgr := bo_dp_grow ((bo_srt s lo).take i) o
        rw [← htk] at hgr
        have hlast : (bo_dp ((bo_srt s lo).take (i + 1))).getLast? = some o.2.2.1 := by rw [bo_dp_last, htk]; simp
        have hdl := bo_dp_last ((bo_srt s lo).take i)
        have o2 := (hA k o hko).2.2.1
        have hc100 := bo_dp_len ((bo_srt s lo).take (i + 1))
        rw [List.length_take] at hc100
        have fin : fv_V (fk D dA) Bs X 7 (fv_MQ (fk D dA) Bs X (fp_i sz (fun r h' => h' = h ∧ ((r = -1 ∧ (bo_dp (bo_srt s lo))[lev]? = none) ∨ ∃ k b, r = nI k ∧ k < lo.length ∧ lo[k]? = some b ∧ (bo_dp (bo_srt s lo))[lev]? = some b.2.2.1))) 0 0) 56 [some (.ref m0), some (.int (nI s)), some (.int (nI lev)), some (.int (nm (bo_dp ((bo_srt s lo).take (i + 1))).length)), some (.int bf), some (.int (nI i)), some (.int (nI k))] [] sz h 0 0 := by
          refine fv_iload_n C d_M_levelAt_56 (n := 57) rfl (i := 3) rfl rfl ?_
          refine fv_iload_n C d_M_levelAt_57 (n := 58) rfl (i := 2) rfl rfl ?_
          refine fv_icmp_ne C d_M_levelAt_58 (tgt := 64) rfl (n := 61) rfl (fun hc58 => ?_) (fun hc58 => ?_)
          · have hne : (bo_dp ((bo_srt s lo).take (i + 1))).length ≠ lev + 1 := fun q => hc58 ((nm_eq (by omega) hlev).mpr q)
            refine fv_iload C d_M_levelAt_64 (n := 66) rfl rfl ?_
            refine fv_istore C d_M_levelAt_66 (n := 68) rfl (by decide) (L' := [_, _, _, _, _, _, _]) rfl ?_
            refine fv_iincN C d_M_levelAt_68 (n := 71) rfl rfl (by decide) (L' := [_, _, _, _, _, _, _]) rfl ?_
            refine fv_goto C d_M_levelAt_71 (tgt := 8) rfl ?_
            refine fv_drop 6 rfl ?_
            refine ih (i + 1) _ (by omega) (by omega) ?_ (Or.inr ⟨k, o, rfl, hk, hko, by rw [htk]; simp⟩)
            have : (bo_dp ((bo_srt s lo).take (i + 1))).length ≤ lev + 1 := by rw [hgr]; split <;> omega
            omega
          · have heq : (bo_dp ((bo_srt s lo).take (i + 1))).length = lev + 1 := (nm_eq (by omega) hlev).mp hc58
            refine fv_iload C d_M_levelAt_61 (n := 63) rfl rfl ?_
            refine fv_iret C rfl d_M_levelAt_63 (Nat.le_refl _) (Nat.le_refl _) ?_
            refine ⟨_, rfl, rfl, rfl, Or.inr ⟨k, o, rfl, hk, hko, ?_⟩⟩
            have h8 : (bo_dp ((bo_srt s lo).take (i + 1)))[lev]? = some o.2.2.1 := by rw [← bo_get_last heq]; exact hlast
            have h9 := bo_dp_ext (r := (bo_srt s lo).drop (i + 1)) h8
            rw [List.take_append_drop] at h9
            exact h9
        have up : (bo_dp ((bo_srt s lo).take (i + 1))).length = (bo_dp ((bo_srt s lo).take i)).length + 1 → fv_V (fk D dA) Bs X 7 (fv_MQ (fk D dA) Bs X (fp_i sz (fun r h' => h' = h ∧ ((r = -1 ∧ (bo_dp (bo_srt s lo))[lev]? = none) ∨ ∃ k b, r = nI k ∧ k < lo.length ∧ lo[k]? = some b ∧ (bo_dp (bo_srt s lo))[lev]? = some b.2.2.1))) 0 0) 53 [some (.ref m0), some (.int (nI s)), some (.int (nI lev)), some (.int (nm (bo_dp ((bo_srt s lo).take i)).length)), some (.int bf), some (.int (nI i)), some (.int (nI k))] [] sz h 0 0 := by
          intro hup
          refine fv_iinc C d_M_levelAt_53 (n := 56) rfl rfl (nm_inc _) (by decide) (L' := [_, _, _, _, _, _, _]) rfl ?_
          rw [← hup]
          exact fin
        rcases hbf with ⟨hi0, rfl⟩ | ⟨kb, bb, rfl, hkb, hkbb, hgl⟩
        · have hup : (bo_dp ((bo_srt s lo).take (i + 1))).length = (bo_dp ((bo_srt s lo).take i)).length + 1 := by rw [hgr, if_neg (by rw [hi0]; simp [bo_dp])]
          refine fv_istore C d_M_levelAt_22 (n := 24) rfl (by decide) (L' := [_, _, _, _, _, _, _]) rfl ?_
          refine fv_iload C d_M_levelAt_24 (n := 26) rfl rfl ?_
          refine fv_ifN_ge C (by omega) d_M_levelAt_26 (tgt := 31) rfl (n := 29) rfl ?_
          refine fv_iload C d_M_levelAt_31 (n := 33) rfl rfl ?_
          refine fv_if_lt C d_M_levelAt_33 (tgt := 53) rfl (n := 36) rfl (fun hc33 => ?_) (fun hc33 => ?_)
          · exact up hup
          · exact absurd (by decide) hc33
        · have b2 := (hA kb bb hkbb).2.2.1
          rw [hgl] at hdl
          refine fv_istore C d_M_levelAt_22 (n := 24) rfl (by decide) (L' := [_, _, _, _, _, _, _]) rfl ?_
          refine fv_iload C d_M_levelAt_24 (n := 26) rfl rfl ?_
          refine fv_ifN_ge C (by omega) d_M_levelAt_26 (tgt := 31) rfl (n := 29) rfl ?_
          refine fv_iload C d_M_levelAt_31 (n := 33) rfl rfl ?_
          refine fv_ifN_lt C (by omega) d_M_levelAt_33 (tgt := 53) rfl (n := 36) rfl ?_
          refine fv_aload_n C d_M_levelAt_36 (n := 37) rfl (i := 0) rfl rfl ?_
          refine fv_get C (fl_M_43 D dA) d_M_levelAt_37 (n := 40) rfl hM.1 rfl ?_
          refine fv_iload C d_M_levelAt_40 (n := 42) rfl rfl ?_
          refine fv_ialdN C (t0 := 0) rfl d_M_levelAt_42 (n := 43) rfl (mc_12 hM) (by omega) (by decide) ?_
          rw [o2]
          refine fv_aload_n C d_M_levelAt_43 (n := 44) rfl (i := 0) rfl rfl ?_
          refine fv_get C (fl_M_43 D dA) d_M_levelAt_44 (n := 47) rfl hM.1 rfl ?_
          refine fv_iload C d_M_levelAt_47 (n := 49) rfl rfl ?_
          refine fv_ialdN C (t0 := 0) rfl d_M_levelAt_49 (n := 50) rfl (mc_12 hM) (by omega) (by decide) ?_
          rw [b2]
          refine fv_icmp_eq C d_M_levelAt_50 (tgt := 56) rfl (n := 53) rfl (fun hc50 => ?_) (fun hc50 => ?_)
          · have hsm : (bo_dp ((bo_srt s lo).take (i + 1))).length = (bo_dp ((bo_srt s lo).take i)).length := by rw [hgr, if_pos (by rw [hdl, hc50]; rfl)]
            rw [← hsm]
            exact fin
          · exact up (by rw [hgr, if_neg (fun q => hc50 (by rw [hdl] at q; exact (Option.some.inj q).symm))])
  refine fv_iconst C d_M_levelAt_0 (n := 1) rfl kI_m1 ?_
  refine fv_istore_n C d_M_levelAt_1 (n := 2) rfl (i := 3) rfl (by decide) (L' := [_, _, _, _, _, _, _]) rfl ?_
  refine fv_iconst C d_M_levelAt_2 (n := 3) rfl kI_m1 ?_
  refine fv_istore C d_M_levelAt_3 (n := 5) rfl (by decide) (L' := [_, _, _, _, _, _, _]) rfl ?_
  refine fv_iconst C d_M_levelAt_5 (n := 6) rfl kI_0 ?_
  refine fv_istore C d_M_levelAt_6 (n := 8) rfl (by decide) (L' := [_, _, _, _, _, _, _]) rfl ?_
  exact loop 24 0 (-1) (by omega) (Nat.zero_le _) (by simp [bo_dp]) (Or.inl ⟨rfl, rfl⟩)
theorem ct_M_ofLevel {s lev wh : Nat} (hM : MC dA h m0 ev pk lo.length bh sh F) (h24 : lo.length ≤ 24) (hA : BA F lo) (hs2 : s < 2) (h2 : bo_two lo) (hlev : lev < 2 ^ 31) (hw : wh < 3) : fv_T l (fk D dA) Bs WA m_M_ofLevel [.ref m0, .int (nI s), .int (nI lev), .int (nI wh)] sz h 0 0 (fp_r (.int (bo_lv (bo_srt s lo) lev wh)) sz h) := by
  refine fv_of (L := [_, _, _, _, _, _, _, _]) (by decide +kernel) rfl (Nat.le_of_ble_eq_true rfl) rfl ?_
  intro X hX C
  subst hX
  refine fv_aload_n C d_M_ofLevel_0 (n := 1) rfl (i := 0) rfl rfl ?_
  refine fv_iload_n C d_M_ofLevel_1 (n := 2) rfl (i := 1) rfl rfl ?_
  refine fv_iload_n C d_M_ofLevel_2 (n := 3) rfl (i := 2) rfl rfl ?_
  refine fv_callV_i C (ml_M_136 D dA) im_M_levelAt se_M_levelAt hM.1 rfl (ct_M_levelAt hM h24 hA hs2 h2 hlev) d_M_ofLevel_3 (n := 6) rfl rfl rfl rfl (Nat.le_of_ble_eq_true rfl) (Nat.le_of_ble_eq_true rfl) (Nat.le_of_ble_eq_true rfl) (Nat.le_refl _) (Nat.le_refl _) (fun r0 h1 hp => ?_)
  obtain ⟨hh, hp⟩ := hp
  rw [hh]
  obtain ⟨rfl, hz⟩ | ⟨k, o, rfl, hk, hko, hdp⟩ := hp
  · have hans : bo_lv (bo_srt s lo) lev wh = -2000000 := by unfold bo_lv; rw [hz]
    refine fv_istore C d_M_ofLevel_6 (n := 8) rfl (by decide) (L' := [_, _, _, _, _, _, _, _]) rfl ?_
    refine fv_iload C d_M_ofLevel_8 (n := 10) rfl rfl ?_
    refine fv_if_ge C d_M_ofLevel_10 (tgt := 16) rfl (n := 13) rfl (fun hc10 => ?_) (fun hc10 => ?_)
    · exact absurd hc10 (by decide)
    · refine fv_ldc C d_M_ofLevel_13 (n := 15) rfl kc_M_139 ?_
      refine fv_iret C rfl d_M_ofLevel_15 (Nat.le_refl _) (Nat.le_refl _) ?_
      exact ⟨by rw [hans], rfl, rfl⟩
  have o2 := (hA k o hko).2.2.1
  have hsum := bo_sum_srt s o.2.2.1 _ lo rfl
  have hans : bo_lv (bo_srt s lo) lev wh = if wh = 0 then o.2.2.1 else if wh = 1 then bo_asum s o.2.2.1 lo else nI (bo_acnt s o.2.2.1 lo) := by unfold bo_lv; rw [hdp]; show (if wh = 0 then o.2.2.1 else if wh = 1 then bo_sum o.2.2.1 (bo_srt s lo) else nI (bo_cnt o.2.2.1 (bo_srt s lo))) = _; rw [hsum.1, hsum.2]
  have loop : ¬ wh = 0 → ∀ m j, j + m = lo.length → fv_V (fk D dA) Bs X 8 (fv_MQ (fk D dA) Bs X (fp_r (.int (bo_lv (bo_srt s lo) lev wh)) sz h) 0 0) 37 [some (.ref m0), some (.int (nI s)), some (.int (nI lev)), some (.int (nI wh)), some (.int (nI k)), some (.int (bo_asum s o.2.2.1 (lo.take j))), some (.int (nI (bo_acnt s o.2.2.1 (lo.take j)))), some (.int (nI j))] [] sz h 0 0 := by
    intro hw0 m
    rw [if_neg hw0] at hans
    induction m with
    | zero =>
      intro j hj
      have hjl : j = lo.length := by omega
      rw [hjl, List.take_length]
      refine fv_iload C d_M_ofLevel_37 (n := 39) rfl rfl ?_
      refine fv_aload_n C d_M_ofLevel_39 (n := 40) rfl (i := 0) rfl rfl ?_
      refine fv_get C (fl_M_106 D dA) d_M_ofLevel_40 (n := 43) rfl hM.1 rfl ?_
      refine fv_icmpN_ge C (by omega) (by omega) d_M_ofLevel_43 (tgt := 95) rfl (n := 46) rfl (fun hc43 => ?_) (fun hc43 => ?_)
      · refine fv_iload_n C d_M_ofLevel_95 (n := 96) rfl (i := 3) rfl rfl ?_
        refine fv_iconst C d_M_ofLevel_96 (n := 97) rfl kI_1 ?_
        refine fv_icmpN_ne C (by omega) (by omega) d_M_ofLevel_97 (tgt := 105) rfl (n := 100) rfl (fun hc97 => ?_) (fun hc97 => ?_)
        · rw [if_neg hc97] at hans
          refine fv_iload C d_M_ofLevel_105 (n := 107) rfl rfl ?_
          refine fv_iret C rfl d_M_ofLevel_107 (Nat.le_refl _) (Nat.le_refl _) ?_
          exact ⟨by rw [hans], rfl, rfl⟩
        · rw [if_pos hc97] at hans
          refine fv_iload C d_M_ofLevel_100 (n := 102) rfl rfl ?_
          refine fv_goto C d_M_ofLevel_102 (tgt := 107) rfl ?_
          refine fv_iret C rfl d_M_ofLevel_107 (Nat.le_refl _) (Nat.le_refl _) ?_
          exact ⟨by rw [hans], rfl, rfl⟩
      · exact absurd hc43 (by omega)
    | succ m ih =>
      intro j hj
      obtain ⟨a, ha⟩ : ∃ a, lo[j]? = some a := ⟨_, List.getElem?_eq_getElem (by omega)⟩
      obtain ⟨-, a1, a2, a3⟩ := hA j a ha
      have av := h2 a (List.mem_of_getElem? ha)
      have htk : lo.take (j + 1) = lo.take j ++ [a] := by rw [List.take_succ, ha]; rfl
      have e1 := bo_asum_app s o.2.2.1 (lo.take j) a
      have e2 := bo_acnt_app s o.2.2.1 (lo.take j) a
      rw [← htk] at e1 e2
      refine fv_iload C d_M_ofLevel_37 (n := 39) rfl rfl ?_
      refine fv_aload_n C d_M_ofLevel_39 (n := 40) rfl (i := 0) rfl rfl ?_
      refine fv_get C (fl_M_106 D dA) d_M_ofLevel_40 (n := 43) rfl hM.1 rfl ?_
      refine fv_icmpN_ge C (by omega) (by omega) d_M_ofLevel_43 (tgt := 95) rfl (n := 46) rfl (fun hc43 => ?_) (fun hc43 => ?_)
      · exact absurd hc43 (by omega)
      · refine fv_aload_n C d_M_ofLevel_46 (n := 47) rfl (i := 0) rfl rfl ?_
        refine fv_get C (fl_M_40 D dA) d_M_ofLevel_47 (n := 50) rfl hM.1 rfl ?_
        refine fv_iload C d_M_ofLevel_50 (n := 52) rfl rfl ?_
        refine fv_ialdN C (t0 := 0) rfl d_M_ofLevel_52 (n := 53) rfl (mc_11 hM) (by omega) (by decide) ?_
        rw [a1]
        refine fv_iload_n C d_M_ofLevel_53 (n := 54) rfl (i := 1) rfl rfl ?_
        refine fv_icmpN_ne C (by omega) (by omega) d_M_ofLevel_54 (tgt := 89) rfl (n := 57) rfl (fun hc54 => ?_) (fun hc54 => ?_)
        · rw [if_neg (fun q => hc54 q.1)] at e1 e2
          rw [← e1, ← e2]
          refine fv_iincN C d_M_ofLevel_89 (n := 92) rfl rfl (by decide) (L' := [_, _, _, _, _, _, _, _]) rfl ?_
          refine fv_goto C d_M_ofLevel_92 (tgt := 37) rfl ?_
          first | exact ih (j + 1) (by omega) | (rw [← e1, ← e2]; exact ih (j + 1) (by omega))
        · refine fv_aload_n C d_M_ofLevel_57 (n := 58) rfl (i := 0) rfl rfl ?_
          refine fv_get C (fl_M_43 D dA) d_M_ofLevel_58 (n := 61) rfl hM.1 rfl ?_
          refine fv_iload C d_M_ofLevel_61 (n := 63) rfl rfl ?_
          refine fv_ialdN C (t0 := 0) rfl d_M_ofLevel_63 (n := 64) rfl (mc_12 hM) (by omega) (by decide) ?_
          rw [a2]
          refine fv_aload_n C d_M_ofLevel_64 (n := 65) rfl (i := 0) rfl rfl ?_
          refine fv_get C (fl_M_43 D dA) d_M_ofLevel_65 (n := 68) rfl hM.1 rfl ?_
          refine fv_iload C d_M_ofLevel_68 (n := 70) rfl rfl ?_
          refine fv_ialdN C (t0 := 0) rfl d_M_ofLevel_70 (n := 71) rfl (mc_12 hM) (by omega) (by decide) ?_
          rw [o2]
          refine fv_icmp_ne C d_M_ofLevel_71 (tgt := 89) rfl (n := 74) rfl (fun hc71 => ?_) (fun hc71 => ?_)
          · rw [if_neg (fun q => hc71 q.2)] at e1 e2
            rw [← e1, ← e2]
            refine fv_iincN C d_M_ofLevel_89 (n := 92) rfl rfl (by decide) (L' := [_, _, _, _, _, _, _, _]) rfl ?_
            refine fv_goto C d_M_ofLevel_92 (tgt := 37) rfl ?_
            first | exact ih (j + 1) (by omega) | (rw [← e1, ← e2]; exact ih (j + 1) (by omega))
          · rw [if_pos ⟨hc54, hc71⟩] at e1 e2
            refine fv_iload C d_M_ofLevel_74 (n := 76) rfl rfl ?_
            refine fv_aload_n C d_M_ofLevel_76 (n := 77) rfl (i := 0) rfl rfl ?_
            refine fv_get C (fl_M_46 D dA) d_M_ofLevel_77 (n := 80) rfl hM.1 rfl ?_
            refine fv_iload C d_M_ofLevel_80 (n := 82) rfl rfl ?_
            refine fv_ialdN C (t0 := 0) rfl d_M_ofLevel_82 (n := 83) rfl (mc_13 hM) (by omega) (by decide) ?_
            rw [a3]
            refine fv_iadd C d_M_ofLevel_83 (n := 84) rfl ?_
            refine fv_istore C d_M_ofLevel_84 (n := 86) rfl (by decide) (L' := [_, _, _, _, _, _, _, _]) rfl ?_
            refine fv_iincN C d_M_ofLevel_86 (n := 89) rfl rfl (by decide) (L' := [_, _, _, _, _, _, _, _]) rfl ?_
            refine fv_iincN C d_M_ofLevel_89 (n := 92) rfl rfl (by decide) (L' := [_, _, _, _, _, _, _, _]) rfl ?_
            refine fv_goto C d_M_ofLevel_92 (tgt := 37) rfl ?_
            first | exact ih (j + 1) (by omega) | (rw [← e1, ← e2]; exact ih (j + 1) (by omega))
  refine fv_istore C d_M_ofLevel_6 (n := 8) rfl (by decide) (L' := [_, _, _, _, _, _, _, _]) rfl ?_
  refine fv_iload C d_M_ofLevel_8 (n := 10) rfl rfl ?_
  refine fv_ifN_ge C (by omega) d_M_ofLevel_10 (tgt := 16) rfl (n := 13) rfl ?_
  refine fv_iload_n C d_M_ofLevel_16 (n := 17) rfl (i := 3) rfl rfl ?_
  refine fv_ifN_ne C (by omega) d_M_ofLevel_17 (tgt := 28) rfl (n := 20) rfl (fun hc17 => ?_) (fun hc17 => ?_)
  · refine fv_iconst C d_M_ofLevel_28 (n := 29) rfl kI_0 ?_
    refine fv_istore C d_M_ofLevel_29 (n := 31) rfl (by decide) (L' := [_, _, _, _, _, _, _, _]) rfl ?_
    refine fv_iconst C d_M_ofLevel_31 (n := 32) rfl kI_0 ?_
    refine fv_istore C d_M_ofLevel_32 (n := 34) rfl (by decide) (L' := [_, _, _, _, _, _, _, _]) rfl ?_
    refine fv_iconst C d_M_ofLevel_34 (n := 35) rfl kI_0 ?_
    refine fv_istore C d_M_ofLevel_35 (n := 37) rfl (by decide) (L' := [_, _, _, _, _, _, _, _]) rfl ?_
    exact loop hc17 lo.length 0 (by omega)
  · rw [if_pos hc17] at hans
    refine fv_aload_n C d_M_ofLevel_20 (n := 21) rfl (i := 0) rfl rfl ?_
    refine fv_get C (fl_M_43 D dA) d_M_ofLevel_21 (n := 24) rfl hM.1 rfl ?_
    refine fv_iload C d_M_ofLevel_24 (n := 26) rfl rfl ?_
    refine fv_ialdN C (t0 := 0) rfl d_M_ofLevel_26 (n := 27) rfl (mc_12 hM) (by omega) (by decide) ?_
    rw [o2]
    refine fv_iret C rfl d_M_ofLevel_27 (Nat.le_refl _) (Nat.le_refl _) ?_
    exact ⟨by rw [hans], rfl, rfl⟩
theorem ct_M_look {kk : Nat} (hBs : Bs ≤ m0) (hM : MC dA h m0 ev pk lo.length bh sh F) (h24 : lo.length ≤ 24) (hA : BA F lo) (h2 : bo_two lo) (hkk : kk = 14 ∨ kk = 15) : fv_T l (fk D dA) Bs WA m_M_look [.ref m0, .ref (m0 + kk)] sz h 0 0 (fp_v sz (fun h' => (∃ F', MC dA h' m0 ev pk lo.length bh sh F' ∧ (∀ c, c < 19 → F' kk c = fe_vw (lo, bh) c) ∧ ∀ q, q ≠ kk → F' q = F q) ∧ fs h h' (MS m0))) := by
  have hml : ml kk = 19 := by rcases hkk with rfl | rfl <;> rfl
  have hmt : mt kk = 0 := by rcases hkk with rfl | rfl <;> rfl
  refine fv_of (L := [_, _, _, _, _]) (by decide +kernel) rfl (Nat.le_of_ble_eq_true rfl) rfl ?_
  intro X hX C
  subst hX
  have L1 : ∀ m s (h1 : fv_H) (F1 : Nat → Nat → Int32), s + m = 2 → MC dA h1 m0 ev pk lo.length bh sh F1 → (∀ c, c < 9 * s → F1 kk c = fe_vw (lo, bh) c) → (∀ q, q ≠ kk → F1 q = F q) → fs h h1 (MS m0) → fv_V (fk D dA) Bs X 5 (fv_MQ (fk D dA) Bs X (fp_v sz (fun h' => (∃ F', MC dA h' m0 ev pk lo.length bh sh F' ∧ (∀ c, c < 19 → F' kk c = fe_vw (lo, bh) c) ∧ ∀ q, q ≠ kk → F' q = F q) ∧ fs h h' (MS m0))) 0 0) 2 [some (.ref m0), some (.ref (m0 + kk)), some (.int (nI s)), none, none] [] sz h1 0 0 := by
    intro m
    induction m with
    | zero =>
      intro s h1 F1 hs hM hc hq hF
      have hs2 : s = 2 := by omega
      subst hs2
      refine fv_iload_n C d_M_look_2 (n := 3) rfl (i := 2) rfl rfl ?_
      refine fv_iconst C d_M_look_3 (n := 4) rfl kI_2 ?_
      refine fv_icmpN_ge C (by omega) (by omega) d_M_look_4 (tgt := 62) rfl (n := 7) rfl (fun hc4 => ?_) (fun hc4 => ?_)
      · refine fv_aload_n C d_M_look_62 (n := 63) rfl (i := 1) rfl rfl ?_
        refine fv_bipush C d_M_look_63 (n := 65) rfl kB_18 ?_
        refine fv_aload_n C d_M_look_65 (n := 66) rfl (i := 0) rfl rfl ?_
        refine fv_get C (fl_M_118 D dA) d_M_look_66 (n := 69) rfl hM.1 rfl ?_
        refine fv_ifB_eq C d_M_look_69 (tgt := 76) rfl (n := 72) rfl (fun hc69 => ?_) (fun hc69 => ?_)
        · have hv : fe_vw (lo, bh) 18 = nI 0 := by unfold fe_vw; rw [if_neg (by decide), hc69]; rfl
          refine fv_iconst C d_M_look_76 (n := 77) rfl kI_0 ?_
          refine mc_ia C kk (by omega) (by omega) hmt d_M_look_77 (n := 78) rfl hM hBs (by omega) (by omega) (fun h1 F2 hM g1 g2 f1 => ?_)
          refine fv_vret C rfl d_M_look_78 (Nat.le_refl _) (Nat.le_refl _) ?_
          refine ⟨rfl, rfl, ⟨F2, hM, fun c hc18 => ?_, fun q hqk => (g2 q hqk).trans (hq q hqk)⟩, hF.tr f1 (fun x hx => hx) (fun x hx => hx)⟩
          rw [g1]
          unfold upd
          by_cases c9 : c = 18
          · rw [if_pos c9, c9, hv]
          · rw [if_neg c9]; exact hc c (by omega)
        · have hv : fe_vw (lo, bh) 18 = nI 1 := by unfold fe_vw; rw [if_neg (by decide), hc69]; rfl
          refine fv_iconst C d_M_look_72 (n := 73) rfl kI_1 ?_
          refine fv_goto C d_M_look_73 (tgt := 77) rfl ?_
          refine mc_ia C kk (by omega) (by omega) hmt d_M_look_77 (n := 78) rfl hM hBs (by omega) (by omega) (fun h1 F2 hM g1 g2 f1 => ?_)
          refine fv_vret C rfl d_M_look_78 (Nat.le_refl _) (Nat.le_refl _) ?_
          refine ⟨rfl, rfl, ⟨F2, hM, fun c hc18 => ?_, fun q hqk => (g2 q hqk).trans (hq q hqk)⟩, hF.tr f1 (fun x hx => hx) (fun x hx => hx)⟩
          rw [g1]
          unfold upd
          by_cases c9 : c = 18
          · rw [if_pos c9, c9, hv]
          · rw [if_neg c9]; exact hc c (by omega)
      · exact absurd hc4 (by omega)
    | succ m ih =>
      intro s h1 F1 hs hM hc hq hF
      have L2 : ∀ m2 lv (h1 : fv_H) (F1 : Nat → Nat → Int32), lv + m2 = 3 → MC dA h1 m0 ev pk lo.length bh sh F1 → (∀ c, c < 9 * s + 3 * lv → F1 kk c = fe_vw (lo, bh) c) → (∀ q, q ≠ kk → F1 q = F q) → fs h h1 (MS m0) → fv_V (fk D dA) Bs X 5 (fv_MQ (fk D dA) Bs X (fp_v sz (fun h' => (∃ F', MC dA h' m0 ev pk lo.length bh sh F' ∧ (∀ c, c < 19 → F' kk c = fe_vw (lo, bh) c) ∧ ∀ q, q ≠ kk → F' q = F q) ∧ fs h h' (MS m0))) 0 0) 9 [some (.ref m0), some (.ref (m0 + kk)), some (.int (nI s)), some (.int (nI lv)), none] [] sz h1 0 0 := by
        intro m2
        induction m2 with
        | zero =>
          intro lv h1 F1 hl hM hc hq hF
          refine fv_iload_n C d_M_look_9 (n := 10) rfl (i := 3) rfl rfl ?_
          refine fv_iconst C d_M_look_10 (n := 11) rfl kI_3 ?_
          refine fv_icmpN_ge C (by omega) (by omega) d_M_look_11 (tgt := 56) rfl (n := 14) rfl (fun hc11 => ?_) (fun hc11 => ?_)
          · refine fv_iincN C d_M_look_56 (n := 59) rfl rfl (by decide) (L' := [_, _, _, _, _]) rfl ?_
            refine fv_goto C d_M_look_59 (tgt := 2) rfl ?_
            refine fv_drop 3 rfl ?_
            refine ih (s + 1) h1 F1 (by omega) hM (fun c hc9 => hc c (by omega)) hq hF
          · exact absurd hc11 (by omega)
        | succ m2 ih2 =>
          intro lv h1 F1 hl hM hc hq hF
          have L3 : ∀ m3 wh (h1 : fv_H) (F1 : Nat → Nat → Int32), wh + m3 = 3 → MC dA h1 m0 ev pk lo.length bh sh F1 → (∀ c, c < 9 * s + 3 * lv + wh → F1 kk c = fe_vw (lo, bh) c) → (∀ q, q ≠ kk → F1 q = F q) → fs h h1 (MS m0) → fv_V (fk D dA) Bs X 5 (fv_MQ (fk D dA) Bs X (fp_v sz (fun h' => (∃ F', MC dA h' m0 ev pk lo.length bh sh F' ∧ (∀ c, c < 19 → F' kk c = fe_vw (lo, bh) c) ∧ ∀ q, q ≠ kk → F' q = F q) ∧ fs h h' (MS m0))) 0 0) 17 [some (.ref m0), some (.ref (m0 + kk)), some (.int (nI s)), some (.int (nI lv)), some (.int (nI wh))] [] sz h1 0 0 := by
            intro m3
            induction m3 with
            | zero =>
              intro wh h1 F1 hl hM hc hq hF
              refine fv_iload C d_M_look_17 (n := 19) rfl rfl ?_
              refine fv_iconst C d_M_look_19 (n := 20) rfl kI_3 ?_
              refine fv_icmpN_ge C (by omega) (by omega) d_M_look_20 (tgt := 50) rfl (n := 23) rfl (fun hc20 => ?_) (fun hc20 => ?_)
              · refine fv_iincN C d_M_look_50 (n := 53) rfl rfl (by decide) (L' := [_, _, _, _, _]) rfl ?_
                refine fv_goto C d_M_look_53 (tgt := 9) rfl ?_
                refine fv_drop 4 rfl ?_
                refine ih2 (lv + 1) h1 F1 (by omega) hM (fun c hc9 => hc c (by omega)) hq hF
              · exact absurd hc20 (by omega)
            | succ m3 ih3 =>
              intro wh h1 F1 hl hM hc hq hF
              have hA1 : BA F1 lo := fun j o ho => by rw [hq 10 (by omega), hq 11 (by omega), hq 12 (by omega), hq 13 (by omega)]; exact hA j o ho
              refine fv_iload C d_M_look_17 (n := 19) rfl rfl ?_
              refine fv_iconst C d_M_look_19 (n := 20) rfl kI_3 ?_
              refine fv_icmpN_ge C (by omega) (by omega) d_M_look_20 (tgt := 50) rfl (n := 23) rfl (fun hc20 => ?_) (fun hc20 => ?_)
              · exact absurd hc20 (by omega)
              · refine fv_aload_n C d_M_look_23 (n := 24) rfl (i := 1) rfl rfl ?_
                refine fv_bipush C d_M_look_24 (n := 26) rfl kB_9 ?_
                refine fv_iload_n C d_M_look_26 (n := 27) rfl (i := 2) rfl rfl ?_
                first | refine fv_imulN C d_M_look_27 (n := 28) rfl ?_ | refine fv_imul C d_M_look_27 (n := 28) rfl ?_
                refine fv_iconst C d_M_look_28 (n := 29) rfl kI_3 ?_
                refine fv_iload_n C d_M_look_29 (n := 30) rfl (i := 3) rfl rfl ?_
                first | refine fv_imulN C d_M_look_30 (n := 31) rfl ?_ | refine fv_imul C d_M_look_30 (n := 31) rfl ?_
                first | refine fv_iaddN C d_M_look_31 (n := 32) rfl ?_ | refine fv_iadd C d_M_look_31 (n := 32) rfl ?_
                refine fv_iload C d_M_look_32 (n := 34) rfl rfl ?_
                first | refine fv_iaddN C d_M_look_34 (n := 35) rfl ?_ | refine fv_iadd C d_M_look_34 (n := 35) rfl ?_
                refine fv_aload_n C d_M_look_35 (n := 36) rfl (i := 0) rfl rfl ?_
                refine fv_iload_n C d_M_look_36 (n := 37) rfl (i := 2) rfl rfl ?_
                refine fv_iload_n C d_M_look_37 (n := 38) rfl (i := 3) rfl rfl ?_
                refine fv_iload C d_M_look_38 (n := 40) rfl rfl ?_
                refine fv_callV_r C (ml_M_140 D dA) im_M_ofLevel se_M_ofLevel hM.1 rfl (ct_M_ofLevel hM h24 hA1 (by omega) h2 (by omega) (by omega)) d_M_look_40 (n := 43) rfl rfl rfl rfl (Nat.le_of_ble_eq_true rfl) (Nat.le_of_ble_eq_true rfl) (Nat.le_of_ble_eq_true rfl) (Nat.le_refl _) (Nat.le_refl _) ?_
                refine mc_ia C kk (by omega) (by omega) hmt d_M_look_43 (n := 44) rfl hM hBs (by omega) (by omega) (fun h1 F2 hM g1 g2 f1 => ?_)
                refine fv_iincN C d_M_look_44 (n := 47) rfl rfl (by decide) (L' := [_, _, _, _, _]) rfl ?_
                refine fv_goto C d_M_look_47 (tgt := 17) rfl ?_
                refine ih3 (wh + 1) _ F2 (by omega) hM (fun c hc9 => ?_) (fun q hqk => (g2 q hqk).trans (hq q hqk)) (hF.tr f1 (fun x hx => hx) (fun x hx => hx))
                rw [g1]
                unfold upd
                by_cases c9 : c = 9 * s + 3 * lv + wh
                · rw [if_pos c9, c9]
                  unfold fe_vw
                  rw [if_pos (by omega), show (9 * s + 3 * lv + wh) / 9 = s by omega, show (9 * s + 3 * lv + wh) % 9 / 3 = lv by omega, show (9 * s + 3 * lv + wh) % 3 = wh by omega]
                · rw [if_neg c9]; exact hc c (by omega)
          refine fv_iload_n C d_M_look_9 (n := 10) rfl (i := 3) rfl rfl ?_
          refine fv_iconst C d_M_look_10 (n := 11) rfl kI_3 ?_
          refine fv_icmpN_ge C (by omega) (by omega) d_M_look_11 (tgt := 56) rfl (n := 14) rfl (fun hc11 => ?_) (fun hc11 => ?_)
          · exact absurd hc11 (by omega)
          · refine fv_iconst C d_M_look_14 (n := 15) rfl kI_0 ?_
            refine fv_istore C d_M_look_15 (n := 17) rfl (by decide) (L' := [_, _, _, _, _]) rfl ?_
            exact L3 3 0 h1 F1 (by omega) hM (fun c hc9 => hc c (by omega)) hq hF
      refine fv_iload_n C d_M_look_2 (n := 3) rfl (i := 2) rfl rfl ?_
      refine fv_iconst C d_M_look_3 (n := 4) rfl kI_2 ?_
      refine fv_icmpN_ge C (by omega) (by omega) d_M_look_4 (tgt := 62) rfl (n := 7) rfl (fun hc4 => ?_) (fun hc4 => ?_)
      · exact absurd hc4 (by omega)
      · refine fv_iconst C d_M_look_7 (n := 8) rfl kI_0 ?_
        refine fv_istore_n C d_M_look_8 (n := 9) rfl (i := 3) rfl (by decide) (L' := [_, _, _, _, _]) rfl ?_
        exact L2 3 0 h1 F1 (by omega) hM (fun c hc9 => hc c (by omega)) hq hF
  refine fv_iconst C d_M_look_0 (n := 1) rfl kI_0 ?_
  refine fv_istore_n C d_M_look_1 (n := 2) rfl (i := 2) rfl (by decide) (L' := [_, _, _, _, _]) rfl ?_
  exact L1 2 0 h F (by omega) hM (fun c hc9 => absurd hc9 (by omega)) (fun _ _ => rfl) (fs_rf _ _)
end MD3
