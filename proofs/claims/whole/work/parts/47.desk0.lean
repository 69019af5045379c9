/-! FeedDesk: its checks of numbers -/
def iv (x : Int32) (a b : Nat) : Bool := decide (nI a ≤ x ∧ x ≤ nI b)
theorem iv_of {x : Int32} {a b : Nat} (hab : a ≤ b) (hb : b < 2 ^ 31) (h : iv x a b = true) : ∃ k, a ≤ k ∧ k ≤ b ∧ x = nI k := by
  obtain ⟨h1, h2⟩ := of_decide_eq_true h
  obtain ⟨p, hp, e⟩ := nI_of2 (nI_toInt hb) (fun q => by
    rw [Int32.lt_iff_toInt_lt, Int32.toInt_zero] at q
    rw [Int32.le_iff_toInt_le, nI_toInt (by omega)] at h1
    omega) h2
  subst e
  exact ⟨p, (nI_leI (by omega) (by omega)).mp h1, hp, rfl⟩
theorem iv_nI {k a b : Nat} (h1 : a ≤ k) (h2 : k ≤ b) (hb : b < 2 ^ 31) : iv (nI k) a b = true := decide_eq_true ⟨(nI_leI (by omega) (by omega)).mpr h1, (nI_leI (by omega) hb).mpr h2⟩
theorem iv_lo {x : Int32} {a b : Nat} (ha : a < 2 ^ 31) (h : x < nI a) : iv x a b = false := decide_eq_false (fun q => absurd h (Int32.not_lt.mpr q.1))
theorem iv_lo0 {x : Int32} {b : Nat} (h : x < 0) : iv x 0 b = false := iv_lo (by decide) (by rw [nI_0]; exact h)
theorem iv_hi {x : Int32} {a b : Nat} (hb : b + 1 < 2 ^ 31) (h : nI (b + 1) ≤ x) : iv x a b = false := decide_eq_false (fun q => by
  have h2 := q.2
  rw [Int32.le_iff_toInt_le, nI_toInt (by omega)] at h h2
  omega)
theorem iv_gt {x : Int32} {a b : Nat} (h : nI b < x) : iv x a b = false := decide_eq_false (fun q => absurd h (Int32.not_lt.mpr q.2))
theorem iv_in {x : Int32} {b : Nat} (hb : b + 1 < 2 ^ 31) (h1 : ¬ x < 0) (h2 : ¬ nI (b + 1) ≤ x) : iv x 0 b = true := decide_eq_true ⟨by rw [nI_0]; exact Int32.not_lt.mp h1, by
  rw [Int32.le_iff_toInt_le, nI_toInt (by omega)] at h2 ⊢
  omega⟩
theorem iv_in2 {x : Int32} {a b : Nat} (h1 : ¬ x < nI a) (h2 : ¬ nI b < x) : iv x a b = true := decide_eq_true ⟨Int32.not_lt.mp h1, Int32.not_lt.mp h2⟩
theorem nI_mil : nI 1000000 = 1000000 := by decide +kernel
def hb2 (r i : Int32) : Bool := (decide (r = -1) || iv r 0 1) && iv i 0 3
section DK0
variable {l : Launch} {D : va_G} {dA : Nat → ClassId} {Bs sz : Nat} {h : fv_H}
theorem ct_D_isInstrument {x : Int32} : fv_T l (fk D dA) Bs WA m_D_isInstrument [.int x] sz h 0 0 (fp_r (.int (fv_b (iv x 0 3))) sz h) := by
  refine fv_of (L := [_]) (by decide +kernel) rfl (Nat.le_of_ble_eq_true rfl) rfl ?_
  intro X hX C
  subst hX
  refine fv_iload_n C d_D_isInstrument_0 (n := 1) rfl (i := 0) rfl rfl ?_
  refine fv_if_lt C d_D_isInstrument_1 (tgt := 13) rfl (n := 4) rfl (fun hc1 => ?_) (fun hc1 => ?_)
  · have hcv : nI 0 = fv_b (iv x 0 3) := by rw [iv_lo0 hc1]; rfl
    refine fv_iconst C d_D_isInstrument_13 (n := 14) rfl kI_0 ?_
    rw [hcv]
    refine fv_zret C rfl d_D_isInstrument_14 (fv_b_nar _) (Nat.le_refl _) (Nat.le_refl _) ?_
    exact ⟨rfl, rfl, rfl⟩
  · refine fv_iload_n C d_D_isInstrument_4 (n := 5) rfl (i := 0) rfl rfl ?_
    refine fv_iconst C d_D_isInstrument_5 (n := 6) rfl kI_4 ?_
    refine fv_icmp_ge C d_D_isInstrument_6 (tgt := 13) rfl (n := 9) rfl (fun hc6 => ?_) (fun hc6 => ?_)
    · have hcv : nI 0 = fv_b (iv x 0 3) := by rw [iv_hi (by decide) hc6]; rfl
      refine fv_iconst C d_D_isInstrument_13 (n := 14) rfl kI_0 ?_
      rw [hcv]
      refine fv_zret C rfl d_D_isInstrument_14 (fv_b_nar _) (Nat.le_refl _) (Nat.le_refl _) ?_
      exact ⟨rfl, rfl, rfl⟩
    · have hcv : nI 1 = fv_b (iv x 0 3) := by rw [iv_in (by decide) hc1 hc6]; rfl
      refine fv_iconst C d_D_isInstrument_9 (n := 10) rfl kI_1 ?_
      refine fv_goto C d_D_isInstrument_10 (tgt := 14) rfl ?_
      rw [hcv]
      refine fv_zret C rfl d_D_isInstrument_14 (fv_b_nar _) (Nat.le_refl _) (Nat.le_refl _) ?_
      exact ⟨rfl, rfl, rfl⟩
theorem ct_D_isReceiver {x : Int32} : fv_T l (fk D dA) Bs WA m_D_isReceiver [.int x] sz h 0 0 (fp_r (.int (fv_b (iv x 0 1))) sz h) := by
  refine fv_of (L := [_]) (by decide +kernel) rfl (Nat.le_of_ble_eq_true rfl) rfl ?_
  intro X hX C
  subst hX
  refine fv_iload_n C d_D_isReceiver_0 (n := 1) rfl (i := 0) rfl rfl ?_
  refine fv_if_lt C d_D_isReceiver_1 (tgt := 13) rfl (n := 4) rfl (fun hc1 => ?_) (fun hc1 => ?_)
  · have hcv : nI 0 = fv_b (iv x 0 1) := by rw [iv_lo0 hc1]; rfl
    refine fv_iconst C d_D_isReceiver_13 (n := 14) rfl kI_0 ?_
    rw [hcv]
    refine fv_zret C rfl d_D_isReceiver_14 (fv_b_nar _) (Nat.le_refl _) (Nat.le_refl _) ?_
    exact ⟨rfl, rfl, rfl⟩
  · refine fv_iload_n C d_D_isReceiver_4 (n := 5) rfl (i := 0) rfl rfl ?_
    refine fv_iconst C d_D_isReceiver_5 (n := 6) rfl kI_2 ?_
    refine fv_icmp_ge C d_D_isReceiver_6 (tgt := 13) rfl (n := 9) rfl (fun hc6 => ?_) (fun hc6 => ?_)
    · have hcv : nI 0 = fv_b (iv x 0 1) := by rw [iv_hi (by decide) hc6]; rfl
      refine fv_iconst C d_D_isReceiver_13 (n := 14) rfl kI_0 ?_
      rw [hcv]
      refine fv_zret C rfl d_D_isReceiver_14 (fv_b_nar _) (Nat.le_refl _) (Nat.le_refl _) ?_
      exact ⟨rfl, rfl, rfl⟩
    · have hcv : nI 1 = fv_b (iv x 0 1) := by rw [iv_in (by decide) hc1 hc6]; rfl
      refine fv_iconst C d_D_isReceiver_9 (n := 10) rfl kI_1 ?_
      refine fv_goto C d_D_isReceiver_10 (tgt := 14) rfl ?_
      rw [hcv]
      refine fv_zret C rfl d_D_isReceiver_14 (fv_b_nar _) (Nat.le_refl _) (Nat.le_refl _) ?_
      exact ⟨rfl, rfl, rfl⟩
theorem ct_D_isSide {x : Int32} : fv_T l (fk D dA) Bs WA m_D_isSide [.int x] sz h 0 0 (fp_r (.int (fv_b (iv x 0 1))) sz h) := by
  refine fv_of (L := [_]) (by decide +kernel) rfl (Nat.le_of_ble_eq_true rfl) rfl ?_
  intro X hX C
  subst hX
  refine fv_iload_n C d_D_isSide_0 (n := 1) rfl (i := 0) rfl rfl ?_
  refine fv_if_lt C d_D_isSide_1 (tgt := 13) rfl (n := 4) rfl (fun hc1 => ?_) (fun hc1 => ?_)
  · have hcv : nI 0 = fv_b (iv x 0 1) := by rw [iv_lo0 hc1]; rfl
    refine fv_iconst C d_D_isSide_13 (n := 14) rfl kI_0 ?_
    rw [hcv]
    refine fv_zret C rfl d_D_isSide_14 (fv_b_nar _) (Nat.le_refl _) (Nat.le_refl _) ?_
    exact ⟨rfl, rfl, rfl⟩
  · refine fv_iload_n C d_D_isSide_4 (n := 5) rfl (i := 0) rfl rfl ?_
    refine fv_iconst C d_D_isSide_5 (n := 6) rfl kI_2 ?_
    refine fv_icmp_ge C d_D_isSide_6 (tgt := 13) rfl (n := 9) rfl (fun hc6 => ?_) (fun hc6 => ?_)
    · have hcv : nI 0 = fv_b (iv x 0 1) := by rw [iv_hi (by decide) hc6]; rfl
      refine fv_iconst C d_D_isSide_13 (n := 14) rfl kI_0 ?_
      rw [hcv]
      refine fv_zret C rfl d_D_isSide_14 (fv_b_nar _) (Nat.le_refl _) (Nat.le_refl _) ?_
      exact ⟨rfl, rfl, rfl⟩
    · have hcv : nI 1 = fv_b (iv x 0 1) := by rw [iv_in (by decide) hc1 hc6]; rfl
      refine fv_iconst C d_D_isSide_9 (n := 10) rfl kI_1 ?_
      refine fv_goto C d_D_isSide_10 (tgt := 14) rfl ?_
      rw [hcv]
      refine fv_zret C rfl d_D_isSide_14 (fv_b_nar _) (Nat.le_refl _) (Nat.le_refl _) ?_
      exact ⟨rfl, rfl, rfl⟩
theorem ct_D_isLevelValue {x : Int32} : fv_T l (fk D dA) Bs WA m_D_isLevelValue [.int x] sz h 0 0 (fp_r (.int (fv_b (iv x 0 2))) sz h) := by
  refine fv_of (L := [_]) (by decide +kernel) rfl (Nat.le_of_ble_eq_true rfl) rfl ?_
  intro X hX C
  subst hX
  refine fv_iload_n C d_D_isLevelValue_0 (n := 1) rfl (i := 0) rfl rfl ?_
  refine fv_if_lt C d_D_isLevelValue_1 (tgt := 13) rfl (n := 4) rfl (fun hc1 => ?_) (fun hc1 => ?_)
  · have hcv : nI 0 = fv_b (iv x 0 2) := by rw [iv_lo0 hc1]; rfl
    refine fv_iconst C d_D_isLevelValue_13 (n := 14) rfl kI_0 ?_
    rw [hcv]
    refine fv_zret C rfl d_D_isLevelValue_14 (fv_b_nar _) (Nat.le_refl _) (Nat.le_refl _) ?_
    exact ⟨rfl, rfl, rfl⟩
  · refine fv_iload_n C d_D_isLevelValue_4 (n := 5) rfl (i := 0) rfl rfl ?_
    refine fv_iconst C d_D_isLevelValue_5 (n := 6) rfl kI_3 ?_
    refine fv_icmp_ge C d_D_isLevelValue_6 (tgt := 13) rfl (n := 9) rfl (fun hc6 => ?_) (fun hc6 => ?_)
    · have hcv : nI 0 = fv_b (iv x 0 2) := by rw [iv_hi (by decide) hc6]; rfl
      refine fv_iconst C d_D_isLevelValue_13 (n := 14) rfl kI_0 ?_
      rw [hcv]
      refine fv_zret C rfl d_D_isLevelValue_14 (fv_b_nar _) (Nat.le_refl _) (Nat.le_refl _) ?_
      exact ⟨rfl, rfl, rfl⟩
    · have hcv : nI 1 = fv_b (iv x 0 2) := by rw [iv_in (by decide) hc1 hc6]; rfl
      refine fv_iconst C d_D_isLevelValue_9 (n := 10) rfl kI_1 ?_
      refine fv_goto C d_D_isLevelValue_10 (tgt := 14) rfl ?_
      rw [hcv]
      refine fv_zret C rfl d_D_isLevelValue_14 (fv_b_nar _) (Nat.le_refl _) (Nat.le_refl _) ?_
      exact ⟨rfl, rfl, rfl⟩
theorem ct_D_isCount {x : Int32} : fv_T l (fk D dA) Bs WA m_D_isCount [.int x] sz h 0 0 (fp_r (.int (fv_b (iv x 1 1000000))) sz h) := by
  refine fv_of (L := [_]) (by decide +kernel) rfl (Nat.le_of_ble_eq_true rfl) rfl ?_
  intro X hX C
  subst hX
  refine fv_iload_n C d_D_isCount_0 (n := 1) rfl (i := 0) rfl rfl ?_
  refine fv_iconst C d_D_isCount_1 (n := 2) rfl kI_1 ?_
  refine fv_icmp_lt C d_D_isCount_2 (tgt := 15) rfl (n := 5) rfl (fun hc2 => ?_) (fun hc2 => ?_)
  · have hcv : nI 0 = fv_b (iv x 1 1000000) := by rw [iv_lo (by decide) hc2]; rfl
    refine fv_iconst C d_D_isCount_15 (n := 16) rfl kI_0 ?_
    rw [hcv]
    refine fv_zret C rfl d_D_isCount_16 (fv_b_nar _) (Nat.le_refl _) (Nat.le_refl _) ?_
    exact ⟨rfl, rfl, rfl⟩
  · refine fv_iload_n C d_D_isCount_5 (n := 6) rfl (i := 0) rfl rfl ?_
    refine fv_ldc C d_D_isCount_6 (n := 8) rfl kc_D_43 ?_
    rw [← nI_mil]
    refine fv_icmp_gt C d_D_isCount_8 (tgt := 15) rfl (n := 11) rfl (fun hc8 => ?_) (fun hc8 => ?_)
    · have hcv : nI 0 = fv_b (iv x 1 1000000) := by rw [iv_gt hc8]; rfl
      refine fv_iconst C d_D_isCount_15 (n := 16) rfl kI_0 ?_
      rw [hcv]
      refine fv_zret C rfl d_D_isCount_16 (fv_b_nar _) (Nat.le_refl _) (Nat.le_refl _) ?_
      exact ⟨rfl, rfl, rfl⟩
    · have hcv : nI 1 = fv_b (iv x 1 1000000) := by rw [iv_in2 hc2 hc8]; rfl
      refine fv_iconst C d_D_isCount_11 (n := 12) rfl kI_1 ?_
      refine fv_goto C d_D_isCount_12 (tgt := 16) rfl ?_
      rw [hcv]
      refine fv_zret C rfl d_D_isCount_16 (fv_b_nar _) (Nat.le_refl _) (Nat.le_refl _) ?_
      exact ⟨rfl, rfl, rfl⟩
theorem ct_D_hasBook {r i : Int32} : fv_T l (fk D dA) Bs WA m_D_hasBook [.int r, .int i] sz h 0 0 (fp_r (.int (fv_b (hb2 r i))) sz h) := by
  refine fv_of (L := [_, _]) (by decide +kernel) rfl (Nat.le_of_ble_eq_true rfl) rfl ?_
  intro X hX C
  subst hX
  refine fv_iload_n C d_D_hasBook_0 (n := 1) rfl (i := 0) rfl rfl ?_
  refine fv_iconst C d_D_hasBook_1 (n := 2) rfl kI_m1 ?_
  refine fv_icmp_eq C d_D_hasBook_2 (tgt := 12) rfl (n := 5) rfl (fun hc2 => ?_) (fun hc2 => ?_)
  · have h1 : (decide (r = -1) || iv r 0 1) = true := by rw [hc2]; rfl
    refine fv_iload_n C d_D_hasBook_12 (n := 13) rfl (i := 1) rfl rfl ?_
    refine fv_callS_r C (ml_D_32 D dA) sm_D_isInstrument ct_D_isInstrument d_D_hasBook_13 (n := 16) rfl rfl rfl rfl (Nat.le_of_ble_eq_true rfl) (Nat.le_of_ble_eq_true rfl) (Nat.le_of_ble_eq_true rfl) (Nat.le_refl _) (Nat.le_refl _) ?_
    refine fv_ifB_eq C d_D_hasBook_16 (tgt := 23) rfl (n := 19) rfl (fun hc16 => ?_) (fun hc16 => ?_)
    · have hcv : nI 0 = fv_b (hb2 r i) := by unfold hb2; rw [h1, hc16]; rfl
      refine fv_iconst C d_D_hasBook_23 (n := 24) rfl kI_0 ?_
      rw [hcv]
      refine fv_zret C rfl d_D_hasBook_24 (fv_b_nar _) (Nat.le_refl _) (Nat.le_refl _) ?_
      exact ⟨rfl, rfl, rfl⟩
    · have hcv : nI 1 = fv_b (hb2 r i) := by unfold hb2; rw [h1, hc16]; rfl
      refine fv_iconst C d_D_hasBook_19 (n := 20) rfl kI_1 ?_
      refine fv_goto C d_D_hasBook_20 (tgt := 24) rfl ?_
      rw [hcv]
      refine fv_zret C rfl d_D_hasBook_24 (fv_b_nar _) (Nat.le_refl _) (Nat.le_refl _) ?_
      exact ⟨rfl, rfl, rfl⟩
  · refine fv_iload_n C d_D_hasBook_5 (n := 6) rfl (i := 0) rfl rfl ?_
    refine fv_callS_r C (ml_D_59 D dA) sm_D_isReceiver ct_D_isReceiver d_D_hasBook_6 (n := 9) rfl rfl rfl rfl (Nat.le_of_ble_eq_true rfl) (Nat.le_of_ble_eq_true rfl) (Nat.le_of_ble_eq_true rfl) (Nat.le_refl _) (Nat.le_refl _) ?_
    refine fv_ifB_eq C d_D_hasBook_9 (tgt := 23) rfl (n := 12) rfl (fun hc9 => ?_) (fun hc9 => ?_)
    · have h1 : (decide (r = -1) || iv r 0 1) = false := by rw [decide_eq_false hc2, hc9]; rfl
      have hcv : nI 0 = fv_b (hb2 r i) := by unfold hb2; rw [h1]; rfl
      refine fv_iconst C d_D_hasBook_23 (n := 24) rfl kI_0 ?_
      rw [hcv]
      refine fv_zret C rfl d_D_hasBook_24 (fv_b_nar _) (Nat.le_refl _) (Nat.le_refl _) ?_
      exact ⟨rfl, rfl, rfl⟩
    · have h1 : (decide (r = -1) || iv r 0 1) = true := by rw [hc9, Bool.or_true]
      refine fv_iload_n C d_D_hasBook_12 (n := 13) rfl (i := 1) rfl rfl ?_
      refine fv_callS_r C (ml_D_32 D dA) sm_D_isInstrument ct_D_isInstrument d_D_hasBook_13 (n := 16) rfl rfl rfl rfl (Nat.le_of_ble_eq_true rfl) (Nat.le_of_ble_eq_true rfl) (Nat.le_of_ble_eq_true rfl) (Nat.le_refl _) (Nat.le_refl _) ?_
      refine fv_ifB_eq C d_D_hasBook_16 (tgt := 23) rfl (n := 19) rfl (fun hc16 => ?_) (fun hc16 => ?_)
      · have hcv : nI 0 = fv_b (hb2 r i) := by unfold hb2; rw [h1, hc16]; rfl
        refine fv_iconst C d_D_hasBook_23 (n := 24) rfl kI_0 ?_
        rw [hcv]
        refine fv_zret C rfl d_D_hasBook_24 (fv_b_nar _) (Nat.le_refl _) (Nat.le_refl _) ?_
        exact ⟨rfl, rfl, rfl⟩
      · have hcv : nI 1 = fv_b (hb2 r i) := by unfold hb2; rw [h1, hc16]; rfl
        refine fv_iconst C d_D_hasBook_19 (n := 20) rfl kI_1 ?_
        refine fv_goto C d_D_hasBook_20 (tgt := 24) rfl ?_
        rw [hcv]
        refine fv_zret C rfl d_D_hasBook_24 (fv_b_nar _) (Nat.le_refl _) (Nat.le_refl _) ?_
        exact ⟨rfl, rfl, rfl⟩
end DK0
