/-! Book: what reads it -/
section BK1
variable {l : Launch} {D : va_G} {dA : Nat → ClassId} {Bs sz : Nat} {h : fv_H} {a : Nat} {ids pri siz : Nat → Int32} {buys tot app : Nat} {hlt : Bool}
theorem ct_B_haltValue (hB : BK dA h a ids pri siz buys tot hlt app) : fv_T l (fk D dA) Bs WA m_B_haltValue [.ref a] sz h 0 0 (fp_r (.int (fv_b hlt)) sz h) := by
  refine fv_of (L := [_]) (by decide +kernel) rfl (Nat.le_of_ble_eq_true rfl) rfl ?_
  intro X hX C
  subst hX
  refine fv_aload_n C d_B_haltValue_0 (n := 1) rfl (i := 0) rfl rfl ?_
  refine fv_get C (fl_B_28 D dA) d_B_haltValue_1 (n := 4) rfl hB.1 rfl ?_
  refine fv_ifB_eq C d_B_haltValue_4 (tgt := 11) rfl (n := 7) rfl (fun hc4 => ?_) (fun hc4 => ?_)
  · refine fv_iconst C d_B_haltValue_11 (n := 12) rfl kI_0 ?_
    refine fv_iret C rfl d_B_haltValue_12 (Nat.le_refl _) (Nat.le_refl _) ?_
    subst hc4; exact ⟨rfl, rfl, rfl⟩
  · refine fv_iconst C d_B_haltValue_7 (n := 8) rfl kI_1 ?_
    refine fv_goto C d_B_haltValue_8 (tgt := 12) rfl ?_
    refine fv_iret C rfl d_B_haltValue_12 (Nat.le_refl _) (Nat.le_refl _) ?_
    subst hc4; exact ⟨rfl, rfl, rfl⟩
theorem ct_B_startOf {s : Nat} (hs : s < 2) (hB : BK dA h a ids pri siz buys tot hlt app) : fv_T l (fk D dA) Bs WA m_B_startOf [.ref a, .int (nI s)] sz h 0 0 (fp_r (.int (nI (if s = 0 then 0 else buys))) sz h) := by
  refine fv_of (L := [_, _]) (by decide +kernel) rfl (Nat.le_of_ble_eq_true rfl) rfl ?_
  intro X hX C
  subst hX
  refine fv_iload_n C d_B_startOf_0 (n := 1) rfl (i := 1) rfl rfl ?_
  refine fv_ifN_ne C (by omega) d_B_startOf_1 (tgt := 8) rfl (n := 4) rfl (fun hc1 => ?_) (fun hc1 => ?_)
  · refine fv_aload_n C d_B_startOf_8 (n := 9) rfl (i := 0) rfl rfl ?_
    refine fv_get C (fl_B_21 D dA) d_B_startOf_9 (n := 12) rfl hB.1 rfl ?_
    refine fv_iret C rfl d_B_startOf_12 (Nat.le_refl _) (Nat.le_refl _) ?_
    simp only [hc1, if_true, if_false]; exact ⟨rfl, rfl, rfl⟩
  · refine fv_iconst C d_B_startOf_4 (n := 5) rfl kI_0 ?_
    refine fv_goto C d_B_startOf_5 (tgt := 12) rfl ?_
    refine fv_iret C rfl d_B_startOf_12 (Nat.le_refl _) (Nat.le_refl _) ?_
    simp only [hc1, if_true, if_false]; exact ⟨rfl, rfl, rfl⟩
theorem ct_B_endOf {s : Nat} (hs : s < 2) (hB : BK dA h a ids pri siz buys tot hlt app) : fv_T l (fk D dA) Bs WA m_B_endOf [.ref a, .int (nI s)] sz h 0 0 (fp_r (.int (nI (if s = 0 then buys else tot))) sz h) := by
  refine fv_of (L := [_, _]) (by decide +kernel) rfl (Nat.le_of_ble_eq_true rfl) rfl ?_
  intro X hX C
  subst hX
  refine fv_iload_n C d_B_endOf_0 (n := 1) rfl (i := 1) rfl rfl ?_
  refine fv_ifN_ne C (by omega) d_B_endOf_1 (tgt := 11) rfl (n := 4) rfl (fun hc1 => ?_) (fun hc1 => ?_)
  · refine fv_aload_n C d_B_endOf_11 (n := 12) rfl (i := 0) rfl rfl ?_
    refine fv_get C (fl_B_25 D dA) d_B_endOf_12 (n := 15) rfl hB.1 rfl ?_
    refine fv_iret C rfl d_B_endOf_15 (Nat.le_refl _) (Nat.le_refl _) ?_
    simp only [hc1, if_true, if_false]; exact ⟨rfl, rfl, rfl⟩
  · refine fv_aload_n C d_B_endOf_4 (n := 5) rfl (i := 0) rfl rfl ?_
    refine fv_get C (fl_B_21 D dA) d_B_endOf_5 (n := 8) rfl hB.1 rfl ?_
    refine fv_goto C d_B_endOf_8 (tgt := 15) rfl ?_
    refine fv_iret C rfl d_B_endOf_15 (Nat.le_refl _) (Nat.le_refl _) ?_
    simp only [hc1, if_true, if_false]; exact ⟨rfl, rfl, rfl⟩
/-- the place of the first of n ids from j on that is x -/
def bk_pl (ids : Nat → Int32) (x : Int32) : Nat → Nat → Int32
  | 0, _ => -1
  | n + 1, j => if ids j = x then nI j else bk_pl ids x n (j + 1)
theorem ct_B_placeOf {x : Int32} (ht : tot ≤ 24) (hB : BK dA h a ids pri siz buys tot hlt app) : fv_T l (fk D dA) Bs WA m_B_placeOf [.ref a, .int x] sz h 0 0 (fp_r (.int (bk_pl ids x tot 0)) sz h) := by
  refine fv_of (L := [_, _, _]) (by decide +kernel) rfl (Nat.le_of_ble_eq_true rfl) rfl ?_
  intro X hX C
  subst hX
  have loop : ∀ (n j : Nat), j + n = tot → fv_V (fk D dA) Bs X 3 (fv_MQ (fk D dA) Bs X (fp_r (.int (bk_pl ids x n j)) sz h) 0 0) 2 [some (.ref a), some (.int x), some (.int (nI j))] [] sz h 0 0 := by
    intro n
    induction n with
    | zero =>
      intro j hj
      refine fv_iload_n C d_B_placeOf_2 (n := 3) rfl (i := 2) rfl rfl ?_
      refine fv_aload_n C d_B_placeOf_3 (n := 4) rfl (i := 0) rfl rfl ?_
      refine fv_get C (fl_B_25 D dA) d_B_placeOf_4 (n := 7) rfl hB.1 rfl ?_
      refine fv_icmpN_ge C (by omega) (by omega) d_B_placeOf_7 (tgt := 28) rfl (n := 10) rfl (fun hc7 => ?_) (fun hc7 => ?_)
      · refine fv_iconst C d_B_placeOf_28 (n := 29) rfl kI_m1 ?_
        refine fv_iret C rfl d_B_placeOf_29 (Nat.le_refl _) (Nat.le_refl _) ?_
        exact ⟨rfl, rfl, rfl⟩
      · exact absurd hc7 (by omega)
    | succ n ih =>
      intro j hj
      unfold bk_pl
      refine fv_iload_n C d_B_placeOf_2 (n := 3) rfl (i := 2) rfl rfl ?_
      refine fv_aload_n C d_B_placeOf_3 (n := 4) rfl (i := 0) rfl rfl ?_
      refine fv_get C (fl_B_25 D dA) d_B_placeOf_4 (n := 7) rfl hB.1 rfl ?_
      refine fv_icmpN_ge C (by omega) (by omega) d_B_placeOf_7 (tgt := 28) rfl (n := 10) rfl (fun hc7 => ?_) (fun hc7 => ?_)
      · exact absurd hc7 (by omega)
      · refine fv_aload_n C d_B_placeOf_10 (n := 11) rfl (i := 0) rfl rfl ?_
        refine fv_get C (fl_B_9 D dA) d_B_placeOf_11 (n := 14) rfl hB.1 rfl ?_
        refine fv_iload_n C d_B_placeOf_14 (n := 15) rfl (i := 2) rfl rfl ?_
        refine fv_ialdN C (t0 := 0) rfl d_B_placeOf_15 (n := 16) rfl hB.2.1 (by omega) (by decide) ?_
        refine fv_iload_n C d_B_placeOf_16 (n := 17) rfl (i := 1) rfl rfl ?_
        refine fv_icmp_ne C d_B_placeOf_17 (tgt := 22) rfl (n := 20) rfl (fun hc17 => ?_) (fun hc17 => ?_)
        · refine fv_iincN C d_B_placeOf_22 (n := 25) rfl rfl (by decide) (L' := [_, _, _]) rfl ?_
          refine fv_goto C d_B_placeOf_25 (tgt := 2) rfl ?_
          rw [if_neg hc17]
          exact ih (j + 1) (by omega)
        · refine fv_iload_n C d_B_placeOf_20 (n := 21) rfl (i := 2) rfl rfl ?_
          refine fv_iret C rfl d_B_placeOf_21 (Nat.le_refl _) (Nat.le_refl _) ?_
          rw [if_pos hc17]; exact ⟨rfl, rfl, rfl⟩
  refine fv_iconst C d_B_placeOf_0 (n := 1) rfl kI_0 ?_
  refine fv_istore_n C d_B_placeOf_1 (n := 2) rfl (i := 2) rfl (by decide) (L' := [_, _, _]) rfl ?_
  exact loop tot 0 (by omega)
end BK1
