/-! FeedDeskModel: its constructor -/
theorem mr_0 {F F' : Nat → Nat → Int32} (h0 : ∀ k j, F k j = 0) (h1 : ∀ j, j < 2 → F' 20 j = nI 1) (h2 : ∀ q, q ≠ 20 → F' q = F q) : MR F' sp_0 := by
  have z : ∀ q, q ≠ 20 → ∀ j, F' q j = nI 0 := fun q hq j => by rw [h2 q hq, h0, nI_0]
  refine ⟨fun e ev he => absurd he (by simp [sp_0]), fun i hi => z 8 (by decide) i, fun p hp => ?_, fun r hr => ⟨fun i hi => ⟨z 16 (by decide) _, z 17 (by decide) _, fun n hn => ?_, z 19 (by decide) _⟩, h1 r hr, z 21 (by decide) r, fun p hp => z 22 (by decide) _, ⟨0, z 23 (by decide) r, Or.inl rfl⟩, fun j i hj => absurd hj (by simp [sp_0, sp_R, rc_rw]), z 28 (by decide) r⟩, fun k q hq => absurd hq (by simp [sp_0, sp_sh]), fun r hr => ⟨z 30 (by decide) r, fun g hg => absurd hg (by simp [sp_0, sp_fx])⟩⟩
  · have hp0 : p = 0 := Nat.le_zero.mp hp
    subst hp0
    exact z 9 (by decide) 1
  · rw [z 18 (by decide)]
    have e : decide (n ∈ rc_hl (sp_R sp_0 r) i) = false := decide_eq_false (by simp [sp_0, sp_R, rc_hl])
    rw [e]
    rfl
section MD13
variable {l : Launch} {D : va_G} {dA : Nat → ClassId} {Bs : Nat} {h : fv_H} {a : Nat}
theorem ct_M_init (hO : h a = some (.inr (8, [.null, .null, .null, .null, .null, .null, .null, .int 0, .null, .null, .int 0, .null, .null, .null, .null, .int 0, .int 0, .null, .null, .null, .null, .null, .null, .null, .null, .null, .null, .null, .null, .null, .int 0, .null, .null, .null, .null]))) (hBs : Bs ≤ a) : fv_T l (fk D dA) Bs WA m_M_init [.ref a] (a + 1) h 30 8971 (fun v s' h' => v = none ∧ s' = a + 31 ∧ RM dA h' a sp_0 ∧ fs h h' (fun x => a ≤ x ∧ x < a + 31)) := by
  let U : Nat → Prop := fun x => a ≤ x ∧ x < a + 31
  have hF : fs h h U := fs_rf _ _
  have hAr : ∀ k, 1 ≤ k → k < 1 → h (a + k) = some (.inl (dA (mt k), ml k, .inl (fun _ => 0))) := fun k h1 h2 => absurd h2 (by omega)
  refine fv_of (L := [_]) (by decide +kernel) rfl (Nat.le_of_ble_eq_true rfl) rfl ?_
  intro X hX C
  subst hX
  refine fv_aload_n C d_M_init_0 (n := 1) rfl (i := 0) rfl rfl ?_
  refine fv_objInit C nl_M_1 n_oi n_oc d_M_init_1 (n := 4) rfl rfl (Nat.le_of_ble_eq_true rfl) (Nat.le_of_ble_eq_true rfl) ?_
  refine fv_aload_n C d_M_init_4 (n := 5) rfl (i := 0) rfl rfl ?_
  refine fv_sipush C d_M_init_5 (n := 8) rfl kS_400 ?_
  refine fv_nwi C (t0 := 0) rfl rfl (Or.inl rfl) na_i d_M_init_8 (n := 10) rfl (by decide) (by omega) (by omega) (fun h1 e1 f1 => ?_)
  have hO := (f1 _ (by omega)).trans hO
  have hAr : ∀ k, 1 ≤ k → k < 2 → h1 (a + k) = some (.inl (dA (mt k), ml k, .inl (fun _ => 0))) := fun k q1 q2 => by
    by_cases c : k = 1
    · rw [c]; exact e1
    · exact (f1 _ (by omega)).trans (hAr k q1 (by omega))
  have hF := hF.tr f1 (U := U) (fun x hx => hx) (fun x hx => by unfold U; omega)
  refine fv_pt C (fl_M_7 D dA) (Or.inr ⟨rfl, rfl, _, rfl, nf_no _ _ (by decide +kernel)⟩) d_M_init_10 (n := 13) rfl hO (by omega) rfl rfl (Nat.le_of_ble_eq_true rfl) (fun h1 e1 f1 => ?_)
  have hO : h1 a = some (.inr (8, [.ref (a + 1), .null, .null, .null, .null, .null, .null, .int 0, .null, .null, .int 0, .null, .null, .null, .null, .int 0, .int 0, .null, .null, .null, .null, .null, .null, .null, .null, .null, .null, .null, .null, .null, .int 0, .null, .null, .null, .null])) := e1
  have hAr : ∀ k, 1 ≤ k → k < 2 → h1 (a + k) = some (.inl (dA (mt k), ml k, .inl (fun _ => 0))) := fun k q1 q2 => (f1 _ (by omega)).trans (hAr k q1 q2)
  have hF := hF.tr f1 (U := U) (fun x hx => hx) (fun x hx => by unfold U; omega)
  refine fv_aload_n C d_M_init_13 (n := 14) rfl (i := 0) rfl rfl ?_
  refine fv_sipush C d_M_init_14 (n := 17) rfl kS_400 ?_
  refine fv_nwi C (t0 := 0) rfl rfl (Or.inl rfl) na_i d_M_init_17 (n := 19) rfl (by decide) (by omega) (by omega) (fun h1 e1 f1 => ?_)
  have hO := (f1 _ (by omega)).trans hO
  have hAr : ∀ k, 1 ≤ k → k < 3 → h1 (a + k) = some (.inl (dA (mt k), ml k, .inl (fun _ => 0))) := fun k q1 q2 => by
    by_cases c : k = 2
    · rw [c]; exact e1
    · exact (f1 _ (by omega)).trans (hAr k q1 (by omega))
  have hF := hF.tr f1 (U := U) (fun x hx => hx) (fun x hx => by unfold U; omega)
  refine fv_pt C (fl_M_13 D dA) (Or.inr ⟨rfl, rfl, _, rfl, nf_no _ _ (by decide +kernel)⟩) d_M_init_19 (n := 22) rfl hO (by omega) rfl rfl (Nat.le_of_ble_eq_true rfl) (fun h1 e1 f1 => ?_)
  have hO : h1 a = some (.inr (8, [.ref (a + 1), .ref (a + 2), .null, .null, .null, .null, .null, .int 0, .null, .null, .int 0, .null, .null, .null, .null, .int 0, .int 0, .null, .null, .null, .null, .null, .null, .null, .null, .null, .null, .null, .null, .null, .int 0, .null, .null, .null, .null])) := e1
  have hAr : ∀ k, 1 ≤ k → k < 3 → h1 (a + k) = some (.inl (dA (mt k), ml k, .inl (fun _ => 0))) := fun k q1 q2 => (f1 _ (by omega)).trans (hAr k q1 q2)
  have hF := hF.tr f1 (U := U) (fun x hx => hx) (fun x hx => by unfold U; omega)
  refine fv_aload_n C d_M_init_22 (n := 23) rfl (i := 0) rfl rfl ?_
  refine fv_sipush C d_M_init_23 (n := 26) rfl kS_400 ?_
  refine fv_nwi C (t0 := 0) rfl rfl (Or.inl rfl) na_i d_M_init_26 (n := 28) rfl (by decide) (by omega) (by omega) (fun h1 e1 f1 => ?_)
  have hO := (f1 _ (by omega)).trans hO
  have hAr : ∀ k, 1 ≤ k → k < 4 → h1 (a + k) = some (.inl (dA (mt k), ml k, .inl (fun _ => 0))) := fun k q1 q2 => by
    by_cases c : k = 3
    · rw [c]; exact e1
    · exact (f1 _ (by omega)).trans (hAr k q1 (by omega))
  have hF := hF.tr f1 (U := U) (fun x hx => hx) (fun x hx => by unfold U; omega)
  refine fv_pt C (fl_M_16 D dA) (Or.inr ⟨rfl, rfl, _, rfl, nf_no _ _ (by decide +kernel)⟩) d_M_init_28 (n := 31) rfl hO (by omega) rfl rfl (Nat.le_of_ble_eq_true rfl) (fun h1 e1 f1 => ?_)
  have hO : h1 a = some (.inr (8, [.ref (a + 1), .ref (a + 2), .ref (a + 3), .null, .null, .null, .null, .int 0, .null, .null, .int 0, .null, .null, .null, .null, .int 0, .int 0, .null, .null, .null, .null, .null, .null, .null, .null, .null, .null, .null, .null, .null, .int 0, .null, .null, .null, .null])) := e1
  have hAr : ∀ k, 1 ≤ k → k < 4 → h1 (a + k) = some (.inl (dA (mt k), ml k, .inl (fun _ => 0))) := fun k q1 q2 => (f1 _ (by omega)).trans (hAr k q1 q2)
  have hF := hF.tr f1 (U := U) (fun x hx => hx) (fun x hx => by unfold U; omega)
  refine fv_aload_n C d_M_init_31 (n := 32) rfl (i := 0) rfl rfl ?_
  refine fv_sipush C d_M_init_32 (n := 35) rfl kS_400 ?_
  refine fv_nwi C (t0 := 0) rfl rfl (Or.inl rfl) na_i d_M_init_35 (n := 37) rfl (by decide) (by omega) (by omega) (fun h1 e1 f1 => ?_)
  have hO := (f1 _ (by omega)).trans hO
  have hAr : ∀ k, 1 ≤ k → k < 5 → h1 (a + k) = some (.inl (dA (mt k), ml k, .inl (fun _ => 0))) := fun k q1 q2 => by
    by_cases c : k = 4
    · rw [c]; exact e1
    · exact (f1 _ (by omega)).trans (hAr k q1 (by omega))
  have hF := hF.tr f1 (U := U) (fun x hx => hx) (fun x hx => by unfold U; omega)
  refine fv_pt C (fl_M_19 D dA) (Or.inr ⟨rfl, rfl, _, rfl, nf_no _ _ (by decide +kernel)⟩) d_M_init_37 (n := 40) rfl hO (by omega) rfl rfl (Nat.le_of_ble_eq_true rfl) (fun h1 e1 f1 => ?_)
  have hO : h1 a = some (.inr (8, [.ref (a + 1), .ref (a + 2), .ref (a + 3), .ref (a + 4), .null, .null, .null, .int 0, .null, .null, .int 0, .null, .null, .null, .null, .int 0, .int 0, .null, .null, .null, .null, .null, .null, .null, .null, .null, .null, .null, .null, .null, .int 0, .null, .null, .null, .null])) := e1
  have hAr : ∀ k, 1 ≤ k → k < 5 → h1 (a + k) = some (.inl (dA (mt k), ml k, .inl (fun _ => 0))) := fun k q1 q2 => (f1 _ (by omega)).trans (hAr k q1 q2)
  have hF := hF.tr f1 (U := U) (fun x hx => hx) (fun x hx => by unfold U; omega)
  refine fv_aload_n C d_M_init_40 (n := 41) rfl (i := 0) rfl rfl ?_
  refine fv_sipush C d_M_init_41 (n := 44) rfl kS_400 ?_
  refine fv_nwi C (t0 := 0) rfl rfl (Or.inl rfl) na_i d_M_init_44 (n := 46) rfl (by decide) (by omega) (by omega) (fun h1 e1 f1 => ?_)
  have hO := (f1 _ (by omega)).trans hO
  have hAr : ∀ k, 1 ≤ k → k < 6 → h1 (a + k) = some (.inl (dA (mt k), ml k, .inl (fun _ => 0))) := fun k q1 q2 => by
    by_cases c : k = 5
    · rw [c]; exact e1
    · exact (f1 _ (by omega)).trans (hAr k q1 (by omega))
  have hF := hF.tr f1 (U := U) (fun x hx => hx) (fun x hx => by unfold U; omega)
  refine fv_pt C (fl_M_22 D dA) (Or.inr ⟨rfl, rfl, _, rfl, nf_no _ _ (by decide +kernel)⟩) d_M_init_46 (n := 49) rfl hO (by omega) rfl rfl (Nat.le_of_ble_eq_true rfl) (fun h1 e1 f1 => ?_)
  have hO : h1 a = some (.inr (8, [.ref (a + 1), .ref (a + 2), .ref (a + 3), .ref (a + 4), .ref (a + 5), .null, .null, .int 0, .null, .null, .int 0, .null, .null, .null, .null, .int 0, .int 0, .null, .null, .null, .null, .null, .null, .null, .null, .null, .null, .null, .null, .null, .int 0, .null, .null, .null, .null])) := e1
  have hAr : ∀ k, 1 ≤ k → k < 6 → h1 (a + k) = some (.inl (dA (mt k), ml k, .inl (fun _ => 0))) := fun k q1 q2 => (f1 _ (by omega)).trans (hAr k q1 q2)
  have hF := hF.tr f1 (U := U) (fun x hx => hx) (fun x hx => by unfold U; omega)
  refine fv_aload_n C d_M_init_49 (n := 50) rfl (i := 0) rfl rfl ?_
  refine fv_sipush C d_M_init_50 (n := 53) rfl kS_400 ?_
  refine fv_nwi C (t0 := 0) rfl rfl (Or.inl rfl) na_i d_M_init_53 (n := 55) rfl (by decide) (by omega) (by omega) (fun h1 e1 f1 => ?_)
  have hO := (f1 _ (by omega)).trans hO
  have hAr : ∀ k, 1 ≤ k → k < 7 → h1 (a + k) = some (.inl (dA (mt k), ml k, .inl (fun _ => 0))) := fun k q1 q2 => by
    by_cases c : k = 6
    · rw [c]; exact e1
    · exact (f1 _ (by omega)).trans (hAr k q1 (by omega))
  have hF := hF.tr f1 (U := U) (fun x hx => hx) (fun x hx => by unfold U; omega)
  refine fv_pt C (fl_M_25 D dA) (Or.inr ⟨rfl, rfl, _, rfl, nf_no _ _ (by decide +kernel)⟩) d_M_init_55 (n := 58) rfl hO (by omega) rfl rfl (Nat.le_of_ble_eq_true rfl) (fun h1 e1 f1 => ?_)
  have hO : h1 a = some (.inr (8, [.ref (a + 1), .ref (a + 2), .ref (a + 3), .ref (a + 4), .ref (a + 5), .ref (a + 6), .null, .int 0, .null, .null, .int 0, .null, .null, .null, .null, .int 0, .int 0, .null, .null, .null, .null, .null, .null, .null, .null, .null, .null, .null, .null, .null, .int 0, .null, .null, .null, .null])) := e1
  have hAr : ∀ k, 1 ≤ k → k < 7 → h1 (a + k) = some (.inl (dA (mt k), ml k, .inl (fun _ => 0))) := fun k q1 q2 => (f1 _ (by omega)).trans (hAr k q1 q2)
  have hF := hF.tr f1 (U := U) (fun x hx => hx) (fun x hx => by unfold U; omega)
  refine fv_aload_n C d_M_init_58 (n := 59) rfl (i := 0) rfl rfl ?_
  refine fv_sipush C d_M_init_59 (n := 62) rfl kS_400 ?_
  refine fv_nwi C (t0 := 0) rfl rfl (Or.inl rfl) na_i d_M_init_62 (n := 64) rfl (by decide) (by omega) (by omega) (fun h1 e1 f1 => ?_)
  have hO := (f1 _ (by omega)).trans hO
  have hAr : ∀ k, 1 ≤ k → k < 8 → h1 (a + k) = some (.inl (dA (mt k), ml k, .inl (fun _ => 0))) := fun k q1 q2 => by
    by_cases c : k = 7
    · rw [c]; exact e1
    · exact (f1 _ (by omega)).trans (hAr k q1 (by omega))
  have hF := hF.tr f1 (U := U) (fun x hx => hx) (fun x hx => by unfold U; omega)
  refine fv_pt C (fl_M_28 D dA) (Or.inr ⟨rfl, rfl, _, rfl, nf_no _ _ (by decide +kernel)⟩) d_M_init_64 (n := 67) rfl hO (by omega) rfl rfl (Nat.le_of_ble_eq_true rfl) (fun h1 e1 f1 => ?_)
  have hO : h1 a = some (.inr (8, [.ref (a + 1), .ref (a + 2), .ref (a + 3), .ref (a + 4), .ref (a + 5), .ref (a + 6), .ref (a + 7), .int 0, .null, .null, .int 0, .null, .null, .null, .null, .int 0, .int 0, .null, .null, .null, .null, .null, .null, .null, .null, .null, .null, .null, .null, .null, .int 0, .null, .null, .null, .null])) := e1
  have hAr : ∀ k, 1 ≤ k → k < 8 → h1 (a + k) = some (.inl (dA (mt k), ml k, .inl (fun _ => 0))) := fun k q1 q2 => (f1 _ (by omega)).trans (hAr k q1 q2)
  have hF := hF.tr f1 (U := U) (fun x hx => hx) (fun x hx => by unfold U; omega)
  refine fv_aload_n C d_M_init_67 (n := 68) rfl (i := 0) rfl rfl ?_
  refine fv_iconst C d_M_init_68 (n := 69) rfl kI_4 ?_
  refine fv_nwi C (t0 := 0) rfl rfl (Or.inl rfl) na_i d_M_init_69 (n := 71) rfl (by decide) (by omega) (by omega) (fun h1 e1 f1 => ?_)
  have hO := (f1 _ (by omega)).trans hO
  have hAr : ∀ k, 1 ≤ k → k < 9 → h1 (a + k) = some (.inl (dA (mt k), ml k, .inl (fun _ => 0))) := fun k q1 q2 => by
    by_cases c : k = 8
    · rw [c]; exact e1
    · exact (f1 _ (by omega)).trans (hAr k q1 (by omega))
  have hF := hF.tr f1 (U := U) (fun x hx => hx) (fun x hx => by unfold U; omega)
  refine fv_pt C (fl_M_31 D dA) (Or.inr ⟨rfl, rfl, _, rfl, nf_no _ _ (by decide +kernel)⟩) d_M_init_71 (n := 74) rfl hO (by omega) rfl rfl (Nat.le_of_ble_eq_true rfl) (fun h1 e1 f1 => ?_)
  have hO : h1 a = some (.inr (8, [.ref (a + 1), .ref (a + 2), .ref (a + 3), .ref (a + 4), .ref (a + 5), .ref (a + 6), .ref (a + 7), .int 0, .ref (a + 8), .null, .int 0, .null, .null, .null, .null, .int 0, .int 0, .null, .null, .null, .null, .null, .null, .null, .null, .null, .null, .null, .null, .null, .int 0, .null, .null, .null, .null])) := e1
  have hAr : ∀ k, 1 ≤ k → k < 9 → h1 (a + k) = some (.inl (dA (mt k), ml k, .inl (fun _ => 0))) := fun k q1 q2 => (f1 _ (by omega)).trans (hAr k q1 q2)
  have hF := hF.tr f1 (U := U) (fun x hx => hx) (fun x hx => by unfold U; omega)
  refine fv_aload_n C d_M_init_74 (n := 75) rfl (i := 0) rfl rfl ?_
  refine fv_sipush C d_M_init_75 (n := 78) rfl kS_402 ?_
  refine fv_nwi C (t0 := 0) rfl rfl (Or.inl rfl) na_i d_M_init_78 (n := 80) rfl (by decide) (by omega) (by omega) (fun h1 e1 f1 => ?_)
  have hO := (f1 _ (by omega)).trans hO
  have hAr : ∀ k, 1 ≤ k → k < 10 → h1 (a + k) = some (.inl (dA (mt k), ml k, .inl (fun _ => 0))) := fun k q1 q2 => by
    by_cases c : k = 9
    · rw [c]; exact e1
    · exact (f1 _ (by omega)).trans (hAr k q1 (by omega))
  have hF := hF.tr f1 (U := U) (fun x hx => hx) (fun x hx => by unfold U; omega)
  refine fv_pt C (fl_M_34 D dA) (Or.inr ⟨rfl, rfl, _, rfl, nf_no _ _ (by decide +kernel)⟩) d_M_init_80 (n := 83) rfl hO (by omega) rfl rfl (Nat.le_of_ble_eq_true rfl) (fun h1 e1 f1 => ?_)
  have hO : h1 a = some (.inr (8, [.ref (a + 1), .ref (a + 2), .ref (a + 3), .ref (a + 4), .ref (a + 5), .ref (a + 6), .ref (a + 7), .int 0, .ref (a + 8), .ref (a + 9), .int 0, .null, .null, .null, .null, .int 0, .int 0, .null, .null, .null, .null, .null, .null, .null, .null, .null, .null, .null, .null, .null, .int 0, .null, .null, .null, .null])) := e1
  have hAr : ∀ k, 1 ≤ k → k < 10 → h1 (a + k) = some (.inl (dA (mt k), ml k, .inl (fun _ => 0))) := fun k q1 q2 => (f1 _ (by omega)).trans (hAr k q1 q2)
  have hF := hF.tr f1 (U := U) (fun x hx => hx) (fun x hx => by unfold U; omega)
  refine fv_aload_n C d_M_init_83 (n := 84) rfl (i := 0) rfl rfl ?_
  refine fv_bipush C d_M_init_84 (n := 86) rfl kB_24 ?_
  refine fv_nwi C (t0 := 0) rfl rfl (Or.inl rfl) na_i d_M_init_86 (n := 88) rfl (by decide) (by omega) (by omega) (fun h1 e1 f1 => ?_)
  have hO := (f1 _ (by omega)).trans hO
  have hAr : ∀ k, 1 ≤ k → k < 11 → h1 (a + k) = some (.inl (dA (mt k), ml k, .inl (fun _ => 0))) := fun k q1 q2 => by
    by_cases c : k = 10
    · rw [c]; exact e1
    · exact (f1 _ (by omega)).trans (hAr k q1 (by omega))
  have hF := hF.tr f1 (U := U) (fun x hx => hx) (fun x hx => by unfold U; omega)
  refine fv_pt C (fl_M_37 D dA) (Or.inr ⟨rfl, rfl, _, rfl, nf_no _ _ (by decide +kernel)⟩) d_M_init_88 (n := 91) rfl hO (by omega) rfl rfl (Nat.le_of_ble_eq_true rfl) (fun h1 e1 f1 => ?_)
  have hO : h1 a = some (.inr (8, [.ref (a + 1), .ref (a + 2), .ref (a + 3), .ref (a + 4), .ref (a + 5), .ref (a + 6), .ref (a + 7), .int 0, .ref (a + 8), .ref (a + 9), .int 0, .ref (a + 10), .null, .null, .null, .int 0, .int 0, .null, .null, .null, .null, .null, .null, .null, .null, .null, .null, .null, .null, .null, .int 0, .null, .null, .null, .null])) := e1
  have hAr : ∀ k, 1 ≤ k → k < 11 → h1 (a + k) = some (.inl (dA (mt k), ml k, .inl (fun _ => 0))) := fun k q1 q2 => (f1 _ (by omega)).trans (hAr k q1 q2)
  have hF := hF.tr f1 (U := U) (fun x hx => hx) (fun x hx => by unfold U; omega)
  refine fv_aload_n C d_M_init_91 (n := 92) rfl (i := 0) rfl rfl ?_
  refine fv_bipush C d_M_init_92 (n := 94) rfl kB_24 ?_
  refine fv_nwi C (t0 := 0) rfl rfl (Or.inl rfl) na_i d_M_init_94 (n := 96) rfl (by decide) (by omega) (by omega) (fun h1 e1 f1 => ?_)
  have hO := (f1 _ (by omega)).trans hO
  have hAr : ∀ k, 1 ≤ k → k < 12 → h1 (a + k) = some (.inl (dA (mt k), ml k, .inl (fun _ => 0))) := fun k q1 q2 => by
    by_cases c : k = 11
    · rw [c]; exact e1
    · exact (f1 _ (by omega)).trans (hAr k q1 (by omega))
  have hF := hF.tr f1 (U := U) (fun x hx => hx) (fun x hx => by unfold U; omega)
  refine fv_pt C (fl_M_40 D dA) (Or.inr ⟨rfl, rfl, _, rfl, nf_no _ _ (by decide +kernel)⟩) d_M_init_96 (n := 99) rfl hO (by omega) rfl rfl (Nat.le_of_ble_eq_true rfl) (fun h1 e1 f1 => ?_)
  have hO : h1 a = some (.inr (8, [.ref (a + 1), .ref (a + 2), .ref (a + 3), .ref (a + 4), .ref (a + 5), .ref (a + 6), .ref (a + 7), .int 0, .ref (a + 8), .ref (a + 9), .int 0, .ref (a + 10), .ref (a + 11), .null, .null, .int 0, .int 0, .null, .null, .null, .null, .null, .null, .null, .null, .null, .null, .null, .null, .null, .int 0, .null, .null, .null, .null])) := e1
  have hAr : ∀ k, 1 ≤ k → k < 12 → h1 (a + k) = some (.inl (dA (mt k), ml k, .inl (fun _ => 0))) := fun k q1 q2 => (f1 _ (by omega)).trans (hAr k q1 q2)
  have hF := hF.tr f1 (U := U) (fun x hx => hx) (fun x hx => by unfold U; omega)
  refine fv_aload_n C d_M_init_99 (n := 100) rfl (i := 0) rfl rfl ?_
  refine fv_bipush C d_M_init_100 (n := 102) rfl kB_24 ?_
  refine fv_nwi C (t0 := 0) rfl rfl (Or.inl rfl) na_i d_M_init_102 (n := 104) rfl (by decide) (by omega) (by omega) (fun h1 e1 f1 => ?_)
  have hO := (f1 _ (by omega)).trans hO
  have hAr : ∀ k, 1 ≤ k → k < 13 → h1 (a + k) = some (.inl (dA (mt k), ml k, .inl (fun _ => 0))) := fun k q1 q2 => by
    by_cases c : k = 12
    · rw [c]; exact e1
    · exact (f1 _ (by omega)).trans (hAr k q1 (by omega))
  have hF := hF.tr f1 (U := U) (fun x hx => hx) (fun x hx => by unfold U; omega)
  refine fv_pt C (fl_M_43 D dA) (Or.inr ⟨rfl, rfl, _, rfl, nf_no _ _ (by decide +kernel)⟩) d_M_init_104 (n := 107) rfl hO (by omega) rfl rfl (Nat.le_of_ble_eq_true rfl) (fun h1 e1 f1 => ?_)
  have hO : h1 a = some (.inr (8, [.ref (a + 1), .ref (a + 2), .ref (a + 3), .ref (a + 4), .ref (a + 5), .ref (a + 6), .ref (a + 7), .int 0, .ref (a + 8), .ref (a + 9), .int 0, .ref (a + 10), .ref (a + 11), .ref (a + 12), .null, .int 0, .int 0, .null, .null, .null, .null, .null, .null, .null, .null, .null, .null, .null, .null, .null, .int 0, .null, .null, .null, .null])) := e1
  have hAr : ∀ k, 1 ≤ k → k < 13 → h1 (a + k) = some (.inl (dA (mt k), ml k, .inl (fun _ => 0))) := fun k q1 q2 => (f1 _ (by omega)).trans (hAr k q1 q2)
  have hF := hF.tr f1 (U := U) (fun x hx => hx) (fun x hx => by unfold U; omega)
  refine fv_aload_n C d_M_init_107 (n := 108) rfl (i := 0) rfl rfl ?_
  refine fv_bipush C d_M_init_108 (n := 110) rfl kB_24 ?_
  refine fv_nwi C (t0 := 0) rfl rfl (Or.inl rfl) na_i d_M_init_110 (n := 112) rfl (by decide) (by omega) (by omega) (fun h1 e1 f1 => ?_)
  have hO := (f1 _ (by omega)).trans hO
  have hAr : ∀ k, 1 ≤ k → k < 14 → h1 (a + k) = some (.inl (dA (mt k), ml k, .inl (fun _ => 0))) := fun k q1 q2 => by
    by_cases c : k = 13
    · rw [c]; exact e1
    · exact (f1 _ (by omega)).trans (hAr k q1 (by omega))
  have hF := hF.tr f1 (U := U) (fun x hx => hx) (fun x hx => by unfold U; omega)
  refine fv_pt C (fl_M_46 D dA) (Or.inr ⟨rfl, rfl, _, rfl, nf_no _ _ (by decide +kernel)⟩) d_M_init_112 (n := 115) rfl hO (by omega) rfl rfl (Nat.le_of_ble_eq_true rfl) (fun h1 e1 f1 => ?_)
  have hO : h1 a = some (.inr (8, [.ref (a + 1), .ref (a + 2), .ref (a + 3), .ref (a + 4), .ref (a + 5), .ref (a + 6), .ref (a + 7), .int 0, .ref (a + 8), .ref (a + 9), .int 0, .ref (a + 10), .ref (a + 11), .ref (a + 12), .ref (a + 13), .int 0, .int 0, .null, .null, .null, .null, .null, .null, .null, .null, .null, .null, .null, .null, .null, .int 0, .null, .null, .null, .null])) := e1
  have hAr : ∀ k, 1 ≤ k → k < 14 → h1 (a + k) = some (.inl (dA (mt k), ml k, .inl (fun _ => 0))) := fun k q1 q2 => (f1 _ (by omega)).trans (hAr k q1 q2)
  have hF := hF.tr f1 (U := U) (fun x hx => hx) (fun x hx => by unfold U; omega)
  refine fv_aload_n C d_M_init_115 (n := 116) rfl (i := 0) rfl rfl ?_
  refine fv_bipush C d_M_init_116 (n := 118) rfl kB_19 ?_
  refine fv_nwi C (t0 := 0) rfl rfl (Or.inl rfl) na_i d_M_init_118 (n := 120) rfl (by decide) (by omega) (by omega) (fun h1 e1 f1 => ?_)
  have hO := (f1 _ (by omega)).trans hO
  have hAr : ∀ k, 1 ≤ k → k < 15 → h1 (a + k) = some (.inl (dA (mt k), ml k, .inl (fun _ => 0))) := fun k q1 q2 => by
    by_cases c : k = 14
    · rw [c]; exact e1
    · exact (f1 _ (by omega)).trans (hAr k q1 (by omega))
  have hF := hF.tr f1 (U := U) (fun x hx => hx) (fun x hx => by unfold U; omega)
  refine fv_pt C (fl_M_49 D dA) (Or.inr ⟨rfl, rfl, _, rfl, nf_no _ _ (by decide +kernel)⟩) d_M_init_120 (n := 123) rfl hO (by omega) rfl rfl (Nat.le_of_ble_eq_true rfl) (fun h1 e1 f1 => ?_)
  have hO : h1 a = some (.inr (8, [.ref (a + 1), .ref (a + 2), .ref (a + 3), .ref (a + 4), .ref (a + 5), .ref (a + 6), .ref (a + 7), .int 0, .ref (a + 8), .ref (a + 9), .int 0, .ref (a + 10), .ref (a + 11), .ref (a + 12), .ref (a + 13), .int 0, .int 0, .ref (a + 14), .null, .null, .null, .null, .null, .null, .null, .null, .null, .null, .null, .null, .int 0, .null, .null, .null, .null])) := e1
  have hAr : ∀ k, 1 ≤ k → k < 15 → h1 (a + k) = some (.inl (dA (mt k), ml k, .inl (fun _ => 0))) := fun k q1 q2 => (f1 _ (by omega)).trans (hAr k q1 q2)
  have hF := hF.tr f1 (U := U) (fun x hx => hx) (fun x hx => by unfold U; omega)
  refine fv_aload_n C d_M_init_123 (n := 124) rfl (i := 0) rfl rfl ?_
  refine fv_bipush C d_M_init_124 (n := 126) rfl kB_19 ?_
  refine fv_nwi C (t0 := 0) rfl rfl (Or.inl rfl) na_i d_M_init_126 (n := 128) rfl (by decide) (by omega) (by omega) (fun h1 e1 f1 => ?_)
  have hO := (f1 _ (by omega)).trans hO
  have hAr : ∀ k, 1 ≤ k → k < 16 → h1 (a + k) = some (.inl (dA (mt k), ml k, .inl (fun _ => 0))) := fun k q1 q2 => by
    by_cases c : k = 15
    · rw [c]; exact e1
    · exact (f1 _ (by omega)).trans (hAr k q1 (by omega))
  have hF := hF.tr f1 (U := U) (fun x hx => hx) (fun x hx => by unfold U; omega)
  refine fv_pt C (fl_M_52 D dA) (Or.inr ⟨rfl, rfl, _, rfl, nf_no _ _ (by decide +kernel)⟩) d_M_init_128 (n := 131) rfl hO (by omega) rfl rfl (Nat.le_of_ble_eq_true rfl) (fun h1 e1 f1 => ?_)
  have hO : h1 a = some (.inr (8, [.ref (a + 1), .ref (a + 2), .ref (a + 3), .ref (a + 4), .ref (a + 5), .ref (a + 6), .ref (a + 7), .int 0, .ref (a + 8), .ref (a + 9), .int 0, .ref (a + 10), .ref (a + 11), .ref (a + 12), .ref (a + 13), .int 0, .int 0, .ref (a + 14), .ref (a + 15), .null, .null, .null, .null, .null, .null, .null, .null, .null, .null, .null, .int 0, .null, .null, .null, .null])) := e1
  have hAr : ∀ k, 1 ≤ k → k < 16 → h1 (a + k) = some (.inl (dA (mt k), ml k, .inl (fun _ => 0))) := fun k q1 q2 => (f1 _ (by omega)).trans (hAr k q1 q2)
  have hF := hF.tr f1 (U := U) (fun x hx => hx) (fun x hx => by unfold U; omega)
  refine fv_aload_n C d_M_init_131 (n := 132) rfl (i := 0) rfl rfl ?_
  refine fv_bipush C d_M_init_132 (n := 134) rfl kB_8 ?_
  refine fv_nwi C (t0 := 0) rfl rfl (Or.inl rfl) na_i d_M_init_134 (n := 136) rfl (by decide) (by omega) (by omega) (fun h1 e1 f1 => ?_)
  have hO := (f1 _ (by omega)).trans hO
  have hAr : ∀ k, 1 ≤ k → k < 17 → h1 (a + k) = some (.inl (dA (mt k), ml k, .inl (fun _ => 0))) := fun k q1 q2 => by
    by_cases c : k = 16
    · rw [c]; exact e1
    · exact (f1 _ (by omega)).trans (hAr k q1 (by omega))
  have hF := hF.tr f1 (U := U) (fun x hx => hx) (fun x hx => by unfold U; omega)
  refine fv_pt C (fl_M_55 D dA) (Or.inr ⟨rfl, rfl, _, rfl, nf_no _ _ (by decide +kernel)⟩) d_M_init_136 (n := 139) rfl hO (by omega) rfl rfl (Nat.le_of_ble_eq_true rfl) (fun h1 e1 f1 => ?_)
  have hO : h1 a = some (.inr (8, [.ref (a + 1), .ref (a + 2), .ref (a + 3), .ref (a + 4), .ref (a + 5), .ref (a + 6), .ref (a + 7), .int 0, .ref (a + 8), .ref (a + 9), .int 0, .ref (a + 10), .ref (a + 11), .ref (a + 12), .ref (a + 13), .int 0, .int 0, .ref (a + 14), .ref (a + 15), .ref (a + 16), .null, .null, .null, .null, .null, .null, .null, .null, .null, .null, .int 0, .null, .null, .null, .null])) := e1
  have hAr : ∀ k, 1 ≤ k → k < 17 → h1 (a + k) = some (.inl (dA (mt k), ml k, .inl (fun _ => 0))) := fun k q1 q2 => (f1 _ (by omega)).trans (hAr k q1 q2)
  have hF := hF.tr f1 (U := U) (fun x hx => hx) (fun x hx => by unfold U; omega)
  refine fv_aload_n C d_M_init_139 (n := 140) rfl (i := 0) rfl rfl ?_
  refine fv_bipush C d_M_init_140 (n := 142) rfl kB_8 ?_
  refine fv_nwi C (t0 := 0) rfl rfl (Or.inl rfl) na_i d_M_init_142 (n := 144) rfl (by decide) (by omega) (by omega) (fun h1 e1 f1 => ?_)
  have hO := (f1 _ (by omega)).trans hO
  have hAr : ∀ k, 1 ≤ k → k < 18 → h1 (a + k) = some (.inl (dA (mt k), ml k, .inl (fun _ => 0))) := fun k q1 q2 => by
    by_cases c : k = 17
    · rw [c]; exact e1
    · exact (f1 _ (by omega)).trans (hAr k q1 (by omega))
  have hF := hF.tr f1 (U := U) (fun x hx => hx) (fun x hx => by unfold U; omega)
  refine fv_pt C (fl_M_58 D dA) (Or.inr ⟨rfl, rfl, _, rfl, nf_no _ _ (by decide +kernel)⟩) d_M_init_144 (n := 147) rfl hO (by omega) rfl rfl (Nat.le_of_ble_eq_true rfl) (fun h1 e1 f1 => ?_)
  have hO : h1 a = some (.inr (8, [.ref (a + 1), .ref (a + 2), .ref (a + 3), .ref (a + 4), .ref (a + 5), .ref (a + 6), .ref (a + 7), .int 0, .ref (a + 8), .ref (a + 9), .int 0, .ref (a + 10), .ref (a + 11), .ref (a + 12), .ref (a + 13), .int 0, .int 0, .ref (a + 14), .ref (a + 15), .ref (a + 16), .ref (a + 17), .null, .null, .null, .null, .null, .null, .null, .null, .null, .int 0, .null, .null, .null, .null])) := e1
  have hAr : ∀ k, 1 ≤ k → k < 18 → h1 (a + k) = some (.inl (dA (mt k), ml k, .inl (fun _ => 0))) := fun k q1 q2 => (f1 _ (by omega)).trans (hAr k q1 q2)
  have hF := hF.tr f1 (U := U) (fun x hx => hx) (fun x hx => by unfold U; omega)
  refine fv_aload_n C d_M_init_147 (n := 148) rfl (i := 0) rfl rfl ?_
  refine fv_sipush C d_M_init_148 (n := 151) rfl kS_3208 ?_
  refine fv_nwi C (t0 := 1) rfl rfl (Or.inr rfl) na_z d_M_init_151 (n := 153) rfl (by decide) (by omega) (by omega) (fun h1 e1 f1 => ?_)
  have hO := (f1 _ (by omega)).trans hO
  have hAr : ∀ k, 1 ≤ k → k < 19 → h1 (a + k) = some (.inl (dA (mt k), ml k, .inl (fun _ => 0))) := fun k q1 q2 => by
    by_cases c : k = 18
    · rw [c]; exact e1
    · exact (f1 _ (by omega)).trans (hAr k q1 (by omega))
  have hF := hF.tr f1 (U := U) (fun x hx => hx) (fun x hx => by unfold U; omega)
  refine fv_pt C (fl_M_61 D dA) (Or.inr ⟨rfl, rfl, _, rfl, nf_no _ _ (by decide +kernel)⟩) d_M_init_153 (n := 156) rfl hO (by omega) rfl rfl (Nat.le_of_ble_eq_true rfl) (fun h1 e1 f1 => ?_)
  have hO : h1 a = some (.inr (8, [.ref (a + 1), .ref (a + 2), .ref (a + 3), .ref (a + 4), .ref (a + 5), .ref (a + 6), .ref (a + 7), .int 0, .ref (a + 8), .ref (a + 9), .int 0, .ref (a + 10), .ref (a + 11), .ref (a + 12), .ref (a + 13), .int 0, .int 0, .ref (a + 14), .ref (a + 15), .ref (a + 16), .ref (a + 17), .ref (a + 18), .null, .null, .null, .null, .null, .null, .null, .null, .int 0, .null, .null, .null, .null])) := e1
  have hAr : ∀ k, 1 ≤ k → k < 19 → h1 (a + k) = some (.inl (dA (mt k), ml k, .inl (fun _ => 0))) := fun k q1 q2 => (f1 _ (by omega)).trans (hAr k q1 q2)
  have hF := hF.tr f1 (U := U) (fun x hx => hx) (fun x hx => by unfold U; omega)
  refine fv_aload_n C d_M_init_156 (n := 157) rfl (i := 0) rfl rfl ?_
  refine fv_bipush C d_M_init_157 (n := 159) rfl kB_8 ?_
  refine fv_nwi C (t0 := 0) rfl rfl (Or.inl rfl) na_i d_M_init_159 (n := 161) rfl (by decide) (by omega) (by omega) (fun h1 e1 f1 => ?_)
  have hO := (f1 _ (by omega)).trans hO
  have hAr : ∀ k, 1 ≤ k → k < 20 → h1 (a + k) = some (.inl (dA (mt k), ml k, .inl (fun _ => 0))) := fun k q1 q2 => by
    by_cases c : k = 19
    · rw [c]; exact e1
    · exact (f1 _ (by omega)).trans (hAr k q1 (by omega))
  have hF := hF.tr f1 (U := U) (fun x hx => hx) (fun x hx => by unfold U; omega)
  refine fv_pt C (fl_M_65 D dA) (Or.inr ⟨rfl, rfl, _, rfl, nf_no _ _ (by decide +kernel)⟩) d_M_init_161 (n := 164) rfl hO (by omega) rfl rfl (Nat.le_of_ble_eq_true rfl) (fun h1 e1 f1 => ?_)
  have hO : h1 a = some (.inr (8, [.ref (a + 1), .ref (a + 2), .ref (a + 3), .ref (a + 4), .ref (a + 5), .ref (a + 6), .ref (a + 7), .int 0, .ref (a + 8), .ref (a + 9), .int 0, .ref (a + 10), .ref (a + 11), .ref (a + 12), .ref (a + 13), .int 0, .int 0, .ref (a + 14), .ref (a + 15), .ref (a + 16), .ref (a + 17), .ref (a + 18), .ref (a + 19), .null, .null, .null, .null, .null, .null, .null, .int 0, .null, .null, .null, .null])) := e1
  have hAr : ∀ k, 1 ≤ k → k < 20 → h1 (a + k) = some (.inl (dA (mt k), ml k, .inl (fun _ => 0))) := fun k q1 q2 => (f1 _ (by omega)).trans (hAr k q1 q2)
  have hF := hF.tr f1 (U := U) (fun x hx => hx) (fun x hx => by unfold U; omega)
  refine fv_aload_n C d_M_init_164 (n := 165) rfl (i := 0) rfl rfl ?_
  refine fv_iconst C d_M_init_165 (n := 166) rfl kI_2 ?_
  refine fv_nwi C (t0 := 0) rfl rfl (Or.inl rfl) na_i d_M_init_166 (n := 168) rfl (by decide) (by omega) (by omega) (fun h1 e1 f1 => ?_)
  have hO := (f1 _ (by omega)).trans hO
  have hAr : ∀ k, 1 ≤ k → k < 21 → h1 (a + k) = some (.inl (dA (mt k), ml k, .inl (fun _ => 0))) := fun k q1 q2 => by
    by_cases c : k = 20
    · rw [c]; exact e1
    · exact (f1 _ (by omega)).trans (hAr k q1 (by omega))
  have hF := hF.tr f1 (U := U) (fun x hx => hx) (fun x hx => by unfold U; omega)
  refine fv_pt C (fl_M_68 D dA) (Or.inr ⟨rfl, rfl, _, rfl, nf_no _ _ (by decide +kernel)⟩) d_M_init_168 (n := 171) rfl hO (by omega) rfl rfl (Nat.le_of_ble_eq_true rfl) (fun h1 e1 f1 => ?_)
  have hO : h1 a = some (.inr (8, [.ref (a + 1), .ref (a + 2), .ref (a + 3), .ref (a + 4), .ref (a + 5), .ref (a + 6), .ref (a + 7), .int 0, .ref (a + 8), .ref (a + 9), .int 0, .ref (a + 10), .ref (a + 11), .ref (a + 12), .ref (a + 13), .int 0, .int 0, .ref (a + 14), .ref (a + 15), .ref (a + 16), .ref (a + 17), .ref (a + 18), .ref (a + 19), .ref (a + 20), .null, .null, .null, .null, .null, .null, .int 0, .null, .null, .null, .null])) := e1
  have hAr : ∀ k, 1 ≤ k → k < 21 → h1 (a + k) = some (.inl (dA (mt k), ml k, .inl (fun _ => 0))) := fun k q1 q2 => (f1 _ (by omega)).trans (hAr k q1 q2)
  have hF := hF.tr f1 (U := U) (fun x hx => hx) (fun x hx => by unfold U; omega)
  refine fv_aload_n C d_M_init_171 (n := 172) rfl (i := 0) rfl rfl ?_
  refine fv_iconst C d_M_init_172 (n := 173) rfl kI_2 ?_
  refine fv_nwi C (t0 := 0) rfl rfl (Or.inl rfl) na_i d_M_init_173 (n := 175) rfl (by decide) (by omega) (by omega) (fun h1 e1 f1 => ?_)
  have hO := (f1 _ (by omega)).trans hO
  have hAr : ∀ k, 1 ≤ k → k < 22 → h1 (a + k) = some (.inl (dA (mt k), ml k, .inl (fun _ => 0))) := fun k q1 q2 => by
    by_cases c : k = 21
    · rw [c]; exact e1
    · exact (f1 _ (by omega)).trans (hAr k q1 (by omega))
  have hF := hF.tr f1 (U := U) (fun x hx => hx) (fun x hx => by unfold U; omega)
  refine fv_pt C (fl_M_71 D dA) (Or.inr ⟨rfl, rfl, _, rfl, nf_no _ _ (by decide +kernel)⟩) d_M_init_175 (n := 178) rfl hO (by omega) rfl rfl (Nat.le_of_ble_eq_true rfl) (fun h1 e1 f1 => ?_)
  have hO : h1 a = some (.inr (8, [.ref (a + 1), .ref (a + 2), .ref (a + 3), .ref (a + 4), .ref (a + 5), .ref (a + 6), .ref (a + 7), .int 0, .ref (a + 8), .ref (a + 9), .int 0, .ref (a + 10), .ref (a + 11), .ref (a + 12), .ref (a + 13), .int 0, .int 0, .ref (a + 14), .ref (a + 15), .ref (a + 16), .ref (a + 17), .ref (a + 18), .ref (a + 19), .ref (a + 20), .ref (a + 21), .null, .null, .null, .null, .null, .int 0, .null, .null, .null, .null])) := e1
  have hAr : ∀ k, 1 ≤ k → k < 22 → h1 (a + k) = some (.inl (dA (mt k), ml k, .inl (fun _ => 0))) := fun k q1 q2 => (f1 _ (by omega)).trans (hAr k q1 q2)
  have hF := hF.tr f1 (U := U) (fun x hx => hx) (fun x hx => by unfold U; omega)
  refine fv_aload_n C d_M_init_178 (n := 179) rfl (i := 0) rfl rfl ?_
  refine fv_sipush C d_M_init_179 (n := 182) rfl kS_804 ?_
  refine fv_nwi C (t0 := 1) rfl rfl (Or.inr rfl) na_z d_M_init_182 (n := 184) rfl (by decide) (by omega) (by omega) (fun h1 e1 f1 => ?_)
  have hO := (f1 _ (by omega)).trans hO
  have hAr : ∀ k, 1 ≤ k → k < 23 → h1 (a + k) = some (.inl (dA (mt k), ml k, .inl (fun _ => 0))) := fun k q1 q2 => by
    by_cases c : k = 22
    · rw [c]; exact e1
    · exact (f1 _ (by omega)).trans (hAr k q1 (by omega))
  have hF := hF.tr f1 (U := U) (fun x hx => hx) (fun x hx => by unfold U; omega)
  refine fv_pt C (fl_M_74 D dA) (Or.inr ⟨rfl, rfl, _, rfl, nf_no _ _ (by decide +kernel)⟩) d_M_init_184 (n := 187) rfl hO (by omega) rfl rfl (Nat.le_of_ble_eq_true rfl) (fun h1 e1 f1 => ?_)
  have hO : h1 a = some (.inr (8, [.ref (a + 1), .ref (a + 2), .ref (a + 3), .ref (a + 4), .ref (a + 5), .ref (a + 6), .ref (a + 7), .int 0, .ref (a + 8), .ref (a + 9), .int 0, .ref (a + 10), .ref (a + 11), .ref (a + 12), .ref (a + 13), .int 0, .int 0, .ref (a + 14), .ref (a + 15), .ref (a + 16), .ref (a + 17), .ref (a + 18), .ref (a + 19), .ref (a + 20), .ref (a + 21), .ref (a + 22), .null, .null, .null, .null, .int 0, .null, .null, .null, .null])) := e1
  have hAr : ∀ k, 1 ≤ k → k < 23 → h1 (a + k) = some (.inl (dA (mt k), ml k, .inl (fun _ => 0))) := fun k q1 q2 => (f1 _ (by omega)).trans (hAr k q1 q2)
  have hF := hF.tr f1 (U := U) (fun x hx => hx) (fun x hx => by unfold U; omega)
  refine fv_aload_n C d_M_init_187 (n := 188) rfl (i := 0) rfl rfl ?_
  refine fv_iconst C d_M_init_188 (n := 189) rfl kI_2 ?_
  refine fv_nwi C (t0 := 0) rfl rfl (Or.inl rfl) na_i d_M_init_189 (n := 191) rfl (by decide) (by omega) (by omega) (fun h1 e1 f1 => ?_)
  have hO := (f1 _ (by omega)).trans hO
  have hAr : ∀ k, 1 ≤ k → k < 24 → h1 (a + k) = some (.inl (dA (mt k), ml k, .inl (fun _ => 0))) := fun k q1 q2 => by
    by_cases c : k = 23
    · rw [c]; exact e1
    · exact (f1 _ (by omega)).trans (hAr k q1 (by omega))
  have hF := hF.tr f1 (U := U) (fun x hx => hx) (fun x hx => by unfold U; omega)
  refine fv_pt C (fl_M_77 D dA) (Or.inr ⟨rfl, rfl, _, rfl, nf_no _ _ (by decide +kernel)⟩) d_M_init_191 (n := 194) rfl hO (by omega) rfl rfl (Nat.le_of_ble_eq_true rfl) (fun h1 e1 f1 => ?_)
  have hO : h1 a = some (.inr (8, [.ref (a + 1), .ref (a + 2), .ref (a + 3), .ref (a + 4), .ref (a + 5), .ref (a + 6), .ref (a + 7), .int 0, .ref (a + 8), .ref (a + 9), .int 0, .ref (a + 10), .ref (a + 11), .ref (a + 12), .ref (a + 13), .int 0, .int 0, .ref (a + 14), .ref (a + 15), .ref (a + 16), .ref (a + 17), .ref (a + 18), .ref (a + 19), .ref (a + 20), .ref (a + 21), .ref (a + 22), .ref (a + 23), .null, .null, .null, .int 0, .null, .null, .null, .null])) := e1
  have hAr : ∀ k, 1 ≤ k → k < 24 → h1 (a + k) = some (.inl (dA (mt k), ml k, .inl (fun _ => 0))) := fun k q1 q2 => (f1 _ (by omega)).trans (hAr k q1 q2)
  have hF := hF.tr f1 (U := U) (fun x hx => hx) (fun x hx => by unfold U; omega)
  refine fv_aload_n C d_M_init_194 (n := 195) rfl (i := 0) rfl rfl ?_
  refine fv_sipush C d_M_init_195 (n := 198) rfl kS_513 ?_
  refine fv_nwi C (t0 := 0) rfl rfl (Or.inl rfl) na_i d_M_init_198 (n := 200) rfl (by decide) (by omega) (by omega) (fun h1 e1 f1 => ?_)
  have hO := (f1 _ (by omega)).trans hO
  have hAr : ∀ k, 1 ≤ k → k < 25 → h1 (a + k) = some (.inl (dA (mt k), ml k, .inl (fun _ => 0))) := fun k q1 q2 => by
    by_cases c : k = 24
    · rw [c]; exact e1
    · exact (f1 _ (by omega)).trans (hAr k q1 (by omega))
  have hF := hF.tr f1 (U := U) (fun x hx => hx) (fun x hx => by unfold U; omega)
  refine fv_pt C (fl_M_80 D dA) (Or.inr ⟨rfl, rfl, _, rfl, nf_no _ _ (by decide +kernel)⟩) d_M_init_200 (n := 203) rfl hO (by omega) rfl rfl (Nat.le_of_ble_eq_true rfl) (fun h1 e1 f1 => ?_)
  have hO : h1 a = some (.inr (8, [.ref (a + 1), .ref (a + 2), .ref (a + 3), .ref (a + 4), .ref (a + 5), .ref (a + 6), .ref (a + 7), .int 0, .ref (a + 8), .ref (a + 9), .int 0, .ref (a + 10), .ref (a + 11), .ref (a + 12), .ref (a + 13), .int 0, .int 0, .ref (a + 14), .ref (a + 15), .ref (a + 16), .ref (a + 17), .ref (a + 18), .ref (a + 19), .ref (a + 20), .ref (a + 21), .ref (a + 22), .ref (a + 23), .ref (a + 24), .null, .null, .int 0, .null, .null, .null, .null])) := e1
  have hAr : ∀ k, 1 ≤ k → k < 25 → h1 (a + k) = some (.inl (dA (mt k), ml k, .inl (fun _ => 0))) := fun k q1 q2 => (f1 _ (by omega)).trans (hAr k q1 q2)
  have hF := hF.tr f1 (U := U) (fun x hx => hx) (fun x hx => by unfold U; omega)
  refine fv_aload_n C d_M_init_203 (n := 204) rfl (i := 0) rfl rfl ?_
  refine fv_sipush C d_M_init_204 (n := 207) rfl kS_513 ?_
  refine fv_nwi C (t0 := 0) rfl rfl (Or.inl rfl) na_i d_M_init_207 (n := 209) rfl (by decide) (by omega) (by omega) (fun h1 e1 f1 => ?_)
  have hO := (f1 _ (by omega)).trans hO
  have hAr : ∀ k, 1 ≤ k → k < 26 → h1 (a + k) = some (.inl (dA (mt k), ml k, .inl (fun _ => 0))) := fun k q1 q2 => by
    by_cases c : k = 25
    · rw [c]; exact e1
    · exact (f1 _ (by omega)).trans (hAr k q1 (by omega))
  have hF := hF.tr f1 (U := U) (fun x hx => hx) (fun x hx => by unfold U; omega)
  refine fv_pt C (fl_M_83 D dA) (Or.inr ⟨rfl, rfl, _, rfl, nf_no _ _ (by decide +kernel)⟩) d_M_init_209 (n := 212) rfl hO (by omega) rfl rfl (Nat.le_of_ble_eq_true rfl) (fun h1 e1 f1 => ?_)
  have hO : h1 a = some (.inr (8, [.ref (a + 1), .ref (a + 2), .ref (a + 3), .ref (a + 4), .ref (a + 5), .ref (a + 6), .ref (a + 7), .int 0, .ref (a + 8), .ref (a + 9), .int 0, .ref (a + 10), .ref (a + 11), .ref (a + 12), .ref (a + 13), .int 0, .int 0, .ref (a + 14), .ref (a + 15), .ref (a + 16), .ref (a + 17), .ref (a + 18), .ref (a + 19), .ref (a + 20), .ref (a + 21), .ref (a + 22), .ref (a + 23), .ref (a + 24), .ref (a + 25), .null, .int 0, .null, .null, .null, .null])) := e1
  have hAr : ∀ k, 1 ≤ k → k < 26 → h1 (a + k) = some (.inl (dA (mt k), ml k, .inl (fun _ => 0))) := fun k q1 q2 => (f1 _ (by omega)).trans (hAr k q1 q2)
  have hF := hF.tr f1 (U := U) (fun x hx => hx) (fun x hx => by unfold U; omega)
  refine fv_aload_n C d_M_init_212 (n := 213) rfl (i := 0) rfl rfl ?_
  refine fv_sipush C d_M_init_213 (n := 216) rfl kS_513 ?_
  refine fv_nwi C (t0 := 0) rfl rfl (Or.inl rfl) na_i d_M_init_216 (n := 218) rfl (by decide) (by omega) (by omega) (fun h1 e1 f1 => ?_)
  have hO := (f1 _ (by omega)).trans hO
  have hAr : ∀ k, 1 ≤ k → k < 27 → h1 (a + k) = some (.inl (dA (mt k), ml k, .inl (fun _ => 0))) := fun k q1 q2 => by
    by_cases c : k = 26
    · rw [c]; exact e1
    · exact (f1 _ (by omega)).trans (hAr k q1 (by omega))
  have hF := hF.tr f1 (U := U) (fun x hx => hx) (fun x hx => by unfold U; omega)
  refine fv_pt C (fl_M_86 D dA) (Or.inr ⟨rfl, rfl, _, rfl, nf_no _ _ (by decide +kernel)⟩) d_M_init_218 (n := 221) rfl hO (by omega) rfl rfl (Nat.le_of_ble_eq_true rfl) (fun h1 e1 f1 => ?_)
  have hO : h1 a = some (.inr (8, [.ref (a + 1), .ref (a + 2), .ref (a + 3), .ref (a + 4), .ref (a + 5), .ref (a + 6), .ref (a + 7), .int 0, .ref (a + 8), .ref (a + 9), .int 0, .ref (a + 10), .ref (a + 11), .ref (a + 12), .ref (a + 13), .int 0, .int 0, .ref (a + 14), .ref (a + 15), .ref (a + 16), .ref (a + 17), .ref (a + 18), .ref (a + 19), .ref (a + 20), .ref (a + 21), .ref (a + 22), .ref (a + 23), .ref (a + 24), .ref (a + 25), .ref (a + 26), .int 0, .null, .null, .null, .null])) := e1
  have hAr : ∀ k, 1 ≤ k → k < 27 → h1 (a + k) = some (.inl (dA (mt k), ml k, .inl (fun _ => 0))) := fun k q1 q2 => (f1 _ (by omega)).trans (hAr k q1 q2)
  have hF := hF.tr f1 (U := U) (fun x hx => hx) (fun x hx => by unfold U; omega)
  refine fv_aload_n C d_M_init_221 (n := 222) rfl (i := 0) rfl rfl ?_
  refine fv_bipush C d_M_init_222 (n := 224) rfl kB_8 ?_
  refine fv_nwi C (t0 := 0) rfl rfl (Or.inl rfl) na_i d_M_init_224 (n := 226) rfl (by decide) (by omega) (by omega) (fun h1 e1 f1 => ?_)
  have hO := (f1 _ (by omega)).trans hO
  have hAr : ∀ k, 1 ≤ k → k < 28 → h1 (a + k) = some (.inl (dA (mt k), ml k, .inl (fun _ => 0))) := fun k q1 q2 => by
    by_cases c : k = 27
    · rw [c]; exact e1
    · exact (f1 _ (by omega)).trans (hAr k q1 (by omega))
  have hF := hF.tr f1 (U := U) (fun x hx => hx) (fun x hx => by unfold U; omega)
  refine fv_pt C (fl_M_89 D dA) (Or.inr ⟨rfl, rfl, _, rfl, nf_no _ _ (by decide +kernel)⟩) d_M_init_226 (n := 229) rfl hO (by omega) rfl rfl (Nat.le_of_ble_eq_true rfl) (fun h1 e1 f1 => ?_)
  have hO : h1 a = some (.inr (8, [.ref (a + 1), .ref (a + 2), .ref (a + 3), .ref (a + 4), .ref (a + 5), .ref (a + 6), .ref (a + 7), .int 0, .ref (a + 8), .ref (a + 9), .int 0, .ref (a + 10), .ref (a + 11), .ref (a + 12), .ref (a + 13), .int 0, .int 0, .ref (a + 14), .ref (a + 15), .ref (a + 16), .ref (a + 17), .ref (a + 18), .ref (a + 19), .ref (a + 20), .ref (a + 21), .ref (a + 22), .ref (a + 23), .ref (a + 24), .ref (a + 25), .ref (a + 26), .int 0, .ref (a + 27), .null, .null, .null])) := e1
  have hAr : ∀ k, 1 ≤ k → k < 28 → h1 (a + k) = some (.inl (dA (mt k), ml k, .inl (fun _ => 0))) := fun k q1 q2 => (f1 _ (by omega)).trans (hAr k q1 q2)
  have hF := hF.tr f1 (U := U) (fun x hx => hx) (fun x hx => by unfold U; omega)
  refine fv_aload_n C d_M_init_229 (n := 230) rfl (i := 0) rfl rfl ?_
  refine fv_iconst C d_M_init_230 (n := 231) rfl kI_2 ?_
  refine fv_nwi C (t0 := 0) rfl rfl (Or.inl rfl) na_i d_M_init_231 (n := 233) rfl (by decide) (by omega) (by omega) (fun h1 e1 f1 => ?_)
  have hO := (f1 _ (by omega)).trans hO
  have hAr : ∀ k, 1 ≤ k → k < 29 → h1 (a + k) = some (.inl (dA (mt k), ml k, .inl (fun _ => 0))) := fun k q1 q2 => by
    by_cases c : k = 28
    · rw [c]; exact e1
    · exact (f1 _ (by omega)).trans (hAr k q1 (by omega))
  have hF := hF.tr f1 (U := U) (fun x hx => hx) (fun x hx => by unfold U; omega)
  refine fv_pt C (fl_M_92 D dA) (Or.inr ⟨rfl, rfl, _, rfl, nf_no _ _ (by decide +kernel)⟩) d_M_init_233 (n := 236) rfl hO (by omega) rfl rfl (Nat.le_of_ble_eq_true rfl) (fun h1 e1 f1 => ?_)
  have hO : h1 a = some (.inr (8, [.ref (a + 1), .ref (a + 2), .ref (a + 3), .ref (a + 4), .ref (a + 5), .ref (a + 6), .ref (a + 7), .int 0, .ref (a + 8), .ref (a + 9), .int 0, .ref (a + 10), .ref (a + 11), .ref (a + 12), .ref (a + 13), .int 0, .int 0, .ref (a + 14), .ref (a + 15), .ref (a + 16), .ref (a + 17), .ref (a + 18), .ref (a + 19), .ref (a + 20), .ref (a + 21), .ref (a + 22), .ref (a + 23), .ref (a + 24), .ref (a + 25), .ref (a + 26), .int 0, .ref (a + 27), .ref (a + 28), .null, .null])) := e1
  have hAr : ∀ k, 1 ≤ k → k < 29 → h1 (a + k) = some (.inl (dA (mt k), ml k, .inl (fun _ => 0))) := fun k q1 q2 => (f1 _ (by omega)).trans (hAr k q1 q2)
  have hF := hF.tr f1 (U := U) (fun x hx => hx) (fun x hx => by unfold U; omega)
  refine fv_aload_n C d_M_init_236 (n := 237) rfl (i := 0) rfl rfl ?_
  refine fv_bipush C d_M_init_237 (n := 239) rfl kB_38 ?_
  refine fv_nwi C (t0 := 0) rfl rfl (Or.inl rfl) na_i d_M_init_239 (n := 241) rfl (by decide) (by omega) (by omega) (fun h1 e1 f1 => ?_)
  have hO := (f1 _ (by omega)).trans hO
  have hAr : ∀ k, 1 ≤ k → k < 30 → h1 (a + k) = some (.inl (dA (mt k), ml k, .inl (fun _ => 0))) := fun k q1 q2 => by
    by_cases c : k = 29
    · rw [c]; exact e1
    · exact (f1 _ (by omega)).trans (hAr k q1 (by omega))
  have hF := hF.tr f1 (U := U) (fun x hx => hx) (fun x hx => by unfold U; omega)
  refine fv_pt C (fl_M_95 D dA) (Or.inr ⟨rfl, rfl, _, rfl, nf_no _ _ (by decide +kernel)⟩) d_M_init_241 (n := 244) rfl hO (by omega) rfl rfl (Nat.le_of_ble_eq_true rfl) (fun h1 e1 f1 => ?_)
  have hO : h1 a = some (.inr (8, [.ref (a + 1), .ref (a + 2), .ref (a + 3), .ref (a + 4), .ref (a + 5), .ref (a + 6), .ref (a + 7), .int 0, .ref (a + 8), .ref (a + 9), .int 0, .ref (a + 10), .ref (a + 11), .ref (a + 12), .ref (a + 13), .int 0, .int 0, .ref (a + 14), .ref (a + 15), .ref (a + 16), .ref (a + 17), .ref (a + 18), .ref (a + 19), .ref (a + 20), .ref (a + 21), .ref (a + 22), .ref (a + 23), .ref (a + 24), .ref (a + 25), .ref (a + 26), .int 0, .ref (a + 27), .ref (a + 28), .ref (a + 29), .null])) := e1
  have hAr : ∀ k, 1 ≤ k → k < 30 → h1 (a + k) = some (.inl (dA (mt k), ml k, .inl (fun _ => 0))) := fun k q1 q2 => (f1 _ (by omega)).trans (hAr k q1 q2)
  have hF := hF.tr f1 (U := U) (fun x hx => hx) (fun x hx => by unfold U; omega)
  refine fv_aload_n C d_M_init_244 (n := 245) rfl (i := 0) rfl rfl ?_
  refine fv_iconst C d_M_init_245 (n := 246) rfl kI_2 ?_
  refine fv_nwi C (t0 := 1) rfl rfl (Or.inr rfl) na_z d_M_init_246 (n := 248) rfl (by decide) (by omega) (by omega) (fun h1 e1 f1 => ?_)
  have hO := (f1 _ (by omega)).trans hO
  have hAr : ∀ k, 1 ≤ k → k < 31 → h1 (a + k) = some (.inl (dA (mt k), ml k, .inl (fun _ => 0))) := fun k q1 q2 => by
    by_cases c : k = 30
    · rw [c]; exact e1
    · exact (f1 _ (by omega)).trans (hAr k q1 (by omega))
  have hF := hF.tr f1 (U := U) (fun x hx => hx) (fun x hx => by unfold U; omega)
  refine fv_pt C (fl_M_98 D dA) (Or.inr ⟨rfl, rfl, _, rfl, nf_no _ _ (by decide +kernel)⟩) d_M_init_248 (n := 251) rfl hO (by omega) rfl rfl (Nat.le_of_ble_eq_true rfl) (fun h1 e1 f1 => ?_)
  have hO : h1 a = some (.inr (8, [.ref (a + 1), .ref (a + 2), .ref (a + 3), .ref (a + 4), .ref (a + 5), .ref (a + 6), .ref (a + 7), .int 0, .ref (a + 8), .ref (a + 9), .int 0, .ref (a + 10), .ref (a + 11), .ref (a + 12), .ref (a + 13), .int 0, .int 0, .ref (a + 14), .ref (a + 15), .ref (a + 16), .ref (a + 17), .ref (a + 18), .ref (a + 19), .ref (a + 20), .ref (a + 21), .ref (a + 22), .ref (a + 23), .ref (a + 24), .ref (a + 25), .ref (a + 26), .int 0, .ref (a + 27), .ref (a + 28), .ref (a + 29), .ref (a + 30)])) := e1
  have hAr : ∀ k, 1 ≤ k → k < 31 → h1 (a + k) = some (.inl (dA (mt k), ml k, .inl (fun _ => 0))) := fun k q1 q2 => (f1 _ (by omega)).trans (hAr k q1 q2)
  have hF := hF.tr f1 (U := U) (fun x hx => hx) (fun x hx => by unfold U; omega)
  have hM : MC dA h1 a 0 0 0 false 0 (fun _ _ => 0) := ⟨hO, fun k q1 q2 => hAr k q1 (by omega)⟩
  refine fv_aload_n C d_M_init_251 (n := 252) rfl (i := 0) rfl rfl ?_
  refine fv_get C (fl_M_68 D dA) d_M_init_252 (n := 255) rfl hM.1 rfl ?_
  refine fv_iconst C d_M_init_255 (n := 256) rfl kI_0 ?_
  refine fv_iconst C d_M_init_256 (n := 257) rfl kI_1 ?_
  refine mc_ia C 20 (by decide) (by decide) rfl d_M_init_257 (n := 258) rfl hM (by omega) (by decide) (show _ < 2 by omega) (fun h1 Fa hM a1 a2 f1 => ?_)
  have hF := hF.tr f1 (U := U) (fun x hx => hx) (fun x hx => by unfold MS at hx; unfold U; omega)
  refine fv_aload_n C d_M_init_258 (n := 259) rfl (i := 0) rfl rfl ?_
  refine fv_get C (fl_M_68 D dA) d_M_init_259 (n := 262) rfl hM.1 rfl ?_
  refine fv_iconst C d_M_init_262 (n := 263) rfl kI_1 ?_
  refine fv_iconst C d_M_init_263 (n := 264) rfl kI_1 ?_
  refine mc_ia C 20 (by decide) (by decide) rfl d_M_init_264 (n := 265) rfl hM (by omega) (by decide) (show _ < 2 by omega) (fun h1 Fb hM b1 b2 f1 => ?_)
  have hF := hF.tr f1 (U := U) (fun x hx => hx) (fun x hx => by unfold MS at hx; unfold U; omega)
  refine fv_vret C rfl d_M_init_265 (by omega) (by omega) ?_
  refine ⟨rfl, rfl, ⟨Fb, 0, false, hM, mr_0 (F := fun _ _ => 0) (fun _ _ => rfl) (fun j hj => ?_) (fun q hq => by rw [b2 q hq, a2 q hq])⟩, hF⟩
  rw [b1, a1, upd_at, upd_at]
  rcases (show j = 0 ∨ j = 1 by omega) with rfl | rfl
  · rfl
  · rfl
end MD13
