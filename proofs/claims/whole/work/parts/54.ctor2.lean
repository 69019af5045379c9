/-! constructors: receiver, publisher, desk -/
def TT (dA : Nat → ClassId) (h : fv_H) (a i ar : Nat) : Prop := (∃ sv, TKr dA h a i ar (fun _ => none) 0 0 sv ∧ ∀ c, c < 19 → sv c = fe_vw ([], false) c) ∧ BL dA h (a + 1) ([], false) 0
theorem TT.fs {dA : Nat → ClassId} {h h' : fv_H} {a i ar : Nat} {S : Nat → Prop} (q : TT dA h a i ar) (hf : fs h h' S) (hd : ∀ x, a ≤ x → x < a + 7 → ¬ S x) : TT dA h' a i ar := by
  obtain ⟨⟨sv, h1, h2⟩, h3⟩ := q
  exact ⟨⟨sv, h1.fs hf ⟨hd _ (by omega) (by omega), hd _ (by omega) (by omega), hd _ (by omega) (by omega)⟩, h2⟩, h3.fs hf ⟨hd _ (by omega) (by omega), hd _ (by omega) (by omega), hd _ (by omega) (by omega), hd _ (by omega) (by omega)⟩⟩
section CT2
variable {l : Launch} {D : va_G} {dA : Nat → ClassId} {Bs sz : Nat} {h : fv_H} {a : Nat}
theorem ct_V_init {pub ar : Nat} (hO : h a = some (.inr (5, [.null, .null, .int 0, .int 0, .null, .int 0]))) (hBs : Bs ≤ a) : fv_T l (fk D dA) Bs WA m_V_init [.ref a, .ref pub, .ref ar] (a + 1) h 30 552 (fun v s' h' => v = none ∧ s' = a + 31 ∧ VCr dA h' a pub 1 0 (fun _ => false) 0 ∧ (∀ j, j < 4 → TT dA h' (a + 3 + 7 * j) j ar) ∧ fs h h' (fun x => a ≤ x ∧ x < a + 31)) := by
  let U : Nat → Prop := fun x => a ≤ x ∧ x < a + 31
  have hF : fs h h U := fs_rf _ _
  refine fv_of (L := [_, _, _, _]) (by decide +kernel) rfl (Nat.le_of_ble_eq_true rfl) rfl ?_
  intro X hX C
  subst hX
  have loop : ∀ k i (h1 : fv_H), i + k = 4 → h1 a = some (.inr (5, [.ref (pub), .ref (a + 1), .int (nI 1), .int (nI 0), .ref (a + 2), .int (nI 0)])) → h1 (a + 1) = some (.inl (dA 7, 4, .inr (.inr (.inr (.inr (df_row i (fun j => a + 3 + 7 * j))))))) → h1 (a + 2) = some (.inl (dA 1, 8, .inl (fun _ => 0))) → (∀ j, j < i → TT dA h1 (a + 3 + 7 * j) j ar) → fs h h1 U → fv_V (fk D dA) Bs X 4 (fv_MQ (fk D dA) Bs X (fun v s' h' => v = none ∧ s' = a + 31 ∧ VCr dA h' a pub 1 0 (fun _ => false) 0 ∧ (∀ j, j < 4 → TT dA h' (a + 3 + 7 * j) j ar) ∧ fs h h' (fun x => a ≤ x ∧ x < a + 31)) 30 552) 42 [some (.ref a), some (.ref pub), some (.ref ar), some (.int (nI i))] [] (a + 3 + 7 * i) h1 (2 + 7 * i) (12 + 135 * i) := by
    intro k
    induction k with
    | zero =>
      intro i h1 hi hO hA1 hA2 hTs hF
      have hi4 : i = 4 := by omega
      subst hi4
      refine fv_iload_n C d_V_init_42 (n := 43) rfl (i := 3) rfl rfl ?_
      refine fv_iconst C d_V_init_43 (n := 44) rfl kI_4 ?_
      refine fv_icmpN_ge C (by omega) (by omega) d_V_init_44 (tgt := 68) rfl (n := 47) rfl (fun hc44 => ?_) (fun hc44 => ?_)
      · refine fv_vret C rfl d_V_init_68 (by omega) (by omega) ?_
        exact ⟨rfl, rfl, ⟨hO, hA1, hA2⟩, hTs, hF⟩
      · exact absurd hc44 (by omega)
    | succ k ih =>
      intro i h1 hi hO hA1 hA2 hTs hF
      refine fv_iload_n C d_V_init_42 (n := 43) rfl (i := 3) rfl rfl ?_
      refine fv_iconst C d_V_init_43 (n := 44) rfl kI_4 ?_
      refine fv_icmpN_ge C (by omega) (by omega) d_V_init_44 (tgt := 68) rfl (n := 47) rfl (fun hc44 => ?_) (fun hc44 => ?_)
      · exact absurd hc44 (by omega)
      · refine fv_aload_n C d_V_init_47 (n := 48) rfl (i := 0) rfl rfl ?_
        refine fv_get C (fl_V_11 D dA) d_V_init_48 (n := 51) rfl hO rfl ?_
        refine fv_iload_n C d_V_init_51 (n := 52) rfl (i := 3) rfl rfl ?_
        refine fv_nwo C (vs := [.int 0, .null, .null, .null, .null, .int 0, .int 0]) ty_T uw_T tk_T (ci := 7) rfl kl_V_9 in_T ii_T (fun j hj => by rcases (show j = 0 ∨ j = 1 ∨ j = 2 ∨ j = 3 ∨ j = 4 ∨ j = 5 ∨ j = 6 by omega) with rfl | rfl | rfl | rfl | rfl | rfl | rfl <;> rfl) d_V_init_52 (n := 55) rfl (by omega) (by omega) (fun h1 e1 f1 => ?_)
        have hN : h1 (a + 3 + 7 * i) = some (.inr (7, [.int 0, .null, .null, .null, .null, .int 0, .int 0])) := e1
        have hO := (f1 _ (by omega)).trans hO
        have hA1 := (f1 _ (by omega)).trans hA1
        have hA2 := (f1 _ (by omega)).trans hA2
        have hTs := fun j hj => (hTs j hj).fs f1 (fun x a1 a2 => by omega)
        have hF := hF.tr f1 (U := U) (fun x hx => hx) (fun x hx => by unfold U; omega)
        refine fv_dup C d_V_init_55 (n := 56) rfl rfl ?_
        refine fv_iload_n C d_V_init_56 (n := 57) rfl (i := 3) rfl rfl ?_
        refine fv_aload_n C d_V_init_57 (n := 58) rfl (i := 2) rfl rfl ?_
        refine fv_callI C (ml_V_35 D dA) im_T_init rfl rfl (ct_T_init hN (by omega)) d_V_init_58 (n := 61) rfl rfl rfl rfl (Nat.le_of_ble_eq_true rfl) (Nat.le_of_ble_eq_true rfl) (Nat.le_of_ble_eq_true rfl) (by omega) (by omega) (fun vv s1 h1 hp => ?_)
        obtain ⟨rfl, rfl, hT, hBL, f1⟩ := hp
        have hO := (f1 _ (by omega)).trans hO
        have hA1 := (f1 _ (by omega)).trans hA1
        have hA2 := (f1 _ (by omega)).trans hA2
        have hTs := fun j hj => (hTs j hj).fs f1 (fun x a1 a2 => by omega)
        have hF := hF.tr f1 (U := U) (fun x hx => hx) (fun x hx => by unfold U; omega)
        have hTT : TT dA h1 (a + 3 + 7 * i) i ar := ⟨hT, hBL⟩
        obtain ⟨sv, hT1, -⟩ := hT
        refine fv_asta C (t0 := 7) (ci := 7) rfl d_V_init_61 (n := 62) rfl hA1 hT1.1 rfl (by omega) (by omega) (by decide) (fun h1 e1 f1 => ?_)
        rw [df_s _ _ _ rfl] at e1
        have hO := (f1 _ (by omega)).trans hO
        have hA2 := (f1 _ (by omega)).trans hA2
        have hTs := fun j hj => (hTs j hj).fs f1 (fun x a1 a2 => by omega)
        have hF := hF.tr f1 (U := U) (fun x hx => hx) (fun x hx => by unfold U; omega)
        have hTT := hTT.fs f1 (fun x a1 a2 => by omega)
        refine fv_iincN C d_V_init_62 (n := 65) rfl rfl (by decide) (L' := [_, _, _, _]) rfl ?_
        refine fv_goto C d_V_init_65 (tgt := 42) rfl ?_
        rw [show a + 3 + 7 * i + 7 = a + 3 + 7 * (i + 1) by omega, show 2 + 7 * i + 1 + 6 = 2 + 7 * (i + 1) by omega, show 12 + 135 * i + 7 + 128 = 12 + 135 * (i + 1) by omega]
        refine ih (i + 1) h1 (by omega) hO e1 hA2 (fun j hj => ?_) hF
        by_cases c : j = i
        · rw [c]; exact hTT
        · exact hTs j (by omega)
  refine fv_aload_n C d_V_init_0 (n := 1) rfl (i := 0) rfl rfl ?_
  refine fv_objInit C nl_V_3 n_oi n_oc d_V_init_1 (n := 4) rfl rfl (Nat.le_of_ble_eq_true rfl) (Nat.le_of_ble_eq_true rfl) ?_
  refine fv_aload_n C d_V_init_4 (n := 5) rfl (i := 0) rfl rfl ?_
  refine fv_iconst C d_V_init_5 (n := 6) rfl kI_4 ?_
  refine fv_nwa C (t0 := 7) rfl (show _ ∈ fk_AO by decide +kernel) kl_V_9 d_V_init_6 (n := 9) rfl (by decide) (by omega) (by omega) (fun h1 e1 f1 => ?_)
  have hA1 : h1 (a + 1) = some (.inl (dA 7, 4, .inr (.inr (.inr (.inr (fun _ => none)))))) := e1
  have hO := (f1 _ (by omega)).trans hO
  have hF := hF.tr f1 (U := U) (fun x hx => hx) (fun x hx => by unfold U; omega)
  refine fv_pt C (fl_V_11 D dA) (Or.inr ⟨rfl, rfl, _, rfl, nf_no _ _ (by decide +kernel)⟩) d_V_init_9 (n := 12) rfl hO (by omega) rfl rfl (Nat.le_of_ble_eq_true rfl) (fun h1 e1 f1 => ?_)
  have hO : h1 (a) = some (.inr (5, [.null, .ref (a + 1), .int 0, .int 0, .null, .int 0])) := e1
  have hA1 := (f1 _ (by omega)).trans hA1
  have hF := hF.tr f1 (U := U) (fun x hx => hx) (fun x hx => by unfold U; omega)
  refine fv_aload_n C d_V_init_12 (n := 13) rfl (i := 0) rfl rfl ?_
  refine fv_iconst C d_V_init_13 (n := 14) rfl kI_1 ?_
  refine fv_pt C (fl_V_17 D dA) (Or.inl rfl) d_V_init_14 (n := 17) rfl hO (by omega) rfl rfl (Nat.le_of_ble_eq_true rfl) (fun h1 e1 f1 => ?_)
  have hO : h1 (a) = some (.inr (5, [.null, .ref (a + 1), .int (nI 1), .int 0, .null, .int 0])) := e1
  have hA1 := (f1 _ (by omega)).trans hA1
  have hF := hF.tr f1 (U := U) (fun x hx => hx) (fun x hx => by unfold U; omega)
  refine fv_aload_n C d_V_init_17 (n := 18) rfl (i := 0) rfl rfl ?_
  refine fv_iconst C d_V_init_18 (n := 19) rfl kI_0 ?_
  refine fv_pt C (fl_V_21 D dA) (Or.inl rfl) d_V_init_19 (n := 22) rfl hO (by omega) rfl rfl (Nat.le_of_ble_eq_true rfl) (fun h1 e1 f1 => ?_)
  have hO : h1 (a) = some (.inr (5, [.null, .ref (a + 1), .int (nI 1), .int (nI 0), .null, .int 0])) := e1
  have hA1 := (f1 _ (by omega)).trans hA1
  have hF := hF.tr f1 (U := U) (fun x hx => hx) (fun x hx => by unfold U; omega)
  refine fv_aload_n C d_V_init_22 (n := 23) rfl (i := 0) rfl rfl ?_
  refine fv_bipush C d_V_init_23 (n := 25) rfl kB_8 ?_
  refine fv_nwi C (t0 := 1) rfl rfl (Or.inr rfl) na_z d_V_init_25 (n := 27) rfl (by decide) (by omega) (by omega) (fun h1 e1 f1 => ?_)
  have hA2 : h1 (a + 2) = some (.inl (dA 1, 8, .inl (fun _ => 0))) := e1
  have hO := (f1 _ (by omega)).trans hO
  have hA1 := (f1 _ (by omega)).trans hA1
  have hF := hF.tr f1 (U := U) (fun x hx => hx) (fun x hx => by unfold U; omega)
  refine fv_pt C (fl_V_24 D dA) (Or.inr ⟨rfl, rfl, _, rfl, nf_no _ _ (by decide +kernel)⟩) d_V_init_27 (n := 30) rfl hO (by omega) rfl rfl (Nat.le_of_ble_eq_true rfl) (fun h1 e1 f1 => ?_)
  have hO : h1 (a) = some (.inr (5, [.null, .ref (a + 1), .int (nI 1), .int (nI 0), .ref (a + 2), .int 0])) := e1
  have hA1 := (f1 _ (by omega)).trans hA1
  have hA2 := (f1 _ (by omega)).trans hA2
  have hF := hF.tr f1 (U := U) (fun x hx => hx) (fun x hx => by unfold U; omega)
  refine fv_aload_n C d_V_init_30 (n := 31) rfl (i := 0) rfl rfl ?_
  refine fv_iconst C d_V_init_31 (n := 32) rfl kI_0 ?_
  refine fv_pt C (fl_V_28 D dA) (Or.inl rfl) d_V_init_32 (n := 35) rfl hO (by omega) rfl rfl (Nat.le_of_ble_eq_true rfl) (fun h1 e1 f1 => ?_)
  have hO : h1 (a) = some (.inr (5, [.null, .ref (a + 1), .int (nI 1), .int (nI 0), .ref (a + 2), .int (nI 0)])) := e1
  have hA1 := (f1 _ (by omega)).trans hA1
  have hA2 := (f1 _ (by omega)).trans hA2
  have hF := hF.tr f1 (U := U) (fun x hx => hx) (fun x hx => by unfold U; omega)
  refine fv_aload_n C d_V_init_35 (n := 36) rfl (i := 0) rfl rfl ?_
  refine fv_aload_n C d_V_init_36 (n := 37) rfl (i := 1) rfl rfl ?_
  refine fv_pt C (fl_V_31 D dA) (Or.inr ⟨rfl, rfl, _, rfl, nf_no _ _ (by decide +kernel)⟩) d_V_init_37 (n := 40) rfl hO (by omega) rfl rfl (Nat.le_of_ble_eq_true rfl) (fun h1 e1 f1 => ?_)
  have hO : h1 (a) = some (.inr (5, [.ref (pub), .ref (a + 1), .int (nI 1), .int (nI 0), .ref (a + 2), .int (nI 0)])) := e1
  have hA1 := (f1 _ (by omega)).trans hA1
  have hA2 := (f1 _ (by omega)).trans hA2
  have hF := hF.tr f1 (U := U) (fun x hx => hx) (fun x hx => by unfold U; omega)
  refine fv_iconst C d_V_init_40 (n := 41) rfl kI_0 ?_
  refine fv_istore_n C d_V_init_41 (n := 42) rfl (i := 3) rfl (by decide) (L' := [_, _, _, _]) rfl ?_
  rw [df_0 (fun j => a + 3 + 7 * j)] at hA1
  exact loop 4 0 _ (by omega) hO hA1 hA2 (fun j hj => absurd hj (by omega)) hF
theorem ct_P_init  (hO : h a = some (.inr (3, [.null, .null, .int 0, .null, .int 0, .null, .int 0]))) (hBs : Bs ≤ a) : fv_T l (fk D dA) Bs WA m_P_init [.ref a] (a + 1) h 60 1785 (fun v s' h' => v = none ∧ s' = a + 61 ∧ PBr dA h' a (fun _ => none) 0 (fun _ => 0) 0 0 ∧ (∀ j, j < 4 → BL dA h' (a + 5 + 4 * j) ([], false) 0) ∧ (∀ j, j < 8 → SNr dA h' (a + 21 + 5 * j) 0 0 ∧ BL dA h' (a + 21 + 5 * j + 1) ([], false) 0) ∧ fs h h' (fun x => a ≤ x ∧ x < a + 61)) := by
  let U : Nat → Prop := fun x => a ≤ x ∧ x < a + 61
  have hF : fs h h U := fs_rf _ _
  refine fv_of (L := [_, _]) (by decide +kernel) rfl (Nat.le_of_ble_eq_true rfl) rfl ?_
  intro X hX C
  subst hX
  have loop2 : ∀ k i (h1 : fv_H), i + k = 8 → h1 a = some (.inr (3, [.ref (a + 1), .ref (a + 2), .int (nI 0), .ref (a + 3), .int (nI 0), .ref (a + 4), .int (nI 0)])) → h1 (a + 1) = some (.inl (dA 2, 4, .inr (.inr (.inr (.inr (df_row 4 (fun j => a + 5 + 4 * j))))))) → h1 (a + 2) = some (.inl (dA 3, 400, .inr (.inr (.inr (.inr (fun _ => none)))))) → h1 (a + 3) = some (.inl (dA 0, 401, .inl (fun _ => 0))) → h1 (a + 4) = some (.inl (dA 6, 8, .inr (.inr (.inr (.inr (df_row i (fun j => a + 21 + 5 * j))))))) → (∀ j, j < 4 → BL dA h1 (a + 5 + 4 * j) ([], false) 0) → (∀ j, j < i → SNr dA h1 (a + 21 + 5 * j) 0 0 ∧ BL dA h1 (a + 21 + 5 * j + 1) ([], false) 0) → fs h h1 U → fv_V (fk D dA) Bs X 2 (fv_MQ (fk D dA) Bs X (fun v s' h' => v = none ∧ s' = a + 61 ∧ PBr dA h' a (fun _ => none) 0 (fun _ => 0) 0 0 ∧ (∀ j, j < 4 → BL dA h' (a + 5 + 4 * j) ([], false) 0) ∧ (∀ j, j < 8 → SNr dA h' (a + 21 + 5 * j) 0 0 ∧ BL dA h' (a + 21 + 5 * j + 1) ([], false) 0) ∧ fs h h' (fun x => a ≤ x ∧ x < a + 61)) 60 1785) 83 [some (.ref a), some (.int (nI i))] [] (a + 21 + 5 * i) h1 (20 + 5 * i) (1129 + 82 * i) := by
    intro k
    induction k with
    | zero =>
      intro i h1 hi hO hA1 hA2 hA3 hA4 hBs4 hSs hF
      have hi4 : i = 8 := by omega
      subst hi4
      refine fv_iload_n C d_P_init_83 (n := 84) rfl (i := 1) rfl rfl ?_
      refine fv_bipush C d_P_init_84 (n := 86) rfl kB_8 ?_
      refine fv_icmpN_ge C (by omega) (by omega) d_P_init_86 (tgt := 108) rfl (n := 89) rfl (fun hc86 => ?_) (fun hc86 => ?_)
      · refine fv_vret C rfl d_P_init_108 (by omega) (by omega) ?_
        exact ⟨rfl, rfl, ⟨hO, hA1, hA2, hA3, hA4⟩, hBs4, hSs, hF⟩
      · exact absurd hc86 (by omega)
    | succ k ih =>
      intro i h1 hi hO hA1 hA2 hA3 hA4 hBs4 hSs hF
      refine fv_iload_n C d_P_init_83 (n := 84) rfl (i := 1) rfl rfl ?_
      refine fv_bipush C d_P_init_84 (n := 86) rfl kB_8 ?_
      refine fv_icmpN_ge C (by omega) (by omega) d_P_init_86 (tgt := 108) rfl (n := 89) rfl (fun hc86 => ?_) (fun hc86 => ?_)
      · exact absurd hc86 (by omega)
      · refine fv_aload_n C d_P_init_89 (n := 90) rfl (i := 0) rfl rfl ?_
        refine fv_get C (fl_P_36 D dA) d_P_init_90 (n := 93) rfl hO rfl ?_
        refine fv_iload_n C d_P_init_93 (n := 94) rfl (i := 1) rfl rfl ?_
        refine fv_nwo C (vs := [.null, .int 0, .int 0]) ty_S uw_S tk_S (ci := 6) rfl kl_P_34 in_S ii_S (fun j hj => by rcases (show j = 0 ∨ j = 1 ∨ j = 2 by omega) with rfl | rfl | rfl <;> rfl) d_P_init_94 (n := 97) rfl (by omega) (by omega) (fun h1 e1 f1 => ?_)
        have hN : h1 (a + 21 + 5 * i) = some (.inr (6, [.null, .int 0, .int 0])) := e1
        have hO := (f1 _ (by omega)).trans hO
        have hA1 := (f1 _ (by omega)).trans hA1
        have hA2 := (f1 _ (by omega)).trans hA2
        have hA3 := (f1 _ (by omega)).trans hA3
        have hA4 := (f1 _ (by omega)).trans hA4
        have hBs4 := fun j hj => (hBs4 j hj).fs f1 ⟨by omega, by omega, by omega, by omega⟩
        have hSs : ∀ j, j < i → SNr dA h1 (a + 21 + 5 * j) 0 0 ∧ BL dA h1 (a + 21 + 5 * j + 1) ([], false) 0 := fun j hj => ⟨(hSs j hj).1.fs f1 (by omega), (hSs j hj).2.fs f1 ⟨by omega, by omega, by omega, by omega⟩⟩
        have hF := hF.tr f1 (U := U) (fun x hx => hx) (fun x hx => by unfold U; omega)
        refine fv_dup C d_P_init_97 (n := 98) rfl rfl ?_
        refine fv_callI C (ml_P_44 D dA) im_S_init rfl rfl (ct_S_init hN (by omega)) d_P_init_98 (n := 101) rfl rfl rfl rfl (Nat.le_of_ble_eq_true rfl) (Nat.le_of_ble_eq_true rfl) (Nat.le_of_ble_eq_true rfl) (by omega) (by omega) (fun vv s1 h1 hp => ?_)
        obtain ⟨rfl, rfl, hS, hBL, f1⟩ := hp
        have hO := (f1 _ (by omega)).trans hO
        have hA1 := (f1 _ (by omega)).trans hA1
        have hA2 := (f1 _ (by omega)).trans hA2
        have hA3 := (f1 _ (by omega)).trans hA3
        have hA4 := (f1 _ (by omega)).trans hA4
        have hBs4 := fun j hj => (hBs4 j hj).fs f1 ⟨by omega, by omega, by omega, by omega⟩
        have hSs : ∀ j, j < i → SNr dA h1 (a + 21 + 5 * j) 0 0 ∧ BL dA h1 (a + 21 + 5 * j + 1) ([], false) 0 := fun j hj => ⟨(hSs j hj).1.fs f1 (by omega), (hSs j hj).2.fs f1 ⟨by omega, by omega, by omega, by omega⟩⟩
        have hF := hF.tr f1 (U := U) (fun x hx => hx) (fun x hx => by unfold U; omega)
        refine fv_asta C (t0 := 6) (ci := 6) rfl d_P_init_101 (n := 102) rfl hA4 hS rfl (by omega) (by omega) (by decide) (fun h1 e1 f1 => ?_)
        rw [df_s _ _ _ rfl] at e1
        have hO := (f1 _ (by omega)).trans hO
        have hA1 := (f1 _ (by omega)).trans hA1
        have hA2 := (f1 _ (by omega)).trans hA2
        have hA3 := (f1 _ (by omega)).trans hA3
        have hBs4 := fun j hj => (hBs4 j hj).fs f1 ⟨by omega, by omega, by omega, by omega⟩
        have hSs : ∀ j, j < i → SNr dA h1 (a + 21 + 5 * j) 0 0 ∧ BL dA h1 (a + 21 + 5 * j + 1) ([], false) 0 := fun j hj => ⟨(hSs j hj).1.fs f1 (by omega), (hSs j hj).2.fs f1 ⟨by omega, by omega, by omega, by omega⟩⟩
        have hF := hF.tr f1 (U := U) (fun x hx => hx) (fun x hx => by unfold U; omega)
        have hS := hS.fs f1 (by omega)
        have hBL := hBL.fs f1 ⟨by omega, by omega, by omega, by omega⟩
        refine fv_iincN C d_P_init_102 (n := 105) rfl rfl (by decide) (L' := [_, _]) rfl ?_
        refine fv_goto C d_P_init_105 (tgt := 83) rfl ?_
        rw [show a + 21 + 5 * i + 5 = a + 21 + 5 * (i + 1) by omega, show 20 + 5 * i + 1 + 4 = 20 + 5 * (i + 1) by omega, show 1129 + 82 * i + 3 + 79 = 1129 + 82 * (i + 1) by omega]
        refine ih (i + 1) h1 (by omega) hO hA1 hA2 hA3 e1 hBs4 (fun j hj => ?_) hF
        by_cases c : j = i
        · rw [c]; exact ⟨hS, hBL⟩
        · exact hSs j (by omega)
  have loop : ∀ k i (h1 : fv_H), i + k = 4 → h1 a = some (.inr (3, [.ref (a + 1), .ref (a + 2), .int (nI 0), .ref (a + 3), .int (nI 0), .ref (a + 4), .int (nI 0)])) → h1 (a + 1) = some (.inl (dA 2, 4, .inr (.inr (.inr (.inr (df_row i (fun j => a + 5 + 4 * j))))))) → h1 (a + 2) = some (.inl (dA 3, 400, .inr (.inr (.inr (.inr (fun _ => none)))))) → h1 (a + 3) = some (.inl (dA 0, 401, .inl (fun _ => 0))) → h1 (a + 4) = some (.inl (dA 6, 8, .inr (.inr (.inr (.inr (fun _ => none)))))) → (∀ j, j < i → BL dA h1 (a + 5 + 4 * j) ([], false) 0) → fs h h1 U → fv_V (fk D dA) Bs X 2 (fv_MQ (fk D dA) Bs X (fun v s' h' => v = none ∧ s' = a + 61 ∧ PBr dA h' a (fun _ => none) 0 (fun _ => 0) 0 0 ∧ (∀ j, j < 4 → BL dA h' (a + 5 + 4 * j) ([], false) 0) ∧ (∀ j, j < 8 → SNr dA h' (a + 21 + 5 * j) 0 0 ∧ BL dA h' (a + 21 + 5 * j + 1) ([], false) 0) ∧ fs h h' (fun x => a ≤ x ∧ x < a + 61)) 60 1785) 57 [some (.ref a), some (.int (nI i))] [] (a + 5 + 4 * i) h1 (4 + 4 * i) (813 + 79 * i) := by
    intro k
    induction k with
    | zero =>
      intro i h1 hi hO hA1 hA2 hA3 hA4 hBs4 hF
      have hi4 : i = 4 := by omega
      subst hi4
      refine fv_iload_n C d_P_init_57 (n := 58) rfl (i := 1) rfl rfl ?_
      refine fv_iconst C d_P_init_58 (n := 59) rfl kI_4 ?_
      refine fv_icmpN_ge C (by omega) (by omega) d_P_init_59 (tgt := 81) rfl (n := 62) rfl (fun hc59 => ?_) (fun hc59 => ?_)
      · refine fv_iconst C d_P_init_81 (n := 82) rfl kI_0 ?_
        refine fv_istore_n C d_P_init_82 (n := 83) rfl (i := 1) rfl (by decide) (L' := [_, _]) rfl ?_
        rw [df_0 (fun j => a + 21 + 5 * j)] at hA4
        exact loop2 8 0 _ (by omega) hO hA1 hA2 hA3 hA4 hBs4 (fun j hj => absurd hj (by omega)) hF
      · exact absurd hc59 (by omega)
    | succ k ih =>
      intro i h1 hi hO hA1 hA2 hA3 hA4 hBs4 hF
      refine fv_iload_n C d_P_init_57 (n := 58) rfl (i := 1) rfl rfl ?_
      refine fv_iconst C d_P_init_58 (n := 59) rfl kI_4 ?_
      refine fv_icmpN_ge C (by omega) (by omega) d_P_init_59 (tgt := 81) rfl (n := 62) rfl (fun hc59 => ?_) (fun hc59 => ?_)
      · exact absurd hc59 (by omega)
      · refine fv_aload_n C d_P_init_62 (n := 63) rfl (i := 0) rfl rfl ?_
        refine fv_get C (fl_P_11 D dA) d_P_init_63 (n := 66) rfl hO rfl ?_
        refine fv_iload_n C d_P_init_66 (n := 67) rfl (i := 1) rfl rfl ?_
        refine fv_nwo C (vs := [.null, .null, .null, .int 0, .int 0, .int 0, .int 0]) ty_B uw_B tk_B (ci := 1) rfl kl_P_9 in_B ii_B (fun j hj => by rcases (show j = 0 ∨ j = 1 ∨ j = 2 ∨ j = 3 ∨ j = 4 ∨ j = 5 ∨ j = 6 by omega) with rfl | rfl | rfl | rfl | rfl | rfl | rfl <;> rfl) d_P_init_67 (n := 70) rfl (by omega) (by omega) (fun h1 e1 f1 => ?_)
        have hN : h1 (a + 5 + 4 * i) = some (.inr (1, [.null, .null, .null, .int 0, .int 0, .int 0, .int 0])) := e1
        have hO := (f1 _ (by omega)).trans hO
        have hA1 := (f1 _ (by omega)).trans hA1
        have hA2 := (f1 _ (by omega)).trans hA2
        have hA3 := (f1 _ (by omega)).trans hA3
        have hA4 := (f1 _ (by omega)).trans hA4
        have hBs4 := fun j hj => (hBs4 j hj).fs f1 ⟨by omega, by omega, by omega, by omega⟩
        have hF := hF.tr f1 (U := U) (fun x hx => hx) (fun x hx => by unfold U; omega)
        refine fv_dup C d_P_init_70 (n := 71) rfl rfl ?_
        refine fv_callI C (ml_P_43 D dA) im_B_init rfl rfl (ct_B_init hN (by omega)) d_P_init_71 (n := 74) rfl rfl rfl rfl (Nat.le_of_ble_eq_true rfl) (Nat.le_of_ble_eq_true rfl) (Nat.le_of_ble_eq_true rfl) (by omega) (by omega) (fun vv s1 h1 hp => ?_)
        obtain ⟨rfl, rfl, hBL, f1⟩ := hp
        have hO := (f1 _ (by omega)).trans hO
        have hA1 := (f1 _ (by omega)).trans hA1
        have hA2 := (f1 _ (by omega)).trans hA2
        have hA3 := (f1 _ (by omega)).trans hA3
        have hA4 := (f1 _ (by omega)).trans hA4
        have hBs4 := fun j hj => (hBs4 j hj).fs f1 ⟨by omega, by omega, by omega, by omega⟩
        have hF := hF.tr f1 (U := U) (fun x hx => hx) (fun x hx => by unfold U; omega)
        obtain ⟨_, _, _, hBb, -, -⟩ := id hBL
        refine fv_asta C (t0 := 2) (ci := 1) rfl d_P_init_74 (n := 75) rfl hA1 hBb.1 rfl (by omega) (by omega) (by decide) (fun h1 e1 f1 => ?_)
        rw [df_s _ _ _ rfl] at e1
        have hO := (f1 _ (by omega)).trans hO
        have hA2 := (f1 _ (by omega)).trans hA2
        have hA3 := (f1 _ (by omega)).trans hA3
        have hA4 := (f1 _ (by omega)).trans hA4
        have hBs4 := fun j hj => (hBs4 j hj).fs f1 ⟨by omega, by omega, by omega, by omega⟩
        have hF := hF.tr f1 (U := U) (fun x hx => hx) (fun x hx => by unfold U; omega)
        have hBL := hBL.fs f1 ⟨by omega, by omega, by omega, by omega⟩
        refine fv_iincN C d_P_init_75 (n := 78) rfl rfl (by decide) (L' := [_, _]) rfl ?_
        refine fv_goto C d_P_init_78 (tgt := 57) rfl ?_
        rw [show a + 5 + 4 * i + 4 = a + 5 + 4 * (i + 1) by omega, show 4 + 4 * i + 1 + 3 = 4 + 4 * (i + 1) by omega, show 813 + 79 * i + 7 + 72 = 813 + 79 * (i + 1) by omega]
        refine ih (i + 1) h1 (by omega) hO e1 hA2 hA3 hA4 (fun j hj => ?_) hF
        by_cases c : j = i
        · rw [c]; exact hBL
        · exact hBs4 j (by omega)
  refine fv_aload_n C d_P_init_0 (n := 1) rfl (i := 0) rfl rfl ?_
  refine fv_objInit C nl_P_3 n_oi n_oc d_P_init_1 (n := 4) rfl rfl (Nat.le_of_ble_eq_true rfl) (Nat.le_of_ble_eq_true rfl) ?_
  refine fv_aload_n C d_P_init_4 (n := 5) rfl (i := 0) rfl rfl ?_
  refine fv_iconst C d_P_init_5 (n := 6) rfl kI_4 ?_
  refine fv_nwa C (t0 := 2) rfl (show _ ∈ fk_AO by decide +kernel) kl_P_9 d_P_init_6 (n := 9) rfl (by decide) (by omega) (by omega) (fun h1 e1 f1 => ?_)
  have hA1 : h1 (a + 1) = some (.inl (dA 2, 4, .inr (.inr (.inr (.inr (fun _ => none)))))) := e1
  have hO := (f1 _ (by omega)).trans hO
  have hF := hF.tr f1 (U := U) (fun x hx => hx) (fun x hx => by unfold U; omega)
  refine fv_pt C (fl_P_11 D dA) (Or.inr ⟨rfl, rfl, _, rfl, nf_no _ _ (by decide +kernel)⟩) d_P_init_9 (n := 12) rfl hO (by omega) rfl rfl (Nat.le_of_ble_eq_true rfl) (fun h1 e1 f1 => ?_)
  have hO : h1 (a) = some (.inr (3, [.ref (a + 1), .null, .int 0, .null, .int 0, .null, .int 0])) := e1
  have hA1 := (f1 _ (by omega)).trans hA1
  have hF := hF.tr f1 (U := U) (fun x hx => hx) (fun x hx => by unfold U; omega)
  refine fv_aload_n C d_P_init_12 (n := 13) rfl (i := 0) rfl rfl ?_
  refine fv_sipush C d_P_init_13 (n := 16) rfl kS_400 ?_
  refine fv_nwa C (t0 := 3) rfl (show _ ∈ fk_AO by decide +kernel) kl_P_17 d_P_init_16 (n := 19) rfl (by decide) (by omega) (by omega) (fun h1 e1 f1 => ?_)
  have hA2 : h1 (a + 2) = some (.inl (dA 3, 400, .inr (.inr (.inr (.inr (fun _ => none)))))) := e1
  have hO := (f1 _ (by omega)).trans hO
  have hA1 := (f1 _ (by omega)).trans hA1
  have hF := hF.tr f1 (U := U) (fun x hx => hx) (fun x hx => by unfold U; omega)
  refine fv_pt C (fl_P_19 D dA) (Or.inr ⟨rfl, rfl, _, rfl, nf_no _ _ (by decide +kernel)⟩) d_P_init_19 (n := 22) rfl hO (by omega) rfl rfl (Nat.le_of_ble_eq_true rfl) (fun h1 e1 f1 => ?_)
  have hO : h1 (a) = some (.inr (3, [.ref (a + 1), .ref (a + 2), .int 0, .null, .int 0, .null, .int 0])) := e1
  have hA1 := (f1 _ (by omega)).trans hA1
  have hA2 := (f1 _ (by omega)).trans hA2
  have hF := hF.tr f1 (U := U) (fun x hx => hx) (fun x hx => by unfold U; omega)
  refine fv_aload_n C d_P_init_22 (n := 23) rfl (i := 0) rfl rfl ?_
  refine fv_iconst C d_P_init_23 (n := 24) rfl kI_0 ?_
  refine fv_pt C (fl_P_23 D dA) (Or.inl rfl) d_P_init_24 (n := 27) rfl hO (by omega) rfl rfl (Nat.le_of_ble_eq_true rfl) (fun h1 e1 f1 => ?_)
  have hO : h1 (a) = some (.inr (3, [.ref (a + 1), .ref (a + 2), .int (nI 0), .null, .int 0, .null, .int 0])) := e1
  have hA1 := (f1 _ (by omega)).trans hA1
  have hA2 := (f1 _ (by omega)).trans hA2
  have hF := hF.tr f1 (U := U) (fun x hx => hx) (fun x hx => by unfold U; omega)
  refine fv_aload_n C d_P_init_27 (n := 28) rfl (i := 0) rfl rfl ?_
  refine fv_sipush C d_P_init_28 (n := 31) rfl kS_401 ?_
  refine fv_nwi C (t0 := 0) rfl rfl (Or.inl rfl) na_i d_P_init_31 (n := 33) rfl (by decide) (by omega) (by omega) (fun h1 e1 f1 => ?_)
  have hA3 : h1 (a + 3) = some (.inl (dA 0, 401, .inl (fun _ => 0))) := e1
  have hO := (f1 _ (by omega)).trans hO
  have hA1 := (f1 _ (by omega)).trans hA1
  have hA2 := (f1 _ (by omega)).trans hA2
  have hF := hF.tr f1 (U := U) (fun x hx => hx) (fun x hx => by unfold U; omega)
  refine fv_pt C (fl_P_27 D dA) (Or.inr ⟨rfl, rfl, _, rfl, nf_no _ _ (by decide +kernel)⟩) d_P_init_33 (n := 36) rfl hO (by omega) rfl rfl (Nat.le_of_ble_eq_true rfl) (fun h1 e1 f1 => ?_)
  have hO : h1 (a) = some (.inr (3, [.ref (a + 1), .ref (a + 2), .int (nI 0), .ref (a + 3), .int 0, .null, .int 0])) := e1
  have hA1 := (f1 _ (by omega)).trans hA1
  have hA2 := (f1 _ (by omega)).trans hA2
  have hA3 := (f1 _ (by omega)).trans hA3
  have hF := hF.tr f1 (U := U) (fun x hx => hx) (fun x hx => by unfold U; omega)
  refine fv_aload_n C d_P_init_36 (n := 37) rfl (i := 0) rfl rfl ?_
  refine fv_iconst C d_P_init_37 (n := 38) rfl kI_0 ?_
  refine fv_pt C (fl_P_31 D dA) (Or.inl rfl) d_P_init_38 (n := 41) rfl hO (by omega) rfl rfl (Nat.le_of_ble_eq_true rfl) (fun h1 e1 f1 => ?_)
  have hO : h1 (a) = some (.inr (3, [.ref (a + 1), .ref (a + 2), .int (nI 0), .ref (a + 3), .int (nI 0), .null, .int 0])) := e1
  have hA1 := (f1 _ (by omega)).trans hA1
  have hA2 := (f1 _ (by omega)).trans hA2
  have hA3 := (f1 _ (by omega)).trans hA3
  have hF := hF.tr f1 (U := U) (fun x hx => hx) (fun x hx => by unfold U; omega)
  refine fv_aload_n C d_P_init_41 (n := 42) rfl (i := 0) rfl rfl ?_
  refine fv_bipush C d_P_init_42 (n := 44) rfl kB_8 ?_
  refine fv_nwa C (t0 := 6) rfl (show _ ∈ fk_AO by decide +kernel) kl_P_34 d_P_init_44 (n := 47) rfl (by decide) (by omega) (by omega) (fun h1 e1 f1 => ?_)
  have hA4 : h1 (a + 4) = some (.inl (dA 6, 8, .inr (.inr (.inr (.inr (fun _ => none)))))) := e1
  have hO := (f1 _ (by omega)).trans hO
  have hA1 := (f1 _ (by omega)).trans hA1
  have hA2 := (f1 _ (by omega)).trans hA2
  have hA3 := (f1 _ (by omega)).trans hA3
  have hF := hF.tr f1 (U := U) (fun x hx => hx) (fun x hx => by unfold U; omega)
  refine fv_pt C (fl_P_36 D dA) (Or.inr ⟨rfl, rfl, _, rfl, nf_no _ _ (by decide +kernel)⟩) d_P_init_47 (n := 50) rfl hO (by omega) rfl rfl (Nat.le_of_ble_eq_true rfl) (fun h1 e1 f1 => ?_)
  have hO : h1 (a) = some (.inr (3, [.ref (a + 1), .ref (a + 2), .int (nI 0), .ref (a + 3), .int (nI 0), .ref (a + 4), .int 0])) := e1
  have hA1 := (f1 _ (by omega)).trans hA1
  have hA2 := (f1 _ (by omega)).trans hA2
  have hA3 := (f1 _ (by omega)).trans hA3
  have hA4 := (f1 _ (by omega)).trans hA4
  have hF := hF.tr f1 (U := U) (fun x hx => hx) (fun x hx => by unfold U; omega)
  refine fv_aload_n C d_P_init_50 (n := 51) rfl (i := 0) rfl rfl ?_
  refine fv_iconst C d_P_init_51 (n := 52) rfl kI_0 ?_
  refine fv_pt C (fl_P_40 D dA) (Or.inl rfl) d_P_init_52 (n := 55) rfl hO (by omega) rfl rfl (Nat.le_of_ble_eq_true rfl) (fun h1 e1 f1 => ?_)
  have hO : h1 (a) = some (.inr (3, [.ref (a + 1), .ref (a + 2), .int (nI 0), .ref (a + 3), .int (nI 0), .ref (a + 4), .int (nI 0)])) := e1
  have hA1 := (f1 _ (by omega)).trans hA1
  have hA2 := (f1 _ (by omega)).trans hA2
  have hA3 := (f1 _ (by omega)).trans hA3
  have hA4 := (f1 _ (by omega)).trans hA4
  have hF := hF.tr f1 (U := U) (fun x hx => hx) (fun x hx => by unfold U; omega)
  refine fv_iconst C d_P_init_55 (n := 56) rfl kI_0 ?_
  refine fv_istore_n C d_P_init_56 (n := 57) rfl (i := 1) rfl (by decide) (L' := [_, _]) rfl ?_
  rw [df_0 (fun j => a + 5 + 4 * j)] at hA1
  exact loop 4 0 _ (by omega) hO hA1 hA2 hA3 hA4 (fun j hj => absurd hj (by omega)) hF
def sp_0 : sp_T := ([], [], [], fun _ => (1, 0, 0, fun _ => false, fun _ => 0, fun _ => [], [], fun _ => 0), fun _ => none)
def PP (dA : Nat → ClassId) (h : fv_H) (a : Nat) : Prop := PBr dA h a (fun _ => none) 0 (fun _ => 0) 0 0 ∧ (∀ j, j < 4 → BL dA h (a + 5 + 4 * j) ([], false) 0) ∧ (∀ j, j < 8 → SNr dA h (a + 21 + 5 * j) 0 0 ∧ BL dA h (a + 21 + 5 * j + 1) ([], false) 0)
theorem PP.fs {dA : Nat → ClassId} {h h' : fv_H} {a : Nat} {S : Nat → Prop} (q : PP dA h a) (hf : fs h h' S) (hd : ∀ x, a ≤ x → x < a + 61 → ¬ S x) : PP dA h' a := by
  obtain ⟨h1, h2, h3⟩ := q
  refine ⟨h1.fs hf ⟨hd _ (by omega) (by omega), hd _ (by omega) (by omega), hd _ (by omega) (by omega), hd _ (by omega) (by omega), hd _ (by omega) (by omega)⟩, fun j hj => (h2 j hj).fs hf ⟨hd _ (by omega) (by omega), hd _ (by omega) (by omega), hd _ (by omega) (by omega), hd _ (by omega) (by omega)⟩, fun j hj => ⟨(h3 j hj).1.fs hf (hd _ (by omega) (by omega)), (h3 j hj).2.fs hf ⟨hd _ (by omega) (by omega), hd _ (by omega) (by omega), hd _ (by omega) (by omega), hd _ (by omega) (by omega)⟩⟩⟩
def RR (dA : Nat → ClassId) (h : fv_H) (ar pub : Nat) : Prop := VCr dA h (ar + 3) pub 1 0 (fun _ => false) 0 ∧ (∀ j, j < 4 → TT dA h (ar + 3 + 3 + 7 * j) j ar) ∧ RD dA h ar [] ev_no
theorem RR.fs {dA : Nat → ClassId} {h h' : fv_H} {ar pub : Nat} {S : Nat → Prop} (q : RR dA h ar pub) (hf : fs h h' S) (hd : ∀ x, ar ≤ x → x < ar + 34 → ¬ S x) : RR dA h' ar pub := by
  obtain ⟨h1, h2, h3⟩ := q
  exact ⟨h1.fs hf ⟨hd _ (by omega) (by omega), hd _ (by omega) (by omega), hd _ (by omega) (by omega)⟩, fun j hj => (h2 j hj).fs hf (fun x a1 a2 => hd x (by omega) (by omega)), h3.fs hf ⟨hd _ (by omega) (by omega), hd _ (by omega) (by omega), hd _ (by omega) (by omega)⟩⟩
theorem fe_bk_nil (i n : Nat) : fe_bk [] i n = ([], false) := by
  unfold fe_bk fe_li
  simp
theorem dk_0 {dA : Nat → ClassId} {h : fv_H} {b0 aE : Nat} (h1 : DKo dA h b0) (h2 : PP dA h (b0 + 3)) (h3 : ∀ r, r < 2 → RR dA h (b0 + 64 + 34 * r) (b0 + 3)) : DK dA h b0 aE sp_0 := by
  refine ⟨h1, ⟨_, _, h2.1, fun j hj => absurd hj (Nat.not_lt_zero j), fun p hp => ?_⟩, fun i hi => ?_, fun k hk => ?_, fun r hr => ?_, fun k ev hk => absurd hk (by simp [sp_0])⟩
  · have hp0 : p = 0 := Nat.le_zero.mp hp
    subst hp0
    rfl
  · have h9 := h2.2.1 i hi
    rw [show b0 + 3 + 5 + 4 * i = b0 + 8 + 4 * i by omega] at h9
    show BL dA h (b0 + 8 + 4 * i) (fe_bk [] i _) _
    rw [fe_bk_nil]
    exact h9
  · obtain ⟨h9, h10⟩ := h2.2.2 k hk
    rw [show b0 + 3 + 21 + 5 * k = b0 + 24 + 5 * k by omega] at h9 h10
    exact ⟨_, _, _, _, h9, h10, fun m q hq => absurd hq (by simp [sp_0, sp_sh])⟩
  · obtain ⟨g1, g2, g3⟩ := h3 r hr
    refine ⟨ev_no, ⟨_, g1, fun p _ _ => rfl, fun i hi => ?_, g3⟩, fun c hc => if_pos hc⟩
    obtain ⟨⟨sv, q1, q2⟩, q3⟩ := g2 i hi
    rw [show b0 + 64 + 34 * r + 3 + 3 + 7 * i = b0 + 64 + 34 * r + 6 + 7 * i by omega] at q1 q3
    refine ⟨[], sv, ⟨_, q1, fun j k hj => absurd hj (by simp), by decide, fun k hk => absurd hk List.not_mem_nil⟩, fun c hc => ?_, ?_, List.Perm.refl _⟩
    · show sv c = fe_vw (fe_bk [] i _) c
      rw [fe_bk_nil]
      exact q2 c hc
    · show BL dA h _ (fe_bk [] i _) _
      rw [fe_bk_nil]
      exact q3
theorem sp_I_0 : sp_I sp_0 := by
  refine ⟨fun i j e he => absurd he (by simp [sp_0, fe_li]), ⟨by decide, fun k ev hk => absurd hk (by simp [sp_0])⟩, ⟨fun p hp => absurd hp (Nat.not_lt_zero p), by decide, by decide, by decide⟩, fun r hr => ⟨⟨Nat.le_of_ble_eq_true rfl, Nat.le_of_ble_eq_true rfl, Nat.le_of_ble_eq_true rfl, fun p hp => absurd hp (by simp [sp_0, sp_R, rc_kp]), fun i hi => ⟨Nat.zero_le _, List.nodup_nil, fun n hn => absurd hn List.not_mem_nil, Nat.le_of_ble_eq_true rfl, List.nodup_nil, fun j hj => absurd hj List.not_mem_nil⟩, fun i hi => Nat.le_of_ble_eq_true rfl⟩, rfl, Nat.le_of_ble_eq_true rfl⟩, fun k q hq => absurd hq (by simp [sp_0, sp_sh])⟩
theorem ct_D_init  (hO : h a = some (.inr (0, [.null, .null, .null]))) (hBs : Bs ≤ a) : fv_T l (fk D dA) Bs WA m_D_init [.ref a] (a + 1) h 131 2964 (fun v s' h' => v = none ∧ s' = a + 132 ∧ (∀ aE, DK dA h' a aE sp_0) ∧ fs h h' (fun x => a ≤ x ∧ x < a + 132)) := by
  let U : Nat → Prop := fun x => a ≤ x ∧ x < a + 132
  have hF : fs h h U := fs_rf _ _
  refine fv_of (L := [_, _, _, _]) (by decide +kernel) rfl (Nat.le_of_ble_eq_true rfl) rfl ?_
  intro X hX C
  subst hX
  have loop : ∀ k i (h1 : fv_H), i + k = 2 → h1 a = some (.inr (0, [.ref (a + 3), .ref (a + 1), .ref (a + 2)])) → h1 (a + 1) = some (.inl (dA 4, 2, .inr (.inr (.inr (.inr (df_row i (fun j => a + 64 + 34 * j + 3))))))) → h1 (a + 2) = some (.inl (dA 5, 2, .inr (.inr (.inr (.inr (df_row i (fun j => a + 64 + 34 * j))))))) → PP dA h1 (a + 3) → (∀ j, j < i → RR dA h1 (a + 64 + 34 * j) (a + 3)) → fs h h1 U → fv_V (fk D dA) Bs X 4 (fv_MQ (fk D dA) Bs X (fun v s' h' => v = none ∧ s' = a + 132 ∧ (∀ aE, DK dA h' a aE sp_0) ∧ fs h h' (fun x => a ≤ x ∧ x < a + 132)) 131 2964) 35 [some (.ref a), some (.ref (a + 3)), some (.int (nI i)), none] [] (a + 64 + 34 * i) h1 (63 + 34 * i) (1796 + 584 * i) := by
    intro k
    induction k with
    | zero =>
      intro i h1 hi hO hA1 hA2 hPP hRs hF
      have hi4 : i = 2 := by omega
      subst hi4
      refine fv_iload_n C d_D_init_35 (n := 36) rfl (i := 2) rfl rfl ?_
      refine fv_iconst C d_D_init_36 (n := 37) rfl kI_2 ?_
      refine fv_icmpN_ge C (by omega) (by omega) d_D_init_37 (tgt := 76) rfl (n := 40) rfl (fun hc37 => ?_) (fun hc37 => ?_)
      · refine fv_vret C rfl d_D_init_76 (by omega) (by omega) ?_
        exact ⟨rfl, rfl, fun aE => dk_0 ⟨hO, hA1, hA2⟩ hPP hRs, hF⟩
      · exact absurd hc37 (by omega)
    | succ k ih =>
      intro i h1 hi hO hA1 hA2 hPP hRs hF
      refine fv_iload_n C d_D_init_35 (n := 36) rfl (i := 2) rfl rfl ?_
      refine fv_iconst C d_D_init_36 (n := 37) rfl kI_2 ?_
      refine fv_icmpN_ge C (by omega) (by omega) d_D_init_37 (tgt := 76) rfl (n := 40) rfl (fun hc37 => ?_) (fun hc37 => ?_)
      · exact absurd hc37 (by omega)
      · refine fv_nwo C (vs := [.null, .int 0, .null]) ty_W uw_W tk_W (ci := 4) rfl kl_D_15 in_W ii_W (fun j hj => by rcases (show j = 0 ∨ j = 1 ∨ j = 2 by omega) with rfl | rfl | rfl <;> rfl) d_D_init_40 (n := 43) rfl (by omega) (by omega) (fun h1 e1 f1 => ?_)
        have hN : h1 (a + 64 + 34 * i) = some (.inr (4, [.null, .int 0, .null])) := e1
        have hO := (f1 _ (by omega)).trans hO
        have hA1 := (f1 _ (by omega)).trans hA1
        have hA2 := (f1 _ (by omega)).trans hA2
        have hPP := hPP.fs f1 (fun x a1 a2 => by omega)
        have hRs := fun j hj => (hRs j hj).fs f1 (fun x a1 a2 => by omega)
        have hF := hF.tr f1 (U := U) (fun x hx => hx) (fun x hx => by unfold U; omega)
        refine fv_dup C d_D_init_43 (n := 44) rfl rfl ?_
        refine fv_callI C (ml_D_28 D dA) im_W_init rfl rfl (ct_W_init hN (by omega)) d_D_init_44 (n := 47) rfl rfl rfl rfl (Nat.le_of_ble_eq_true rfl) (Nat.le_of_ble_eq_true rfl) (Nat.le_of_ble_eq_true rfl) (by omega) (by omega) (fun vv s1 h1 hp => ?_)
        obtain ⟨rfl, rfl, hRD, f1⟩ := hp
        have hO := (f1 _ (by omega)).trans hO
        have hA1 := (f1 _ (by omega)).trans hA1
        have hA2 := (f1 _ (by omega)).trans hA2
        have hPP := hPP.fs f1 (fun x a1 a2 => by omega)
        have hRs := fun j hj => (hRs j hj).fs f1 (fun x a1 a2 => by omega)
        have hF := hF.tr f1 (U := U) (fun x hx => hx) (fun x hx => by unfold U; omega)
        obtain ⟨_, hRd, -⟩ := id hRD
        refine fv_astore_n C d_D_init_47 (n := 48) rfl (i := 3) rfl (by decide) (L' := [_, _, _, _]) rfl ?_
        refine fv_aload_n C d_D_init_48 (n := 49) rfl (i := 0) rfl rfl ?_
        refine fv_get C (fl_D_17 D dA) d_D_init_49 (n := 52) rfl hO rfl ?_
        refine fv_iload_n C d_D_init_52 (n := 53) rfl (i := 2) rfl rfl ?_
        refine fv_aload_n C d_D_init_53 (n := 54) rfl (i := 3) rfl rfl ?_
        refine fv_asta C (t0 := 5) (ci := 4) rfl d_D_init_54 (n := 55) rfl hA2 hRd.1 rfl (by omega) (by omega) (by decide) (fun h1 e1 f1 => ?_)
        rw [df_s _ _ _ rfl] at e1
        have hO := (f1 _ (by omega)).trans hO
        have hA1 := (f1 _ (by omega)).trans hA1
        have hPP := hPP.fs f1 (fun x a1 a2 => by omega)
        have hRs := fun j hj => (hRs j hj).fs f1 (fun x a1 a2 => by omega)
        have hRD := hRD.fs f1 ⟨by omega, by omega, by omega⟩
        have hA2 := e1
        have hF := hF.tr f1 (U := U) (fun x hx => hx) (fun x hx => by unfold U; omega)
        refine fv_aload_n C d_D_init_55 (n := 56) rfl (i := 0) rfl rfl ?_
        refine fv_get C (fl_D_11 D dA) d_D_init_56 (n := 59) rfl hO rfl ?_
        refine fv_iload_n C d_D_init_59 (n := 60) rfl (i := 2) rfl rfl ?_
        refine fv_nwo C (vs := [.null, .null, .int 0, .int 0, .null, .int 0]) ty_V uw_V tk_V (ci := 5) rfl kl_D_9 in_V ii_V (fun j hj => by rcases (show j = 0 ∨ j = 1 ∨ j = 2 ∨ j = 3 ∨ j = 4 ∨ j = 5 by omega) with rfl | rfl | rfl | rfl | rfl | rfl <;> rfl) d_D_init_60 (n := 63) rfl (by omega) (by omega) (fun h1 e1 f1 => ?_)
        have hN : h1 (a + 64 + 34 * i + 3) = some (.inr (5, [.null, .null, .int 0, .int 0, .null, .int 0])) := e1
        have hO := (f1 _ (by omega)).trans hO
        have hA1 := (f1 _ (by omega)).trans hA1
        have hA2 := (f1 _ (by omega)).trans hA2
        have hPP := hPP.fs f1 (fun x a1 a2 => by omega)
        have hRs := fun j hj => (hRs j hj).fs f1 (fun x a1 a2 => by omega)
        have hRD := hRD.fs f1 ⟨by omega, by omega, by omega⟩
        have hF := hF.tr f1 (U := U) (fun x hx => hx) (fun x hx => by unfold U; omega)
        refine fv_dup C d_D_init_63 (n := 64) rfl rfl ?_
        refine fv_aload_n C d_D_init_64 (n := 65) rfl (i := 1) rfl rfl ?_
        refine fv_aload_n C d_D_init_65 (n := 66) rfl (i := 3) rfl rfl ?_
        refine fv_callI C (ml_D_29 D dA) im_V_init rfl rfl (ct_V_init hN (by omega)) d_D_init_66 (n := 69) rfl rfl rfl rfl (Nat.le_of_ble_eq_true rfl) (Nat.le_of_ble_eq_true rfl) (Nat.le_of_ble_eq_true rfl) (by omega) (by omega) (fun vv s1 h1 hp => ?_)
        obtain ⟨rfl, rfl, hV, hTt, f1⟩ := hp
        have hO := (f1 _ (by omega)).trans hO
        have hA1 := (f1 _ (by omega)).trans hA1
        have hA2 := (f1 _ (by omega)).trans hA2
        have hPP := hPP.fs f1 (fun x a1 a2 => by omega)
        have hRs := fun j hj => (hRs j hj).fs f1 (fun x a1 a2 => by omega)
        have hRD := hRD.fs f1 ⟨by omega, by omega, by omega⟩
        have hF := hF.tr f1 (U := U) (fun x hx => hx) (fun x hx => by unfold U; omega)
        have hRR : RR dA h1 (a + 64 + 34 * i) (a + 3) := ⟨hV, hTt, hRD⟩
        refine fv_asta C (t0 := 4) (ci := 5) rfl d_D_init_69 (n := 70) rfl hA1 hV.1 rfl (by omega) (by omega) (by decide) (fun h1 e1 f1 => ?_)
        rw [df_s _ _ _ rfl] at e1
        have hO := (f1 _ (by omega)).trans hO
        have hA2 := (f1 _ (by omega)).trans hA2
        have hPP := hPP.fs f1 (fun x a1 a2 => by omega)
        have hRs := fun j hj => (hRs j hj).fs f1 (fun x a1 a2 => by omega)
        have hF := hF.tr f1 (U := U) (fun x hx => hx) (fun x hx => by unfold U; omega)
        have hRR := hRR.fs f1 (fun x a1 a2 => by omega)
        refine fv_iincN C d_D_init_70 (n := 73) rfl rfl (by decide) (L' := [_, _, _, _]) rfl ?_
        refine fv_goto C d_D_init_73 (tgt := 35) rfl ?_
        rw [show a + 64 + 34 * i + 3 + 31 = a + 64 + 34 * (i + 1) by omega, show 63 + 34 * i + 1 + 2 + 1 + 30 = 63 + 34 * (i + 1) by omega, show 1796 + 584 * i + 3 + 23 + 6 + 552 = 1796 + 584 * (i + 1) by omega]
        refine fv_drop 3 rfl ?_
        refine ih (i + 1) h1 (by omega) hO e1 hA2 hPP (fun j hj => ?_) hF
        by_cases c : j = i
        · rw [c]; exact hRR
        · exact hRs j (by omega)
  refine fv_aload_n C d_D_init_0 (n := 1) rfl (i := 0) rfl rfl ?_
  refine fv_objInit C nl_D_3 n_oi n_oc d_D_init_1 (n := 4) rfl rfl (Nat.le_of_ble_eq_true rfl) (Nat.le_of_ble_eq_true rfl) ?_
  refine fv_aload_n C d_D_init_4 (n := 5) rfl (i := 0) rfl rfl ?_
  refine fv_iconst C d_D_init_5 (n := 6) rfl kI_2 ?_
  refine fv_nwa C (t0 := 4) rfl (show _ ∈ fk_AO by decide +kernel) kl_D_9 d_D_init_6 (n := 9) rfl (by decide) (by omega) (by omega) (fun h1 e1 f1 => ?_)
  have hA1 : h1 (a + 1) = some (.inl (dA 4, 2, .inr (.inr (.inr (.inr (fun _ => none)))))) := e1
  have hO := (f1 _ (by omega)).trans hO
  have hF := hF.tr f1 (U := U) (fun x hx => hx) (fun x hx => by unfold U; omega)
  refine fv_pt C (fl_D_11 D dA) (Or.inr ⟨rfl, rfl, _, rfl, nf_no _ _ (by decide +kernel)⟩) d_D_init_9 (n := 12) rfl hO (by omega) rfl rfl (Nat.le_of_ble_eq_true rfl) (fun h1 e1 f1 => ?_)
  have hO : h1 (a) = some (.inr (0, [.null, .ref (a + 1), .null])) := e1
  have hA1 := (f1 _ (by omega)).trans hA1
  have hF := hF.tr f1 (U := U) (fun x hx => hx) (fun x hx => by unfold U; omega)
  refine fv_aload_n C d_D_init_12 (n := 13) rfl (i := 0) rfl rfl ?_
  refine fv_iconst C d_D_init_13 (n := 14) rfl kI_2 ?_
  refine fv_nwa C (t0 := 5) rfl (show _ ∈ fk_AO by decide +kernel) kl_D_15 d_D_init_14 (n := 17) rfl (by decide) (by omega) (by omega) (fun h1 e1 f1 => ?_)
  have hA2 : h1 (a + 2) = some (.inl (dA 5, 2, .inr (.inr (.inr (.inr (fun _ => none)))))) := e1
  have hO := (f1 _ (by omega)).trans hO
  have hA1 := (f1 _ (by omega)).trans hA1
  have hF := hF.tr f1 (U := U) (fun x hx => hx) (fun x hx => by unfold U; omega)
  refine fv_pt C (fl_D_17 D dA) (Or.inr ⟨rfl, rfl, _, rfl, nf_no _ _ (by decide +kernel)⟩) d_D_init_17 (n := 20) rfl hO (by omega) rfl rfl (Nat.le_of_ble_eq_true rfl) (fun h1 e1 f1 => ?_)
  have hO : h1 (a) = some (.inr (0, [.null, .ref (a + 1), .ref (a + 2)])) := e1
  have hA1 := (f1 _ (by omega)).trans hA1
  have hA2 := (f1 _ (by omega)).trans hA2
  have hF := hF.tr f1 (U := U) (fun x hx => hx) (fun x hx => by unfold U; omega)
  refine fv_nwo C (vs := [.null, .null, .int 0, .null, .int 0, .null, .int 0]) ty_P uw_P tk_P (ci := 3) rfl kl_D_21 in_P ii_P (fun j hj => by rcases (show j = 0 ∨ j = 1 ∨ j = 2 ∨ j = 3 ∨ j = 4 ∨ j = 5 ∨ j = 6 by omega) with rfl | rfl | rfl | rfl | rfl | rfl | rfl <;> rfl) d_D_init_20 (n := 23) rfl (by omega) (by omega) (fun h1 e1 f1 => ?_)
  have hN : h1 (a + 3) = some (.inr (3, [.null, .null, .int 0, .null, .int 0, .null, .int 0])) := e1
  have hO := (f1 _ (by omega)).trans hO
  have hA1 := (f1 _ (by omega)).trans hA1
  have hA2 := (f1 _ (by omega)).trans hA2
  have hF := hF.tr f1 (U := U) (fun x hx => hx) (fun x hx => by unfold U; omega)
  refine fv_dup C d_D_init_23 (n := 24) rfl rfl ?_
  refine fv_callI C (ml_D_23 D dA) im_P_init rfl rfl (ct_P_init hN (by omega)) d_D_init_24 (n := 27) rfl rfl rfl rfl (Nat.le_of_ble_eq_true rfl) (Nat.le_of_ble_eq_true rfl) (Nat.le_of_ble_eq_true rfl) (by omega) (by omega) (fun vv s1 h1 hp => ?_)
  obtain ⟨rfl, rfl, hp1, hp2, hp3, f1⟩ := hp
  have hPP : PP dA h1 (a + 3) := ⟨hp1, hp2, hp3⟩
  clear hp1 hp2 hp3
  have hO := (f1 _ (by omega)).trans hO
  have hA1 := (f1 _ (by omega)).trans hA1
  have hA2 := (f1 _ (by omega)).trans hA2
  have hF := hF.tr f1 (U := U) (fun x hx => hx) (fun x hx => by unfold U; omega)
  refine fv_astore_n C d_D_init_27 (n := 28) rfl (i := 1) rfl (by decide) (L' := [_, _, _, _]) rfl ?_
  refine fv_aload_n C d_D_init_28 (n := 29) rfl (i := 0) rfl rfl ?_
  refine fv_aload_n C d_D_init_29 (n := 30) rfl (i := 1) rfl rfl ?_
  refine fv_pt C (fl_D_24 D dA) (Or.inr ⟨rfl, rfl, _, rfl, nf_no _ _ (by decide +kernel)⟩) d_D_init_30 (n := 33) rfl hO (by omega) rfl rfl (Nat.le_of_ble_eq_true rfl) (fun h1 e1 f1 => ?_)
  have hO : h1 (a) = some (.inr (0, [.ref (a + 3), .ref (a + 1), .ref (a + 2)])) := e1
  have hA1 := (f1 _ (by omega)).trans hA1
  have hA2 := (f1 _ (by omega)).trans hA2
  have hPP := hPP.fs f1 (fun x a1 a2 => by omega)
  have hF := hF.tr f1 (U := U) (fun x hx => hx) (fun x hx => by unfold U; omega)
  refine fv_iconst C d_D_init_33 (n := 34) rfl kI_0 ?_
  refine fv_istore_n C d_D_init_34 (n := 35) rfl (i := 2) rfl (by decide) (L' := [_, _, _, _]) rfl ?_
  rw [df_0 (fun j => a + 64 + 34 * j + 3)] at hA1
  rw [df_0 (fun j => a + 64 + 34 * j)] at hA2
  exact loop 2 0 _ (by omega) hO hA1 hA2 hPP (fun j hj => absurd hj (by omega)) hF
end CT2
