/-! the law from its start -/
section LS
variable {D : va_G} {dA : Nat → ClassId} {Bs : Nat} {X : fv_X} {Q : State → Prop} {b L : Nat} {xs : Nat → Int32}
theorem law_start (C : fv_C (fk D dA) WA X m_law 600000 7302250) (hL : L ≤ 3072) (hX : va_X b L xs X.2.2.2.2.1 X.2.2.2.2.1.heap) (hbl : b < X.2.2.2.2.1.heap.size) (hb : b < Bs) (hend : ∀ (L9 : List (Option Value)) (sz : Nat) (h : fv_H) (cells slots : Nat), cells ≤ 600000 → slots ≤ 7302250 → fv_V (fk D dA) Bs X 4 Q 935 L9 [.int (nI 1)] sz h cells slots) : fv_V (fk D dA) Bs X 4 Q 0 [some (.ref b), none, none, none] [] Bs (fun _ => none) 0 0 := by
  refine fv_nwo C (vs := [.null, .null, .null]) ty_D uw_D tk_D (ci := 0) rfl kl_L_7 in_D ii_D (fun j hj => by rcases (show j = 0 ∨ j = 1 ∨ j = 2 by omega) with rfl | rfl | rfl <;> rfl) d_law_0 (n := 3) rfl (by omega) (by omega) (fun h1 e1 f1 => ?_)
  have hN : h1 (Bs) = some (.inr (0, [.null, .null, .null])) := e1
  refine fv_dup C d_law_3 (n := 4) rfl rfl ?_
  refine fv_callI C (ml_L_9 D dA) im_D_init rfl rfl (ct_D_init hN (Nat.le_refl _)) d_law_4 (n := 7) rfl rfl rfl rfl (Nat.le_of_ble_eq_true rfl) (Nat.le_of_ble_eq_true rfl) (Nat.le_of_ble_eq_true rfl) (by omega) (by omega) (fun vv s1 h1 hp => ?_)
  obtain ⟨rfl, rfl, hDK, -⟩ := hp
  have hDK := hDK (Bs + 163)
  refine fv_astore_n C d_law_7 (n := 8) rfl (i := 1) rfl (by decide) (L' := [_, _, _, _]) rfl ?_
  refine fv_nwo C (vs := [.null, .null, .null, .null, .null, .null, .null, .int 0, .null, .null, .int 0, .null, .null, .null, .null, .int 0, .int 0, .null, .null, .null, .null, .null, .null, .null, .null, .null, .null, .null, .null, .null, .int 0, .null, .null, .null, .null]) ty_M uw_M tk_M (ci := 8) rfl kl_L_10 in_M ii_M (fun j hj => by rcases (show j = 0 ∨ j = 1 ∨ j = 2 ∨ j = 3 ∨ j = 4 ∨ j = 5 ∨ j = 6 ∨ j = 7 ∨ j = 8 ∨ j = 9 ∨ j = 10 ∨ j = 11 ∨ j = 12 ∨ j = 13 ∨ j = 14 ∨ j = 15 ∨ j = 16 ∨ j = 17 ∨ j = 18 ∨ j = 19 ∨ j = 20 ∨ j = 21 ∨ j = 22 ∨ j = 23 ∨ j = 24 ∨ j = 25 ∨ j = 26 ∨ j = 27 ∨ j = 28 ∨ j = 29 ∨ j = 30 ∨ j = 31 ∨ j = 32 ∨ j = 33 ∨ j = 34 by omega) with rfl | rfl | rfl | rfl | rfl | rfl | rfl | rfl | rfl | rfl | rfl | rfl | rfl | rfl | rfl | rfl | rfl | rfl | rfl | rfl | rfl | rfl | rfl | rfl | rfl | rfl | rfl | rfl | rfl | rfl | rfl | rfl | rfl | rfl | rfl <;> rfl) d_law_8 (n := 11) rfl (by omega) (by omega) (fun h1 e1 f1 => ?_)
  have hN : h1 (Bs + 132) = some (.inr (8, [.null, .null, .null, .null, .null, .null, .null, .int 0, .null, .null, .int 0, .null, .null, .null, .null, .int 0, .int 0, .null, .null, .null, .null, .null, .null, .null, .null, .null, .null, .null, .null, .null, .int 0, .null, .null, .null, .null])) := e1
  have f2 := f1
  refine fv_dup C d_law_11 (n := 12) rfl rfl ?_
  refine fv_callI C (ml_L_12 D dA) im_M_init rfl rfl (ct_M_init hN (by omega)) d_law_12 (n := 15) rfl rfl rfl rfl (Nat.le_of_ble_eq_true rfl) (Nat.le_of_ble_eq_true rfl) (Nat.le_of_ble_eq_true rfl) (by omega) (by omega) (fun vv s1 h1 hp => ?_)
  obtain ⟨rfl, rfl, hRM, f3⟩ := hp
  have hDK := (hDK.fs f2 (fun x hx => by omega)).fs f3 (fun x hx => by omega)
  refine fv_astore_n C d_law_15 (n := 16) rfl (i := 2) rfl (by decide) (L' := [_, _, _, _]) rfl ?_
  refine fv_iconst C d_law_16 (n := 17) rfl kI_0 ?_
  refine fv_istore_n C d_law_17 (n := 18) rfl (i := 3) rfl (by decide) (L' := [_, _, _, _]) rfl ?_
  exact law_loop C hL hX hbl hb (Nat.le_refl _) hend 513 0 _ sp_0 _ _ rfl hDK hRM sp_I_0 (Nat.le_refl _) (by omega) (by omega)
end LS
