/-! the array classes at the law's start -/
theorem ws_i {s : State} {args : Array Value} (h : (Cond.arrayClass .int).before args s = true) : ∃ cA, ArrOfT s cA .int ∧ va_RA s cA .int := by
  obtain ⟨c, k, comp, h1, h2, h3⟩ := Cond.arrayClass_spec h
  exact ⟨c, fun n z => ⟨fun k h => (by cases h), k, h2, comp, h3⟩, h1⟩
theorem ws_z {s : State} {args : Array Value} (h : (Cond.arrayClass .boolean).before args s = true) : ∃ cA, ArrOfT s cA .boolean ∧ va_RA s cA .boolean := by
  obtain ⟨c, k, comp, h1, h2, h3⟩ := Cond.arrayClass_spec h
  exact ⟨c, fun n z => ⟨fun k h => (by cases h), k, h2, comp, h3⟩, h1⟩
theorem ws_o {s : State} {args : Array Value} {C : String} (h : (Cond.arrayOver (.object C)).before args s = true) : ∃ cA, ArrOfT s cA (.object C) ∧ va_RA s cA (.object C) := by
  obtain ⟨comp, c, k, h0, -, h2, h3, h4⟩ := Cond.arrayOver_spec h
  exact ⟨c, fun n z => ⟨fun k h => (by cases h), k, h2, comp, h3⟩, k, comp, h2, h3, h0, h4⟩
theorem ws_cl {s : State} {args : Array Value} (hwa : ∀ w ∈ WA, w.before args s = true) : ∃ D : va_G, ∀ (c : Nat) (q : vw_C), fk_cl[c]? = some q → u_Kn s q.1 q.2.1 q.2.2 (D.1 c) (D.2 c) := by
  obtain ⟨c0, i0, k0⟩ := u_known hwa uw_D (hwa _ in_D)
  obtain ⟨c1, i1, k1⟩ := u_known hwa uw_B (hwa _ in_B)
  obtain ⟨c2, i2, k2⟩ := u_known hwa uw_E (hwa _ in_E)
  obtain ⟨c3, i3, k3⟩ := u_known hwa uw_P (hwa _ in_P)
  obtain ⟨c4, i4, k4⟩ := u_known hwa uw_W (hwa _ in_W)
  obtain ⟨c5, i5, k5⟩ := u_known hwa uw_V (hwa _ in_V)
  obtain ⟨c6, i6, k6⟩ := u_known hwa uw_S (hwa _ in_S)
  obtain ⟨c7, i7, k7⟩ := u_known hwa uw_T (hwa _ in_T)
  obtain ⟨c8, i8, k8⟩ := u_known hwa uw_M (hwa _ in_M)
  refine ⟨(fun c => [c0, c1, c2, c3, c4, c5, c6, c7, c8].getD c c0, fun c => [i0, i1, i2, i3, i4, i5, i6, i7, i8].getD c i0), fun c q hq => ?_⟩
  have hc : c < 9 := (List.getElem?_eq_some_iff.mp hq).1
  rcases (show c = 0 ∨ c = 1 ∨ c = 2 ∨ c = 3 ∨ c = 4 ∨ c = 5 ∨ c = 6 ∨ c = 7 ∨ c = 8 by omega) with rfl | rfl | rfl | rfl | rfl | rfl | rfl | rfl | rfl
  · cases hq; exact k0
  · cases hq; exact k1
  · cases hq; exact k2
  · cases hq; exact k3
  · cases hq; exact k4
  · cases hq; exact k5
  · cases hq; exact k6
  · cases hq; exact k7
  · cases hq; exact k8
