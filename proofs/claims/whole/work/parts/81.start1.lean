/-! what the walk leans on, at the law's start -/
theorem ws_ty {s : State} {args : Array Value} (hts : ∀ w ∈ lw_tbl, w.before args s = true) (hao : ∀ C ∈ fk_AO, (Cond.arrayOver (.object C)).before args s = true) (hi : (Cond.arrayClass .int).before args s = true) (hz : (Cond.arrayClass .boolean).before args s = true) : ∃ dA : Nat → ClassId, ∀ (k : Nat) (q : ClassId × FieldType), (fk_tys dA)[k]? = some q → ArrOfT s q.1 q.2 ∧ va_RA s q.1 q.2 := by
  obtain ⟨c0, k0⟩ := ws_i hi
  obtain ⟨c1, k1⟩ := ws_z hz
  obtain ⟨c2, k2⟩ := ws_o (hao "FeedDesk$Book" (by decide +kernel))
  obtain ⟨c3, k3⟩ := ws_o (hao "FeedDesk$Event" (by decide +kernel))
  obtain ⟨c4, k4⟩ := ws_o (hao "FeedDesk$Receiver" (by decide +kernel))
  obtain ⟨c5, k5⟩ := ws_o (hao "FeedDesk$Reader" (by decide +kernel))
  obtain ⟨c6, k6⟩ := ws_o (hao "FeedDesk$Snapshot" (by decide +kernel))
  obtain ⟨c7, k7⟩ := ws_o (hao "FeedDesk$Track" (by decide +kernel))
  refine ⟨fun c => [c0, c1, c2, c3, c4, c5, c6, c7].getD c c0, fun c q hq => ?_⟩
  have hc : c < 8 := (List.getElem?_eq_some_iff.mp hq).1
  rcases (show c = 0 ∨ c = 1 ∨ c = 2 ∨ c = 3 ∨ c = 4 ∨ c = 5 ∨ c = 6 ∨ c = 7 by omega) with rfl | rfl | rfl | rfl | rfl | rfl | rfl | rfl
  · cases hq; exact k0
  · cases hq; exact k1
  · cases hq; exact k2
  · cases hq; exact k3
  · cases hq; exact k4
  · cases hq; exact k5
  · cases hq; exact k6
  · cases hq; exact k7
theorem ws_nf : (fk_NF.all fun w => lw_tbl.any fun z => decide (z = Cond.fieldLinkNest w.1 w.2.1 w.2.2.1 w.2.2.2.1 w.2.2.2.2.1 w.2.2.2.2.2)) = true := by decide +kernel
theorem ws_nm : (fk_NM.all fun w => lw_tbl.any fun z => decide (z = Cond.methodLinkNest w.1 w.2.1 w.2.2.1 w.2.2.2)) = true := by decide +kernel
theorem ws_ao : (fk_AO.all fun w => lw_tbl.any fun z => decide (z = Cond.arrayOver (.object w))) = true := by decide +kernel
