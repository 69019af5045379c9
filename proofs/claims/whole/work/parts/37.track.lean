/-! Track -/
def TKr (dA : Nat → ClassId) (h : fv_H) (a : Nat) (i : Nat) (ar : Nat) (hq : Nat → Option Nat) (hc : Nat) (nd : Nat) (sv : Nat → Int32) : Prop := h (a) = some (.inr (7, [.int (nI i), .ref ar, .ref (a + 1), .ref (a + 5), .ref (a + 6), .int (nI hc), .int (nI nd)])) ∧ h (a + 5) = some (.inl (dA 0, 19, .inl sv)) ∧ h (a + 6) = some (.inl (dA 3, 30, .inr (.inr (.inr (.inr hq)))))
section TKrS
variable {D : va_G} {dA : Nat → ClassId} {Bs : Nat} {X : fv_X} {M : fv_M} {mc ms nL : Nat} {Q : State → Prop} {pc n : Nat} {L L' : List (Option Value)} {st : List Value} {sz : Nat} {h : fv_H} {cells slots : Nat} {a : Nat} {i : Nat} {ar : Nat} {hq : Nat → Option Nat} {hc : Nat} {nd : Nat} {sv : Nat → Int32}
theorem TKr.fs {h' : fv_H} {S : Nat → Prop} (hO : TKr dA h a i ar hq hc nd sv) (hf : fs h h' S) (hd : ¬ S (a) ∧ ¬ S (a + 5) ∧ ¬ S (a + 6)) : TKr dA h' a i ar hq hc nd sv := by
  exact ⟨(hf _ hd.1).trans hO.1, (hf _ hd.2.1).trans hO.2.1, (hf _ hd.2.2).trans hO.2.2⟩
theorem tk_phc (C : fv_C (fk D dA) WA X M mc ms) {idx : Nat} {v : Nat} (F : fv_FL (fk D dA) WA M.1.cls idx 7 5 .int false) (hd : decode M.2.1 pc = .ok (.putfield idx, 3)) (hn : pc + 3 = n) (hO : TKr dA h a i ar hq hc nd sv) (hBs : Bs ≤ a) (kk : ∀ h' : fv_H, TKr dA h' a i ar hq v nd sv → fs h h' (fun z => z = a) → fv_V (fk D dA) Bs X nL Q n L st sz h' cells slots) : fv_V (fk D dA) Bs X nL Q pc L (.int (nI v) :: .ref (a) :: st) sz h cells slots := by
  refine fv_put C F (Or.inl rfl) hd hn hO.1 (by omega) rfl rfl (Nat.le_of_ble_eq_true rfl) ?_
  refine kk _ ⟨?_, ?_, ?_⟩ (fun z hz => va_up_ne _ _ hz)
  · exact va_up_self _ _ _
  · rw [va_up_ne _ _ (by omega)]; exact hO.2.1
  · rw [va_up_ne _ _ (by omega)]; exact hO.2.2
theorem tk_pnd (C : fv_C (fk D dA) WA X M mc ms) {idx : Nat} {v : Nat} (F : fv_FL (fk D dA) WA M.1.cls idx 7 6 .int false) (hd : decode M.2.1 pc = .ok (.putfield idx, 3)) (hn : pc + 3 = n) (hO : TKr dA h a i ar hq hc nd sv) (hBs : Bs ≤ a) (kk : ∀ h' : fv_H, TKr dA h' a i ar hq hc v sv → fs h h' (fun z => z = a) → fv_V (fk D dA) Bs X nL Q n L st sz h' cells slots) : fv_V (fk D dA) Bs X nL Q pc L (.int (nI v) :: .ref (a) :: st) sz h cells slots := by
  refine fv_put C F (Or.inl rfl) hd hn hO.1 (by omega) rfl rfl (Nat.le_of_ble_eq_true rfl) ?_
  refine kk _ ⟨?_, ?_, ?_⟩ (fun z hz => va_up_ne _ _ hz)
  · exact va_up_self _ _ _
  · rw [va_up_ne _ _ (by omega)]; exact hO.2.1
  · rw [va_up_ne _ _ (by omega)]; exact hO.2.2
theorem tk_sh (C : fv_C (fk D dA) WA X M mc ms) {j v : Nat} {vs : List Value} (hd : decode M.2.1 pc = .ok (.aastore, 1)) (hn : pc + 1 = n) (hO : TKr dA h a i ar hq hc nd sv) (hv : h v = some (.inr (2, vs))) (hBs : Bs ≤ a) (hj : j < 30) (kk : ∀ h' : fv_H, TKr dA h' a i ar (va_up hq j (some v)) hc nd sv → fs h h' (fun z => z = a + 6) → fv_V (fk D dA) Bs X nL Q n L st sz h' cells slots) : fv_V (fk D dA) Bs X nL Q pc L (.ref v :: .int (nI j) :: .ref (a + 6) :: st) sz h cells slots := by
  refine fv_aastN1 C (t0 := 3) (ci := 2) rfl hd hn hO.2.2 hv rfl (by omega) hj (by decide) ?_
  refine kk _ ⟨?_, ?_, ?_⟩ (fun z hz => va_up_ne _ _ hz)
  · rw [va_up_ne _ _ (by omega)]; exact hO.1
  · rw [va_up_ne _ _ (by omega)]; exact hO.2.1
  · exact va_up_self _ _ _
end TKrS
def EVS (h : fv_H) (aE : Nat) (log : List bo_E) : Prop := ∀ (k : Nat) (ev : bo_E), log[k]? = some ev → EV h (aE + k) ev
def ev_n (log : List bo_E) (k : Nat) : Nat := (log.getD k bo_e0).2.2.1
theorem ev_n_of {log : List bo_E} {k : Nat} {ev : bo_E} (h : log[k]? = some ev) : ev_n log k = ev.2.2.1 := by
  unfold ev_n
  rw [List.getD_eq_getElem?_getD, h]
  rfl
def TK (dA : Nat → ClassId) (h : fv_H) (a i ar aE : Nat) (log : List bo_E) (hs : List Nat) (nd : Nat) (sv : Nat → Int32) : Prop := ∃ hd : Nat → Option Nat, TKr dA h a i ar hd hs.length nd sv ∧ (∀ j k : Nat, hs[j]? = some k → hd j = some (aE + k)) ∧ hs.length ≤ 30 ∧ ∀ k ∈ hs, ∃ ev, log[k]? = some ev ∧ ev.2.1 = i
theorem TK.fs {dA : Nat → ClassId} {h h' : fv_H} {a i ar aE : Nat} {log : List bo_E} {hs : List Nat} {nd : Nat} {sv : Nat → Int32} {S : Nat → Prop} (q : TK dA h a i ar aE log hs nd sv) (hf : fs h h' S) (hd : ¬ S a ∧ ¬ S (a + 5) ∧ ¬ S (a + 6)) : TK dA h' a i ar aE log hs nd sv := by
  obtain ⟨g, hO, hg⟩ := q
  exact ⟨g, hO.fs hf hd, hg⟩
theorem EVS.fs {h h' : fv_H} {aE : Nat} {log : List bo_E} {S : Nat → Prop} (q : EVS h aE log) (hf : fs h h' S) (hd : ∀ x, aE ≤ x → ¬ S x) : EVS h' aE log := fun k ev hk => (hf _ (hd _ (Nat.le_add_right _ _))).trans (q k ev hk)
/-- every event's number is small -/
def ev_sm (log : List bo_E) : Prop := log.length ≤ 400 ∧ ∀ (k : Nat) (ev : bo_E), log[k]? = some ev → ev.2.2.1 ≤ 400
theorem perm_set {x k : Nat} : ∀ {L : List Nat} {j : Nat}, L[j]? = some k → (x :: L).Perm (k :: L.set j x)
  | [], j, h => by simp at h
  | b :: t, 0, h => by
    rw [List.getElem?_cons_zero] at h
    cases h
    exact List.Perm.swap _ _ _
  | b :: t, j + 1, h => by
    rw [List.getElem?_cons_succ] at h
    rw [List.set_cons_succ]
    exact (List.Perm.swap b x t).trans (((perm_set h).cons b).trans (List.Perm.swap _ _ _))
section TKW
variable {l : Launch} {D : va_G} {dA : Nat → ClassId} {Bs sz : Nat} {h : fv_H} {a i ar aE : Nat} {log : List bo_E} {hs : List Nat} {nd : Nat} {sv : Nat → Int32}
theorem ct_T_takeHeld {n : Nat} (hn : n < 2 ^ 31) (hBs : Bs ≤ a) (hE : EVS h aE log) (haE : a + 7 ≤ aE) (hsm : ev_sm log) (hT : TK dA h a i ar aE log hs nd sv) : fv_T l (fk D dA) Bs WA m_T_takeHeld [.ref a, .int (nI n)] sz h 0 0 (fp_a sz (fun r h' => (∃ k hs', r = some (aE + k) ∧ ev_n log k = n ∧ hs.Perm (k :: hs') ∧ TK dA h' a i ar aE log hs' nd sv ∧ fs h h' (fun x => x = a ∨ x = a + 6)) ∨ (r = none ∧ h' = h ∧ ∀ k ∈ hs, ev_n log k ≠ n))) := by
  obtain ⟨hd, hO, hhd, h30, hlog⟩ := hT
  refine fv_of (L := [_, _, _, _]) (by decide +kernel) rfl (Nat.le_of_ble_eq_true rfl) rfl ?_
  intro X hX C
  subst hX
  have loop : ∀ m j, j + m = hs.length → (∀ t k, t < j → hs[t]? = some k → ev_n log k ≠ n) → fv_V (fk D dA) Bs X 4 (fv_MQ (fk D dA) Bs X (fp_a sz (fun r h' => (∃ k hs', r = some (aE + k) ∧ ev_n log k = n ∧ hs.Perm (k :: hs') ∧ TK dA h' a i ar aE log hs' nd sv ∧ fs h h' (fun x => x = a ∨ x = a + 6)) ∨ (r = none ∧ h' = h ∧ ∀ k ∈ hs, ev_n log k ≠ n))) 0 0) 2 [some (.ref a), some (.int (nI n)), some (.int (nI j)), none] [] sz h 0 0 := by
    intro m
    induction m with
    | zero =>
      intro j hj hno
      refine fv_iload_n C d_T_takeHeld_2 (n := 3) rfl (i := 2) rfl rfl ?_
      refine fv_aload_n C d_T_takeHeld_3 (n := 4) rfl (i := 0) rfl rfl ?_
      refine fv_get C (fl_T_32 D dA) d_T_takeHeld_4 (n := 7) rfl hO.1 rfl ?_
      refine fv_icmpN_ge C (by omega) (by omega) d_T_takeHeld_7 (tgt := 62) rfl (n := 10) rfl (fun hc7 => ?_) (fun hc7 => ?_)
      · refine fv_null C d_T_takeHeld_62 (n := 63) rfl ?_
        refine fv_aret C rfl (Or.inl ⟨_, rfl⟩) (Or.inl rfl) d_T_takeHeld_63 (Nat.le_refl _) (Nat.le_refl _) ?_
        refine ⟨none, rfl, rfl, Or.inr ⟨rfl, rfl, fun k hk => ?_⟩⟩
        obtain ⟨t, ht⟩ := List.getElem?_of_mem hk
        exact hno t k (by have := (List.getElem?_eq_some_iff.mp ht).1; omega) ht
      · exact absurd hc7 (by omega)
    | succ m ih =>
      intro j hj hno
      obtain ⟨k, hk⟩ : ∃ k, hs[j]? = some k := ⟨_, List.getElem?_eq_getElem (by omega)⟩
      have hhk := hhd j k hk
      obtain ⟨ev, hev, hei⟩ := hlog k (List.mem_of_getElem? hk)
      have hEk := hE k ev hev
      have hsm1 := hsm.2 k ev hev
      have hnk := ev_n_of hev
      obtain ⟨Lh, x, hLx⟩ : ∃ (Lh : List Nat) (x : Nat), hs = Lh ++ [x] := by
        rcases bo_snoc hs with h9 | h9
        · rw [h9] at hj
          simp at hj
        · exact h9
      have hlen : hs.length = Lh.length + 1 := by rw [hLx]; simp
      have hx : hs[Lh.length]? = some x := by rw [hLx, List.getElem?_append_right (Nat.le_refl _), Nat.sub_self, List.getElem?_cons_zero]
      have hhx := hhd _ x hx
      obtain ⟨ex, hex, hexi⟩ := hlog x (List.mem_of_getElem? hx)
      refine fv_iload_n C d_T_takeHeld_2 (n := 3) rfl (i := 2) rfl rfl ?_
      refine fv_aload_n C d_T_takeHeld_3 (n := 4) rfl (i := 0) rfl rfl ?_
      refine fv_get C (fl_T_32 D dA) d_T_takeHeld_4 (n := 7) rfl hO.1 rfl ?_
      refine fv_icmpN_ge C (by omega) (by omega) d_T_takeHeld_7 (tgt := 62) rfl (n := 10) rfl (fun hc7 => ?_) (fun hc7 => ?_)
      · exact absurd hc7 (by omega)
      · refine fv_aload_n C d_T_takeHeld_10 (n := 11) rfl (i := 0) rfl rfl ?_
        refine fv_get C (fl_T_28 D dA) d_T_takeHeld_11 (n := 14) rfl hO.1 rfl ?_
        refine fv_iload_n C d_T_takeHeld_14 (n := 15) rfl (i := 2) rfl rfl ?_
        refine fv_aaldN C (t0 := 3) rfl d_T_takeHeld_15 (n := 16) rfl hO.2.2 (by omega) (by decide) (show va_rf (hd j) = .ref (aE + k) by rw [hhk]; rfl) ?_
        refine fv_astore_n C d_T_takeHeld_16 (n := 17) rfl (i := 3) rfl (by decide) (L' := [_, _, _, _]) rfl ?_
        refine fv_aload_n C d_T_takeHeld_17 (n := 18) rfl (i := 3) rfl rfl ?_
        refine fv_ifnull C d_T_takeHeld_18 (n := 21) rfl ?_
        refine fv_aload_n C d_T_takeHeld_21 (n := 22) rfl (i := 3) rfl rfl ?_
        refine fv_get C (fl_T_49 D dA) d_T_takeHeld_22 (n := 25) rfl hEk rfl ?_
        refine fv_iload_n C d_T_takeHeld_25 (n := 26) rfl (i := 1) rfl rfl ?_
        refine fv_icmpN_ne C (by omega) (by omega) d_T_takeHeld_26 (tgt := 56) rfl (n := 29) rfl (fun hc26 => ?_) (fun hc26 => ?_)
        · refine fv_iincN C d_T_takeHeld_56 (n := 59) rfl rfl (by decide) (L' := [_, _, _, _]) rfl ?_
          refine fv_goto C d_T_takeHeld_59 (tgt := 2) rfl ?_
          refine fv_drop 3 (L' := [_, _, _, _]) rfl ?_
          refine ih (j + 1) (by omega) (fun t z ht hz => ?_)
          by_cases h9 : t = j
          · subst h9; cases hk.symm.trans hz; rw [hnk]; exact hc26
          · exact hno t z (by omega) hz
        · refine fv_aload_n C d_T_takeHeld_29 (n := 30) rfl (i := 0) rfl rfl ?_
          refine fv_dup C d_T_takeHeld_30 (n := 31) rfl rfl ?_
          refine fv_get C (fl_T_32 D dA) d_T_takeHeld_31 (n := 34) rfl hO.1 rfl ?_
          refine fv_iconst C d_T_takeHeld_34 (n := 35) rfl kI_1 ?_
          refine fv_isubN C (by omega) d_T_takeHeld_35 (n := 36) rfl ?_
          refine tk_phc C (fl_T_32 D dA) d_T_takeHeld_36 (n := 39) rfl hO hBs (fun h1 hO hF1 => ?_)
          have hEv : EV h1 (aE + x) ex := (hF1 _ (by omega)).trans (hE x ex hex)
          refine fv_aload_n C d_T_takeHeld_39 (n := 40) rfl (i := 0) rfl rfl ?_
          refine fv_get C (fl_T_28 D dA) d_T_takeHeld_40 (n := 43) rfl hO.1 rfl ?_
          refine fv_iload_n C d_T_takeHeld_43 (n := 44) rfl (i := 2) rfl rfl ?_
          refine fv_aload_n C d_T_takeHeld_44 (n := 45) rfl (i := 0) rfl rfl ?_
          refine fv_get C (fl_T_28 D dA) d_T_takeHeld_45 (n := 48) rfl hO.1 rfl ?_
          refine fv_aload_n C d_T_takeHeld_48 (n := 49) rfl (i := 0) rfl rfl ?_
          refine fv_get C (fl_T_32 D dA) d_T_takeHeld_49 (n := 52) rfl hO.1 rfl ?_
          refine fv_aaldN C (t0 := 3) rfl d_T_takeHeld_52 (n := 53) rfl hO.2.2 (by omega) (by decide) (show va_rf (hd (hs.length - 1)) = .ref (aE + x) by rw [hlen, Nat.add_sub_cancel, hhx]; rfl) ?_
          refine tk_sh C d_T_takeHeld_53 (n := 54) rfl hO hEv hBs (by omega) (fun h1 hO hF2 => ?_)
          refine fv_aload_n C d_T_takeHeld_54 (n := 55) rfl (i := 3) rfl rfl ?_
          refine fv_aret C rfl (Or.inl ⟨_, rfl⟩) (Or.inr ⟨_, rfl⟩) d_T_takeHeld_55 (Nat.le_refl _) (Nat.le_refl _) ?_
          refine ⟨some (aE + k), rfl, rfl, Or.inl ⟨k, Lh.set j x, rfl, hnk.trans hc26, ?_, ⟨va_up hd j (some (aE + x)), ?_, ?_, ?_, ?_⟩, hF1.tr hF2 (fun z hz => Or.inl hz) (fun z hz => Or.inr hz)⟩⟩
          · rw [hLx]
            refine (List.perm_append_singleton x Lh).trans ?_
            by_cases h9 : j < Lh.length
            · rw [hLx, List.getElem?_append_left h9] at hk
              exact perm_set hk
            · have h10 : j = Lh.length := by omega
              rw [h10, hx] at hk
              cases hk
              rw [List.set_eq_of_length_le (by omega)]
          · rw [List.length_set]; rw [hlen, Nat.add_sub_cancel] at hO; exact hO
          · intro t z hz
            by_cases h9 : t = j
            · subst h9
              have h10 : t < Lh.length := by have := (List.getElem?_eq_some_iff.mp hz).1; rwa [List.length_set] at this
              rw [List.getElem?_set_self h10] at hz
              cases hz
              exact va_up_self _ _ _
            · rw [List.getElem?_set_ne (Ne.symm h9)] at hz
              rw [va_up_ne _ _ h9]
              exact hhd t z (by rw [hLx, List.getElem?_append_left (List.getElem?_eq_some_iff.mp hz).1]; exact hz)
          · rw [List.length_set]; omega
          · intro z hz
            rcases List.mem_or_eq_of_mem_set hz with h9 | h9
            · exact hlog z (by rw [hLx]; exact List.mem_append_left _ h9)
            · rw [h9]; exact hlog x (List.mem_of_getElem? hx)
  refine fv_iconst C d_T_takeHeld_0 (n := 1) rfl kI_0 ?_
  refine fv_istore_n C d_T_takeHeld_1 (n := 2) rfl (i := 2) rfl (by decide) (L' := [_, _, _, _]) rfl ?_
  exact loop hs.length 0 (by omega) (fun t k ht => absurd ht (by omega))
theorem ct_T_hold {k0 : Nat} {ev0 : bo_E} (hk0 : log[k0]? = some ev0) (hi0 : ev0.2.1 = i) (hBs : Bs ≤ a) (hE : EVS h aE log) (haE : a + 7 ≤ aE) (hsm : ev_sm log) (hT : TK dA h a i ar aE log hs nd sv) : fv_T l (fk D dA) Bs WA m_T_hold [.ref a, .ref (aE + k0)] sz h 0 0 (fp_v sz (fun h' => ∃ hs', TK dA h' a i ar aE log hs' nd sv ∧ fs h h' (fun x => x = a ∨ x = a + 6) ∧ ((hs' = hs ∧ ((∃ k ∈ hs, ev_n log k = ev0.2.2.1) ∨ 30 ≤ hs.length)) ∨ (hs' = hs ++ [k0] ∧ (∀ k ∈ hs, ev_n log k ≠ ev0.2.2.1) ∧ hs.length < 30)))) := by
  have hT0 := hT
  obtain ⟨hd, hO, hhd, h30, hlog⟩ := hT
  have hE0 := hE k0 ev0 hk0
  have hsm0 := hsm.2 k0 ev0 hk0
  refine fv_of (L := [_, _, _]) (by decide +kernel) rfl (Nat.le_of_ble_eq_true rfl) rfl ?_
  intro X hX C
  subst hX
  have loop : ∀ m j, j + m = hs.length → (∀ t k, t < j → hs[t]? = some k → ev_n log k ≠ ev0.2.2.1) → fv_V (fk D dA) Bs X 3 (fv_MQ (fk D dA) Bs X (fp_v sz (fun h' => ∃ hs', TK dA h' a i ar aE log hs' nd sv ∧ fs h h' (fun x => x = a ∨ x = a + 6) ∧ ((hs' = hs ∧ ((∃ k ∈ hs, ev_n log k = ev0.2.2.1) ∨ 30 ≤ hs.length)) ∨ (hs' = hs ++ [k0] ∧ (∀ k ∈ hs, ev_n log k ≠ ev0.2.2.1) ∧ hs.length < 30)))) 0 0) 2 [some (.ref a), some (.ref (aE + k0)), some (.int (nI j))] [] sz h 0 0 := by
    intro m
    induction m with
    | zero =>
      intro j hj hno
      have hno2 : ∀ k ∈ hs, ev_n log k ≠ ev0.2.2.1 := by
        intro k hk
        obtain ⟨t, ht⟩ := List.getElem?_of_mem hk
        exact hno t k (by have := (List.getElem?_eq_some_iff.mp ht).1; omega) ht
      refine fv_iload_n C d_T_hold_2 (n := 3) rfl (i := 2) rfl rfl ?_
      refine fv_aload_n C d_T_hold_3 (n := 4) rfl (i := 0) rfl rfl ?_
      refine fv_get C (fl_T_32 D dA) d_T_hold_4 (n := 7) rfl hO.1 rfl ?_
      refine fv_icmpN_ge C (by omega) (by omega) d_T_hold_7 (tgt := 42) rfl (n := 10) rfl (fun hc7 => ?_) (fun hc7 => ?_)
      · refine fv_aload_n C d_T_hold_42 (n := 43) rfl (i := 0) rfl rfl ?_
        refine fv_get C (fl_T_32 D dA) d_T_hold_43 (n := 46) rfl hO.1 rfl ?_
        refine fv_bipush C d_T_hold_46 (n := 48) rfl kB_30 ?_
        refine fv_icmpN_ge C (by omega) (by omega) d_T_hold_48 (tgt := 71) rfl (n := 51) rfl (fun hc48 => ?_) (fun hc48 => ?_)
        · exact fv_vret C rfl d_T_hold_71 (Nat.le_refl _) (Nat.le_refl _) ⟨rfl, rfl, hs, hT0, fs_rf _ _, Or.inl ⟨rfl, Or.inr hc48⟩⟩
        · refine fv_aload_n C d_T_hold_51 (n := 52) rfl (i := 0) rfl rfl ?_
          refine fv_get C (fl_T_28 D dA) d_T_hold_52 (n := 55) rfl hO.1 rfl ?_
          refine fv_aload_n C d_T_hold_55 (n := 56) rfl (i := 0) rfl rfl ?_
          refine fv_get C (fl_T_32 D dA) d_T_hold_56 (n := 59) rfl hO.1 rfl ?_
          refine fv_aload_n C d_T_hold_59 (n := 60) rfl (i := 1) rfl rfl ?_
          refine tk_sh C d_T_hold_60 (n := 61) rfl hO hE0 hBs (by omega) (fun h1 hO hF1 => ?_)
          refine fv_aload_n C d_T_hold_61 (n := 62) rfl (i := 0) rfl rfl ?_
          refine fv_dup C d_T_hold_62 (n := 63) rfl rfl ?_
          refine fv_get C (fl_T_32 D dA) d_T_hold_63 (n := 66) rfl hO.1 rfl ?_
          refine fv_iconst C d_T_hold_66 (n := 67) rfl kI_1 ?_
          first | refine fv_iaddN C d_T_hold_67 (n := 68) rfl ?_ | refine fv_iadd C d_T_hold_67 (n := 68) rfl ?_
          refine tk_phc C (fl_T_32 D dA) d_T_hold_68 (n := 71) rfl hO hBs (fun h1 hO hF2 => ?_)
          refine fv_vret C rfl d_T_hold_71 (Nat.le_refl _) (Nat.le_refl _) ?_
          refine ⟨rfl, rfl, hs ++ [k0], ⟨va_up hd hs.length (some (aE + k0)), ?_, ?_, ?_, ?_⟩, hF1.tr hF2 (fun z hz => Or.inr hz) (fun z hz => Or.inl hz), Or.inr ⟨rfl, hno2, hc48⟩⟩
          · rw [List.length_append]; exact hO
          · intro t z hz
            by_cases h9 : t < hs.length
            · rw [List.getElem?_append_left h9] at hz; rw [va_up_ne _ _ (by omega)]; exact hhd t z hz
            · rw [List.getElem?_append_right (by omega)] at hz
              have h10 : t - hs.length < 1 := (List.getElem?_eq_some_iff.mp hz).1
              have h11 : t = hs.length := by omega
              subst h11
              rw [Nat.sub_self, List.getElem?_cons_zero] at hz
              cases hz
              exact va_up_self _ _ _
          · rw [List.length_append]; simp; omega
          · intro z hz
            rcases List.mem_append.mp hz with h9 | h9
            · exact hlog z h9
            · rw [List.mem_singleton.mp h9]; exact ⟨ev0, hk0, hi0⟩
      · exact absurd hc7 (by omega)
    | succ m ih =>
      intro j hj hno
      obtain ⟨k, hk⟩ : ∃ k, hs[j]? = some k := ⟨_, List.getElem?_eq_getElem (by omega)⟩
      have hhk := hhd j k hk
      obtain ⟨ev, hev, hei⟩ := hlog k (List.mem_of_getElem? hk)
      have hEk := hE k ev hev
      have hsm1 := hsm.2 k ev hev
      have hnk := ev_n_of hev
      refine fv_iload_n C d_T_hold_2 (n := 3) rfl (i := 2) rfl rfl ?_
      refine fv_aload_n C d_T_hold_3 (n := 4) rfl (i := 0) rfl rfl ?_
      refine fv_get C (fl_T_32 D dA) d_T_hold_4 (n := 7) rfl hO.1 rfl ?_
      refine fv_icmpN_ge C (by omega) (by omega) d_T_hold_7 (tgt := 42) rfl (n := 10) rfl (fun hc7 => ?_) (fun hc7 => ?_)
      · exact absurd hc7 (by omega)
      · refine fv_aload_n C d_T_hold_10 (n := 11) rfl (i := 0) rfl rfl ?_
        refine fv_get C (fl_T_28 D dA) d_T_hold_11 (n := 14) rfl hO.1 rfl ?_
        refine fv_iload_n C d_T_hold_14 (n := 15) rfl (i := 2) rfl rfl ?_
        refine fv_aaldN C (t0 := 3) rfl d_T_hold_15 (n := 16) rfl hO.2.2 (by omega) (by decide) (show va_rf (hd j) = .ref (aE + k) by rw [hhk]; rfl) ?_
        refine fv_ifnull C d_T_hold_16 (n := 19) rfl ?_
        refine fv_aload_n C d_T_hold_19 (n := 20) rfl (i := 0) rfl rfl ?_
        refine fv_get C (fl_T_28 D dA) d_T_hold_20 (n := 23) rfl hO.1 rfl ?_
        refine fv_iload_n C d_T_hold_23 (n := 24) rfl (i := 2) rfl rfl ?_
        refine fv_aaldN C (t0 := 3) rfl d_T_hold_24 (n := 25) rfl hO.2.2 (by omega) (by decide) (show va_rf (hd j) = .ref (aE + k) by rw [hhk]; rfl) ?_
        refine fv_get C (fl_T_49 D dA) d_T_hold_25 (n := 28) rfl hEk rfl ?_
        refine fv_aload_n C d_T_hold_28 (n := 29) rfl (i := 1) rfl rfl ?_
        refine fv_get C (fl_T_49 D dA) d_T_hold_29 (n := 32) rfl hE0 rfl ?_
        refine fv_icmpN_ne C (by omega) (by omega) d_T_hold_32 (tgt := 36) rfl (n := 35) rfl (fun hc32 => ?_) (fun hc32 => ?_)
        · refine fv_iincN C d_T_hold_36 (n := 39) rfl rfl (by decide) (L' := [_, _, _]) rfl ?_
          refine fv_goto C d_T_hold_39 (tgt := 2) rfl ?_
          refine ih (j + 1) (by omega) (fun t z ht hz => ?_)
          by_cases h9 : t = j
          · subst h9; cases hk.symm.trans hz; rw [hnk]; exact hc32
          · exact hno t z (by omega) hz
        · refine fv_vret C rfl d_T_hold_35 (Nat.le_refl _) (Nat.le_refl _) ?_
          exact ⟨rfl, rfl, hs, hT0, fs_rf _ _, Or.inl ⟨rfl, Or.inl ⟨k, List.mem_of_getElem? hk, hnk.trans hc32⟩⟩⟩
  refine fv_iconst C d_T_hold_0 (n := 1) rfl kI_0 ?_
  refine fv_istore_n C d_T_hold_1 (n := 2) rfl (i := 2) rfl (by decide) (L' := [_, _, _]) rfl ?_
  exact loop hs.length 0 (by omega) (fun t k ht => absurd ht (by omega))
theorem ft_snoc (p : Nat → Bool) {hs : List Nat} {j k : Nat} (hk : hs[j]? = some k) : (hs.take (j + 1)).filter p = if p k = true then (hs.take j).filter p ++ [k] else (hs.take j).filter p := by
  rw [List.take_succ, hk, List.filter_append]
  by_cases hp : p k = true
  · simp [hp]
  · simp [hp]
theorem ct_T_forgetOldHeld {b : bo_B} {nn : Nat} (hnn : nn < 2 ^ 31) (hL : BL dA h (a + 1) b nn) (hBs : Bs ≤ a) (hE : EVS h aE log) (haE : a + 7 ≤ aE) (hsm : ev_sm log) (hT : TK dA h a i ar aE log hs nd sv) : fv_T l (fk D dA) Bs WA m_T_forgetOldHeld [.ref a] sz h 0 0 (fp_v sz (fun h' => TK dA h' a i ar aE log (hs.filter (fun k => decide (nn < ev_n log k))) nd sv ∧ fs h h' (fun x => x = a ∨ x = a + 6))) := by
  obtain ⟨hd, hO, hhd, h30, hlog⟩ := hT
  obtain ⟨ids, pri, siz, hB, hA, hw⟩ := hL
  refine fv_of (L := [_, _, _, _]) (by decide +kernel) rfl (Nat.le_of_ble_eq_true rfl) rfl ?_
  intro X hX C
  subst hX
  have loop : ∀ m j (h1 : fv_H) (hd1 : Nat → Option Nat), j + m = hs.length → TKr dA h1 a i ar hd1 hs.length nd sv → fs h h1 (fun x => x = a ∨ x = a + 6) → (∀ t k, ((hs.take j).filter (fun k => decide (nn < ev_n log k)))[t]? = some k → hd1 t = some (aE + k)) → (∀ t, j ≤ t → hd1 t = hd t) → fv_V (fk D dA) Bs X 4 (fv_MQ (fk D dA) Bs X (fp_v sz (fun h' => TK dA h' a i ar aE log (hs.filter (fun k => decide (nn < ev_n log k))) nd sv ∧ fs h h' (fun x => x = a ∨ x = a + 6))) 0 0) 4 [some (.ref a), some (.int (nI ((hs.take j).filter (fun k => decide (nn < ev_n log k))).length)), some (.int (nI j)), none] [] sz h1 0 0 := by
    intro m
    induction m with
    | zero =>
      intro j h1 hd1 hj hO hF hlo hhi
      have hj2 : hs.take j = hs := List.take_of_length_le (by omega)
      rw [hj2] at hlo ⊢
      have hfl := List.length_filter_le (fun k => decide (nn < ev_n log k)) hs
      refine fv_iload_n C d_T_forgetOldHeld_4 (n := 5) rfl (i := 2) rfl rfl ?_
      refine fv_aload_n C d_T_forgetOldHeld_5 (n := 6) rfl (i := 0) rfl rfl ?_
      refine fv_get C (fl_T_32 D dA) d_T_forgetOldHeld_6 (n := 9) rfl hO.1 rfl ?_
      refine fv_icmpN_ge C (by omega) (by omega) d_T_forgetOldHeld_9 (tgt := 53) rfl (n := 12) rfl (fun hc9 => ?_) (fun hc9 => ?_)
      · refine fv_aload_n C d_T_forgetOldHeld_53 (n := 54) rfl (i := 0) rfl rfl ?_
        refine fv_iload_n C d_T_forgetOldHeld_54 (n := 55) rfl (i := 1) rfl rfl ?_
        refine tk_phc C (fl_T_32 D dA) d_T_forgetOldHeld_55 (n := 58) rfl hO hBs (fun h2 hO hF2 => ?_)
        refine fv_vret C rfl d_T_forgetOldHeld_58 (Nat.le_refl _) (Nat.le_refl _) ?_
        exact ⟨rfl, rfl, ⟨hd1, hO, hlo, Nat.le_trans hfl h30, fun k hk => hlog k (List.mem_filter.mp hk).1⟩, hF.tr hF2 (fun z hz => hz) (fun z hz => Or.inl hz)⟩
      · exact absurd hc9 (by omega)
    | succ m ih =>
      intro j h1 hd1 hj hO hF hlo hhi
      obtain ⟨k, hk⟩ : ∃ k, hs[j]? = some k := ⟨_, List.getElem?_eq_getElem (by omega)⟩
      have hhk : hd1 j = some (aE + k) := (hhi j (Nat.le_refl _)).trans (hhd j k hk)
      obtain ⟨ev, hev, hei⟩ := hlog k (List.mem_of_getElem? hk)
      have hEk : EV h1 (aE + k) ev := (hF _ (by omega)).trans (hE k ev hev)
      have hsm1 := hsm.2 k ev hev
      have hnk := ev_n_of hev
      have hsn := ft_snoc (fun k => decide (nn < ev_n log k)) hk
      have hB1 := hB.1
      have hfl := Nat.le_trans (List.length_filter_le (fun k => decide (nn < ev_n log k)) (hs.take j)) (by rw [List.length_take]; exact Nat.min_le_left _ _)
      have hB1 : BK dA h1 (a + 1) ids pri siz (bo_srt 0 b.1).length b.1.length b.2 nn := ⟨(hF _ (by omega)).trans hB.1, (hF _ (by omega)).trans hB.2.1, (hF _ (by omega)).trans hB.2.2.1, (hF _ (by omega)).trans hB.2.2.2⟩
      refine fv_iload_n C d_T_forgetOldHeld_4 (n := 5) rfl (i := 2) rfl rfl ?_
      refine fv_aload_n C d_T_forgetOldHeld_5 (n := 6) rfl (i := 0) rfl rfl ?_
      refine fv_get C (fl_T_32 D dA) d_T_forgetOldHeld_6 (n := 9) rfl hO.1 rfl ?_
      refine fv_icmpN_ge C (by omega) (by omega) d_T_forgetOldHeld_9 (tgt := 53) rfl (n := 12) rfl (fun hc9 => ?_) (fun hc9 => ?_)
      · exact absurd hc9 (by omega)
      · refine fv_aload_n C d_T_forgetOldHeld_12 (n := 13) rfl (i := 0) rfl rfl ?_
        refine fv_get C (fl_T_28 D dA) d_T_forgetOldHeld_13 (n := 16) rfl hO.1 rfl ?_
        refine fv_iload_n C d_T_forgetOldHeld_16 (n := 17) rfl (i := 2) rfl rfl ?_
        refine fv_aaldN C (t0 := 3) rfl d_T_forgetOldHeld_17 (n := 18) rfl hO.2.2 (by omega) (by decide) (show va_rf (hd1 j) = .ref (aE + k) by rw [hhk]; rfl) ?_
        refine fv_astore_n C d_T_forgetOldHeld_18 (n := 19) rfl (i := 3) rfl (by decide) (L' := [_, _, _, _]) rfl ?_
        refine fv_aload_n C d_T_forgetOldHeld_19 (n := 20) rfl (i := 3) rfl rfl ?_
        refine fv_ifnull C d_T_forgetOldHeld_20 (n := 23) rfl ?_
        refine fv_aload_n C d_T_forgetOldHeld_23 (n := 24) rfl (i := 3) rfl rfl ?_
        refine fv_get C (fl_T_49 D dA) d_T_forgetOldHeld_24 (n := 27) rfl hEk rfl ?_
        refine fv_aload_n C d_T_forgetOldHeld_27 (n := 28) rfl (i := 0) rfl rfl ?_
        refine fv_get C (fl_T_12 D dA) d_T_forgetOldHeld_28 (n := 31) rfl hO.1 rfl ?_
        refine fv_get C (fl_T_46 D dA) d_T_forgetOldHeld_31 (n := 34) rfl hB1.1 rfl ?_
        refine fv_icmpN_le C (by omega) (by omega) d_T_forgetOldHeld_34 (tgt := 47) rfl (n := 37) rfl (fun hc34 => ?_) (fun hc34 => ?_)
        · have hp : ¬ decide (nn < ev_n log k) = true := by rw [hnk]; simpa using hc34
          rw [if_neg hp] at hsn
          refine fv_iincN C d_T_forgetOldHeld_47 (n := 50) rfl rfl (by decide) (L' := [_, _, _, _]) rfl ?_
          refine fv_goto C d_T_forgetOldHeld_50 (tgt := 4) rfl ?_
          refine fv_drop 3 (L' := [_, _, _, _]) rfl ?_
          refine fv_eqL (by rw [hsn]) (ih (j + 1) h1 hd1 (by omega) hO hF (by rw [hsn]; exact hlo) (fun t ht => hhi t (by omega)))
        · have hp : decide (nn < ev_n log k) = true := by rw [hnk]; simpa using hc34
          rw [if_pos hp] at hsn
          refine fv_aload_n C d_T_forgetOldHeld_37 (n := 38) rfl (i := 0) rfl rfl ?_
          refine fv_get C (fl_T_28 D dA) d_T_forgetOldHeld_38 (n := 41) rfl hO.1 rfl ?_
          refine fv_iload_n C d_T_forgetOldHeld_41 (n := 42) rfl (i := 1) rfl rfl ?_
          refine fv_aload_n C d_T_forgetOldHeld_42 (n := 43) rfl (i := 3) rfl rfl ?_
          refine tk_sh C d_T_forgetOldHeld_43 (n := 44) rfl hO hEk hBs (by omega) (fun h2 hO hF2 => ?_)
          refine fv_iincN C d_T_forgetOldHeld_44 (n := 47) rfl rfl (by decide) (L' := [_, _, _, _]) rfl ?_
          refine fv_iincN C d_T_forgetOldHeld_47 (n := 50) rfl rfl (by decide) (L' := [_, _, _, _]) rfl ?_
          refine fv_goto C d_T_forgetOldHeld_50 (tgt := 4) rfl ?_
          refine fv_drop 3 (L' := [_, _, _, _]) rfl ?_
          refine fv_eqL (by rw [hsn, List.length_append]; rfl) (ih (j + 1) h2 _ (by omega) hO (hF.tr hF2 (fun z hz => hz) (fun z hz => Or.inr hz)) (fun t z hz => ?_) (fun t ht => by rw [va_up_ne _ _ (by omega)]; exact hhi t (by omega)))
          rw [hsn] at hz
          by_cases h9 : t < ((hs.take j).filter (fun k => decide (nn < ev_n log k))).length
          · rw [List.getElem?_append_left h9] at hz; rw [va_up_ne _ _ (by omega)]; exact hlo t z hz
          · rw [List.getElem?_append_right (by omega)] at hz
            have h10 : t - ((hs.take j).filter (fun k => decide (nn < ev_n log k))).length < 1 := (List.getElem?_eq_some_iff.mp hz).1
            have h11 : t = ((hs.take j).filter (fun k => decide (nn < ev_n log k))).length := by omega
            rw [h11, Nat.sub_self, List.getElem?_cons_zero] at hz
            cases hz
            rw [h11]
            exact va_up_self _ _ _
  refine fv_iconst C d_T_forgetOldHeld_0 (n := 1) rfl kI_0 ?_
  refine fv_istore_n C d_T_forgetOldHeld_1 (n := 2) rfl (i := 1) rfl (by decide) (L' := [_, _, _, _]) rfl ?_
  refine fv_iconst C d_T_forgetOldHeld_2 (n := 3) rfl kI_0 ?_
  refine fv_istore_n C d_T_forgetOldHeld_3 (n := 4) rfl (i := 2) rfl (by decide) (L' := [_, _, _, _]) rfl ?_
  exact loop hs.length 0 h hd (by omega) hO (fs_rf _ _) (fun t k hk => by simp at hk) (fun t _ => rfl)
end TKW
