def MC (dA : Nat → ClassId) (h : fv_H) (m0 ev pk bl : Nat) (bh : Bool) (sh : Nat) (F : Nat → Nat → Int32) : Prop := h m0 = some (.inr (8, [.ref (m0 + 1), .ref (m0 + 2), .ref (m0 + 3), .ref (m0 + 4), .ref (m0 + 5), .ref (m0 + 6), .ref (m0 + 7), .int (nI ev), .ref (m0 + 8), .ref (m0 + 9), .int (nI pk), .ref (m0 + 10), .ref (m0 + 11), .ref (m0 + 12), .ref (m0 + 13), .int (nI bl), .int (fv_b bh), .ref (m0 + 14), .ref (m0 + 15), .ref (m0 + 16), .ref (m0 + 17), .ref (m0 + 18), .ref (m0 + 19), .ref (m0 + 20), .ref (m0 + 21), .ref (m0 + 22), .ref (m0 + 23), .ref (m0 + 24), .ref (m0 + 25), .ref (m0 + 26), .int (nI sh), .ref (m0 + 27), .ref (m0 + 28), .ref (m0 + 29), .ref (m0 + 30)])) ∧ ∀ k, 1 ≤ k → k ≤ 30 → h (m0 + k) = some (.inl (dA (mt k), ml k, .inl (F k)))
section MCS
variable {D : va_G} {dA : Nat → ClassId} {Bs : Nat} {X : fv_X} {M : fv_M} {mc ms nL : Nat} {Q : State → Prop} {pc n : Nat} {L L' : List (Option Value)} {st : List Value} {sz : Nat} {h : fv_H} {cells slots : Nat} {m0 ev pk bl : Nat} {bh : Bool} {sh : Nat} {F : Nat → Nat → Int32}
theorem mc_1 (hM : MC dA h m0 ev pk bl bh sh F) : h (m0 + 1) = some (.inl (dA 0, 400, .inl (F 1))) := hM.2 1 (by decide) (by decide)
theorem mc_2 (hM : MC dA h m0 ev pk bl bh sh F) : h (m0 + 2) = some (.inl (dA 0, 400, .inl (F 2))) := hM.2 2 (by decide) (by decide)
theorem mc_3 (hM : MC dA h m0 ev pk bl bh sh F) : h (m0 + 3) = some (.inl (dA 0, 400, .inl (F 3))) := hM.2 3 (by decide) (by decide)
theorem mc_4 (hM : MC dA h m0 ev pk bl bh sh F) : h (m0 + 4) = some (.inl (dA 0, 400, .inl (F 4))) := hM.2 4 (by decide) (by decide)
theorem mc_5 (hM : MC dA h m0 ev pk bl bh sh F) : h (m0 + 5) = some (.inl (dA 0, 400, .inl (F 5))) := hM.2 5 (by decide) (by decide)
theorem mc_6 (hM : MC dA h m0 ev pk bl bh sh F) : h (m0 + 6) = some (.inl (dA 0, 400, .inl (F 6))) := hM.2 6 (by decide) (by decide)
theorem mc_7 (hM : MC dA h m0 ev pk bl bh sh F) : h (m0 + 7) = some (.inl (dA 0, 400, .inl (F 7))) := hM.2 7 (by decide) (by decide)
theorem mc_8 (hM : MC dA h m0 ev pk bl bh sh F) : h (m0 + 8) = some (.inl (dA 0, 4, .inl (F 8))) := hM.2 8 (by decide) (by decide)
theorem mc_9 (hM : MC dA h m0 ev pk bl bh sh F) : h (m0 + 9) = some (.inl (dA 0, 402, .inl (F 9))) := hM.2 9 (by decide) (by decide)
theorem mc_10 (hM : MC dA h m0 ev pk bl bh sh F) : h (m0 + 10) = some (.inl (dA 0, 24, .inl (F 10))) := hM.2 10 (by decide) (by decide)
theorem mc_11 (hM : MC dA h m0 ev pk bl bh sh F) : h (m0 + 11) = some (.inl (dA 0, 24, .inl (F 11))) := hM.2 11 (by decide) (by decide)
theorem mc_12 (hM : MC dA h m0 ev pk bl bh sh F) : h (m0 + 12) = some (.inl (dA 0, 24, .inl (F 12))) := hM.2 12 (by decide) (by decide)
theorem mc_13 (hM : MC dA h m0 ev pk bl bh sh F) : h (m0 + 13) = some (.inl (dA 0, 24, .inl (F 13))) := hM.2 13 (by decide) (by decide)
theorem mc_14 (hM : MC dA h m0 ev pk bl bh sh F) : h (m0 + 14) = some (.inl (dA 0, 19, .inl (F 14))) := hM.2 14 (by decide) (by decide)
theorem mc_15 (hM : MC dA h m0 ev pk bl bh sh F) : h (m0 + 15) = some (.inl (dA 0, 19, .inl (F 15))) := hM.2 15 (by decide) (by decide)
theorem mc_16 (hM : MC dA h m0 ev pk bl bh sh F) : h (m0 + 16) = some (.inl (dA 0, 8, .inl (F 16))) := hM.2 16 (by decide) (by decide)
theorem mc_17 (hM : MC dA h m0 ev pk bl bh sh F) : h (m0 + 17) = some (.inl (dA 0, 8, .inl (F 17))) := hM.2 17 (by decide) (by decide)
theorem mc_18 (hM : MC dA h m0 ev pk bl bh sh F) : h (m0 + 18) = some (.inl (dA 1, 3208, .inl (F 18))) := hM.2 18 (by decide) (by decide)
theorem mc_19 (hM : MC dA h m0 ev pk bl bh sh F) : h (m0 + 19) = some (.inl (dA 0, 8, .inl (F 19))) := hM.2 19 (by decide) (by decide)
theorem mc_20 (hM : MC dA h m0 ev pk bl bh sh F) : h (m0 + 20) = some (.inl (dA 0, 2, .inl (F 20))) := hM.2 20 (by decide) (by decide)
theorem mc_21 (hM : MC dA h m0 ev pk bl bh sh F) : h (m0 + 21) = some (.inl (dA 0, 2, .inl (F 21))) := hM.2 21 (by decide) (by decide)
theorem mc_22 (hM : MC dA h m0 ev pk bl bh sh F) : h (m0 + 22) = some (.inl (dA 1, 804, .inl (F 22))) := hM.2 22 (by decide) (by decide)
theorem mc_23 (hM : MC dA h m0 ev pk bl bh sh F) : h (m0 + 23) = some (.inl (dA 0, 2, .inl (F 23))) := hM.2 23 (by decide) (by decide)
theorem mc_24 (hM : MC dA h m0 ev pk bl bh sh F) : h (m0 + 24) = some (.inl (dA 0, 513, .inl (F 24))) := hM.2 24 (by decide) (by decide)
theorem mc_25 (hM : MC dA h m0 ev pk bl bh sh F) : h (m0 + 25) = some (.inl (dA 0, 513, .inl (F 25))) := hM.2 25 (by decide) (by decide)
theorem mc_26 (hM : MC dA h m0 ev pk bl bh sh F) : h (m0 + 26) = some (.inl (dA 0, 513, .inl (F 26))) := hM.2 26 (by decide) (by decide)
theorem mc_27 (hM : MC dA h m0 ev pk bl bh sh F) : h (m0 + 27) = some (.inl (dA 0, 8, .inl (F 27))) := hM.2 27 (by decide) (by decide)
theorem mc_28 (hM : MC dA h m0 ev pk bl bh sh F) : h (m0 + 28) = some (.inl (dA 0, 2, .inl (F 28))) := hM.2 28 (by decide) (by decide)
theorem mc_29 (hM : MC dA h m0 ev pk bl bh sh F) : h (m0 + 29) = some (.inl (dA 0, 38, .inl (F 29))) := hM.2 29 (by decide) (by decide)
theorem mc_30 (hM : MC dA h m0 ev pk bl bh sh F) : h (m0 + 30) = some (.inl (dA 1, 2, .inl (F 30))) := hM.2 30 (by decide) (by decide)
theorem MC.fs {h' : fv_H} {S : Nat → Prop} (hM : MC dA h m0 ev pk bl bh sh F) (hf : fs h h' S) (hd : ∀ x, m0 ≤ x → x ≤ m0 + 30 → ¬ S x) : MC dA h' m0 ev pk bl bh sh F := ⟨(hf _ (hd _ (by omega) (by omega))).trans hM.1, fun k h1 h2 => (hf _ (hd _ (by omega) (by omega))).trans (hM.2 k h1 h2)⟩
theorem mc_ia (C : fv_C (fk D dA) WA X M mc ms) (k : Nat) {j : Nat} {x : Int32} (hk1 : 1 ≤ k) (hk2 : k ≤ 30) (hm : mt k = 0) (hd : decode M.2.1 pc = .ok (.iastore, 1)) (hn : pc + 1 = n) (hM : MC dA h m0 ev pk bl bh sh F) (hBs : Bs ≤ m0) (hl : ml k < 2 ^ 31) (hj : j < ml k) (kk : ∀ (h1 : fv_H) (F' : Nat → Nat → Int32), MC dA h1 m0 ev pk bl bh sh F' → F' k = upd (F k) j x → (∀ q, q ≠ k → F' q = F q) → fs h h1 (MS m0) → fv_V (fk D dA) Bs X nL Q n L st sz h1 cells slots) : fv_V (fk D dA) Bs X nL Q pc L (.int x :: .int (nI j) :: .ref (m0 + k) :: st) sz h cells slots := by
  have hc := hM.2 k hk1 hk2
  rw [hm] at hc
  refine fv_iastN C (t0 := 0) rfl hd hn hc (by omega) hj hl ?_
  refine kk _ (va_up F k (upd (F k) j x)) ?_ (va_up_self _ _ _) (fun q hq => va_up_ne _ _ hq) (fun z hz => va_up_ne _ _ (fun e => hz ⟨by omega, by omega⟩))
  · refine ⟨?_, fun q q1 q2 => ?_⟩
    · rw [va_up_ne _ _ (by omega)]
      exact hM.1
    · by_cases c : q = k
      · subst c
        rw [va_up_self, va_up_self, hm]
      · rw [va_up_ne _ _ (by omega), va_up_ne _ _ c]
        exact hM.2 q q1 q2
theorem mc_za (C : fv_C (fk D dA) WA X M mc ms) (k : Nat) {j : Nat} {x : Int32} (bb : Bool) (hx : x = fv_b bb) (hk1 : 1 ≤ k) (hk2 : k ≤ 30) (hm : mt k = 1) (hd : decode M.2.1 pc = .ok (.bastore, 1)) (hn : pc + 1 = n) (hM : MC dA h m0 ev pk bl bh sh F) (hBs : Bs ≤ m0) (hl : ml k < 2 ^ 31) (hj : j < ml k) (kk : ∀ (h1 : fv_H) (F' : Nat → Nat → Int32), MC dA h1 m0 ev pk bl bh sh F' → F' k = upd (F k) j (fv_b bb) → (∀ q, q ≠ k → F' q = F q) → fs h h1 (MS m0) → fv_V (fk D dA) Bs X nL Q n L st sz h1 cells slots) : fv_V (fk D dA) Bs X nL Q pc L (.int x :: .int (nI j) :: .ref (m0 + k) :: st) sz h cells slots := by
  have hc := hM.2 k hk1 hk2
  rw [hm] at hc
  subst hx
  refine fv_zast C (t0 := 1) rfl hd hn hc (by omega) (vp_in_nI hj hl) (fv_b_nar bb) ?_
  rw [nI_clamp (Nat.lt_trans hj hl)]
  refine kk _ (va_up F k (upd (F k) j (fv_b bb))) ?_ (va_up_self _ _ _) (fun q hq => va_up_ne _ _ hq) (fun z hz => va_up_ne _ _ (fun e => hz ⟨by omega, by omega⟩))
  · refine ⟨?_, fun q q1 q2 => ?_⟩
    · rw [va_up_ne _ _ (by omega)]
      exact hM.1
    · by_cases c : q = k
      · subst c
        rw [va_up_self, va_up_self, hm]
      · rw [va_up_ne _ _ (by omega), va_up_ne _ _ c]
        exact hM.2 q q1 q2
theorem mc_pev (C : fv_C (fk D dA) WA X M mc ms) {idx v : Nat} (F0 : fv_FL (fk D dA) WA M.1.cls idx 8 7 .int false) (hd : decode M.2.1 pc = .ok (.putfield idx, 3)) (hn : pc + 3 = n) (hM : MC dA h m0 ev pk bl bh sh F) (hBs : Bs ≤ m0) (kk : ∀ h1 : fv_H, MC dA h1 m0 v pk bl bh sh F → fs h h1 (MS m0) → fv_V (fk D dA) Bs X nL Q n L st sz h1 cells slots) : fv_V (fk D dA) Bs X nL Q pc L (.int (nI v) :: .ref m0 :: st) sz h cells slots := by
  refine fv_put C F0 (Or.inl rfl) hd hn hM.1 hBs rfl rfl (Nat.le_of_ble_eq_true rfl) ?_
  refine kk _ ⟨va_up_self _ _ _, fun k h1 h2 => ?_⟩ (fun z hz => va_up_ne _ _ (fun e => hz ⟨by omega, by omega⟩))
  rw [va_up_ne _ _ (by omega)]
  exact hM.2 k h1 h2
theorem mc_ppk (C : fv_C (fk D dA) WA X M mc ms) {idx v : Nat} (F0 : fv_FL (fk D dA) WA M.1.cls idx 8 10 .int false) (hd : decode M.2.1 pc = .ok (.putfield idx, 3)) (hn : pc + 3 = n) (hM : MC dA h m0 ev pk bl bh sh F) (hBs : Bs ≤ m0) (kk : ∀ h1 : fv_H, MC dA h1 m0 ev v bl bh sh F → fs h h1 (MS m0) → fv_V (fk D dA) Bs X nL Q n L st sz h1 cells slots) : fv_V (fk D dA) Bs X nL Q pc L (.int (nI v) :: .ref m0 :: st) sz h cells slots := by
  refine fv_put C F0 (Or.inl rfl) hd hn hM.1 hBs rfl rfl (Nat.le_of_ble_eq_true rfl) ?_
  refine kk _ ⟨va_up_self _ _ _, fun k h1 h2 => ?_⟩ (fun z hz => va_up_ne _ _ (fun e => hz ⟨by omega, by omega⟩))
  rw [va_up_ne _ _ (by omega)]
  exact hM.2 k h1 h2
theorem mc_pbl (C : fv_C (fk D dA) WA X M mc ms) {idx v : Nat} (F0 : fv_FL (fk D dA) WA M.1.cls idx 8 15 .int false) (hd : decode M.2.1 pc = .ok (.putfield idx, 3)) (hn : pc + 3 = n) (hM : MC dA h m0 ev pk bl bh sh F) (hBs : Bs ≤ m0) (kk : ∀ h1 : fv_H, MC dA h1 m0 ev pk v bh sh F → fs h h1 (MS m0) → fv_V (fk D dA) Bs X nL Q n L st sz h1 cells slots) : fv_V (fk D dA) Bs X nL Q pc L (.int (nI v) :: .ref m0 :: st) sz h cells slots := by
  refine fv_put C F0 (Or.inl rfl) hd hn hM.1 hBs rfl rfl (Nat.le_of_ble_eq_true rfl) ?_
  refine kk _ ⟨va_up_self _ _ _, fun k h1 h2 => ?_⟩ (fun z hz => va_up_ne _ _ (fun e => hz ⟨by omega, by omega⟩))
  rw [va_up_ne _ _ (by omega)]
  exact hM.2 k h1 h2
theorem mc_psh (C : fv_C (fk D dA) WA X M mc ms) {idx v : Nat} (F0 : fv_FL (fk D dA) WA M.1.cls idx 8 30 .int false) (hd : decode M.2.1 pc = .ok (.putfield idx, 3)) (hn : pc + 3 = n) (hM : MC dA h m0 ev pk bl bh sh F) (hBs : Bs ≤ m0) (kk : ∀ h1 : fv_H, MC dA h1 m0 ev pk bl bh v F → fs h h1 (MS m0) → fv_V (fk D dA) Bs X nL Q n L st sz h1 cells slots) : fv_V (fk D dA) Bs X nL Q pc L (.int (nI v) :: .ref m0 :: st) sz h cells slots := by
  refine fv_put C F0 (Or.inl rfl) hd hn hM.1 hBs rfl rfl (Nat.le_of_ble_eq_true rfl) ?_
  refine kk _ ⟨va_up_self _ _ _, fun k h1 h2 => ?_⟩ (fun z hz => va_up_ne _ _ (fun e => hz ⟨by omega, by omega⟩))
  rw [va_up_ne _ _ (by omega)]
  exact hM.2 k h1 h2
theorem mc_pbh (C : fv_C (fk D dA) WA X M mc ms) {idx : Nat} {x : Int32} (v : Bool) (hx : x = fv_b v) (F0 : fv_FL (fk D dA) WA M.1.cls idx 8 16 .boolean false) (hd : decode M.2.1 pc = .ok (.putfield idx, 3)) (hn : pc + 3 = n) (hM : MC dA h m0 ev pk bl bh sh F) (hBs : Bs ≤ m0) (kk : ∀ h1 : fv_H, MC dA h1 m0 ev pk bl v sh F → fs h h1 (MS m0) → fv_V (fk D dA) Bs X nL Q n L st sz h1 cells slots) : fv_V (fk D dA) Bs X nL Q pc L (.int x :: .ref m0 :: st) sz h cells slots := by
  subst hx
  refine fv_put C F0 (Or.inl rfl) hd hn hM.1 hBs (fv_b_nar v) (fv_b_fit v) (Nat.le_of_ble_eq_true rfl) ?_
  refine kk _ ⟨va_up_self _ _ _, fun k h1 h2 => ?_⟩ (fun z hz => va_up_ne _ _ (fun e => hz ⟨by omega, by omega⟩))
  rw [va_up_ne _ _ (by omega)]
  exact hM.2 k h1 h2
theorem fv_zaldJ (C : fv_C (fk D dA) WA X M mc ms) {a j : Nat} {N : Nat} {f : Nat → Int32} (hd : decode M.2.1 pc = .ok (.baload, 1)) (hn : pc + 1 = n) (ha : h a = some (.inl (dA 1, N, .inl f))) (hj : j < N) (hN : N < 2 ^ 31) (kk : fv_V (fk D dA) Bs X nL Q n L (.int (f j) :: st) sz h cells slots) : fv_V (fk D dA) Bs X nL Q pc L (.int (nI j) :: .ref a :: st) sz h cells slots := by
  refine fv_zald C (t0 := 1) rfl hd hn ha (vp_in_nI hj hN) ?_
  rw [nI_clamp (Nat.lt_trans hj hN)]
  exact kk
end MCS
