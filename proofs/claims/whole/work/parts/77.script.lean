/-! the script's cell: nothing of before is changed -/
theorem fv_old {p : Program} {l : Launch} {e : Env} {R : Room} {s : State} {m : MethodId} {args : Array Value} {below : List Frame} {meth : Method} {c : Code} {T : State} {locs : List Loc} {cells slots Bs : Nat} (St : Stand p l e R s m args below meth c T locs cells slots) (hl : ∀ q ∈ locs, Bs ≤ q.base) : va_S (fun q => Bs ≤ q) s.heap T.heap locs := by
  have hs := St.same
  refine ⟨hs.2.1, fun q hq hA => ?_, hl⟩
  have hc := Array.getElem?_eq_getElem hq
  obtain ⟨c', h1, h2, h3, h4⟩ := hs.2.2.2.2.2 q _ hc
  have h1 : T.heap[q]? = some c' := h1
  rw [h1, hc, h2]
  have e : c'.slots = (s.heap[q]).slots := by
    apply Array.ext_getElem?
    intro i
    exact h4 i (fun hm => hA (hl _ hm))
  rw [e]
section SCR
variable {K : fv_K} {Bs : Nat} {X : fv_X} {M : fv_M} {mc ms nL : Nat} {Q : State → Prop} {pc n : Nat} {Lx : List (Option Value)} {st : List Value} {sz : Nat} {h : fv_H} {cells slots : Nat}
theorem fv_sld (C : fv_C K WA X M mc ms) {b L j : Nat} {xs : Nat → Int32} (hX : va_X b L xs X.2.2.2.2.1 X.2.2.2.2.1.heap) (hbl : b < X.2.2.2.2.1.heap.size) (hb : b < Bs) (hd : decode M.2.1 pc = .ok (.iaload, 1)) (hn : pc + 1 = n) (hj : j < L) (hN : L < 2 ^ 31) (kk : fv_V K Bs X nL Q n Lx (.int (xs j) :: st) sz h cells slots) : fv_V K Bs X nL Q pc Lx (.int (nI j) :: .ref b :: st) sz h cells slots := by
  subst hn
  intro H locs ls hR hl hL T hT St
  have hS : va_S (fun q => Bs ≤ q) X.2.2.2.2.1.heap H locs := hT ▸ fv_old St hl
  have k2 := kk H locs ls hR hl hL
  have hcl : (nI j).toNatClampNeg = j := nI_clamp (Nat.lt_trans hj hN)
  exact va_sld (A := fun q => Bs ≤ q) C.1 C.2.1 hX hbl (Nat.not_le.mpr hb) hS (vp_in_nI hj hN) hd (by rw [hcl]; exact k2) T hT St
theorem fv_slen (C : fv_C K WA X M mc ms) {b L : Nat} {xs : Nat → Int32} (hX : va_X b L xs X.2.2.2.2.1 X.2.2.2.2.1.heap) (hbl : b < X.2.2.2.2.1.heap.size) (hb : b < Bs) (hd : decode M.2.1 pc = .ok (.arraylength, 1)) (hn : pc + 1 = n) (kk : fv_V K Bs X nL Q n Lx (.int (nI L) :: st) sz h cells slots) : fv_V K Bs X nL Q pc Lx (.ref b :: st) sz h cells slots := by
  subst hn
  intro H locs ls hR hl hL T hT St
  have hS : va_S (fun q => Bs ≤ q) X.2.2.2.2.1.heap H locs := hT ▸ fv_old St hl
  exact va_slen (A := fun q => Bs ≤ q) C.1 C.2.1 hX hbl (Nat.not_le.mpr hb) hS hd (kk H locs ls hR hl hL) T hT St
end SCR
