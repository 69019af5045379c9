/-! rows for numbers that are naturals (nI), and truth values -/
def fv_b (b : Bool) : Int32 := if b = true then 1 else 0
theorem fv_b_t : fv_b true = 1 := rfl
theorem fv_b_f : fv_b false = 0 := rfl
theorem fv_b_nI (b : Bool) : fv_b b = nI (if b = true then 1 else 0) := by cases b <;> decide +kernel
theorem fv_b_z (b : Bool) : fv_b b = 0 ↔ b = false := by cases b <;> decide +kernel
theorem fv_b_nar (b : Bool) : narrow .boolean (.int (fv_b b)) = .int (fv_b b) := by cases b <;> rfl
theorem fv_b_fit (b : Bool) : fits .boolean (.int (fv_b b)) = true := by cases b <;> rfl
theorem kI_0 : Int32.ofInt 0 = nI 0 := by decide +kernel
theorem kI_1 : Int32.ofInt 1 = nI 1 := by decide +kernel
theorem kI_2 : Int32.ofInt 2 = nI 2 := by decide +kernel
theorem kI_3 : Int32.ofInt 3 = nI 3 := by decide +kernel
theorem kI_4 : Int32.ofInt 4 = nI 4 := by decide +kernel
theorem kI_5 : Int32.ofInt 5 = nI 5 := by decide +kernel
theorem kI_m1 : Int32.ofInt (-1) = -1 := by decide +kernel
theorem kB_2 : (Int8.ofInt 2).toInt32 = nI 2 := by decide +kernel
theorem kB_3 : (Int8.ofInt 3).toInt32 = nI 3 := by decide +kernel
theorem kB_4 : (Int8.ofInt 4).toInt32 = nI 4 := by decide +kernel
theorem kB_5 : (Int8.ofInt 5).toInt32 = nI 5 := by decide +kernel
theorem kB_6 : (Int8.ofInt 6).toInt32 = nI 6 := by decide +kernel
theorem kB_7 : (Int8.ofInt 7).toInt32 = nI 7 := by decide +kernel
theorem kB_8 : (Int8.ofInt 8).toInt32 = nI 8 := by decide +kernel
theorem kB_9 : (Int8.ofInt 9).toInt32 = nI 9 := by decide +kernel
theorem kB_10 : (Int8.ofInt 10).toInt32 = nI 10 := by decide +kernel
theorem kB_11 : (Int8.ofInt 11).toInt32 = nI 11 := by decide +kernel
theorem kB_15 : (Int8.ofInt 15).toInt32 = nI 15 := by decide +kernel
theorem kB_18 : (Int8.ofInt 18).toInt32 = nI 18 := by decide +kernel
theorem kB_19 : (Int8.ofInt 19).toInt32 = nI 19 := by decide +kernel
theorem kB_24 : (Int8.ofInt 24).toInt32 = nI 24 := by decide +kernel
theorem kB_30 : (Int8.ofInt 30).toInt32 = nI 30 := by decide +kernel
theorem kB_31 : (Int8.ofInt 31).toInt32 = nI 31 := by decide +kernel
theorem kB_38 : (Int8.ofInt 38).toInt32 = nI 38 := by decide +kernel
theorem kB_40 : (Int8.ofInt 40).toInt32 = nI 40 := by decide +kernel
theorem kB_m2 : (Int8.ofInt (-2)).toInt32 = -2 := by decide +kernel
theorem kB_m3 : (Int8.ofInt (-3)).toInt32 = -3 := by decide +kernel
theorem kB_m4 : (Int8.ofInt (-4)).toInt32 = -4 := by decide +kernel
theorem kS_255 : (Int16.ofInt 255).toInt32 = nI 255 := by decide +kernel
theorem kS_400 : (Int16.ofInt 400).toInt32 = nI 400 := by decide +kernel
theorem kS_401 : (Int16.ofInt 401).toInt32 = nI 401 := by decide +kernel
theorem kS_402 : (Int16.ofInt 402).toInt32 = nI 402 := by decide +kernel
theorem kS_513 : (Int16.ofInt 513).toInt32 = nI 513 := by decide +kernel
theorem kS_804 : (Int16.ofInt 804).toInt32 = nI 804 := by decide +kernel
theorem kS_3208 : (Int16.ofInt 3208).toInt32 = nI 3208 := by decide +kernel
section FN
variable {K : fv_K} {Bs : Nat} {WA : List Cond} {X : fv_X} {M : fv_M} {mc ms nL : Nat} {Q : State → Prop} {pc n : Nat} {L L' : List (Option Value)} {st : List Value} {sz : Nat} {h : fv_H} {cells slots : Nat}
theorem fv_iaddN (C : fv_C K WA X M mc ms) {x y : Nat}  (hd : decode M.2.1 pc = .ok (.iadd, 1)) (hn : pc + 1 = n) (k : fv_V K Bs X nL Q n L (.int (nI (x + y)) :: st) sz h cells slots) : fv_V K Bs X nL Q pc L (.int (nI y) :: .int (nI x) :: st) sz h cells slots := by
  refine fv_iadd C hd hn ?_
  rw [nI_add]
  exact k
theorem fv_isubN (C : fv_C K WA X M mc ms) {x y : Nat} (hxy : y ≤ x) (hd : decode M.2.1 pc = .ok (.isub, 1)) (hn : pc + 1 = n) (k : fv_V K Bs X nL Q n L (.int (nI (x - y)) :: st) sz h cells slots) : fv_V K Bs X nL Q pc L (.int (nI y) :: .int (nI x) :: st) sz h cells slots := by
  refine fv_isub C hd hn ?_
  rw [pk_sub hxy]
  exact k
theorem fv_imulN (C : fv_C K WA X M mc ms) {x y : Nat}  (hd : decode M.2.1 pc = .ok (.imul, 1)) (hn : pc + 1 = n) (k : fv_V K Bs X nL Q n L (.int (nI (x * y)) :: st) sz h cells slots) : fv_V K Bs X nL Q pc L (.int (nI y) :: .int (nI x) :: st) sz h cells slots := by
  refine fv_imul C hd hn ?_
  rw [pk_mul]
  exact k
theorem fv_idivN (C : fv_C K WA X M mc ms) {x y : Nat} (hx : x < 2 ^ 31) (h0 : 0 < y) (hy : y < 2 ^ 31) (hd : decode M.2.1 pc = .ok (.idiv, 1)) (hn : pc + 1 = n) (k : fv_V K Bs X nL Q n L (.int (nI (x / y)) :: st) sz h cells slots) : fv_V K Bs X nL Q pc L (.int (nI y) :: .int (nI x) :: st) sz h cells slots := by
  refine fv_idiv C hd hn (nI_ne0 h0 hy) ?_
  rw [pk_div hx h0 hy]
  exact k
theorem fv_iremN (C : fv_C K WA X M mc ms) {x y : Nat} (hx : x < 2 ^ 31) (h0 : 0 < y) (hy : y < 2 ^ 31) (hd : decode M.2.1 pc = .ok (.irem, 1)) (hn : pc + 1 = n) (k : fv_V K Bs X nL Q n L (.int (nI (x % y)) :: st) sz h cells slots) : fv_V K Bs X nL Q pc L (.int (nI y) :: .int (nI x) :: st) sz h cells slots := by
  refine fv_irem C hd hn (nI_ne0 h0 hy) ?_
  rw [pk_rem hx h0 hy]
  exact k
theorem fv_iandN (C : fv_C K WA X M mc ms) {x : Nat} {m : Int32} (e : Nat) (hx : x < 2 ^ 32) (hm : m.toBitVec.toNat = 2 ^ e - 1) (hd : decode M.2.1 pc = .ok (.iand, 1)) (hn : pc + 1 = n) (k : fv_V K Bs X nL Q n L (.int (nI (x % 2 ^ e)) :: st) sz h cells slots) : fv_V K Bs X nL Q pc L (.int m :: .int (nI x) :: st) sz h cells slots := by
  refine fv_iand C hd hn ?_
  rw [pk_andN hx e hm]
  exact k
theorem fv_iincN (C : fv_C K WA X M mc ms) {i x : Nat} (hd : decode M.2.1 pc = .ok (.iinc i 1, 3)) (hn : pc + 3 = n) (hx : L[i]? = some (some (.int (nI x)))) (hnL : i < nL) (hL' : L.set i (some (.int (nI (x + 1)))) = L') (k : fv_V K Bs X nL Q n L' st sz h cells slots) : fv_V K Bs X nL Q pc L st sz h cells slots := by
  refine fv_iinc C hd hn hx ?_ hnL hL' k
  rw [kI_1, nI_add]
theorem fv_icmpN_lt (C : fv_C K WA X M mc ms) {x y : Nat} {off : Int} {tgt : Nat} (hx : x < 2 ^ 31) (hy : y < 2 ^ 31) (hd : decode M.2.1 pc = .ok (.if_icmp .lt off, 3)) (ht : (pc : Int) + off = (tgt : Int)) (hn : pc + 3 = n) (kt : x < y → fv_V K Bs X nL Q tgt L st sz h cells slots) (kf : y ≤ x → fv_V K Bs X nL Q n L st sz h cells slots) : fv_V K Bs X nL Q pc L (.int (nI y) :: .int (nI x) :: st) sz h cells slots := by
  have h1 := nI_ltI hx hy
  have h2 := nI_ltI hy hx
  have h3 := nI_leI hx hy
  have h4 := nI_leI hy hx
  have h5 := nI_eq hx hy
  refine fv_icmp_lt C hd ht hn (fun q => kt ?_) (fun q => kf ?_)
  · exact h1.mp q
  · exact Nat.le_of_not_lt fun z => q (h1.mpr z)
theorem fv_icmpN_ge (C : fv_C K WA X M mc ms) {x y : Nat} {off : Int} {tgt : Nat} (hx : x < 2 ^ 31) (hy : y < 2 ^ 31) (hd : decode M.2.1 pc = .ok (.if_icmp .ge off, 3)) (ht : (pc : Int) + off = (tgt : Int)) (hn : pc + 3 = n) (kt : y ≤ x → fv_V K Bs X nL Q tgt L st sz h cells slots) (kf : x < y → fv_V K Bs X nL Q n L st sz h cells slots) : fv_V K Bs X nL Q pc L (.int (nI y) :: .int (nI x) :: st) sz h cells slots := by
  have h1 := nI_ltI hx hy
  have h2 := nI_ltI hy hx
  have h3 := nI_leI hx hy
  have h4 := nI_leI hy hx
  have h5 := nI_eq hx hy
  refine fv_icmp_ge C hd ht hn (fun q => kt ?_) (fun q => kf ?_)
  · first | exact h4.mp q | exact Nat.le_of_not_lt fun z => q (h1.mpr z)
  · first | exact Nat.lt_of_not_le fun z => q (h4.mpr z) | exact h1.mp q
theorem fv_icmpN_gt (C : fv_C K WA X M mc ms) {x y : Nat} {off : Int} {tgt : Nat} (hx : x < 2 ^ 31) (hy : y < 2 ^ 31) (hd : decode M.2.1 pc = .ok (.if_icmp .gt off, 3)) (ht : (pc : Int) + off = (tgt : Int)) (hn : pc + 3 = n) (kt : y < x → fv_V K Bs X nL Q tgt L st sz h cells slots) (kf : x ≤ y → fv_V K Bs X nL Q n L st sz h cells slots) : fv_V K Bs X nL Q pc L (.int (nI y) :: .int (nI x) :: st) sz h cells slots := by
  have h1 := nI_ltI hx hy
  have h2 := nI_ltI hy hx
  have h3 := nI_leI hx hy
  have h4 := nI_leI hy hx
  have h5 := nI_eq hx hy
  refine fv_icmp_gt C hd ht hn (fun q => kt ?_) (fun q => kf ?_)
  · exact h2.mp q
  · exact Nat.le_of_not_lt fun z => q (h2.mpr z)
theorem fv_icmpN_le (C : fv_C K WA X M mc ms) {x y : Nat} {off : Int} {tgt : Nat} (hx : x < 2 ^ 31) (hy : y < 2 ^ 31) (hd : decode M.2.1 pc = .ok (.if_icmp .le off, 3)) (ht : (pc : Int) + off = (tgt : Int)) (hn : pc + 3 = n) (kt : x ≤ y → fv_V K Bs X nL Q tgt L st sz h cells slots) (kf : y < x → fv_V K Bs X nL Q n L st sz h cells slots) : fv_V K Bs X nL Q pc L (.int (nI y) :: .int (nI x) :: st) sz h cells slots := by
  have h1 := nI_ltI hx hy
  have h2 := nI_ltI hy hx
  have h3 := nI_leI hx hy
  have h4 := nI_leI hy hx
  have h5 := nI_eq hx hy
  refine fv_icmp_le C hd ht hn (fun q => kt ?_) (fun q => kf ?_)
  · first | exact h3.mp q | exact Nat.le_of_not_lt fun z => q (h2.mpr z)
  · first | exact Nat.lt_of_not_le fun z => q (h3.mpr z) | exact h2.mp q
theorem fv_icmpN_eq (C : fv_C K WA X M mc ms) {x y : Nat} {off : Int} {tgt : Nat} (hx : x < 2 ^ 31) (hy : y < 2 ^ 31) (hd : decode M.2.1 pc = .ok (.if_icmp .eq off, 3)) (ht : (pc : Int) + off = (tgt : Int)) (hn : pc + 3 = n) (kt : x = y → fv_V K Bs X nL Q tgt L st sz h cells slots) (kf : x ≠ y → fv_V K Bs X nL Q n L st sz h cells slots) : fv_V K Bs X nL Q pc L (.int (nI y) :: .int (nI x) :: st) sz h cells slots := by
  have h1 := nI_ltI hx hy
  have h2 := nI_ltI hy hx
  have h3 := nI_leI hx hy
  have h4 := nI_leI hy hx
  have h5 := nI_eq hx hy
  refine fv_icmp_eq C hd ht hn (fun q => kt ?_) (fun q => kf ?_)
  · exact h5.mp q
  · exact fun z => q (h5.mpr z)
theorem fv_icmpN_ne (C : fv_C K WA X M mc ms) {x y : Nat} {off : Int} {tgt : Nat} (hx : x < 2 ^ 31) (hy : y < 2 ^ 31) (hd : decode M.2.1 pc = .ok (.if_icmp .ne off, 3)) (ht : (pc : Int) + off = (tgt : Int)) (hn : pc + 3 = n) (kt : x ≠ y → fv_V K Bs X nL Q tgt L st sz h cells slots) (kf : x = y → fv_V K Bs X nL Q n L st sz h cells slots) : fv_V K Bs X nL Q pc L (.int (nI y) :: .int (nI x) :: st) sz h cells slots := by
  have h1 := nI_ltI hx hy
  have h2 := nI_ltI hy hx
  have h3 := nI_leI hx hy
  have h4 := nI_leI hy hx
  have h5 := nI_eq hx hy
  refine fv_icmp_ne C hd ht hn (fun q => kt ?_) (fun q => kf ?_)
  · exact fun z => q (h5.mpr z)
  · first | exact h5.mp q | exact Decidable.byContradiction fun z => q (fun w => z (h5.mp w))
theorem fv_ifB_eq (C : fv_C K WA X M mc ms) {b : Bool} {off : Int} {tgt : Nat} (hd : decode M.2.1 pc = .ok (.ifCond .eq off, 3)) (ht : (pc : Int) + off = (tgt : Int)) (hn : pc + 3 = n) (kt : b = false → fv_V K Bs X nL Q tgt L st sz h cells slots) (kf : b = true → fv_V K Bs X nL Q n L st sz h cells slots) : fv_V K Bs X nL Q pc L (.int (fv_b b) :: st) sz h cells slots := by
  refine fv_if_eq C hd ht hn (fun q => kt ((fv_b_z b).mp q)) (fun q => kf ?_)
  cases b with
  | true => rfl
  | false => exact absurd rfl q
theorem fv_ifB_ne (C : fv_C K WA X M mc ms) {b : Bool} {off : Int} {tgt : Nat} (hd : decode M.2.1 pc = .ok (.ifCond .ne off, 3)) (ht : (pc : Int) + off = (tgt : Int)) (hn : pc + 3 = n) (kt : b = true → fv_V K Bs X nL Q tgt L st sz h cells slots) (kf : b = false → fv_V K Bs X nL Q n L st sz h cells slots) : fv_V K Bs X nL Q pc L (.int (fv_b b) :: st) sz h cells slots := by
  refine fv_if_ne C hd ht hn (fun q => kt ?_) (fun q => kf ?_)
  · cases b with
    | true => rfl
    | false => exact absurd rfl q
  · cases b with
    | true => exact absurd q (by decide +kernel)
    | false => rfl
theorem fv_ifN_eq (C : fv_C K WA X M mc ms) {x : Nat} {off : Int} {tgt : Nat} (hx : x < 2 ^ 31) (hd : decode M.2.1 pc = .ok (.ifCond .eq off, 3)) (ht : (pc : Int) + off = (tgt : Int)) (hn : pc + 3 = n) (kt : x = 0 → fv_V K Bs X nL Q tgt L st sz h cells slots) (kf : x ≠ 0 → fv_V K Bs X nL Q n L st sz h cells slots) : fv_V K Bs X nL Q pc L (.int (nI x) :: st) sz h cells slots := by
  refine fv_if_eq C hd ht hn (fun q => kt ?_) (fun q => kf ?_)
  · exact Decidable.byContradiction fun z => nI_ne0 (Nat.pos_of_ne_zero z) hx q
  · intro z
    subst z
    exact q nI_0
theorem fv_ifN_ne (C : fv_C K WA X M mc ms) {x : Nat} {off : Int} {tgt : Nat} (hx : x < 2 ^ 31) (hd : decode M.2.1 pc = .ok (.ifCond .ne off, 3)) (ht : (pc : Int) + off = (tgt : Int)) (hn : pc + 3 = n) (kt : x ≠ 0 → fv_V K Bs X nL Q tgt L st sz h cells slots) (kf : x = 0 → fv_V K Bs X nL Q n L st sz h cells slots) : fv_V K Bs X nL Q pc L (.int (nI x) :: st) sz h cells slots := by
  by_cases hz : x = 0
  · exact fv_if_ne C hd ht hn (fun q => absurd (by rw [hz]; exact nI_0) q) (fun _ => kf hz)
  · exact fv_if_ne C hd ht hn (fun _ => kt hz) (fun q => absurd (show ¬ nI x = 0 from nI_ne0 (Nat.pos_of_ne_zero hz) hx) (by first | exact fun z => z q | exact q))
theorem fv_ifN_lt (C : fv_C K WA X M mc ms) {x : Nat} {off : Int} {tgt : Nat} (hx : x < 2 ^ 31) (hd : decode M.2.1 pc = .ok (.ifCond .lt off, 3)) (ht : (pc : Int) + off = (tgt : Int)) (hn : pc + 3 = n) (kf : fv_V K Bs X nL Q n L st sz h cells slots) : fv_V K Bs X nL Q pc L (.int (nI x) :: st) sz h cells slots := fv_if_lt C hd ht hn (fun q => absurd q (nI_pos hx)) (fun _ => kf)
theorem fv_ifN_ge (C : fv_C K WA X M mc ms) {x : Nat} {off : Int} {tgt : Nat} (hx : x < 2 ^ 31) (hd : decode M.2.1 pc = .ok (.ifCond .ge off, 3)) (ht : (pc : Int) + off = (tgt : Int)) (hn : pc + 3 = n) (kt : fv_V K Bs X nL Q tgt L st sz h cells slots) : fv_V K Bs X nL Q pc L (.int (nI x) :: st) sz h cells slots := fv_if_ge C hd ht hn (fun _ => kt) (fun q => absurd (show 0 ≤ nI x from nI_pos' hx) (by first | exact q | exact Int32.not_le.mpr q))
theorem fv_ifN_le (C : fv_C K WA X M mc ms) {x : Nat} {off : Int} {tgt : Nat} (hx : x < 2 ^ 31) (hd : decode M.2.1 pc = .ok (.ifCond .le off, 3)) (ht : (pc : Int) + off = (tgt : Int)) (hn : pc + 3 = n) (kt : x = 0 → fv_V K Bs X nL Q tgt L st sz h cells slots) (kf : 0 < x → fv_V K Bs X nL Q n L st sz h cells slots) : fv_V K Bs X nL Q pc L (.int (nI x) :: st) sz h cells slots := by
  by_cases hz : x = 0
  · exact fv_if_le C hd ht hn (fun _ => kt hz) (fun q => absurd (show nI x ≤ 0 by rw [hz]; decide +kernel) (by first | exact q | exact Int32.not_le.mpr q))
  · exact fv_if_le C hd ht hn (fun q => absurd q (nI_nle (Nat.pos_of_ne_zero hz) hx)) (fun _ => kf (Nat.pos_of_ne_zero hz))
theorem fv_ialdN (C : fv_C K WA X M mc ms) {a t0 j : Nat} {cA : ClassId} {N : Nat} {f : Nat → Int32} (ht : K.2.2.1[t0]? = some (cA, .int)) (hd : decode M.2.1 pc = .ok (.iaload, 1)) (hn : pc + 1 = n) (ha : h a = some (.inl (cA, N, .inl f))) (hj : j < N) (hN : N < 2 ^ 31) (kk : fv_V K Bs X nL Q n L (.int (f j) :: st) sz h cells slots) : fv_V K Bs X nL Q pc L (.int (nI j) :: .ref a :: st) sz h cells slots := by
  refine fv_iald C ht hd hn ha (vp_in_nI hj hN) ?_
  rw [nI_clamp (Nat.lt_trans hj hN)]
  exact kk
theorem fv_zaldN (C : fv_C K WA X M mc ms) {a t0 j : Nat} {cA : ClassId} {N : Nat} {f : Nat → Bool} (ht : K.2.2.1[t0]? = some (cA, .boolean)) (hd : decode M.2.1 pc = .ok (.baload, 1)) (hn : pc + 1 = n) (ha : h a = some (.inl (cA, N, .inl (fun i => fv_b (f i))))) (hj : j < N) (hN : N < 2 ^ 31) (kk : fv_V K Bs X nL Q n L (.int (fv_b (f j)) :: st) sz h cells slots) : fv_V K Bs X nL Q pc L (.int (nI j) :: .ref a :: st) sz h cells slots := by
  refine fv_zald C ht hd hn ha (vp_in_nI hj hN) ?_
  rw [nI_clamp (Nat.lt_trans hj hN)]
  exact kk
theorem fv_aaldN (C : fv_C K WA X M mc ms) {a t0 j : Nat} {cA : ClassId} {C0 : String} {N : Nat} {f : Nat → Option Nat} {v : Value} (ht : K.2.2.1[t0]? = some (cA, .object C0)) (hd : decode M.2.1 pc = .ok (.aaload, 1)) (hn : pc + 1 = n) (ha : h a = some (.inl (cA, N, .inr (.inr (.inr (.inr f)))))) (hj : j < N) (hN : N < 2 ^ 31) (hv : va_rf (f j) = v) (kk : fv_V K Bs X nL Q n L (v :: st) sz h cells slots) : fv_V K Bs X nL Q pc L (.int (nI j) :: .ref a :: st) sz h cells slots := by
  refine fv_aald C ht hd hn ha (vp_in_nI hj hN) ?_ kk
  rw [nI_clamp (Nat.lt_trans hj hN)]
  exact hv
theorem fv_iastN (C : fv_C K WA X M mc ms) {a t0 j : Nat} {cA : ClassId} {N : Nat} {f : Nat → Int32} {x : Int32} (ht : K.2.2.1[t0]? = some (cA, .int)) (hd : decode M.2.1 pc = .ok (.iastore, 1)) (hn : pc + 1 = n) (ha : h a = some (.inl (cA, N, .inl f))) (hB : Bs ≤ a) (hj : j < N) (hN : N < 2 ^ 31) (kk : fv_V K Bs X nL Q n L st sz (va_up h a (some (.inl (cA, N, .inl (upd f j x))))) cells slots) : fv_V K Bs X nL Q pc L (.int x :: .int (nI j) :: .ref a :: st) sz h cells slots := by
  refine fv_iast C ht hd hn ha hB (vp_in_nI hj hN) ?_
  rw [nI_clamp (Nat.lt_trans hj hN)]
  exact kk
theorem fv_zastN (C : fv_C K WA X M mc ms) {a t0 j : Nat} {cA : ClassId} {N : Nat} {f : Nat → Bool} {b : Bool} {x : Int32} (hx : x = fv_b b) (ht : K.2.2.1[t0]? = some (cA, .boolean)) (hd : decode M.2.1 pc = .ok (.bastore, 1)) (hn : pc + 1 = n) (ha : h a = some (.inl (cA, N, .inl (fun i => fv_b (f i))))) (hB : Bs ≤ a) (hj : j < N) (hN : N < 2 ^ 31) (kk : fv_V K Bs X nL Q n L st sz (va_up h a (some (.inl (cA, N, .inl (fun i => fv_b (va_up f j b i)))))) cells slots) : fv_V K Bs X nL Q pc L (.int x :: .int (nI j) :: .ref a :: st) sz h cells slots := by
  subst hx
  refine fv_zast C ht hd hn ha hB (vp_in_nI hj hN) (fv_b_nar b) ?_
  rw [nI_clamp (Nat.lt_trans hj hN)]
  have e : upd (fun i => fv_b (f i)) j (fv_b b) = fun i => fv_b (va_up f j b i) := by
    funext i
    unfold upd va_up
    split <;> rfl
  rw [e]
  exact kk
theorem fv_aastN1 (C : fv_C K WA X M mc ms) {a t0 ci v j : Nat} {cA : ClassId} {r : vw_C} {N : Nat} {vs : List Value} {f : Nat → Option Nat} (ht : K.2.2.1[t0]? = some (cA, .object r.1)) (hd : decode M.2.1 pc = .ok (.aastore, 1)) (hn : pc + 1 = n) (ha : h a = some (.inl (cA, N, .inr (.inr (.inr (.inr f)))))) (hv : h v = some (.inr (ci, vs))) (hc : K.2.1[ci]? = some r) (hB : Bs ≤ a) (hj : j < N) (hN : N < 2 ^ 31) (kk : fv_V K Bs X nL Q n L st sz (va_up h a (some (.inl (cA, N, .inr (.inr (.inr (.inr (va_up f j (some v))))))))) cells slots) : fv_V K Bs X nL Q pc L (.ref v :: .int (nI j) :: .ref a :: st) sz h cells slots := by
  refine fv_aast C ht hd hn ha hv hc hB (vp_in_nI hj hN) ?_
  rw [nI_clamp (Nat.lt_trans hj hN)]
  exact kk
theorem fv_aastN0 (C : fv_C K WA X M mc ms) {a t0 j : Nat} {cA : ClassId} {C0 : String} {N : Nat} {f : Nat → Option Nat} (ht : K.2.2.1[t0]? = some (cA, .object C0)) (hd : decode M.2.1 pc = .ok (.aastore, 1)) (hn : pc + 1 = n) (ha : h a = some (.inl (cA, N, .inr (.inr (.inr (.inr f)))))) (hB : Bs ≤ a) (hj : j < N) (hN : N < 2 ^ 31) (kk : fv_V K Bs X nL Q n L st sz (va_up h a (some (.inl (cA, N, .inr (.inr (.inr (.inr (va_up f j none)))))))) cells slots) : fv_V K Bs X nL Q pc L (.null :: .int (nI j) :: .ref a :: st) sz h cells slots := by
  refine fv_aastN C ht hd hn ha hB (vp_in_nI hj hN) ?_
  rw [nI_clamp (Nat.lt_trans hj hN)]
  exact kk
theorem fv_copyN (C : fv_C K WA X M mc ms) {idx a0 a t0 : Nat} {cA : ClassId} {n0 n1 : Nat} {f g : Nat → Int32} {sp dp z : Nat} (ht : K.2.2.1[t0]? = some (cA, .int)) (hw1 : Cond.methodLink M.1.cls idx arraycopyName ∈ WA) (hw2 : Cond.native arraycopyName ∈ WA) (hw3 : Cond.static arraycopyName ∈ WA) (hw4 : Cond.initialized "java/lang/System" ∈ WA) (hd : decode M.2.1 pc = .ok (.invokestatic idx, 3)) (hn : pc + 3 = n) (hm : nL = M.2.2.1) (ha0 : h a0 = some (.inl (cA, n0, .inl f))) (ha : h a = some (.inl (cA, n1, .inl g))) (hB : Bs ≤ a) (h4 : sp + z ≤ n0) (h5 : dp + z ≤ n1) (h0 : n0 < 2 ^ 31) (h1 : n1 < 2 ^ 31) (hf : 1 ≤ M.2.2.2.2.1) (hlo : (st.map fun v => v.category).sum + (nativeFrameWords "java/lang/System" "arraycopy" 5 + 11) ≤ M.2.2.2.2.2)
    (kk : fv_V K Bs X nL Q n L st sz (va_up h a (some (.inl (cA, n1, .inl (va_cpy f g sp dp z))))) cells slots) : fv_V K Bs X nL Q pc L (.int (nI z) :: .int (nI dp) :: .ref a :: .int (nI sp) :: .ref a0 :: st) sz h cells slots := by
  have e1 : (nI sp).toNatClampNeg = sp := nI_clamp (by omega)
  have e2 : (nI dp).toNatClampNeg = dp := nI_clamp (by omega)
  have e3 : (nI z).toNatClampNeg = z := nI_clamp (by omega)
  refine fv_copyi C ht hw1 hw2 hw3 hw4 hd hn hm ha0 ha hB (nI_pos (by omega)) (nI_pos (by omega)) (nI_pos (by omega)) (by rw [e1, e3]; exact h4) (by rw [e2, e3]; exact h5) hf hlo ?_
  rw [e1, e2, e3]
  exact kk
/-- a contract whose answer and heap are known -/
def fv_rd (v0 : Option Value) (sz0 : Nat) (h0 : fv_H) : Option Value → Nat → fv_H → Prop := fun v sz' h' => v = v0 ∧ sz' = sz0 ∧ h' = h0
end FN
