theorem na_i : Cond.arrayClass FieldType.int ∈ WA := wa_t 68 (by decide +kernel) rfl
theorem na_z : Cond.arrayClass FieldType.boolean ∈ WA := wa_t 179 (by decide +kernel) rfl
/-! constructors: rows with what they leave -/
section CT0
variable {K : fv_K} {Bs : Nat} {X : fv_X} {M : fv_M} {mc ms nL : Nat} {Q : State → Prop} {pc n : Nat} {L : List (Option Value)} {st : List Value} {sz : Nat} {h : fv_H} {cells slots : Nat}
theorem fv_pt (C : fv_C K WA X M mc ms) {idx ci k a : Nat} {ty : FieldType} {fin : Bool} {vs : List Value} {v : Value} (F : fv_FL K WA M.1.cls idx ci k ty fin) (hfin : fin = false ∨ (fin = true ∧ M.1.name = "<init>" ∧ ∃ r, K.2.1[ci]? = some (M.1.cls, r) ∧ ∀ host C0 nm ds, (M.1.cls, idx, C0, nm, ds, host) ∉ K.2.2.2.1)) (hd : decode M.2.1 pc = .ok (.putfield idx, 3)) (hn : pc + 3 = n) (ha : h a = some (.inr (ci, vs))) (hB : Bs ≤ a) (hnr : narrow ty v = v) (hft : fits ty v = true) (hl9 : k < vs.length)
    (kk : ∀ h1 : fv_H, h1 a = some (.inr (ci, vs.set k v)) → fs h h1 (fun z => z = a) → fv_V K Bs X nL Q n L st sz h1 cells slots) : fv_V K Bs X nL Q pc L (v :: .ref a :: st) sz h cells slots :=
  fv_put C F hfin hd hn ha hB hnr hft hl9 (kk _ (va_up_self _ _ _) (fun z hz => va_up_ne _ _ hz))
theorem fv_nwi (C : fv_C K WA X M mc ms) {t0 : Nat} {cA : ClassId} {atype : ArrayType} {ty : FieldType} {N : Nat} (ht : K.2.2.1[t0]? = some (cA, ty)) (hty : newarray.typeOf atype = ty) (hpr : ty = .int ∨ ty = .boolean) (hw : Cond.arrayClass ty ∈ WA) (hd : decode M.2.1 pc = .ok (.newarray atype, 2)) (hn : pc + 2 = n) (hb : N * 4 ≤ 536870912) (hcells : cells + 1 ≤ mc) (hslots : slots + N ≤ ms)
    (kk : ∀ h1 : fv_H, h1 sz = some (.inl (cA, N, .inl (fun _ => 0))) → fs h h1 (fun z => z = sz) → fv_V K Bs X nL Q n L (.ref sz :: st) (sz + 1) h1 (cells + 1) (slots + N)) : fv_V K Bs X nL Q pc L (.int (nI N) :: st) sz h cells slots :=
  fv_newa C ht hty hpr hw hd hn (by rw [Int32.lt_iff_toInt_lt, nI_toInt (by omega)]; exact Int.not_lt.mpr (Int.natCast_nonneg N)) (nI_clamp (by omega)) hb hcells hslots (kk _ (va_up_self _ _ _) (fun z hz => va_up_ne _ _ hz))
theorem fv_nwa (C : fv_C K WA X M mc ms) {t0 idx : Nat} {cA : ClassId} {C0 : String} {N : Nat} (ht : K.2.2.1[t0]? = some (cA, .object C0)) (hao : C0 ∈ K.2.2.2.2.2) (hw : Cond.classLink M.1.cls idx C0 ∈ WA) (hd : decode M.2.1 pc = .ok (.anewarray idx, 3)) (hn : pc + 3 = n) (hb : N * 4 ≤ 536870912) (hcells : cells + 1 ≤ mc) (hslots : slots + N ≤ ms)
    (kk : ∀ h1 : fv_H, h1 sz = some (.inl (cA, N, .inr (.inr (.inr (.inr (fun _ => none)))))) → fs h h1 (fun z => z = sz) → fv_V K Bs X nL Q n L (.ref sz :: st) (sz + 1) h1 (cells + 1) (slots + N)) : fv_V K Bs X nL Q pc L (.int (nI N) :: st) sz h cells slots :=
  fv_anewa C ht hao hw hd hn (by rw [Int32.lt_iff_toInt_lt, nI_toInt (by omega)]; exact Int.not_lt.mpr (Int.natCast_nonneg N)) (nI_clamp (by omega)) hb hcells hslots (kk _ (va_up_self _ _ _) (fun z hz => va_up_ne _ _ hz))
theorem fv_nwo (C : fv_C K WA X M mc ms) {idx ci N : Nat} {C0 : String} {T : u_T} {vs : List Value} (ty : Nat → FieldType) (hin : ∀ w ∈ u_ws C0 T N, w ∈ WA) (hty : ∀ k, k < N → parseFieldDescriptor (T k).2.2.1 = some (ty k)) (hc : K.2.1[ci]? = some (C0, T, N)) (hw1 : Cond.classLink M.1.cls idx C0 ∈ WA) (hw2 : Cond.instantiable C0 N ∈ WA) (hw3 : Cond.initialized C0 ∈ WA) (hfs : ∀ j, j < N → defaultValue (ty j) = vp_V vs j) (hd : decode M.2.1 pc = .ok (.new idx, 3)) (hn : pc + 3 = n) (hcells : cells + 1 ≤ mc) (hslots : slots + N ≤ ms)
    (kk : ∀ h1 : fv_H, h1 sz = some (.inr (ci, vs)) → fs h h1 (fun z => z = sz) → fv_V K Bs X nL Q n L (.ref sz :: st) (sz + 1) h1 (cells + 1) (slots + N)) : fv_V K Bs X nL Q pc L st sz h cells slots :=
  fv_new C ty hin hty hc hw1 hw2 hw3 hfs hd hn hcells hslots (kk _ (va_up_self _ _ _) (fun z hz => va_up_ne _ _ hz))
theorem fv_asti (C : fv_C K WA X M mc ms) {a t0 j : Nat} {cA : ClassId} {N : Nat} {f : Nat → Int32} {x : Int32} (ht : K.2.2.1[t0]? = some (cA, .int)) (hd : decode M.2.1 pc = .ok (.iastore, 1)) (hn : pc + 1 = n) (ha : h a = some (.inl (cA, N, .inl f))) (hB : Bs ≤ a) (hj : j < N) (hN : N < 2 ^ 31) (kk : ∀ h1 : fv_H, h1 a = some (.inl (cA, N, .inl (upd f j x))) → fs h h1 (fun z => z = a) → fv_V K Bs X nL Q n L st sz h1 cells slots) : fv_V K Bs X nL Q pc L (.int x :: .int (nI j) :: .ref a :: st) sz h cells slots :=
  fv_iastN C ht hd hn ha hB hj hN (kk _ (va_up_self _ _ _) (fun z hz => va_up_ne _ _ hz))
theorem fv_asta (C : fv_C K WA X M mc ms) {a t0 ci v j : Nat} {cA : ClassId} {r : vw_C} {N : Nat} {vs : List Value} {f : Nat → Option Nat} (ht : K.2.2.1[t0]? = some (cA, .object r.1)) (hd : decode M.2.1 pc = .ok (.aastore, 1)) (hn : pc + 1 = n) (ha : h a = some (.inl (cA, N, .inr (.inr (.inr (.inr f)))))) (hv : h v = some (.inr (ci, vs))) (hc : K.2.1[ci]? = some r) (hB : Bs ≤ a) (hj : j < N) (hN : N < 2 ^ 31) (kk : ∀ h1 : fv_H, h1 a = some (.inl (cA, N, .inr (.inr (.inr (.inr (va_up f j (some v))))))) → fs h h1 (fun z => z = a) → fv_V K Bs X nL Q n L st sz h1 cells slots) : fv_V K Bs X nL Q pc L (.ref v :: .int (nI j) :: .ref a :: st) sz h cells slots :=
  fv_aastN1 C ht hd hn ha hv hc hB hj hN (kk _ (va_up_self _ _ _) (fun z hz => va_up_ne _ _ hz))
end CT0
def df_row (i : Nat) (g : Nat → Nat) : Nat → Option Nat := fun j => if j < i then some (g j) else none
theorem df_0 (g : Nat → Nat) : (fun _ => none : Nat → Option Nat) = df_row 0 g := by
  funext j
  unfold df_row
  rw [if_neg (by omega)]
theorem df_s (i : Nat) (g : Nat → Nat) (v : Nat) (hv : v = g i) : va_up (df_row i g) i (some v) = df_row (i + 1) g := by
  funext j
  unfold df_row
  by_cases c : j = i
  · subst c
    rw [va_up_self, if_pos (by omega), hv]
  · rw [va_up_ne _ _ c]
    by_cases c2 : j < i
    · rw [if_pos c2, if_pos (by omega)]
    · rw [if_neg c2, if_neg (by omega)]
theorem bl_empty {dA : Nat → ClassId} {h : fv_H} {a : Nat} (h0 : h a = some (.inr (1, [.ref (a + 1), .ref (a + 2), .ref (a + 3), .int (nI 0), .int (nI 0), .int (nI 0), .int (nI 0)]))) (h1 : h (a + 1) = some (.inl (dA 0, 24, .inl (fun _ => 0)))) (h2 : h (a + 2) = some (.inl (dA 0, 24, .inl (fun _ => 0)))) (h3 : h (a + 3) = some (.inl (dA 0, 24, .inl (fun _ => 0)))) : BL dA h a ([], false) 0 := by
  refine ⟨_, _, _, ⟨h0, h1, h2, h3⟩, ?_, ?_⟩
  · intro j o hj
    exact absurd hj (by simp [bo_arr, bo_srt])
  · refine ⟨List.nodup_nil, ?_, fun o ho => absurd ho List.not_mem_nil, by decide⟩
    intro o ho
    exact absurd ho List.not_mem_nil
def ev_no : Nat → Int32 := fun j => if j < 19 then -2000000 else 0
section CT1
variable {l : Launch} {D : va_G} {dA : Nat → ClassId} {Bs sz : Nat} {h : fv_H} {a : Nat}
theorem ct_A_fill {n : Nat} {f : Nat → Int32} {x : Int32} (hn : n < 2 ^ 31) (hBs : Bs ≤ a) (hA : h a = some (.inl (dA 0, n, .inl f))) : fv_T l (fk D dA) Bs WA m_A_fill [.ref a, .int x] sz h 0 0 (fp_v sz (fun h' => h' a = some (.inl (dA 0, n, .inl (fun j => if j < n then x else f j))) ∧ fs h h' (fun z => z = a))) := by
  refine fv_of (L := [_, _, _, _]) (by decide +kernel) rfl (Nat.le_of_ble_eq_true rfl) rfl ?_
  intro X hX C
  subst hX
  have loop : ∀ k j (h1 : fv_H), j + k = n → h1 a = some (.inl (dA 0, n, .inl (fun q => if q < j then x else f q))) → fs h h1 (fun z => z = a) → fv_V (fk D dA) Bs X 4 (fv_MQ (fk D dA) Bs X (fp_v sz (fun h' => h' a = some (.inl (dA 0, n, .inl (fun j => if j < n then x else f j))) ∧ fs h h' (fun z => z = a))) 0 0) 5 [some (.ref a), some (.int x), some (.int (nI j)), some (.int (nI n))] [] sz h1 0 0 := by
    intro k
    induction k with
    | zero =>
      intro j h1 hj hA hF
      have hjn : j = n := by omega
      subst hjn
      refine fv_iload_n C d_A_fill_5 (n := 6) rfl (i := 2) rfl rfl ?_
      refine fv_iload_n C d_A_fill_6 (n := 7) rfl (i := 3) rfl rfl ?_
      refine fv_icmpN_ge C (by omega) (by omega) d_A_fill_7 (tgt := 20) rfl (n := 10) rfl (fun hc7 => ?_) (fun hc7 => ?_)
      · refine fv_vret C rfl d_A_fill_20 (Nat.le_refl _) (Nat.le_refl _) ?_
        exact ⟨rfl, rfl, hA, hF⟩
      · exact absurd hc7 (by omega)
    | succ k ih =>
      intro j h1 hj hA hF
      refine fv_iload_n C d_A_fill_5 (n := 6) rfl (i := 2) rfl rfl ?_
      refine fv_iload_n C d_A_fill_6 (n := 7) rfl (i := 3) rfl rfl ?_
      refine fv_icmpN_ge C (by omega) (by omega) d_A_fill_7 (tgt := 20) rfl (n := 10) rfl (fun hc7 => ?_) (fun hc7 => ?_)
      · exact absurd hc7 (by omega)
      · refine fv_aload_n C d_A_fill_10 (n := 11) rfl (i := 0) rfl rfl ?_
        refine fv_iload_n C d_A_fill_11 (n := 12) rfl (i := 2) rfl rfl ?_
        refine fv_iload_n C d_A_fill_12 (n := 13) rfl (i := 1) rfl rfl ?_
        refine fv_asti C (t0 := 0) rfl d_A_fill_13 (n := 14) rfl hA hBs (by omega) hn (fun h2 e2 f2 => ?_)
        refine fv_iincN C d_A_fill_14 (n := 17) rfl rfl (by decide) (L' := [_, _, _, _]) rfl ?_
        refine fv_goto C d_A_fill_17 (tgt := 5) rfl ?_
        refine ih (j + 1) h2 (by omega) ?_ (hF.tr f2 (fun z hz => hz) (fun z hz => hz))
        rw [e2, show upd (fun q => if q < j then x else f q) j x = (fun q => if q < j + 1 then x else f q) from funext fun q => by
          unfold upd
          by_cases c : q = j
          · rw [if_pos c, if_pos (by omega)]
          · rw [if_neg c]
            show (if q < j then x else f q) = _
            by_cases c2 : q < j
            · rw [if_pos c2, if_pos (by omega)]
            · rw [if_neg c2, if_neg (by omega)]]
  refine fv_iconst C d_A_fill_0 (n := 1) rfl kI_0 ?_
  refine fv_istore_n C d_A_fill_1 (n := 2) rfl (i := 2) rfl (by decide) (L' := [_, _, _, _]) rfl ?_
  refine fv_aload_n C d_A_fill_2 (n := 3) rfl (i := 0) rfl rfl ?_
  refine fv_alen C (t0 := 0) rfl d_A_fill_3 (n := 4) rfl hA (show _ = nI n from rfl) ?_
  refine fv_istore_n C d_A_fill_4 (n := 5) rfl (i := 3) rfl (by decide) (L' := [_, _, _, _]) rfl ?_
  exact loop n 0 h (by omega) (by rw [hA]; simp) (fs_rf _ _)
theorem ct_D_emptyView (hBs : Bs ≤ sz) : fv_T l (fk D dA) Bs WA m_D_emptyView [] sz h 1 19 (fun v s' h' => v = some (.ref sz) ∧ s' = sz + 1 ∧ h' sz = some (.inl (dA 0, 19, .inl ev_no)) ∧ fs h h' (fun z => z = sz)) := by
  refine fv_of (L := [_]) (by decide +kernel) rfl (Nat.le_of_ble_eq_true rfl) rfl ?_
  intro X hX C
  subst hX
  refine fv_bipush C d_D_emptyView_0 (n := 2) rfl kB_19 ?_
  refine fv_nwi C (N := 19) (t0 := 0) rfl rfl (Or.inl rfl) na_i d_D_emptyView_2 (n := 4) rfl (by decide) (by omega) (by omega) (fun h1 e1 f1 => ?_)
  refine fv_astore_n C d_D_emptyView_4 (n := 5) rfl (i := 0) rfl (by decide) (L' := [_]) rfl ?_
  refine fv_aload_n C d_D_emptyView_5 (n := 6) rfl (i := 0) rfl rfl ?_
  refine fv_ldc C d_D_emptyView_6 (n := 8) rfl kc_D_157 ?_
  refine fv_callS_v C (ml_D_158 D dA) sm_A_fill (ct_A_fill (by decide) hBs e1) d_D_emptyView_8 (n := 11) rfl rfl rfl rfl (Nat.le_of_ble_eq_true rfl) (Nat.le_of_ble_eq_true rfl) (Nat.le_of_ble_eq_true rfl) (Nat.le_refl _) (Nat.le_refl _) (fun h2 hp => ?_)
  obtain ⟨e2, f2⟩ := hp
  refine fv_aload_n C d_D_emptyView_11 (n := 12) rfl (i := 0) rfl rfl ?_
  refine fv_aret C rfl (Or.inr ⟨_, rfl⟩) (Or.inr ⟨_, rfl⟩) d_D_emptyView_12 (by omega) (by omega) ?_
  exact ⟨rfl, rfl, e2, f1.tr f2 (fun z hz => hz) (fun z hz => hz)⟩
theorem ct_B_init  (hO : h a = some (.inr (1, [.null, .null, .null, .int 0, .int 0, .int 0, .int 0]))) (hBs : Bs ≤ a)  : fv_T l (fk D dA) Bs WA m_B_init [.ref a] (a + 1) h 3 72 (fun v s' h' => v = none ∧ s' = a + 4 ∧ BL dA h' a ([], false) 0 ∧ fs h h' (fun x => a ≤ x ∧ x < a + 4)) := by
  let U : Nat → Prop := fun x => a ≤ x ∧ x < a + 4
  have hF : fs h h U := fs_rf _ _
  refine fv_of (L := [_]) (by decide +kernel) rfl (Nat.le_of_ble_eq_true rfl) rfl ?_
  intro X hX C
  subst hX
  refine fv_aload_n C d_B_init_0 (n := 1) rfl (i := 0) rfl rfl ?_
  refine fv_objInit C nl_B_3 n_oi n_oc d_B_init_1 (n := 4) rfl rfl (Nat.le_of_ble_eq_true rfl) (Nat.le_of_ble_eq_true rfl) ?_
  refine fv_aload_n C d_B_init_4 (n := 5) rfl (i := 0) rfl rfl ?_
  refine fv_bipush C d_B_init_5 (n := 7) rfl kB_24 ?_
  refine fv_nwi C (t0 := 0) rfl rfl (Or.inl rfl) na_i d_B_init_7 (n := 9) rfl (by decide) (by omega) (by omega) (fun h1 e1 f1 => ?_)
  have hA1 : h1 (a + 1) = some (.inl (dA 0, 24, .inl (fun _ => 0))) := e1
  have hO := (f1 _ (by omega)).trans hO
  have hF := hF.tr f1 (U := U) (fun x hx => hx) (fun x hx => by unfold U; omega)
  refine fv_pt C (fl_B_9 D dA) (Or.inr ⟨rfl, rfl, _, rfl, nf_no _ _ (by decide +kernel)⟩) d_B_init_9 (n := 12) rfl hO (by omega) rfl rfl (Nat.le_of_ble_eq_true rfl) (fun h1 e1 f1 => ?_)
  have hO : h1 (a) = some (.inr (1, [.ref (a + 1), .null, .null, .int 0, .int 0, .int 0, .int 0])) := e1
  have hA1 := (f1 _ (by omega)).trans hA1
  have hF := hF.tr f1 (U := U) (fun x hx => hx) (fun x hx => by unfold U; omega)
  refine fv_aload_n C d_B_init_12 (n := 13) rfl (i := 0) rfl rfl ?_
  refine fv_bipush C d_B_init_13 (n := 15) rfl kB_24 ?_
  refine fv_nwi C (t0 := 0) rfl rfl (Or.inl rfl) na_i d_B_init_15 (n := 17) rfl (by decide) (by omega) (by omega) (fun h1 e1 f1 => ?_)
  have hA2 : h1 (a + 2) = some (.inl (dA 0, 24, .inl (fun _ => 0))) := e1
  have hO := (f1 _ (by omega)).trans hO
  have hA1 := (f1 _ (by omega)).trans hA1
  have hF := hF.tr f1 (U := U) (fun x hx => hx) (fun x hx => by unfold U; omega)
  refine fv_pt C (fl_B_15 D dA) (Or.inr ⟨rfl, rfl, _, rfl, nf_no _ _ (by decide +kernel)⟩) d_B_init_17 (n := 20) rfl hO (by omega) rfl rfl (Nat.le_of_ble_eq_true rfl) (fun h1 e1 f1 => ?_)
  have hO : h1 (a) = some (.inr (1, [.ref (a + 1), .ref (a + 2), .null, .int 0, .int 0, .int 0, .int 0])) := e1
  have hA1 := (f1 _ (by omega)).trans hA1
  have hA2 := (f1 _ (by omega)).trans hA2
  have hF := hF.tr f1 (U := U) (fun x hx => hx) (fun x hx => by unfold U; omega)
  refine fv_aload_n C d_B_init_20 (n := 21) rfl (i := 0) rfl rfl ?_
  refine fv_bipush C d_B_init_21 (n := 23) rfl kB_24 ?_
  refine fv_nwi C (t0 := 0) rfl rfl (Or.inl rfl) na_i d_B_init_23 (n := 25) rfl (by decide) (by omega) (by omega) (fun h1 e1 f1 => ?_)
  have hA3 : h1 (a + 3) = some (.inl (dA 0, 24, .inl (fun _ => 0))) := e1
  have hO := (f1 _ (by omega)).trans hO
  have hA1 := (f1 _ (by omega)).trans hA1
  have hA2 := (f1 _ (by omega)).trans hA2
  have hF := hF.tr f1 (U := U) (fun x hx => hx) (fun x hx => by unfold U; omega)
  refine fv_pt C (fl_B_18 D dA) (Or.inr ⟨rfl, rfl, _, rfl, nf_no _ _ (by decide +kernel)⟩) d_B_init_25 (n := 28) rfl hO (by omega) rfl rfl (Nat.le_of_ble_eq_true rfl) (fun h1 e1 f1 => ?_)
  have hO : h1 (a) = some (.inr (1, [.ref (a + 1), .ref (a + 2), .ref (a + 3), .int 0, .int 0, .int 0, .int 0])) := e1
  have hA1 := (f1 _ (by omega)).trans hA1
  have hA2 := (f1 _ (by omega)).trans hA2
  have hA3 := (f1 _ (by omega)).trans hA3
  have hF := hF.tr f1 (U := U) (fun x hx => hx) (fun x hx => by unfold U; omega)
  refine fv_aload_n C d_B_init_28 (n := 29) rfl (i := 0) rfl rfl ?_
  refine fv_iconst C d_B_init_29 (n := 30) rfl kI_0 ?_
  refine fv_pt C (fl_B_21 D dA) (Or.inl rfl) d_B_init_30 (n := 33) rfl hO (by omega) rfl rfl (Nat.le_of_ble_eq_true rfl) (fun h1 e1 f1 => ?_)
  have hO : h1 (a) = some (.inr (1, [.ref (a + 1), .ref (a + 2), .ref (a + 3), .int (nI 0), .int 0, .int 0, .int 0])) := e1
  have hA1 := (f1 _ (by omega)).trans hA1
  have hA2 := (f1 _ (by omega)).trans hA2
  have hA3 := (f1 _ (by omega)).trans hA3
  have hF := hF.tr f1 (U := U) (fun x hx => hx) (fun x hx => by unfold U; omega)
  refine fv_aload_n C d_B_init_33 (n := 34) rfl (i := 0) rfl rfl ?_
  refine fv_iconst C d_B_init_34 (n := 35) rfl kI_0 ?_
  refine fv_pt C (fl_B_25 D dA) (Or.inl rfl) d_B_init_35 (n := 38) rfl hO (by omega) rfl rfl (Nat.le_of_ble_eq_true rfl) (fun h1 e1 f1 => ?_)
  have hO : h1 (a) = some (.inr (1, [.ref (a + 1), .ref (a + 2), .ref (a + 3), .int (nI 0), .int (nI 0), .int 0, .int 0])) := e1
  have hA1 := (f1 _ (by omega)).trans hA1
  have hA2 := (f1 _ (by omega)).trans hA2
  have hA3 := (f1 _ (by omega)).trans hA3
  have hF := hF.tr f1 (U := U) (fun x hx => hx) (fun x hx => by unfold U; omega)
  refine fv_aload_n C d_B_init_38 (n := 39) rfl (i := 0) rfl rfl ?_
  refine fv_iconst C d_B_init_39 (n := 40) rfl kI_0 ?_
  refine fv_pt C (fl_B_28 D dA) (Or.inl rfl) d_B_init_40 (n := 43) rfl hO (by omega) rfl rfl (Nat.le_of_ble_eq_true rfl) (fun h1 e1 f1 => ?_)
  have hO : h1 (a) = some (.inr (1, [.ref (a + 1), .ref (a + 2), .ref (a + 3), .int (nI 0), .int (nI 0), .int (nI 0), .int 0])) := e1
  have hA1 := (f1 _ (by omega)).trans hA1
  have hA2 := (f1 _ (by omega)).trans hA2
  have hA3 := (f1 _ (by omega)).trans hA3
  have hF := hF.tr f1 (U := U) (fun x hx => hx) (fun x hx => by unfold U; omega)
  refine fv_aload_n C d_B_init_43 (n := 44) rfl (i := 0) rfl rfl ?_
  refine fv_iconst C d_B_init_44 (n := 45) rfl kI_0 ?_
  refine fv_pt C (fl_B_32 D dA) (Or.inl rfl) d_B_init_45 (n := 48) rfl hO (by omega) rfl rfl (Nat.le_of_ble_eq_true rfl) (fun h1 e1 f1 => ?_)
  have hO : h1 (a) = some (.inr (1, [.ref (a + 1), .ref (a + 2), .ref (a + 3), .int (nI 0), .int (nI 0), .int (nI 0), .int (nI 0)])) := e1
  have hA1 := (f1 _ (by omega)).trans hA1
  have hA2 := (f1 _ (by omega)).trans hA2
  have hA3 := (f1 _ (by omega)).trans hA3
  have hF := hF.tr f1 (U := U) (fun x hx => hx) (fun x hx => by unfold U; omega)
  refine fv_vret C rfl d_B_init_48 (by omega) (by omega) ?_
  exact ⟨rfl, rfl, bl_empty hO hA1 hA2 hA3, hF⟩
theorem ct_S_init  (hO : h a = some (.inr (6, [.null, .int 0, .int 0]))) (hBs : Bs ≤ a)  : fv_T l (fk D dA) Bs WA m_S_init [.ref a] (a + 1) h 4 79 (fun v s' h' => v = none ∧ s' = a + 5 ∧ SNr dA h' a 0 0 ∧ BL dA h' (a + 1) ([], false) 0 ∧ fs h h' (fun x => a ≤ x ∧ x < a + 5)) := by
  let U : Nat → Prop := fun x => a ≤ x ∧ x < a + 5
  have hF : fs h h U := fs_rf _ _
  refine fv_of (L := [_]) (by decide +kernel) rfl (Nat.le_of_ble_eq_true rfl) rfl ?_
  intro X hX C
  subst hX
  refine fv_aload_n C d_S_init_0 (n := 1) rfl (i := 0) rfl rfl ?_
  refine fv_objInit C nl_S_3 n_oi n_oc d_S_init_1 (n := 4) rfl rfl (Nat.le_of_ble_eq_true rfl) (Nat.le_of_ble_eq_true rfl) ?_
  refine fv_aload_n C d_S_init_4 (n := 5) rfl (i := 0) rfl rfl ?_
  refine fv_nwo C (vs := [.null, .null, .null, .int 0, .int 0, .int 0, .int 0]) ty_B uw_B tk_B (ci := 1) rfl kl_S_9 in_B ii_B (fun j hj => by rcases (show j = 0 ∨ j = 1 ∨ j = 2 ∨ j = 3 ∨ j = 4 ∨ j = 5 ∨ j = 6 by omega) with rfl | rfl | rfl | rfl | rfl | rfl | rfl <;> rfl) d_S_init_5 (n := 8) rfl (by omega) (by omega) (fun h1 e1 f1 => ?_)
  have hN : h1 (a + 1) = some (.inr (1, [.null, .null, .null, .int 0, .int 0, .int 0, .int 0])) := e1
  have hO := (f1 _ (by omega)).trans hO
  have hF := hF.tr f1 (U := U) (fun x hx => hx) (fun x hx => by unfold U; omega)
  refine fv_dup C d_S_init_8 (n := 9) rfl rfl ?_
  refine fv_callI C (ml_S_11 D dA) im_B_init rfl rfl (ct_B_init hN (by omega)) d_S_init_9 (n := 12) rfl rfl rfl rfl (Nat.le_of_ble_eq_true rfl) (Nat.le_of_ble_eq_true rfl) (Nat.le_of_ble_eq_true rfl) (by omega) (by omega) (fun vv s1 h1 hp => ?_)
  obtain ⟨rfl, rfl, hBL, f1⟩ := hp
  have hO := (f1 _ (by omega)).trans hO
  have hF := hF.tr f1 (U := U) (fun x hx => hx) (fun x hx => by unfold U; omega)
  refine fv_pt C (fl_S_12 D dA) (Or.inr ⟨rfl, rfl, _, rfl, nf_no _ _ (by decide +kernel)⟩) d_S_init_12 (n := 15) rfl hO (by omega) rfl rfl (Nat.le_of_ble_eq_true rfl) (fun h1 e1 f1 => ?_)
  have hO : h1 (a) = some (.inr (6, [.ref (a + 1), .int 0, .int 0])) := e1
  have hBL := hBL.fs f1 ⟨by omega, by omega, by omega, by omega⟩
  have hF := hF.tr f1 (U := U) (fun x hx => hx) (fun x hx => by unfold U; omega)
  refine fv_aload_n C d_S_init_15 (n := 16) rfl (i := 0) rfl rfl ?_
  refine fv_iconst C d_S_init_16 (n := 17) rfl kI_0 ?_
  refine fv_pt C (fl_S_18 D dA) (Or.inl rfl) d_S_init_17 (n := 20) rfl hO (by omega) rfl rfl (Nat.le_of_ble_eq_true rfl) (fun h1 e1 f1 => ?_)
  have hO : h1 (a) = some (.inr (6, [.ref (a + 1), .int (nI 0), .int 0])) := e1
  have hBL := hBL.fs f1 ⟨by omega, by omega, by omega, by omega⟩
  have hF := hF.tr f1 (U := U) (fun x hx => hx) (fun x hx => by unfold U; omega)
  refine fv_aload_n C d_S_init_20 (n := 21) rfl (i := 0) rfl rfl ?_
  refine fv_iconst C d_S_init_21 (n := 22) rfl kI_0 ?_
  refine fv_pt C (fl_S_22 D dA) (Or.inl rfl) d_S_init_22 (n := 25) rfl hO (by omega) rfl rfl (Nat.le_of_ble_eq_true rfl) (fun h1 e1 f1 => ?_)
  have hO : h1 (a) = some (.inr (6, [.ref (a + 1), .int (nI 0), .int (nI 0)])) := e1
  have hBL := hBL.fs f1 ⟨by omega, by omega, by omega, by omega⟩
  have hF := hF.tr f1 (U := U) (fun x hx => hx) (fun x hx => by unfold U; omega)
  refine fv_vret C rfl d_S_init_25 (by omega) (by omega) ?_
  exact ⟨rfl, rfl, hO, hBL, hF⟩
theorem ct_W_init  (hO : h a = some (.inr (4, [.null, .int 0, .null]))) (hBs : Bs ≤ a)  : fv_T l (fk D dA) Bs WA m_W_init [.ref a] (a + 1) h 2 23 (fun v s' h' => v = none ∧ s' = a + 3 ∧ RD dA h' a [] ev_no ∧ fs h h' (fun x => a ≤ x ∧ x < a + 3)) := by
  let U : Nat → Prop := fun x => a ≤ x ∧ x < a + 3
  have hF : fs h h U := fs_rf _ _
  refine fv_of (L := [_]) (by decide +kernel) rfl (Nat.le_of_ble_eq_true rfl) rfl ?_
  intro X hX C
  subst hX
  refine fv_aload_n C d_W_init_0 (n := 1) rfl (i := 0) rfl rfl ?_
  refine fv_objInit C nl_W_3 n_oi n_oc d_W_init_1 (n := 4) rfl rfl (Nat.le_of_ble_eq_true rfl) (Nat.le_of_ble_eq_true rfl) ?_
  refine fv_aload_n C d_W_init_4 (n := 5) rfl (i := 0) rfl rfl ?_
  refine fv_iconst C d_W_init_5 (n := 6) rfl kI_4 ?_
  refine fv_nwi C (t0 := 0) rfl rfl (Or.inl rfl) na_i d_W_init_6 (n := 8) rfl (by decide) (by omega) (by omega) (fun h1 e1 f1 => ?_)
  have hA1 : h1 (a + 1) = some (.inl (dA 0, 4, .inl (fun _ => 0))) := e1
  have hO := (f1 _ (by omega)).trans hO
  have hF := hF.tr f1 (U := U) (fun x hx => hx) (fun x hx => by unfold U; omega)
  refine fv_pt C (fl_W_9 D dA) (Or.inr ⟨rfl, rfl, _, rfl, nf_no _ _ (by decide +kernel)⟩) d_W_init_8 (n := 11) rfl hO (by omega) rfl rfl (Nat.le_of_ble_eq_true rfl) (fun h1 e1 f1 => ?_)
  have hO : h1 (a) = some (.inr (4, [.ref (a + 1), .int 0, .null])) := e1
  have hA1 := (f1 _ (by omega)).trans hA1
  have hF := hF.tr f1 (U := U) (fun x hx => hx) (fun x hx => by unfold U; omega)
  refine fv_aload_n C d_W_init_11 (n := 12) rfl (i := 0) rfl rfl ?_
  refine fv_iconst C d_W_init_12 (n := 13) rfl kI_0 ?_
  refine fv_pt C (fl_W_15 D dA) (Or.inl rfl) d_W_init_13 (n := 16) rfl hO (by omega) rfl rfl (Nat.le_of_ble_eq_true rfl) (fun h1 e1 f1 => ?_)
  have hO : h1 (a) = some (.inr (4, [.ref (a + 1), .int (nI 0), .null])) := e1
  have hA1 := (f1 _ (by omega)).trans hA1
  have hF := hF.tr f1 (U := U) (fun x hx => hx) (fun x hx => by unfold U; omega)
  refine fv_aload_n C d_W_init_16 (n := 17) rfl (i := 0) rfl rfl ?_
  refine fv_callS C (ml_W_19 D dA) sm_D_emptyView (ct_D_emptyView (by omega)) d_W_init_17 (n := 20) rfl rfl rfl rfl (Nat.le_of_ble_eq_true rfl) (Nat.le_of_ble_eq_true rfl) (Nat.le_of_ble_eq_true rfl) (by omega) (by omega) (fun vv s1 h1 hp => ?_)
  obtain ⟨rfl, rfl, e1, f1⟩ := hp
  have hA2 : h1 (a + 2) = some (.inl (dA 0, 19, .inl ev_no)) := e1
  have hO := (f1 _ (by omega)).trans hO
  have hA1 := (f1 _ (by omega)).trans hA1
  have hF := hF.tr f1 (U := U) (fun x hx => hx) (fun x hx => by unfold U; omega)
  refine fv_pt C (fl_W_23 D dA) (Or.inr ⟨rfl, rfl, _, rfl, nf_no _ _ (by decide +kernel)⟩) d_W_init_20 (n := 23) rfl hO (by omega) rfl rfl (Nat.le_of_ble_eq_true rfl) (fun h1 e1 f1 => ?_)
  have hO : h1 (a) = some (.inr (4, [.ref (a + 1), .int (nI 0), .ref (a + 2)])) := e1
  have hA1 := (f1 _ (by omega)).trans hA1
  have hA2 := (f1 _ (by omega)).trans hA2
  have hF := hF.tr f1 (U := U) (fun x hx => hx) (fun x hx => by unfold U; omega)
  refine fv_vret C rfl d_W_init_23 (by omega) (by omega) ?_
  exact ⟨rfl, rfl, ⟨_, ⟨hO, hA1, hA2⟩, fun j i hj => absurd hj (by simp)⟩, hF⟩
theorem ev_vw (c : Nat) (hc : c < 19) : upd ev_no 18 (nI 0) c = fe_vw ([], false) c := by
  unfold upd ev_no fe_vw
  by_cases c1 : c = 18
  · rw [if_pos c1, if_neg (by omega)]
    rfl
  · rw [if_neg c1, if_pos hc, if_pos (by omega)]
    rfl
theorem ct_T_init {i ar : Nat} (hO : h a = some (.inr (7, [.int 0, .null, .null, .null, .null, .int 0, .int 0]))) (hBs : Bs ≤ a)  : fv_T l (fk D dA) Bs WA m_T_init [.ref a, .int (nI i), .ref ar] (a + 1) h 6 128 (fun v s' h' => v = none ∧ s' = a + 7 ∧ (∃ sv, TKr dA h' a i ar (fun _ => none) 0 0 sv ∧ ∀ c, c < 19 → sv c = fe_vw ([], false) c) ∧ BL dA h' (a + 1) ([], false) 0 ∧ fs h h' (fun x => a ≤ x ∧ x < a + 7)) := by
  let U : Nat → Prop := fun x => a ≤ x ∧ x < a + 7
  have hF : fs h h U := fs_rf _ _
  refine fv_of (L := [_, _, _]) (by decide +kernel) rfl (Nat.le_of_ble_eq_true rfl) rfl ?_
  intro X hX C
  subst hX
  refine fv_aload_n C d_T_init_0 (n := 1) rfl (i := 0) rfl rfl ?_
  refine fv_objInit C nl_T_3 n_oi n_oc d_T_init_1 (n := 4) rfl rfl (Nat.le_of_ble_eq_true rfl) (Nat.le_of_ble_eq_true rfl) ?_
  refine fv_aload_n C d_T_init_4 (n := 5) rfl (i := 0) rfl rfl ?_
  refine fv_nwo C (vs := [.null, .null, .null, .int 0, .int 0, .int 0, .int 0]) ty_B uw_B tk_B (ci := 1) rfl kl_T_9 in_B ii_B (fun j hj => by rcases (show j = 0 ∨ j = 1 ∨ j = 2 ∨ j = 3 ∨ j = 4 ∨ j = 5 ∨ j = 6 by omega) with rfl | rfl | rfl | rfl | rfl | rfl | rfl <;> rfl) d_T_init_5 (n := 8) rfl (by omega) (by omega) (fun h1 e1 f1 => ?_)
  have hN : h1 (a + 1) = some (.inr (1, [.null, .null, .null, .int 0, .int 0, .int 0, .int 0])) := e1
  have hO := (f1 _ (by omega)).trans hO
  have hF := hF.tr f1 (U := U) (fun x hx => hx) (fun x hx => by unfold U; omega)
  refine fv_dup C d_T_init_8 (n := 9) rfl rfl ?_
  refine fv_callI C (ml_T_11 D dA) im_B_init rfl rfl (ct_B_init hN (by omega)) d_T_init_9 (n := 12) rfl rfl rfl rfl (Nat.le_of_ble_eq_true rfl) (Nat.le_of_ble_eq_true rfl) (Nat.le_of_ble_eq_true rfl) (by omega) (by omega) (fun vv s1 h1 hp => ?_)
  obtain ⟨rfl, rfl, hBL, f1⟩ := hp
  have hO := (f1 _ (by omega)).trans hO
  have hF := hF.tr f1 (U := U) (fun x hx => hx) (fun x hx => by unfold U; omega)
  refine fv_pt C (fl_T_12 D dA) (Or.inr ⟨rfl, rfl, _, rfl, nf_no _ _ (by decide +kernel)⟩) d_T_init_12 (n := 15) rfl hO (by omega) rfl rfl (Nat.le_of_ble_eq_true rfl) (fun h1 e1 f1 => ?_)
  have hO : h1 (a) = some (.inr (7, [.int 0, .null, .ref (a + 1), .null, .null, .int 0, .int 0])) := e1
  have hBL := hBL.fs f1 ⟨by omega, by omega, by omega, by omega⟩
  have hF := hF.tr f1 (U := U) (fun x hx => hx) (fun x hx => by unfold U; omega)
  refine fv_aload_n C d_T_init_15 (n := 16) rfl (i := 0) rfl rfl ?_
  refine fv_callS C (ml_T_18 D dA) sm_D_emptyView (ct_D_emptyView (by omega)) d_T_init_16 (n := 19) rfl rfl rfl rfl (Nat.le_of_ble_eq_true rfl) (Nat.le_of_ble_eq_true rfl) (Nat.le_of_ble_eq_true rfl) (by omega) (by omega) (fun vv s1 h1 hp => ?_)
  obtain ⟨rfl, rfl, e1, f1⟩ := hp
  have hA5 : h1 (a + 5) = some (.inl (dA 0, 19, .inl ev_no)) := e1
  have hO := (f1 _ (by omega)).trans hO
  have hBL := hBL.fs f1 ⟨by omega, by omega, by omega, by omega⟩
  have hF := hF.tr f1 (U := U) (fun x hx => hx) (fun x hx => by unfold U; omega)
  refine fv_pt C (fl_T_22 D dA) (Or.inr ⟨rfl, rfl, _, rfl, nf_no _ _ (by decide +kernel)⟩) d_T_init_19 (n := 22) rfl hO (by omega) rfl rfl (Nat.le_of_ble_eq_true rfl) (fun h1 e1 f1 => ?_)
  have hO : h1 (a) = some (.inr (7, [.int 0, .null, .ref (a + 1), .ref (a + 5), .null, .int 0, .int 0])) := e1
  have hBL := hBL.fs f1 ⟨by omega, by omega, by omega, by omega⟩
  have hA5 := (f1 _ (by omega)).trans hA5
  have hF := hF.tr f1 (U := U) (fun x hx => hx) (fun x hx => by unfold U; omega)
  refine fv_aload_n C d_T_init_22 (n := 23) rfl (i := 0) rfl rfl ?_
  refine fv_bipush C d_T_init_23 (n := 25) rfl kB_30 ?_
  refine fv_nwa C (t0 := 3) rfl (show _ ∈ fk_AO by decide +kernel) kl_T_26 d_T_init_25 (n := 28) rfl (by decide) (by omega) (by omega) (fun h1 e1 f1 => ?_)
  have hA6 : h1 (a + 6) = some (.inl (dA 3, 30, .inr (.inr (.inr (.inr (fun _ => none)))))) := e1
  have hO := (f1 _ (by omega)).trans hO
  have hBL := hBL.fs f1 ⟨by omega, by omega, by omega, by omega⟩
  have hA5 := (f1 _ (by omega)).trans hA5
  have hF := hF.tr f1 (U := U) (fun x hx => hx) (fun x hx => by unfold U; omega)
  refine fv_pt C (fl_T_28 D dA) (Or.inr ⟨rfl, rfl, _, rfl, nf_no _ _ (by decide +kernel)⟩) d_T_init_28 (n := 31) rfl hO (by omega) rfl rfl (Nat.le_of_ble_eq_true rfl) (fun h1 e1 f1 => ?_)
  have hO : h1 (a) = some (.inr (7, [.int 0, .null, .ref (a + 1), .ref (a + 5), .ref (a + 6), .int 0, .int 0])) := e1
  have hBL := hBL.fs f1 ⟨by omega, by omega, by omega, by omega⟩
  have hA5 := (f1 _ (by omega)).trans hA5
  have hA6 := (f1 _ (by omega)).trans hA6
  have hF := hF.tr f1 (U := U) (fun x hx => hx) (fun x hx => by unfold U; omega)
  refine fv_aload_n C d_T_init_31 (n := 32) rfl (i := 0) rfl rfl ?_
  refine fv_iconst C d_T_init_32 (n := 33) rfl kI_0 ?_
  refine fv_pt C (fl_T_32 D dA) (Or.inl rfl) d_T_init_33 (n := 36) rfl hO (by omega) rfl rfl (Nat.le_of_ble_eq_true rfl) (fun h1 e1 f1 => ?_)
  have hO : h1 (a) = some (.inr (7, [.int 0, .null, .ref (a + 1), .ref (a + 5), .ref (a + 6), .int (nI 0), .int 0])) := e1
  have hBL := hBL.fs f1 ⟨by omega, by omega, by omega, by omega⟩
  have hA5 := (f1 _ (by omega)).trans hA5
  have hA6 := (f1 _ (by omega)).trans hA6
  have hF := hF.tr f1 (U := U) (fun x hx => hx) (fun x hx => by unfold U; omega)
  refine fv_aload_n C d_T_init_36 (n := 37) rfl (i := 0) rfl rfl ?_
  refine fv_iconst C d_T_init_37 (n := 38) rfl kI_0 ?_
  refine fv_pt C (fl_T_36 D dA) (Or.inl rfl) d_T_init_38 (n := 41) rfl hO (by omega) rfl rfl (Nat.le_of_ble_eq_true rfl) (fun h1 e1 f1 => ?_)
  have hO : h1 (a) = some (.inr (7, [.int 0, .null, .ref (a + 1), .ref (a + 5), .ref (a + 6), .int (nI 0), .int (nI 0)])) := e1
  have hBL := hBL.fs f1 ⟨by omega, by omega, by omega, by omega⟩
  have hA5 := (f1 _ (by omega)).trans hA5
  have hA6 := (f1 _ (by omega)).trans hA6
  have hF := hF.tr f1 (U := U) (fun x hx => hx) (fun x hx => by unfold U; omega)
  refine fv_aload_n C d_T_init_41 (n := 42) rfl (i := 0) rfl rfl ?_
  refine fv_iload_n C d_T_init_42 (n := 43) rfl (i := 1) rfl rfl ?_
  refine fv_pt C (fl_T_39 D dA) (Or.inr ⟨rfl, rfl, _, rfl, nf_no _ _ (by decide +kernel)⟩) d_T_init_43 (n := 46) rfl hO (by omega) rfl rfl (Nat.le_of_ble_eq_true rfl) (fun h1 e1 f1 => ?_)
  have hO : h1 (a) = some (.inr (7, [.int (nI i), .null, .ref (a + 1), .ref (a + 5), .ref (a + 6), .int (nI 0), .int (nI 0)])) := e1
  have hBL := hBL.fs f1 ⟨by omega, by omega, by omega, by omega⟩
  have hA5 := (f1 _ (by omega)).trans hA5
  have hA6 := (f1 _ (by omega)).trans hA6
  have hF := hF.tr f1 (U := U) (fun x hx => hx) (fun x hx => by unfold U; omega)
  refine fv_aload_n C d_T_init_46 (n := 47) rfl (i := 0) rfl rfl ?_
  refine fv_aload_n C d_T_init_47 (n := 48) rfl (i := 2) rfl rfl ?_
  refine fv_pt C (fl_T_42 D dA) (Or.inr ⟨rfl, rfl, _, rfl, nf_no _ _ (by decide +kernel)⟩) d_T_init_48 (n := 51) rfl hO (by omega) rfl rfl (Nat.le_of_ble_eq_true rfl) (fun h1 e1 f1 => ?_)
  have hO : h1 (a) = some (.inr (7, [.int (nI i), .ref (ar), .ref (a + 1), .ref (a + 5), .ref (a + 6), .int (nI 0), .int (nI 0)])) := e1
  have hBL := hBL.fs f1 ⟨by omega, by omega, by omega, by omega⟩
  have hA5 := (f1 _ (by omega)).trans hA5
  have hA6 := (f1 _ (by omega)).trans hA6
  have hF := hF.tr f1 (U := U) (fun x hx => hx) (fun x hx => by unfold U; omega)
  refine fv_aload_n C d_T_init_51 (n := 52) rfl (i := 0) rfl rfl ?_
  refine fv_get C (fl_T_22 D dA) d_T_init_52 (n := 55) rfl hO rfl ?_
  refine fv_bipush C d_T_init_55 (n := 57) rfl kB_18 ?_
  refine fv_iconst C d_T_init_57 (n := 58) rfl kI_0 ?_
  refine fv_asti C (t0 := 0) rfl d_T_init_58 (n := 59) rfl hA5 (by omega) (by decide) (by decide) (fun h1 e1 f1 => ?_)
  have hA5 := e1
  have hO := (f1 _ (by omega)).trans hO
  have hA6 := (f1 _ (by omega)).trans hA6
  have hBL := hBL.fs f1 ⟨by omega, by omega, by omega, by omega⟩
  have hF := hF.tr f1 (U := U) (fun x hx => hx) (fun x hx => by unfold U; omega)
  refine fv_vret C rfl d_T_init_59 (by omega) (by omega) ?_
  exact ⟨rfl, rfl, ⟨_, ⟨hO, hA5, hA6⟩, ev_vw⟩, hBL, hF⟩
end CT1
