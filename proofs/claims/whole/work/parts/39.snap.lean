/-! Snapshot, and Track.restore -/
def SNr (dA : Nat → ClassId) (h : fv_H) (a : Nat) (si : Nat) (cov : Nat) : Prop := h (a) = some (.inr (6, [.ref (a + 1), .int (nI si), .int (nI cov)]))
section SNrS
variable {D : va_G} {dA : Nat → ClassId} {Bs : Nat} {X : fv_X} {M : fv_M} {mc ms nL : Nat} {Q : State → Prop} {pc n : Nat} {L L' : List (Option Value)} {st : List Value} {sz : Nat} {h : fv_H} {cells slots : Nat} {a : Nat} {si : Nat} {cov : Nat}
theorem SNr.fs {h' : fv_H} {S : Nat → Prop} (hO : SNr dA h a si cov) (hf : fs h h' S) (hd : ¬ S (a)) : SNr dA h' a si cov := by
  exact (hf _ hd).trans hO
theorem sn_pi (C : fv_C (fk D dA) WA X M mc ms) {idx : Nat} {v : Nat} (F : fv_FL (fk D dA) WA M.1.cls idx 6 1 .int false) (hd : decode M.2.1 pc = .ok (.putfield idx, 3)) (hn : pc + 3 = n) (hO : SNr dA h a si cov) (hBs : Bs ≤ a) (kk : ∀ h' : fv_H, SNr dA h' a v cov → fs h h' (fun z => z = a) → fv_V (fk D dA) Bs X nL Q n L st sz h' cells slots) : fv_V (fk D dA) Bs X nL Q pc L (.int (nI v) :: .ref (a) :: st) sz h cells slots := by
  refine fv_put C F (Or.inl rfl) hd hn hO (by omega) rfl rfl (Nat.le_of_ble_eq_true rfl) ?_
  refine kk _ ?_ (fun z hz => va_up_ne _ _ hz)
  exact va_up_self _ _ _
theorem sn_pc (C : fv_C (fk D dA) WA X M mc ms) {idx : Nat} {v : Nat} (F : fv_FL (fk D dA) WA M.1.cls idx 6 2 .int false) (hd : decode M.2.1 pc = .ok (.putfield idx, 3)) (hn : pc + 3 = n) (hO : SNr dA h a si cov) (hBs : Bs ≤ a) (kk : ∀ h' : fv_H, SNr dA h' a si v → fs h h' (fun z => z = a) → fv_V (fk D dA) Bs X nL Q n L st sz h' cells slots) : fv_V (fk D dA) Bs X nL Q pc L (.int (nI v) :: .ref (a) :: st) sz h cells slots := by
  refine fv_put C F (Or.inl rfl) hd hn hO (by omega) rfl rfl (Nat.le_of_ble_eq_true rfl) ?_
  refine kk _ ?_ (fun z hz => va_up_ne _ _ hz)
  exact va_up_self _ _ _
end SNrS
/-- how many pieces a book of n orders has -/
def sn_pcs (n : Nat) : Nat := if n = 0 then 1 else (n + 2) / 3
/-- is x the number of a piece -/
def sn_has (x : Int32) (n : Nat) : Bool := decide (nI 1 ≤ x ∧ x ≤ nI (sn_pcs n))
section SNW
variable {l : Launch} {D : va_G} {dA : Nat → ClassId} {Bs sz : Nat} {h : fv_H} {a : Nat}
theorem ct_S_fix {si cov i2 cov2 a2 n2 n1 : Nat} {b2 b1 : bo_B} (hBs : Bs ≤ a) (hd : a2 + 4 ≤ a ∨ a + 5 ≤ a2) (hO : SNr dA h a si cov) (hL : BL dA h (a + 1) b1 n1) (hL2 : BL dA h a2 b2 n2) : fv_T l (fk D dA) Bs WA m_S_fix [.ref a, .int (nI i2), .ref a2, .int (nI cov2)] sz h 0 0 (fp_v sz (fun h' => SNr dA h' a i2 cov2 ∧ BL dA h' (a + 1) b2 n2 ∧ fs h h' (fun x => a ≤ x ∧ x < a + 5))) := by
  refine fv_of (L := [_, _, _, _]) (by decide +kernel) rfl (Nat.le_of_ble_eq_true rfl) rfl ?_
  intro X hX C
  subst hX
  refine fv_aload_n C d_S_fix_0 (n := 1) rfl (i := 0) rfl rfl ?_
  refine fv_iload_n C d_S_fix_1 (n := 2) rfl (i := 1) rfl rfl ?_
  refine sn_pi C (fl_S_18 D dA) d_S_fix_2 (n := 5) rfl hO hBs (fun h1 hO hF1 => ?_)
  have hL := hL.fs hF1 ⟨by omega, by omega, by omega, by omega⟩
  have hL2 := hL2.fs hF1 ⟨by omega, by omega, by omega, by omega⟩
  have hL0 := hL
  obtain ⟨ids, pri, siz, hB, hA, hw⟩ := hL0
  refine fv_aload_n C d_S_fix_5 (n := 6) rfl (i := 0) rfl rfl ?_
  refine fv_get C (fl_S_12 D dA) d_S_fix_6 (n := 9) rfl hO rfl ?_
  refine fv_aload_n C d_S_fix_9 (n := 10) rfl (i := 2) rfl rfl ?_
  refine fv_callV_v C (ml_S_25 D dA) im_B_become se_B_become hB.1 rfl (ct_B_become (by omega) (by omega) hL hL2) d_S_fix_10 (n := 13) rfl rfl rfl rfl (Nat.le_of_ble_eq_true rfl) (Nat.le_of_ble_eq_true rfl) (Nat.le_of_ble_eq_true rfl) (Nat.le_refl _) (Nat.le_refl _) (fun h2 hp2 => ?_)
  obtain ⟨hL3, hF2⟩ := hp2
  have hO : SNr dA h2 a i2 cov := hO.fs hF2.fs (by omega)
  refine fv_aload_n C d_S_fix_13 (n := 14) rfl (i := 0) rfl rfl ?_
  refine fv_iload_n C d_S_fix_14 (n := 15) rfl (i := 3) rfl rfl ?_
  refine sn_pc C (fl_S_22 D dA) d_S_fix_15 (n := 18) rfl hO hBs (fun h3 hO hF3 => ?_)
  refine fv_vret C rfl d_S_fix_18 (Nat.le_refl _) (Nat.le_refl _) ?_
  exact ⟨rfl, rfl, hO, hL3.fs hF3 ⟨by omega, by omega, by omega, by omega⟩, (hF1.tr hF2.fs (U := fun x => a ≤ x ∧ x < a + 5) (fun x hx => by omega) (fun x hx => by omega)).tr hF3 (fun x hx => hx) (fun x hx => by omega)⟩
theorem sn_max (n : Nat) (hn : n ≤ 24) : (if nI 1 < nI ((n + 3 - 1) / 3) then nI ((n + 3 - 1) / 3) else nI 1) = nI (sn_pcs n) := by
  unfold sn_pcs
  by_cases h0 : n = 0
  · subst h0
    decide +kernel
  · rw [if_neg h0]
    by_cases h1 : 1 < (n + 3 - 1) / 3
    · rw [if_pos ((nI_ltI (by decide) (by omega)).mpr h1)]
      rfl
    · rw [if_neg (fun q => h1 ((nI_ltI (by decide) (by omega)).mp q))]
      congr 1
      omega
theorem ct_S_hasPiece {si cov n : Nat} {b : bo_B} {x : Int32} (hO : SNr dA h a si cov) (hL : BL dA h (a + 1) b n) : fv_T l (fk D dA) Bs WA m_S_hasPiece [.ref a, .int x] sz h 0 0 (fp_r (.int (fv_b (sn_has x b.1.length))) sz h) := by
  have h24 := hL.wf.2.2.2
  obtain ⟨ids, pri, siz, hB, hA, hw⟩ := hL
  have hmx := sn_max b.1.length h24
  refine fv_of (L := [_, _, _]) (by decide +kernel) rfl (Nat.le_of_ble_eq_true rfl) rfl ?_
  intro X hX C
  subst hX
  refine fv_aload_n C d_S_hasPiece_0 (n := 1) rfl (i := 0) rfl rfl ?_
  refine fv_get C (fl_S_12 D dA) d_S_hasPiece_1 (n := 4) rfl hO rfl ?_
  refine fv_get C (fl_S_29 D dA) d_S_hasPiece_4 (n := 7) rfl hB.1 rfl ?_
  refine fv_iconst C d_S_hasPiece_7 (n := 8) rfl kI_3 ?_
  first | refine fv_iaddN C d_S_hasPiece_8 (n := 9) rfl ?_ | refine fv_iadd C d_S_hasPiece_8 (n := 9) rfl ?_
  refine fv_iconst C d_S_hasPiece_9 (n := 10) rfl kI_1 ?_
  refine fv_isubN C (by omega) d_S_hasPiece_10 (n := 11) rfl ?_
  refine fv_iconst C d_S_hasPiece_11 (n := 12) rfl kI_3 ?_
  refine fv_idivN C (by omega) (by omega) (by omega) d_S_hasPiece_12 (n := 13) rfl ?_
  refine fv_istore_n C d_S_hasPiece_13 (n := 14) rfl (i := 2) rfl (by decide) (L' := [_, _, _]) rfl ?_
  refine fv_iload_n C d_S_hasPiece_14 (n := 15) rfl (i := 1) rfl rfl ?_
  refine fv_iconst C d_S_hasPiece_15 (n := 16) rfl kI_1 ?_
  refine fv_icmp_lt C d_S_hasPiece_16 (tgt := 32) rfl (n := 19) rfl (fun hc16 => ?_) (fun hc16 => ?_)
  · have hcv : nI 0 = fv_b (sn_has x b.1.length) := by unfold sn_has; rw [decide_eq_false (fun q => absurd hc16 (Int32.not_lt.mpr q.1))]; rfl
    refine fv_iconst C d_S_hasPiece_32 (n := 33) rfl kI_0 ?_
    rw [hcv]
    refine fv_zret C rfl d_S_hasPiece_33 (fv_b_nar _) (Nat.le_refl _) (Nat.le_refl _) ?_
    exact ⟨rfl, rfl, rfl⟩
  · have h9 := Int32.not_lt.mp hc16
    refine fv_iload_n C d_S_hasPiece_19 (n := 20) rfl (i := 1) rfl rfl ?_
    refine fv_iconst C d_S_hasPiece_20 (n := 21) rfl kI_1 ?_
    refine fv_iload_n C d_S_hasPiece_21 (n := 22) rfl (i := 2) rfl rfl ?_
    refine fv_mmax C nl_S_32 n_ms n_mi n_mc d_S_hasPiece_22 (n := 25) rfl rfl (Nat.le_of_ble_eq_true rfl) (Nat.le_of_ble_eq_true rfl) (Nat.le_refl _) (Nat.le_refl _) ?_
    rw [hmx]
    refine fv_icmp_gt C d_S_hasPiece_25 (tgt := 32) rfl (n := 28) rfl (fun hc25 => ?_) (fun hc25 => ?_)
    · have hcv : nI 0 = fv_b (sn_has x b.1.length) := by unfold sn_has; rw [decide_eq_false (fun q => absurd hc25 (Int32.not_lt.mpr q.2))]; rfl
      refine fv_iconst C d_S_hasPiece_32 (n := 33) rfl kI_0 ?_
      rw [hcv]
      refine fv_zret C rfl d_S_hasPiece_33 (fv_b_nar _) (Nat.le_refl _) (Nat.le_refl _) ?_
      exact ⟨rfl, rfl, rfl⟩
    · have hcv : nI 1 = fv_b (sn_has x b.1.length) := by unfold sn_has; rw [decide_eq_true ⟨h9, Int32.not_lt.mp hc25⟩]; rfl
      refine fv_iconst C d_S_hasPiece_28 (n := 29) rfl kI_1 ?_
      refine fv_goto C d_S_hasPiece_29 (tgt := 33) rfl ?_
      rw [hcv]
      refine fv_zret C rfl d_S_hasPiece_33 (fv_b_nar _) (Nat.le_refl _) (Nat.le_refl _) ?_
      exact ⟨rfl, rfl, rfl⟩
end SNW
def rs_cv (nd cov : Nat) : Bool := decide (0 < nd ∧ nd ≤ cov)
def rs_nd (nd cov : Nat) : Nat := if rs_cv nd cov = true then 0 else nd
def rs_t (log : List bo_E) (i ns : Nat) (t : tr_T) : tr_T := if t.1 < ns then tr_fol log i (t.2.1.filter (fun x => decide (ns < x))).length (tr_bec log i ns (t.1, t.2.1.filter (fun x => decide (ns < x)), t.2.2)) else t
def rs_a (nd cov n ns : Nat) : Nat := if n < ns then 1 else if rs_cv nd cov = true then 2 else 0
section TK3
variable {l : Launch} {D : va_G} {dA : Nat → ClassId} {Bs sz : Nat} {h : fv_H} {a i ar aE : Nat} {log : List bo_E} {hs : List Nat} {nd : Nat} {sv : Nat → Int32} {fx : Nat → Int32}
theorem ct_T_restore {n ns si cov as0 : Nat} {hl row : List Nat} (hok : fe_ok log) (hsm : ev_sm log) (hi : i < 4) (hBs : Bs ≤ a) (hBr : Bs ≤ ar) (hdis : ar + 3 ≤ a) (haE : a + 7 ≤ aE) (hE : EVS h aE log) (hnd : nd ≤ 400) (hcov : cov ≤ 400) (hS : SNr dA h as0 si cov) (hSL : BL dA h (as0 + 1) (fe_bk log i ns) ns) (hns : ns ≤ (fe_li log i).length) (has : as0 + 5 ≤ ar) (hT : TK dA h a i ar aE log hs nd sv) (hsv : ∀ c, c < 19 → sv c = fe_vw (fe_bk log i n) c) (hL : BL dA h (a + 1) (fe_bk log i n) n) (hR : RD dA h ar row fx) (hI : tr_I log i (n, hl, row)) (hp : (hs.map (ev_n log)).Perm hl) : fv_T l (fk D dA) Bs WA m_T_restore [.ref a, .ref as0] sz h 0 0 (fp_i sz (fun r h' => r = nI (rs_a nd cov n ns) ∧ TRP dA h a i ar aE log (rs_nd nd cov) fx (rs_t log i ns (n, hl, row)) h')) := by
  have h400 := fe_li_400 hsm i
  have hn400 : n ≤ 400 := Nat.le_trans hI.1 h400
  have hT0 := hT
  have hL0 := hL
  have hSL0 := hSL
  obtain ⟨hd, hO, hhd, h30, hlog⟩ := hT
  obtain ⟨ids, pri, siz, hB, hA, hw⟩ := hL0
  obtain ⟨i2, p2, z2, hB2, hA2, hw2⟩ := hSL0
  refine fv_of (L := [_, _, _, _]) (by decide +kernel) rfl (Nat.le_of_ble_eq_true rfl) rfl ?_
  intro X hX C
  subst hX
  have ends : ∀ h2 : fv_H, TRP dA h a i ar aE log (rs_nd nd cov) fx (rs_t log i ns (n, hl, row)) h2 → fv_V (fk D dA) Bs X 4 (fv_MQ (fk D dA) Bs X (fp_i sz (fun r h' => r = nI (rs_a nd cov n ns) ∧ TRP dA h a i ar aE log (rs_nd nd cov) fx (rs_t log i ns (n, hl, row)) h')) 0 0) 79 [some (.ref a), some (.ref as0), some (.int (fv_b (decide (n < ns)))), some (.int (fv_b (rs_cv nd cov)))] [] sz h2 0 0 := by
    intro h2 hP
    refine fv_iload_n C d_T_restore_79 (n := 80) rfl (i := 2) rfl rfl ?_
    refine fv_ifB_eq C d_T_restore_80 (tgt := 87) rfl (n := 83) rfl (fun hc80 => ?_) (fun hc80 => ?_)
    · have h9 : ¬ n < ns := of_decide_eq_false hc80
      refine fv_iload_n C d_T_restore_87 (n := 88) rfl (i := 3) rfl rfl ?_
      refine fv_ifB_eq C d_T_restore_88 (tgt := 95) rfl (n := 91) rfl (fun hc88 => ?_) (fun hc88 => ?_)
      · have hra : rs_a nd cov n ns = 0 := by unfold rs_a; rw [if_neg h9, hc88]; rfl
        refine fv_iconst C d_T_restore_95 (n := 96) rfl kI_0 ?_
        refine fv_iret C rfl d_T_restore_96 (Nat.le_refl _) (Nat.le_refl _) ?_
        exact ⟨_, rfl, rfl, by rw [hra], hP⟩
      · have hra : rs_a nd cov n ns = 2 := by unfold rs_a; rw [if_neg h9, hc88]; rfl
        refine fv_iconst C d_T_restore_91 (n := 92) rfl kI_2 ?_
        refine fv_goto C d_T_restore_92 (tgt := 96) rfl ?_
        refine fv_iret C rfl d_T_restore_96 (Nat.le_refl _) (Nat.le_refl _) ?_
        exact ⟨_, rfl, rfl, by rw [hra], hP⟩
    · have h9 : n < ns := of_decide_eq_true hc80
      have hra : rs_a nd cov n ns = 1 := by unfold rs_a; rw [if_pos h9]
      refine fv_iconst C d_T_restore_83 (n := 84) rfl kI_1 ?_
      refine fv_goto C d_T_restore_84 (tgt := 96) rfl ?_
      refine fv_iret C rfl d_T_restore_96 (Nat.le_refl _) (Nat.le_refl _) ?_
      exact ⟨_, rfl, rfl, by rw [hra], hP⟩
  have tail : ∀ h2 : fv_H, fs h h2 (fun x => x = a) → TK dA h2 a i ar aE log hs (rs_nd nd cov) sv → fv_V (fk D dA) Bs X 4 (fv_MQ (fk D dA) Bs X (fp_i sz (fun r h' => r = nI (rs_a nd cov n ns) ∧ TRP dA h a i ar aE log (rs_nd nd cov) fx (rs_t log i ns (n, hl, row)) h')) 0 0) 56 [some (.ref a), some (.ref as0), some (.int (fv_b (decide (n < ns)))), some (.int (fv_b (rs_cv nd cov)))] [] sz h2 0 0 := by
    intro h2 hF hT
    have hT2 := hT
    obtain ⟨hd, hO, hhd, h30, hlog⟩ := hT
    have hL2 := hL.fs hF ⟨by omega, by omega, by omega, by omega⟩
    have hSL2 := hSL.fs hF ⟨by omega, by omega, by omega, by omega⟩
    have hR2 := hR.fs hF ⟨by omega, by omega, by omega⟩
    have hS2 : SNr dA h2 as0 si cov := hS.fs hF (by omega)
    have hL3 := hL2
    obtain ⟨ids, pri, siz, hB, hA, hw⟩ := hL3
    have hSL3 := hSL2
    obtain ⟨i2, p2, z2, hB2, hA2, hw2⟩ := hSL3
    refine fv_iload_n C d_T_restore_56 (n := 57) rfl (i := 2) rfl rfl ?_
    refine fv_ifB_eq C d_T_restore_57 (tgt := 79) rfl (n := 60) rfl (fun hc57 => ?_) (fun hc57 => ?_)
    · have h9 : ¬ n < ns := of_decide_eq_false hc57
      exact ends h2 (by unfold rs_t; rw [if_neg h9]; exact ⟨hs, sv, hT2, hsv, hL2, hR2, hp, hF.mono (fun x hx => by unfold SX; omega)⟩)
    · have h9 : n < ns := of_decide_eq_true hc57
      refine fv_aload_n C d_T_restore_60 (n := 61) rfl (i := 0) rfl rfl ?_
      refine fv_get C (fl_T_12 D dA) d_T_restore_61 (n := 64) rfl hO.1 rfl ?_
      refine fv_aload_n C d_T_restore_64 (n := 65) rfl (i := 1) rfl rfl ?_
      refine fv_get C (fl_T_62 D dA) d_T_restore_65 (n := 68) rfl hS2 rfl ?_
      refine fv_callV_v C (ml_T_68 D dA) im_B_become se_B_become hB.1 rfl (ct_B_become (by omega) (by omega) hL2 hSL2) d_T_restore_68 (n := 71) rfl rfl rfl rfl (Nat.le_of_ble_eq_true rfl) (Nat.le_of_ble_eq_true rfl) (Nat.le_of_ble_eq_true rfl) (Nat.le_refl _) (Nat.le_refl _) (fun h3 hp3 => ?_)
      obtain ⟨hL4, hF3⟩ := hp3
      have hT3 := hT2.fs hF3.fs ⟨by omega, by omega, by omega⟩
      have hO : TKr dA h3 a i ar hd hs.length (rs_nd nd cov) sv := hO.fs hF3.fs ⟨by omega, by omega, by omega⟩
      have hF3b := hF.tr hF3.fs (U := SX a ar) (fun x hx => by unfold SX; omega) (fun x hx => by unfold SX; omega)
      have hE3 := hE.fs hF3b (fun x hx => by unfold SX; omega)
      refine fv_aload_n C d_T_restore_71 (n := 72) rfl (i := 0) rfl rfl ?_
      refine fv_callV_v C (ml_T_72 D dA) im_T_forgetOldHeld se_T_forgetOldHeld hO.1 rfl (ct_T_forgetOldHeld (nn := ns) (by omega) hL4 hBs hE3 haE hsm hT3) d_T_restore_72 (n := 75) rfl rfl rfl rfl (Nat.le_of_ble_eq_true rfl) (Nat.le_of_ble_eq_true rfl) (Nat.le_of_ble_eq_true rfl) (Nat.le_refl _) (Nat.le_refl _) (fun h4 hp4 => ?_)
      obtain ⟨hT4, hF4⟩ := hp4
      have hO : TKr dA h4 a i ar hT4.choose _ (rs_nd nd cov) sv := hT4.choose_spec.1
      have hF4b := hF3b.tr hF4 (U := SX a ar) (fun x hx => hx) (fun x hx => by unfold SX; omega)
      have hpf : ((hs.filter (fun k => decide (ns < ev_n log k))).map (ev_n log)).Perm (hl.filter (fun x => decide (ns < x))) := by
        have h10 := hp.filter (fun x => decide (ns < x))
        rw [List.filter_map] at h10
        exact h10
      have hJ4 : tr_J log i (ns, hl.filter (fun x => decide (ns < x)), row) := ⟨hns, hI.2.1.filter _, fun x hx => ⟨by simpa using (List.mem_filter.mp hx).2, (hI.2.2.1 x (List.mem_filter.mp hx).1).2⟩, Nat.le_trans (List.length_filter_le _ _) hI.2.2.2.1, hI.2.2.2.2⟩
      refine fv_aload_n C d_T_restore_75 (n := 76) rfl (i := 0) rfl rfl ?_
      refine fv_callV_v C (ml_T_56 D dA) im_T_follow se_T_follow hO.1 rfl (ct_T_follow (m := n) (n := ns) hok hsm hi hBs hBr hdis haE (hE.fs hF4b (fun x hx => by unfold SX; omega)) hT4 hsv (hL4.fs hF4 ⟨by omega, by omega, by omega, by omega⟩) ((hR2.fs hF3.fs ⟨by omega, by omega, by omega⟩).fs hF4 ⟨by omega, by omega, by omega⟩) hJ4 hpf) d_T_restore_76 (n := 79) rfl rfl rfl rfl (Nat.le_of_ble_eq_true rfl) (Nat.le_of_ble_eq_true rfl) (Nat.le_of_ble_eq_true rfl) (Nat.le_refl _) (Nat.le_refl _) (fun h5 hp5 => ?_)
      obtain ⟨hs5, sv5, q1, q2, q3, q4, q5, q6⟩ := hp5
      have hrt : rs_t log i ns (n, hl, row) = tr_fol log i (hl.filter (fun x => decide (ns < x))).length (tr_bec log i ns (n, hl.filter (fun x => decide (ns < x)), row)) := by unfold rs_t; rw [if_pos h9]
      exact ends h5 (by rw [hrt]; exact ⟨hs5, sv5, q1, q2, q3, q4, q5, hF4b.tr q6 (fun x hx => hx) (fun x hx => hx)⟩)
  have mid : fv_V (fk D dA) Bs X 4 (fv_MQ (fk D dA) Bs X (fp_i sz (fun r h' => r = nI (rs_a nd cov n ns) ∧ TRP dA h a i ar aE log (rs_nd nd cov) fx (rs_t log i ns (n, hl, row)) h')) 0 0) 47 [some (.ref a), some (.ref as0), some (.int (fv_b (decide (n < ns)))), some (.int (fv_b (rs_cv nd cov)))] [] sz h 0 0 := by
    refine fv_iload_n C d_T_restore_47 (n := 48) rfl (i := 3) rfl rfl ?_
    refine fv_ifB_eq C d_T_restore_48 (tgt := 56) rfl (n := 51) rfl (fun hc48 => ?_) (fun hc48 => ?_)
    · have hnd2 : rs_nd nd cov = nd := by unfold rs_nd; rw [hc48]; rfl
      exact tail h (fs_rf _ _) (by rw [hnd2]; exact hT0)
    · have hnd2 : rs_nd nd cov = 0 := by unfold rs_nd; rw [hc48]; rfl
      refine fv_aload_n C d_T_restore_51 (n := 52) rfl (i := 0) rfl rfl ?_
      refine fv_iconst C d_T_restore_52 (n := 53) rfl kI_0 ?_
      refine tk_pnd C (fl_T_36 D dA) d_T_restore_53 (n := 56) rfl hO hBs (fun h2 hO hF2 => ?_)
      exact tail h2 hF2 (by rw [hnd2]; exact ⟨hd, hO, hhd, h30, hlog⟩)
  refine fv_aload_n C d_T_restore_0 (n := 1) rfl (i := 1) rfl rfl ?_
  refine fv_get C (fl_T_62 D dA) d_T_restore_1 (n := 4) rfl hS rfl ?_
  refine fv_get C (fl_T_46 D dA) d_T_restore_4 (n := 7) rfl hB2.1 rfl ?_
  refine fv_aload_n C d_T_restore_7 (n := 8) rfl (i := 0) rfl rfl ?_
  refine fv_get C (fl_T_12 D dA) d_T_restore_8 (n := 11) rfl hO.1 rfl ?_
  refine fv_get C (fl_T_46 D dA) d_T_restore_11 (n := 14) rfl hB.1 rfl ?_
  refine fv_icmpN_le C (by omega) (by omega) d_T_restore_14 (tgt := 21) rfl (n := 17) rfl (fun hc14 => ?_) (fun hc14 => ?_)
  · have hcv : nI 0 = fv_b (decide (n < ns)) := by rw [decide_eq_false (by omega)]; rfl
    refine fv_iconst C d_T_restore_21 (n := 22) rfl kI_0 ?_
    rw [hcv]
    refine fv_istore_n C d_T_restore_22 (n := 23) rfl (i := 2) rfl (by decide) (L' := [_, _, _, _]) rfl ?_
    refine fv_aload_n C d_T_restore_23 (n := 24) rfl (i := 0) rfl rfl ?_
    refine fv_get C (fl_T_36 D dA) d_T_restore_24 (n := 27) rfl hO.1 rfl ?_
    refine fv_ifN_le C (by omega) d_T_restore_27 (tgt := 45) rfl (n := 30) rfl (fun hc27 => ?_) (fun hc27 => ?_)
    · have hcw : nI 0 = fv_b (rs_cv nd cov) := by unfold rs_cv; rw [decide_eq_false (by omega)]; rfl
      refine fv_iconst C d_T_restore_45 (n := 46) rfl kI_0 ?_
      rw [hcw]
      refine fv_istore_n C d_T_restore_46 (n := 47) rfl (i := 3) rfl (by decide) (L' := [_, _, _, _]) rfl ?_
      exact mid
    · refine fv_aload_n C d_T_restore_30 (n := 31) rfl (i := 1) rfl rfl ?_
      refine fv_get C (fl_T_65 D dA) d_T_restore_31 (n := 34) rfl hS rfl ?_
      refine fv_aload_n C d_T_restore_34 (n := 35) rfl (i := 0) rfl rfl ?_
      refine fv_get C (fl_T_36 D dA) d_T_restore_35 (n := 38) rfl hO.1 rfl ?_
      refine fv_icmpN_lt C (by omega) (by omega) d_T_restore_38 (tgt := 45) rfl (n := 41) rfl (fun hc38 => ?_) (fun hc38 => ?_)
      · have hcw : nI 0 = fv_b (rs_cv nd cov) := by unfold rs_cv; rw [decide_eq_false (by omega)]; rfl
        refine fv_iconst C d_T_restore_45 (n := 46) rfl kI_0 ?_
        rw [hcw]
        refine fv_istore_n C d_T_restore_46 (n := 47) rfl (i := 3) rfl (by decide) (L' := [_, _, _, _]) rfl ?_
        exact mid
      · have hcw : nI 1 = fv_b (rs_cv nd cov) := by unfold rs_cv; rw [decide_eq_true (by omega)]; rfl
        refine fv_iconst C d_T_restore_41 (n := 42) rfl kI_1 ?_
        refine fv_goto C d_T_restore_42 (tgt := 46) rfl ?_
        rw [hcw]
        refine fv_istore_n C d_T_restore_46 (n := 47) rfl (i := 3) rfl (by decide) (L' := [_, _, _, _]) rfl ?_
        exact mid
  · have hcv : nI 1 = fv_b (decide (n < ns)) := by rw [decide_eq_true (by omega)]; rfl
    refine fv_iconst C d_T_restore_17 (n := 18) rfl kI_1 ?_
    refine fv_goto C d_T_restore_18 (tgt := 22) rfl ?_
    rw [hcv]
    refine fv_istore_n C d_T_restore_22 (n := 23) rfl (i := 2) rfl (by decide) (L' := [_, _, _, _]) rfl ?_
    refine fv_aload_n C d_T_restore_23 (n := 24) rfl (i := 0) rfl rfl ?_
    refine fv_get C (fl_T_36 D dA) d_T_restore_24 (n := 27) rfl hO.1 rfl ?_
    refine fv_ifN_le C (by omega) d_T_restore_27 (tgt := 45) rfl (n := 30) rfl (fun hc27 => ?_) (fun hc27 => ?_)
    · have hcw : nI 0 = fv_b (rs_cv nd cov) := by unfold rs_cv; rw [decide_eq_false (by omega)]; rfl
      refine fv_iconst C d_T_restore_45 (n := 46) rfl kI_0 ?_
      rw [hcw]
      refine fv_istore_n C d_T_restore_46 (n := 47) rfl (i := 3) rfl (by decide) (L' := [_, _, _, _]) rfl ?_
      exact mid
    · refine fv_aload_n C d_T_restore_30 (n := 31) rfl (i := 1) rfl rfl ?_
      refine fv_get C (fl_T_65 D dA) d_T_restore_31 (n := 34) rfl hS rfl ?_
      refine fv_aload_n C d_T_restore_34 (n := 35) rfl (i := 0) rfl rfl ?_
      refine fv_get C (fl_T_36 D dA) d_T_restore_35 (n := 38) rfl hO.1 rfl ?_
      refine fv_icmpN_lt C (by omega) (by omega) d_T_restore_38 (tgt := 45) rfl (n := 41) rfl (fun hc38 => ?_) (fun hc38 => ?_)
      · have hcw : nI 0 = fv_b (rs_cv nd cov) := by unfold rs_cv; rw [decide_eq_false (by omega)]; rfl
        refine fv_iconst C d_T_restore_45 (n := 46) rfl kI_0 ?_
        rw [hcw]
        refine fv_istore_n C d_T_restore_46 (n := 47) rfl (i := 3) rfl (by decide) (L' := [_, _, _, _]) rfl ?_
        exact mid
      · have hcw : nI 1 = fv_b (rs_cv nd cov) := by unfold rs_cv; rw [decide_eq_true (by omega)]; rfl
        refine fv_iconst C d_T_restore_41 (n := 42) rfl kI_1 ?_
        refine fv_goto C d_T_restore_42 (tgt := 46) rfl ?_
        rw [hcw]
        refine fv_istore_n C d_T_restore_46 (n := 47) rfl (i := 3) rfl (by decide) (L' := [_, _, _, _]) rfl ?_
        exact mid
end TK3
