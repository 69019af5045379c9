/-! Publisher -/
/-- how many events there are up to the end of packet p -/
def fe_E (ends : List Nat) (p : Nat) : Nat := (0 :: ends).getD p 0
theorem fe_E_0 (ends : List Nat) : fe_E ends 0 = 0 := rfl
theorem fe_E_app {ends : List Nat} {x p : Nat} (hp : p ≤ ends.length) : fe_E (ends ++ [x]) p = fe_E ends p := by
  unfold fe_E
  rw [List.getD_eq_getElem?_getD, List.getD_eq_getElem?_getD, ← List.cons_append, List.getElem?_append_left (by simp; omega)]
theorem fe_E_new (ends : List Nat) (x : Nat) : fe_E (ends ++ [x]) (ends.length + 1) = x := by
  unfold fe_E
  rw [List.getD_eq_getElem?_getD, ← List.cons_append, List.getElem?_append_right (by simp)]
  simp
/-- the packets' ends: they grow, and none is beyond the log; the open packet has at most five -/
def fe_ends (log : List bo_E) (ends : List Nat) : Prop := (∀ p, p < ends.length → fe_E ends p < fe_E ends (p + 1) ∧ fe_E ends (p + 1) ≤ log.length) ∧ fe_E ends ends.length ≤ log.length ∧ log.length ≤ fe_E ends ends.length + 5 ∧ log.length ≤ 400
theorem fe_ends_mono {log : List bo_E} {ends : List Nat} (h : fe_ends log ends) : ∀ p, p ≤ ends.length → p ≤ fe_E ends p ∧ fe_E ends p ≤ log.length
  | 0, _ => ⟨Nat.zero_le _, Nat.zero_le _⟩
  | p + 1, hp => by
    have h1 := fe_ends_mono h p (by omega)
    have h2 := h.1 p (by omega)
    omega
theorem fe_ends_len {log : List bo_E} {ends : List Nat} (h : fe_ends log ends) : ends.length ≤ 400 := by
  have := fe_ends_mono h ends.length (Nat.le_refl _)
  have := h.2.2.2
  omega
def PBr (dA : Nat → ClassId) (h : fv_H) (a : Nat) (evs : Nat → Option Nat) (ne : Nat) (en : Nat → Int32) (cl : Nat) (sc : Nat) : Prop := h (a) = some (.inr (3, [.ref (a + 1), .ref (a + 2), .int (nI ne), .ref (a + 3), .int (nI cl), .ref (a + 4), .int (nI sc)])) ∧ h (a + 1) = some (.inl (dA 2, 4, .inr (.inr (.inr (.inr (fun j => if j < 4 then some (a + 5 + 4 * j) else none)))))) ∧ h (a + 2) = some (.inl (dA 3, 400, .inr (.inr (.inr (.inr evs))))) ∧ h (a + 3) = some (.inl (dA 0, 401, .inl en)) ∧ h (a + 4) = some (.inl (dA 6, 8, .inr (.inr (.inr (.inr (fun j => if j < 8 then some (a + 21 + 5 * j) else none))))))
section PBrS
variable {D : va_G} {dA : Nat → ClassId} {Bs : Nat} {X : fv_X} {M : fv_M} {mc ms nL : Nat} {Q : State → Prop} {pc n : Nat} {L L' : List (Option Value)} {st : List Value} {sz : Nat} {h : fv_H} {cells slots : Nat} {a : Nat} {evs : Nat → Option Nat} {ne : Nat} {en : Nat → Int32} {cl : Nat} {sc : Nat}
theorem PBr.fs {h' : fv_H} {S : Nat → Prop} (hO : PBr dA h a evs ne en cl sc) (hf : fs h h' S) (hd : ¬ S (a) ∧ ¬ S (a + 1) ∧ ¬ S (a + 2) ∧ ¬ S (a + 3) ∧ ¬ S (a + 4)) : PBr dA h' a evs ne en cl sc := by
  exact ⟨(hf _ hd.1).trans hO.1, (hf _ hd.2.1).trans hO.2.1, (hf _ hd.2.2.1).trans hO.2.2.1, (hf _ hd.2.2.2.1).trans hO.2.2.2.1, (hf _ hd.2.2.2.2).trans hO.2.2.2.2⟩
theorem pb_pne (C : fv_C (fk D dA) WA X M mc ms) {idx : Nat} {v : Nat} (F : fv_FL (fk D dA) WA M.1.cls idx 3 2 .int false) (hd : decode M.2.1 pc = .ok (.putfield idx, 3)) (hn : pc + 3 = n) (hO : PBr dA h a evs ne en cl sc) (hBs : Bs ≤ a) (kk : ∀ h' : fv_H, PBr dA h' a evs v en cl sc → fs h h' (fun z => z = a) → fv_V (fk D dA) Bs X nL Q n L st sz h' cells slots) : fv_V (fk D dA) Bs X nL Q pc L (.int (nI v) :: .ref (a) :: st) sz h cells slots := by
  refine fv_put C F (Or.inl rfl) hd hn hO.1 (by omega) rfl rfl (Nat.le_of_ble_eq_true rfl) ?_
  refine kk _ ⟨?_, ?_, ?_, ?_, ?_⟩ (fun z hz => va_up_ne _ _ hz)
  · exact va_up_self _ _ _
  · rw [va_up_ne _ _ (by omega)]; exact hO.2.1
  · rw [va_up_ne _ _ (by omega)]; exact hO.2.2.1
  · rw [va_up_ne _ _ (by omega)]; exact hO.2.2.2.1
  · rw [va_up_ne _ _ (by omega)]; exact hO.2.2.2.2
theorem pb_pcl (C : fv_C (fk D dA) WA X M mc ms) {idx : Nat} {v : Nat} (F : fv_FL (fk D dA) WA M.1.cls idx 3 4 .int false) (hd : decode M.2.1 pc = .ok (.putfield idx, 3)) (hn : pc + 3 = n) (hO : PBr dA h a evs ne en cl sc) (hBs : Bs ≤ a) (kk : ∀ h' : fv_H, PBr dA h' a evs ne en v sc → fs h h' (fun z => z = a) → fv_V (fk D dA) Bs X nL Q n L st sz h' cells slots) : fv_V (fk D dA) Bs X nL Q pc L (.int (nI v) :: .ref (a) :: st) sz h cells slots := by
  refine fv_put C F (Or.inl rfl) hd hn hO.1 (by omega) rfl rfl (Nat.le_of_ble_eq_true rfl) ?_
  refine kk _ ⟨?_, ?_, ?_, ?_, ?_⟩ (fun z hz => va_up_ne _ _ hz)
  · exact va_up_self _ _ _
  · rw [va_up_ne _ _ (by omega)]; exact hO.2.1
  · rw [va_up_ne _ _ (by omega)]; exact hO.2.2.1
  · rw [va_up_ne _ _ (by omega)]; exact hO.2.2.2.1
  · rw [va_up_ne _ _ (by omega)]; exact hO.2.2.2.2
theorem pb_psc (C : fv_C (fk D dA) WA X M mc ms) {idx : Nat} {v : Nat} (F : fv_FL (fk D dA) WA M.1.cls idx 3 6 .int false) (hd : decode M.2.1 pc = .ok (.putfield idx, 3)) (hn : pc + 3 = n) (hO : PBr dA h a evs ne en cl sc) (hBs : Bs ≤ a) (kk : ∀ h' : fv_H, PBr dA h' a evs ne en cl v → fs h h' (fun z => z = a) → fv_V (fk D dA) Bs X nL Q n L st sz h' cells slots) : fv_V (fk D dA) Bs X nL Q pc L (.int (nI v) :: .ref (a) :: st) sz h cells slots := by
  refine fv_put C F (Or.inl rfl) hd hn hO.1 (by omega) rfl rfl (Nat.le_of_ble_eq_true rfl) ?_
  refine kk _ ⟨?_, ?_, ?_, ?_, ?_⟩ (fun z hz => va_up_ne _ _ hz)
  · exact va_up_self _ _ _
  · rw [va_up_ne _ _ (by omega)]; exact hO.2.1
  · rw [va_up_ne _ _ (by omega)]; exact hO.2.2.1
  · rw [va_up_ne _ _ (by omega)]; exact hO.2.2.2.1
  · rw [va_up_ne _ _ (by omega)]; exact hO.2.2.2.2
theorem pb_sev (C : fv_C (fk D dA) WA X M mc ms) {j v : Nat} {vs : List Value} (hd : decode M.2.1 pc = .ok (.aastore, 1)) (hn : pc + 1 = n) (hO : PBr dA h a evs ne en cl sc) (hv : h v = some (.inr (2, vs))) (hBs : Bs ≤ a) (hj : j < 400) (kk : ∀ h' : fv_H, PBr dA h' a (va_up evs j (some v)) ne en cl sc → fs h h' (fun z => z = a + 2) → fv_V (fk D dA) Bs X nL Q n L st sz h' cells slots) : fv_V (fk D dA) Bs X nL Q pc L (.ref v :: .int (nI j) :: .ref (a + 2) :: st) sz h cells slots := by
  refine fv_aastN1 C (t0 := 3) (ci := 2) rfl hd hn hO.2.2.1 hv rfl (by omega) hj (by decide) ?_
  refine kk _ ⟨?_, ?_, ?_, ?_, ?_⟩ (fun z hz => va_up_ne _ _ hz)
  · rw [va_up_ne _ _ (by omega)]; exact hO.1
  · rw [va_up_ne _ _ (by omega)]; exact hO.2.1
  · exact va_up_self _ _ _
  · rw [va_up_ne _ _ (by omega)]; exact hO.2.2.2.1
  · rw [va_up_ne _ _ (by omega)]; exact hO.2.2.2.2
theorem pb_sen (C : fv_C (fk D dA) WA X M mc ms) {j : Nat} {x : Int32} (hd : decode M.2.1 pc = .ok (.iastore, 1)) (hn : pc + 1 = n) (hO : PBr dA h a evs ne en cl sc) (hBs : Bs ≤ a) (hj : j < 401) (kk : ∀ h' : fv_H, PBr dA h' a evs ne (upd en j x) cl sc → fs h h' (fun z => z = a + 3) → fv_V (fk D dA) Bs X nL Q n L st sz h' cells slots) : fv_V (fk D dA) Bs X nL Q pc L (.int x :: .int (nI j) :: .ref (a + 3) :: st) sz h cells slots := by
  refine fv_iastN C (t0 := 0) rfl hd hn hO.2.2.2.1 (by omega) hj (by decide) ?_
  refine kk _ ⟨?_, ?_, ?_, ?_, ?_⟩ (fun z hz => va_up_ne _ _ hz)
  · rw [va_up_ne _ _ (by omega)]; exact hO.1
  · rw [va_up_ne _ _ (by omega)]; exact hO.2.1
  · rw [va_up_ne _ _ (by omega)]; exact hO.2.2.1
  · exact va_up_self _ _ _
  · rw [va_up_ne _ _ (by omega)]; exact hO.2.2.2.2
end PBrS
def PB (dA : Nat → ClassId) (h : fv_H) (a aE : Nat) (log : List bo_E) (ends : List Nat) (sc : Nat) : Prop := ∃ (evs : Nat → Option Nat) (en : Nat → Int32), PBr dA h a evs log.length en ends.length sc ∧ (∀ j, j < log.length → evs j = some (aE + j)) ∧ ∀ p, p ≤ ends.length → en p = nI (fe_E ends p)
theorem PB.fs {dA : Nat → ClassId} {h h' : fv_H} {a aE sc : Nat} {log : List bo_E} {ends : List Nat} {S : Nat → Prop} (q : PB dA h a aE log ends sc) (hf : fs h h' S) (hd : ¬ S a ∧ ¬ S (a + 1) ∧ ¬ S (a + 2) ∧ ¬ S (a + 3) ∧ ¬ S (a + 4)) : PB dA h' a aE log ends sc := by
  obtain ⟨evs, en, hO, h1, h2⟩ := q
  exact ⟨evs, en, hO.fs hf hd, h1, h2⟩
/-- is x the number of one of n closed packets -/
def fe_cl (x : Int32) (n : Nat) : Bool := decide (nI 1 ≤ x ∧ x ≤ nI n)
section PBW
variable {l : Launch} {D : va_G} {dA : Nat → ClassId} {Bs sz : Nat} {h : fv_H} {a aE sc : Nat} {log : List bo_E} {ends : List Nat}
theorem ct_P_isClosed {x : Int32} (hEn : fe_ends log ends) (hP : PB dA h a aE log ends sc) : fv_T l (fk D dA) Bs WA m_P_isClosed [.ref a, .int x] sz h 0 0 (fp_r (.int (fv_b (fe_cl x ends.length))) sz h) := by
  obtain ⟨evs, en, hO, hev, hen⟩ := hP
  have hcl := fe_ends_len hEn
  have hmo := fe_ends_mono hEn
  refine fv_of (L := [_, _]) (by decide +kernel) rfl (Nat.le_of_ble_eq_true rfl) rfl ?_
  intro X hX C
  subst hX
  refine fv_iload_n C d_P_isClosed_0 (n := 1) rfl (i := 1) rfl rfl ?_
  refine fv_iconst C d_P_isClosed_1 (n := 2) rfl kI_1 ?_
  refine fv_icmp_lt C d_P_isClosed_2 (tgt := 17) rfl (n := 5) rfl (fun hc2 => ?_) (fun hc2 => ?_)
  · have hcv : nI 0 = fv_b (fe_cl x ends.length) := by unfold fe_cl; rw [decide_eq_false (fun q => absurd hc2 (Int32.not_lt.mpr q.1))]; rfl
    refine fv_iconst C d_P_isClosed_17 (n := 18) rfl kI_0 ?_
    rw [hcv]
    refine fv_zret C rfl d_P_isClosed_18 (fv_b_nar _) (Nat.le_refl _) (Nat.le_refl _) ?_
    exact ⟨rfl, rfl, rfl⟩
  · have h9 := Int32.not_lt.mp hc2
    refine fv_iload_n C d_P_isClosed_5 (n := 6) rfl (i := 1) rfl rfl ?_
    refine fv_aload_n C d_P_isClosed_6 (n := 7) rfl (i := 0) rfl rfl ?_
    refine fv_get C (fl_P_31 D dA) d_P_isClosed_7 (n := 10) rfl hO.1 rfl ?_
    refine fv_icmp_gt C d_P_isClosed_10 (tgt := 17) rfl (n := 13) rfl (fun hc10 => ?_) (fun hc10 => ?_)
    · have hcv : nI 0 = fv_b (fe_cl x ends.length) := by unfold fe_cl; rw [decide_eq_false (fun q => absurd hc10 (Int32.not_lt.mpr q.2))]; rfl
      refine fv_iconst C d_P_isClosed_17 (n := 18) rfl kI_0 ?_
      rw [hcv]
      refine fv_zret C rfl d_P_isClosed_18 (fv_b_nar _) (Nat.le_refl _) (Nat.le_refl _) ?_
      exact ⟨rfl, rfl, rfl⟩
    · have hcv : nI 1 = fv_b (fe_cl x ends.length) := by unfold fe_cl; rw [decide_eq_true ⟨h9, Int32.not_lt.mp hc10⟩]; rfl
      refine fv_iconst C d_P_isClosed_13 (n := 14) rfl kI_1 ?_
      refine fv_goto C d_P_isClosed_14 (tgt := 18) rfl ?_
      rw [hcv]
      refine fv_zret C rfl d_P_isClosed_18 (fv_b_nar _) (Nat.le_refl _) (Nat.le_refl _) ?_
      exact ⟨rfl, rfl, rfl⟩
theorem ct_P_startOf {p : Nat} (h1 : 1 ≤ p) (h2 : p ≤ ends.length + 1) (hEn : fe_ends log ends) (hP : PB dA h a aE log ends sc) : fv_T l (fk D dA) Bs WA m_P_startOf [.ref a, .int (nI p)] sz h 0 0 (fp_r (.int (nI (fe_E ends (p - 1)))) sz h) := by
  obtain ⟨evs, en, hO, hev, hen⟩ := hP
  have hcl := fe_ends_len hEn
  have hmo := fe_ends_mono hEn
  refine fv_of (L := [_, _]) (by decide +kernel) rfl (Nat.le_of_ble_eq_true rfl) rfl ?_
  intro X hX C
  subst hX
  refine fv_aload_n C d_P_startOf_0 (n := 1) rfl (i := 0) rfl rfl ?_
  refine fv_get C (fl_P_27 D dA) d_P_startOf_1 (n := 4) rfl hO.1 rfl ?_
  refine fv_iload_n C d_P_startOf_4 (n := 5) rfl (i := 1) rfl rfl ?_
  refine fv_iconst C d_P_startOf_5 (n := 6) rfl kI_1 ?_
  refine fv_isubN C (by omega) d_P_startOf_6 (n := 7) rfl ?_
  refine fv_ialdN C (t0 := 0) rfl d_P_startOf_7 (n := 8) rfl hO.2.2.2.1 (by omega) (by decide) ?_
  refine fv_iret C rfl d_P_startOf_8 (Nat.le_refl _) (Nat.le_refl _) ?_
  rw [hen (p - 1) (by omega)]
  exact ⟨rfl, rfl, rfl⟩
theorem ct_P_endOf {p : Nat} (h2 : p ≤ ends.length) (hEn : fe_ends log ends) (hP : PB dA h a aE log ends sc) : fv_T l (fk D dA) Bs WA m_P_endOf [.ref a, .int (nI p)] sz h 0 0 (fp_r (.int (nI (fe_E ends p))) sz h) := by
  obtain ⟨evs, en, hO, hev, hen⟩ := hP
  have hcl := fe_ends_len hEn
  have hmo := fe_ends_mono hEn
  refine fv_of (L := [_, _]) (by decide +kernel) rfl (Nat.le_of_ble_eq_true rfl) rfl ?_
  intro X hX C
  subst hX
  refine fv_aload_n C d_P_endOf_0 (n := 1) rfl (i := 0) rfl rfl ?_
  refine fv_get C (fl_P_27 D dA) d_P_endOf_1 (n := 4) rfl hO.1 rfl ?_
  refine fv_iload_n C d_P_endOf_4 (n := 5) rfl (i := 1) rfl rfl ?_
  refine fv_ialdN C (t0 := 0) rfl d_P_endOf_5 (n := 6) rfl hO.2.2.2.1 (by omega) (by decide) ?_
  refine fv_iret C rfl d_P_endOf_6 (Nat.le_refl _) (Nat.le_refl _) ?_
  rw [hen p (by omega)]
  exact ⟨rfl, rfl, rfl⟩
/-- are all events of packet p and after among the last 40 that were closed -/
def fe_rep (ends : List Nat) (p : Nat) : Bool := decide (fe_E ends ends.length ≤ fe_E ends (p - 1) + 40)
theorem sub40 {a b : Nat} (ha : a ≤ 400) (hb : b ≤ 400) : nI a < nI b - nI 40 ↔ a + 40 < b := by
  rw [Int32.lt_iff_toInt_lt, nI_toInt (by omega), pk_sub_toInt (by omega) (by omega)]
  omega
theorem ct_P_canReplayFrom {p : Nat} (h1 : 1 ≤ p) (h2 : p ≤ ends.length + 1) (hEn : fe_ends log ends) (hP : PB dA h a aE log ends sc) : fv_T l (fk D dA) Bs WA m_P_canReplayFrom [.ref a, .int (nI p)] sz h 0 0 (fp_r (.int (fv_b (fe_rep ends p))) sz h) := by
  have hP0 := hP
  obtain ⟨evs, en, hO, hev, hen⟩ := hP
  have hcl := fe_ends_len hEn
  have hmo := fe_ends_mono hEn
  have m1 := hmo (p - 1) (by omega)
  have m2 := hmo ends.length (Nat.le_refl _)
  have m3 := hEn.2.2.2
  refine fv_of (L := [_, _]) (by decide +kernel) rfl (Nat.le_of_ble_eq_true rfl) rfl ?_
  intro X hX C
  subst hX
  refine fv_aload_n C d_P_canReplayFrom_0 (n := 1) rfl (i := 0) rfl rfl ?_
  refine fv_iload_n C d_P_canReplayFrom_1 (n := 2) rfl (i := 1) rfl rfl ?_
  refine fv_callV_r C (ml_P_62 D dA) im_P_startOf se_P_startOf hO.1 rfl (ct_P_startOf h1 h2 hEn hP0) d_P_canReplayFrom_2 (n := 5) rfl rfl rfl rfl (Nat.le_of_ble_eq_true rfl) (Nat.le_of_ble_eq_true rfl) (Nat.le_of_ble_eq_true rfl) (Nat.le_refl _) (Nat.le_refl _) ?_
  refine fv_aload_n C d_P_canReplayFrom_5 (n := 6) rfl (i := 0) rfl rfl ?_
  refine fv_aload_n C d_P_canReplayFrom_6 (n := 7) rfl (i := 0) rfl rfl ?_
  refine fv_get C (fl_P_31 D dA) d_P_canReplayFrom_7 (n := 10) rfl hO.1 rfl ?_
  refine fv_callV_r C (ml_P_66 D dA) im_P_endOf se_P_endOf hO.1 rfl (ct_P_endOf (Nat.le_refl _) hEn hP0) d_P_canReplayFrom_10 (n := 13) rfl rfl rfl rfl (Nat.le_of_ble_eq_true rfl) (Nat.le_of_ble_eq_true rfl) (Nat.le_of_ble_eq_true rfl) (Nat.le_refl _) (Nat.le_refl _) ?_
  refine fv_bipush C d_P_canReplayFrom_13 (n := 15) rfl kB_40 ?_
  refine fv_isub C d_P_canReplayFrom_15 (n := 16) rfl ?_
  refine fv_icmp_lt C d_P_canReplayFrom_16 (tgt := 23) rfl (n := 19) rfl (fun hc16 => ?_) (fun hc16 => ?_)
  · rw [sub40 (by omega) (by omega)] at hc16
    have hcv : nI 0 = fv_b (fe_rep ends p) := by unfold fe_rep; rw [decide_eq_false (by omega)]; rfl
    refine fv_iconst C d_P_canReplayFrom_23 (n := 24) rfl kI_0 ?_
    rw [hcv]
    refine fv_zret C rfl d_P_canReplayFrom_24 (fv_b_nar _) (Nat.le_refl _) (Nat.le_refl _) ?_
    exact ⟨rfl, rfl, rfl⟩
  · rw [sub40 (by omega) (by omega)] at hc16
    have hcv : nI 1 = fv_b (fe_rep ends p) := by unfold fe_rep; rw [decide_eq_true (by omega)]; rfl
    refine fv_iconst C d_P_canReplayFrom_19 (n := 20) rfl kI_1 ?_
    refine fv_goto C d_P_canReplayFrom_20 (tgt := 24) rfl ?_
    rw [hcv]
    refine fv_zret C rfl d_P_canReplayFrom_24 (fv_b_nar _) (Nat.le_refl _) (Nat.le_refl _) ?_
    exact ⟨rfl, rfl, rfl⟩
theorem ct_P_closePacket (hBs : Bs ≤ a) (hEn : fe_ends log ends) (hP : PB dA h a aE log ends sc) : fv_T l (fk D dA) Bs WA m_P_closePacket [.ref a] sz h 0 0 (fp_i sz (fun r h' => (log.length = fe_E ends ends.length ∧ r = nI 0 ∧ h' = h) ∨ (log.length ≠ fe_E ends ends.length ∧ r = nI (ends.length + 1) ∧ PB dA h' a aE log (ends ++ [log.length]) sc ∧ fs h h' (fun x => x = a ∨ x = a + 3)))) := by
  obtain ⟨evs, en, hO, hev, hen⟩ := hP
  have hcl := fe_ends_len hEn
  have hmo := fe_ends_mono hEn
  have m2 := hmo ends.length (Nat.le_refl _)
  have m3 := hEn.2.2.2
  have he0 := hen ends.length (Nat.le_refl _)
  refine fv_of (L := [_]) (by decide +kernel) rfl (Nat.le_of_ble_eq_true rfl) rfl ?_
  intro X hX C
  subst hX
  refine fv_aload_n C d_P_closePacket_0 (n := 1) rfl (i := 0) rfl rfl ?_
  refine fv_get C (fl_P_23 D dA) d_P_closePacket_1 (n := 4) rfl hO.1 rfl ?_
  refine fv_aload_n C d_P_closePacket_4 (n := 5) rfl (i := 0) rfl rfl ?_
  refine fv_get C (fl_P_27 D dA) d_P_closePacket_5 (n := 8) rfl hO.1 rfl ?_
  refine fv_aload_n C d_P_closePacket_8 (n := 9) rfl (i := 0) rfl rfl ?_
  refine fv_get C (fl_P_31 D dA) d_P_closePacket_9 (n := 12) rfl hO.1 rfl ?_
  refine fv_ialdN C (t0 := 0) rfl d_P_closePacket_12 (n := 13) rfl hO.2.2.2.1 (by omega) (by decide) ?_
  rw [he0]
  refine fv_icmpN_ne C (by omega) (by omega) d_P_closePacket_13 (tgt := 18) rfl (n := 16) rfl (fun hc13 => ?_) (fun hc13 => ?_)
  · refine fv_aload_n C d_P_closePacket_18 (n := 19) rfl (i := 0) rfl rfl ?_
    refine fv_dup C d_P_closePacket_19 (n := 20) rfl rfl ?_
    refine fv_get C (fl_P_31 D dA) d_P_closePacket_20 (n := 23) rfl hO.1 rfl ?_
    refine fv_iconst C d_P_closePacket_23 (n := 24) rfl kI_1 ?_
    first | refine fv_iaddN C d_P_closePacket_24 (n := 25) rfl ?_ | refine fv_iadd C d_P_closePacket_24 (n := 25) rfl ?_
    refine pb_pcl C (fl_P_31 D dA) d_P_closePacket_25 (n := 28) rfl hO hBs (fun h1 hO hF1 => ?_)
    refine fv_aload_n C d_P_closePacket_28 (n := 29) rfl (i := 0) rfl rfl ?_
    refine fv_get C (fl_P_27 D dA) d_P_closePacket_29 (n := 32) rfl hO.1 rfl ?_
    refine fv_aload_n C d_P_closePacket_32 (n := 33) rfl (i := 0) rfl rfl ?_
    refine fv_get C (fl_P_31 D dA) d_P_closePacket_33 (n := 36) rfl hO.1 rfl ?_
    refine fv_aload_n C d_P_closePacket_36 (n := 37) rfl (i := 0) rfl rfl ?_
    refine fv_get C (fl_P_23 D dA) d_P_closePacket_37 (n := 40) rfl hO.1 rfl ?_
    refine pb_sen C d_P_closePacket_40 (n := 41) rfl hO hBs (by omega) (fun h2 hO hF2 => ?_)
    refine fv_aload_n C d_P_closePacket_41 (n := 42) rfl (i := 0) rfl rfl ?_
    refine fv_get C (fl_P_31 D dA) d_P_closePacket_42 (n := 45) rfl hO.1 rfl ?_
    refine fv_iret C rfl d_P_closePacket_45 (Nat.le_refl _) (Nat.le_refl _) ?_
    refine ⟨_, rfl, rfl, Or.inr ⟨hc13, rfl, ⟨evs, upd en (ends.length + 1) (nI log.length), ?_, hev, ?_⟩, hF1.tr hF2 (fun x hx => Or.inl hx) (fun x hx => Or.inr hx)⟩⟩
    · rw [List.length_append]; exact hO
    · intro p hp
      rw [List.length_append] at hp
      simp only [List.length_cons, List.length_nil] at hp
      by_cases h9 : p = ends.length + 1
      · rw [h9, fe_E_new]; simp [upd]
      · unfold upd; rw [if_neg h9, fe_E_app (by omega)]; exact hen p (by omega)
  · refine fv_iconst C d_P_closePacket_16 (n := 17) rfl kI_0 ?_
    refine fv_iret C rfl d_P_closePacket_17 (Nat.le_refl _) (Nat.le_refl _) ?_
    exact ⟨_, rfl, rfl, Or.inl ⟨hc13, rfl, rfl⟩⟩
end PBW
