/-! FeedDesk: its public methods -/
theorem fv_T.post {l : Launch} {K : fv_K} {Bs : Nat} {WA : List Cond} {M : fv_M} {av : List Value} {sz : Nat} {h : fv_H} {mc ms : Nat} {post post' : Option Value → Nat → fv_H → Prop} (t : fv_T l K Bs WA M av sz h mc ms post) (hp : ∀ v sz' h', post v sz' h' → post' v sz' h') : fv_T l K Bs WA M av sz h mc ms post' := by
  unfold fv_T Met at t ⊢
  refine MetFree.mono t (fun _ _ q => q) (fun _ _ _ _ _ q => q) ?_
  rintro a st o t' - ⟨⟨v, sz', h', h1, h2, h3⟩, h4⟩
  exact ⟨⟨v, sz', h', h1, hp v sz' h' h2, h3⟩, h4⟩
def SD (b0 aE : Nat) : Nat → Prop := fun x => (b0 ≤ x ∧ x < b0 + 132) ∨ aE ≤ x
theorem dk_log {dA : Nat → ClassId} {h h' : fv_H} {b0 aE : Nat} {S : sp_T} {e : bo_E} (hi : e.2.1 < 4) (haE : b0 + 132 ≤ aE) (hI : sp_I S) (q : DK dA h b0 aE S) (hP : PB dA h' (b0 + 3) aE (S.1 ++ [e]) S.2.1 (sp_sh S).length) (hL : BL dA h' (b0 + 8 + 4 * e.2.1) (fe_bk (S.1 ++ [e]) e.2.1 (sp_len S e.2.1 + 1)) (sp_len S e.2.1 + 1)) (hE : EV h' (aE + S.1.length) e) (hf : fs h h' (fun x => x = b0 + 3 ∨ x = b0 + 3 + 2 ∨ (b0 + 8 + 4 * e.2.1 ≤ x ∧ x < b0 + 8 + 4 * e.2.1 + 4) ∨ x = aE + S.1.length)) : DK dA h' b0 aE (sp_log S e) := by
  obtain ⟨h1, h2, h3, h4, h5, h6⟩ := q
  refine ⟨h1.fs hf ⟨by omega, by omega, by omega⟩, hP, fun i hi => ?_, fun k hk => ?_, fun r hr => ?_, fun k ev hk => ?_⟩
  · rw [sp_len_log]
    by_cases c : e.2.1 = i
    · subst c
      rw [if_pos rfl]
      exact hL
    · rw [if_neg c]
      have e1 : fe_bk (sp_log S e).1 i (sp_len S i) = fe_bk S.1 i (sp_len S i) := fe_bk_app (Nat.le_refl _)
      rw [e1]
      exact (h3 i hi).fs hf ⟨by omega, by omega, by omega, by omega⟩
  · obtain ⟨si, cov, b, n, g1, g2, g3⟩ := (h4 k hk).fs hf (fun x a1 a2 => by omega)
    refine ⟨si, cov, b, n, g1, g2, fun m q hq hm hl => ?_⟩
    obtain ⟨a1, a2, a3, a4⟩ := g3 m q hq hm hl
    refine ⟨a1, a2, a3, ?_⟩
    rw [a4]
    exact (fe_bk_app (hI.2.2.2.2 m q hq).2.1).symm
  · obtain ⟨fx, a1, a2⟩ := h5 r hr
    exact ⟨fx, (a1.fs hf (fun x b1 b2 => by omega)).app (hI.2.2.2.1 r hr).1.2.2.2.2.1, a2⟩
  · have hk : (S.1 ++ [e])[k]? = some ev := hk
    by_cases c : k < S.1.length
    · rw [List.getElem?_append_left c] at hk
      exact (hf _ (by omega)).trans (h6 k ev hk)
    · rw [List.getElem?_append_right (by omega)] at hk
      have hz : k - S.1.length < 1 := (List.getElem?_eq_some_iff.mp hk).1
      have hz2 : k = S.1.length := by omega
      subst hz2
      rw [Nat.sub_self, List.getElem?_cons_zero] at hk
      cases hk
      exact hE
section DK1
variable {l : Launch} {D : va_G} {dA : Nat → ClassId} {Bs sz : Nat} {h : fv_H} {b0 aE : Nat} {S : sp_T}
theorem ct_P_offerD {so ins s : Nat} {id pr v : Int32} (hso : so ≤ 5) (hi : ins < 4) (hs : s = 0 ∨ s = 1) (hv4 : so = 4 → v = 0 ∨ v = 1) (hpos : so ≤ 2 → 0 < v) (hsz : sz = aE + S.1.length) (haE : b0 + 132 ≤ aE) (hBs : Bs ≤ b0) (hD : DK dA h b0 aE S) (hI : sp_I S) : fv_T l (fk D dA) Bs WA m_P_offer [.ref (b0 + 3), .int (nI so), .int (nI ins), .int id, .int (nI s), .int pr, .int v] sz h 1 7 (fun vv sz' h' => vv = some (.int (sp_oa S so ins id v)) ∧ sz' = aE + (sp_os S so ins id s pr v).1.length ∧ DK dA h' b0 aE (sp_os S so ins id s pr v) ∧ sp_I (sp_os S so ins id s pr v) ∧ fs h h' (SD b0 aE)) := by
  have hD0 := hD
  obtain ⟨h1, h2, h3, h4, h5, h6⟩ := hD
  have hI0 := hI
  obtain ⟨g1, g2, g3, g4, g5⟩ := hI
  refine (ct_P_offer (a := b0 + 3) (aE := aE) (n := sp_len S ins) hso hi hs hv4 hpos (by omega) hsz (by omega) rfl (h3 ins hi) g3 h2).post ?_
  intro vv sz' h' hp
  rcases hp with ⟨c1, rfl, rfl, rfl⟩ | ⟨c1, c2, rfl, rfl, rfl⟩ | ⟨c1, c2, c3, rfl, rfl, q1, q2, q3, q4⟩
  · have e1 : sp_os S so ins id s pr v = S := by unfold sp_os; rw [if_neg (fun q => by rw [c1] at q; exact absurd q.1 (by decide))]
    rw [e1]
    refine ⟨by unfold sp_oa; rw [if_neg (by rw [c1]; decide)], hsz, hD0, hI0, fs_rf _ _⟩
  · have e1 : sp_os S so ins id s pr v = S := by unfold sp_os; rw [if_neg (fun q => q.2 c2)]
    rw [e1]
    refine ⟨by unfold sp_oa; rw [if_pos c1, if_pos c2], hsz, hD0, hI0, fs_rf _ _⟩
  · have c4 : ¬ (fe_E S.2.1 S.2.1.length + 5 ≤ S.1.length ∨ 400 ≤ S.1.length) := by omega
    have e1 : sp_os S so ins id s pr v = sp_log S (so, ins, sp_len S ins + 1, id, s, pr, v) := by unfold sp_os; rw [if_pos ⟨c1, c4⟩]
    rw [e1]
    refine ⟨by unfold sp_oa; rw [if_pos c1, if_neg c4], ?_, ?_, ?_, ?_⟩
    · show sz + 1 = aE + (S.1 ++ [_]).length
      rw [List.length_append, hsz]
      simp
      omega
    · exact dk_log (e := (so, ins, sp_len S ins + 1, id, s, pr, v)) hi haE hI0 hD0 q1 q2 (by rw [← hsz]; exact q3) (q4.mono (fun x hx => by dsimp only at hx ⊢; omega))
    · exact sp_I_log hI0 rfl ⟨hso, hi, hs, hpos⟩ c1 c2 c3
    · exact q4.mono (fun x hx => by unfold SD; omega)
def sp_addA (S : sp_T) (i id s p v : Int32) : Int32 := if (iv i 0 3 && iv id 1 1000000 && iv s 0 1 && iv v 1 1000000 && sp_pv p) = true then sp_oa S 0 i.toNatClampNeg id v else -2
def sp_addS (S : sp_T) (i id s p v : Int32) : sp_T := if (iv i 0 3 && iv id 1 1000000 && iv s 0 1 && iv v 1 1000000 && sp_pv p) = true then sp_os S 0 i.toNatClampNeg id s.toNatClampNeg p v else S
def sp_chgA (S : sp_T) (so : Nat) (i id v : Int32) : Int32 := if (iv i 0 3 && iv id 1 1000000 && iv v 1 1000000) = true then sp_oa S so i.toNatClampNeg id v else -2
def sp_chgS (S : sp_T) (so : Nat) (i id v : Int32) : sp_T := if (iv i 0 3 && iv id 1 1000000 && iv v 1 1000000) = true then sp_os S so i.toNatClampNeg id 0 0 v else S
def sp_canA (S : sp_T) (i id : Int32) : Int32 := if (iv i 0 3 && iv id 1 1000000) = true then sp_oa S 3 i.toNatClampNeg id 0 else -2
def sp_canS (S : sp_T) (i id : Int32) : sp_T := if (iv i 0 3 && iv id 1 1000000) = true then sp_os S 3 i.toNatClampNeg id 0 0 0 else S
def sp_hltA (S : sp_T) (i : Int32) (on : Bool) : Int32 := if iv i 0 3 = true then sp_oa S 4 i.toNatClampNeg 0 (fv_b on) else -2
def sp_hltS (S : sp_T) (i : Int32) (on : Bool) : sp_T := if iv i 0 3 = true then sp_os S 4 i.toNatClampNeg 0 0 0 (fv_b on) else S
def sp_clrA (S : sp_T) (i : Int32) : Int32 := if iv i 0 3 = true then sp_oa S 5 i.toNatClampNeg 0 0 else -2
def sp_clrS (S : sp_T) (i : Int32) : sp_T := if iv i 0 3 = true then sp_os S 5 i.toNatClampNeg 0 0 0 0 else S
theorem iv_pos {v : Int32} (h : iv v 1 1000000 = true) : 0 < v := by
  obtain ⟨k, h1, h2, rfl⟩ := iv_of (by decide) (by decide) h
  rw [← nI_0]
  exact (nI_ltI (by decide) (by omega)).mpr h1
theorem ct_D_change {i id v : Int32} (hsz : sz = aE + S.1.length) (haE : b0 + 132 ≤ aE) (hBs : Bs ≤ b0) (hD : DK dA h b0 aE S) (hI : sp_I S) : fv_T l (fk D dA) Bs WA m_D_change [.ref b0, .int i, .int id, .int v] sz h 1 7 (fun vv sz' h' => vv = some (.int (sp_chgA S 1 i id v)) ∧ sz' = aE + (sp_chgS S 1 i id v).1.length ∧ DK dA h' b0 aE (sp_chgS S 1 i id v) ∧ sp_I (sp_chgS S 1 i id v) ∧ fs h h' (SD b0 aE)) := by
  obtain ⟨evs, en, hPb, hev, hen⟩ := hD.2.1
  refine fv_of (L := [_, _, _, _]) (by decide +kernel) rfl (Nat.le_of_ble_eq_true rfl) rfl ?_
  intro X hX C
  subst hX
  refine fv_iload_n C d_D_change_0 (n := 1) rfl (i := 1) rfl rfl ?_
  refine fv_callS_r C (ml_D_32 D dA) sm_D_isInstrument ct_D_isInstrument d_D_change_1 (n := 4) rfl rfl rfl rfl (Nat.le_of_ble_eq_true rfl) (Nat.le_of_ble_eq_true rfl) (Nat.le_of_ble_eq_true rfl) (Nat.zero_le _) (Nat.zero_le _) ?_
  refine fv_ifB_eq C d_D_change_4 (tgt := 21) rfl (n := 7) rfl (fun hc4 => ?_) (fun hc4 => ?_)
  · have hbad : ¬ (iv i 0 3 && iv id 1 1000000 && iv v 1 1000000) = true := by simp [hc4]
    refine fv_bipush C d_D_change_21 (n := 23) rfl kB_m2 ?_
    refine fv_iret C rfl d_D_change_23 (Nat.zero_le _) (Nat.zero_le _) ?_
    exact ⟨by unfold sp_chgA; rw [if_neg hbad], by unfold sp_chgS; rw [if_neg hbad]; exact hsz, by unfold sp_chgS; rw [if_neg hbad]; exact hD, by unfold sp_chgS; rw [if_neg hbad]; exact hI, fs_rf _ _⟩
  · refine fv_iload_n C d_D_change_7 (n := 8) rfl (i := 2) rfl rfl ?_
    refine fv_callS_r C (ml_D_36 D dA) sm_D_isCount ct_D_isCount d_D_change_8 (n := 11) rfl rfl rfl rfl (Nat.le_of_ble_eq_true rfl) (Nat.le_of_ble_eq_true rfl) (Nat.le_of_ble_eq_true rfl) (Nat.zero_le _) (Nat.zero_le _) ?_
    refine fv_ifB_eq C d_D_change_11 (tgt := 21) rfl (n := 14) rfl (fun hc11 => ?_) (fun hc11 => ?_)
    · have hbad : ¬ (iv i 0 3 && iv id 1 1000000 && iv v 1 1000000) = true := by simp [hc11]
      refine fv_bipush C d_D_change_21 (n := 23) rfl kB_m2 ?_
      refine fv_iret C rfl d_D_change_23 (Nat.zero_le _) (Nat.zero_le _) ?_
      exact ⟨by unfold sp_chgA; rw [if_neg hbad], by unfold sp_chgS; rw [if_neg hbad]; exact hsz, by unfold sp_chgS; rw [if_neg hbad]; exact hD, by unfold sp_chgS; rw [if_neg hbad]; exact hI, fs_rf _ _⟩
    · refine fv_iload_n C d_D_change_14 (n := 15) rfl (i := 3) rfl rfl ?_
      refine fv_callS_r C (ml_D_36 D dA) sm_D_isCount ct_D_isCount d_D_change_15 (n := 18) rfl rfl rfl rfl (Nat.le_of_ble_eq_true rfl) (Nat.le_of_ble_eq_true rfl) (Nat.le_of_ble_eq_true rfl) (Nat.zero_le _) (Nat.zero_le _) ?_
      refine fv_ifB_ne C d_D_change_18 (tgt := 24) rfl (n := 21) rfl (fun hc18 => ?_) (fun hc18 => ?_)
      · have hgood : (iv i 0 3 && iv id 1 1000000 && iv v 1 1000000) = true := by simp [hc4, hc11, hc18]
        obtain ⟨k, -, hk, rfl⟩ := iv_of (by decide) (by decide) hc4
        have hcl : (nI k).toNatClampNeg = k := nI_clamp (by omega)
        have hvp := iv_pos hc18
        refine fv_aload_n C d_D_change_24 (n := 25) rfl (i := 0) rfl rfl ?_
        refine fv_get C (fl_D_24 D dA) d_D_change_25 (n := 28) rfl hD.1.1 rfl ?_
        refine fv_iconst C d_D_change_28 (n := 29) rfl kI_1 ?_
        refine fv_iload_n C d_D_change_29 (n := 30) rfl (i := 1) rfl rfl ?_
        refine fv_iload_n C d_D_change_30 (n := 31) rfl (i := 2) rfl rfl ?_
        refine fv_iconst C d_D_change_31 (n := 32) rfl kI_0 ?_
        refine fv_iconst C d_D_change_32 (n := 33) rfl kI_0 ?_
        refine fv_iload_n C d_D_change_33 (n := 34) rfl (i := 3) rfl rfl ?_
        refine fv_callV C (ml_D_44 D dA) im_P_offer se_P_offer hPb.1 rfl (ct_P_offerD (so := 1) (s := 0) (pr := 0) (v := v) (by decide) (by omega) (Or.inl rfl) (fun q => absurd q (by decide)) (fun _ => hvp) hsz haE hBs hD hI) d_D_change_34 (n := 37) rfl rfl rfl rfl (Nat.le_of_ble_eq_true rfl) (Nat.le_of_ble_eq_true rfl) (Nat.le_of_ble_eq_true rfl) (Nat.le_refl _) (Nat.le_refl _) (fun vv sz2 h2 hp => ?_)
        obtain ⟨rfl, rfl, q1, q2, q3⟩ := hp
        refine fv_iret C rfl d_D_change_37 (Nat.le_refl _) (Nat.le_refl _) ?_
        exact ⟨by unfold sp_chgA; rw [if_pos hgood, hcl], by unfold sp_chgS; rw [if_pos hgood, hcl], by unfold sp_chgS; rw [if_pos hgood, hcl]; exact q1, by unfold sp_chgS; rw [if_pos hgood, hcl]; exact q2, q3⟩
      · have hbad : ¬ (iv i 0 3 && iv id 1 1000000 && iv v 1 1000000) = true := by simp [hc18]
        refine fv_bipush C d_D_change_21 (n := 23) rfl kB_m2 ?_
        refine fv_iret C rfl d_D_change_23 (Nat.zero_le _) (Nat.zero_le _) ?_
        exact ⟨by unfold sp_chgA; rw [if_neg hbad], by unfold sp_chgS; rw [if_neg hbad]; exact hsz, by unfold sp_chgS; rw [if_neg hbad]; exact hD, by unfold sp_chgS; rw [if_neg hbad]; exact hI, fs_rf _ _⟩
theorem ct_D_execute {i id v : Int32} (hsz : sz = aE + S.1.length) (haE : b0 + 132 ≤ aE) (hBs : Bs ≤ b0) (hD : DK dA h b0 aE S) (hI : sp_I S) : fv_T l (fk D dA) Bs WA m_D_execute [.ref b0, .int i, .int id, .int v] sz h 1 7 (fun vv sz' h' => vv = some (.int (sp_chgA S 2 i id v)) ∧ sz' = aE + (sp_chgS S 2 i id v).1.length ∧ DK dA h' b0 aE (sp_chgS S 2 i id v) ∧ sp_I (sp_chgS S 2 i id v) ∧ fs h h' (SD b0 aE)) := by
  obtain ⟨evs, en, hPb, hev, hen⟩ := hD.2.1
  refine fv_of (L := [_, _, _, _]) (by decide +kernel) rfl (Nat.le_of_ble_eq_true rfl) rfl ?_
  intro X hX C
  subst hX
  refine fv_iload_n C d_D_execute_0 (n := 1) rfl (i := 1) rfl rfl ?_
  refine fv_callS_r C (ml_D_32 D dA) sm_D_isInstrument ct_D_isInstrument d_D_execute_1 (n := 4) rfl rfl rfl rfl (Nat.le_of_ble_eq_true rfl) (Nat.le_of_ble_eq_true rfl) (Nat.le_of_ble_eq_true rfl) (Nat.zero_le _) (Nat.zero_le _) ?_
  refine fv_ifB_eq C d_D_execute_4 (tgt := 21) rfl (n := 7) rfl (fun hc4 => ?_) (fun hc4 => ?_)
  · have hbad : ¬ (iv i 0 3 && iv id 1 1000000 && iv v 1 1000000) = true := by simp [hc4]
    refine fv_bipush C d_D_execute_21 (n := 23) rfl kB_m2 ?_
    refine fv_iret C rfl d_D_execute_23 (Nat.zero_le _) (Nat.zero_le _) ?_
    exact ⟨by unfold sp_chgA; rw [if_neg hbad], by unfold sp_chgS; rw [if_neg hbad]; exact hsz, by unfold sp_chgS; rw [if_neg hbad]; exact hD, by unfold sp_chgS; rw [if_neg hbad]; exact hI, fs_rf _ _⟩
  · refine fv_iload_n C d_D_execute_7 (n := 8) rfl (i := 2) rfl rfl ?_
    refine fv_callS_r C (ml_D_36 D dA) sm_D_isCount ct_D_isCount d_D_execute_8 (n := 11) rfl rfl rfl rfl (Nat.le_of_ble_eq_true rfl) (Nat.le_of_ble_eq_true rfl) (Nat.le_of_ble_eq_true rfl) (Nat.zero_le _) (Nat.zero_le _) ?_
    refine fv_ifB_eq C d_D_execute_11 (tgt := 21) rfl (n := 14) rfl (fun hc11 => ?_) (fun hc11 => ?_)
    · have hbad : ¬ (iv i 0 3 && iv id 1 1000000 && iv v 1 1000000) = true := by simp [hc11]
      refine fv_bipush C d_D_execute_21 (n := 23) rfl kB_m2 ?_
      refine fv_iret C rfl d_D_execute_23 (Nat.zero_le _) (Nat.zero_le _) ?_
      exact ⟨by unfold sp_chgA; rw [if_neg hbad], by unfold sp_chgS; rw [if_neg hbad]; exact hsz, by unfold sp_chgS; rw [if_neg hbad]; exact hD, by unfold sp_chgS; rw [if_neg hbad]; exact hI, fs_rf _ _⟩
    · refine fv_iload_n C d_D_execute_14 (n := 15) rfl (i := 3) rfl rfl ?_
      refine fv_callS_r C (ml_D_36 D dA) sm_D_isCount ct_D_isCount d_D_execute_15 (n := 18) rfl rfl rfl rfl (Nat.le_of_ble_eq_true rfl) (Nat.le_of_ble_eq_true rfl) (Nat.le_of_ble_eq_true rfl) (Nat.zero_le _) (Nat.zero_le _) ?_
      refine fv_ifB_ne C d_D_execute_18 (tgt := 24) rfl (n := 21) rfl (fun hc18 => ?_) (fun hc18 => ?_)
      · have hgood : (iv i 0 3 && iv id 1 1000000 && iv v 1 1000000) = true := by simp [hc4, hc11, hc18]
        obtain ⟨k, -, hk, rfl⟩ := iv_of (by decide) (by decide) hc4
        have hcl : (nI k).toNatClampNeg = k := nI_clamp (by omega)
        have hvp := iv_pos hc18
        refine fv_aload_n C d_D_execute_24 (n := 25) rfl (i := 0) rfl rfl ?_
        refine fv_get C (fl_D_24 D dA) d_D_execute_25 (n := 28) rfl hD.1.1 rfl ?_
        refine fv_iconst C d_D_execute_28 (n := 29) rfl kI_2 ?_
        refine fv_iload_n C d_D_execute_29 (n := 30) rfl (i := 1) rfl rfl ?_
        refine fv_iload_n C d_D_execute_30 (n := 31) rfl (i := 2) rfl rfl ?_
        refine fv_iconst C d_D_execute_31 (n := 32) rfl kI_0 ?_
        refine fv_iconst C d_D_execute_32 (n := 33) rfl kI_0 ?_
        refine fv_iload_n C d_D_execute_33 (n := 34) rfl (i := 3) rfl rfl ?_
        refine fv_callV C (ml_D_44 D dA) im_P_offer se_P_offer hPb.1 rfl (ct_P_offerD (so := 2) (s := 0) (pr := 0) (v := v) (by decide) (by omega) (Or.inl rfl) (fun q => absurd q (by decide)) (fun _ => hvp) hsz haE hBs hD hI) d_D_execute_34 (n := 37) rfl rfl rfl rfl (Nat.le_of_ble_eq_true rfl) (Nat.le_of_ble_eq_true rfl) (Nat.le_of_ble_eq_true rfl) (Nat.le_refl _) (Nat.le_refl _) (fun vv sz2 h2 hp => ?_)
        obtain ⟨rfl, rfl, q1, q2, q3⟩ := hp
        refine fv_iret C rfl d_D_execute_37 (Nat.le_refl _) (Nat.le_refl _) ?_
        exact ⟨by unfold sp_chgA; rw [if_pos hgood, hcl], by unfold sp_chgS; rw [if_pos hgood, hcl], by unfold sp_chgS; rw [if_pos hgood, hcl]; exact q1, by unfold sp_chgS; rw [if_pos hgood, hcl]; exact q2, q3⟩
      · have hbad : ¬ (iv i 0 3 && iv id 1 1000000 && iv v 1 1000000) = true := by simp [hc18]
        refine fv_bipush C d_D_execute_21 (n := 23) rfl kB_m2 ?_
        refine fv_iret C rfl d_D_execute_23 (Nat.zero_le _) (Nat.zero_le _) ?_
        exact ⟨by unfold sp_chgA; rw [if_neg hbad], by unfold sp_chgS; rw [if_neg hbad]; exact hsz, by unfold sp_chgS; rw [if_neg hbad]; exact hD, by unfold sp_chgS; rw [if_neg hbad]; exact hI, fs_rf _ _⟩
theorem ct_D_cancel {i id : Int32} (hsz : sz = aE + S.1.length) (haE : b0 + 132 ≤ aE) (hBs : Bs ≤ b0) (hD : DK dA h b0 aE S) (hI : sp_I S) : fv_T l (fk D dA) Bs WA m_D_cancel [.ref b0, .int i, .int id] sz h 1 7 (fun vv sz' h' => vv = some (.int (sp_canA S i id)) ∧ sz' = aE + (sp_canS S i id).1.length ∧ DK dA h' b0 aE (sp_canS S i id) ∧ sp_I (sp_canS S i id) ∧ fs h h' (SD b0 aE)) := by
  obtain ⟨evs, en, hPb, hev, hen⟩ := hD.2.1
  refine fv_of (L := [_, _, _]) (by decide +kernel) rfl (Nat.le_of_ble_eq_true rfl) rfl ?_
  intro X hX C
  subst hX
  refine fv_iload_n C d_D_cancel_0 (n := 1) rfl (i := 1) rfl rfl ?_
  refine fv_callS_r C (ml_D_32 D dA) sm_D_isInstrument ct_D_isInstrument d_D_cancel_1 (n := 4) rfl rfl rfl rfl (Nat.le_of_ble_eq_true rfl) (Nat.le_of_ble_eq_true rfl) (Nat.le_of_ble_eq_true rfl) (Nat.zero_le _) (Nat.zero_le _) ?_
  refine fv_ifB_eq C d_D_cancel_4 (tgt := 14) rfl (n := 7) rfl (fun hc4 => ?_) (fun hc4 => ?_)
  · have hbad : ¬ (iv i 0 3 && iv id 1 1000000) = true := by simp [hc4]
    refine fv_bipush C d_D_cancel_14 (n := 16) rfl kB_m2 ?_
    refine fv_iret C rfl d_D_cancel_16 (Nat.zero_le _) (Nat.zero_le _) ?_
    exact ⟨by unfold sp_canA; rw [if_neg hbad], by unfold sp_canS; rw [if_neg hbad]; exact hsz, by unfold sp_canS; rw [if_neg hbad]; exact hD, by unfold sp_canS; rw [if_neg hbad]; exact hI, fs_rf _ _⟩
  · refine fv_iload_n C d_D_cancel_7 (n := 8) rfl (i := 2) rfl rfl ?_
    refine fv_callS_r C (ml_D_36 D dA) sm_D_isCount ct_D_isCount d_D_cancel_8 (n := 11) rfl rfl rfl rfl (Nat.le_of_ble_eq_true rfl) (Nat.le_of_ble_eq_true rfl) (Nat.le_of_ble_eq_true rfl) (Nat.zero_le _) (Nat.zero_le _) ?_
    refine fv_ifB_ne C d_D_cancel_11 (tgt := 17) rfl (n := 14) rfl (fun hc11 => ?_) (fun hc11 => ?_)
    · have hgood : (iv i 0 3 && iv id 1 1000000) = true := by simp [hc4, hc11]
      obtain ⟨k, -, hk, rfl⟩ := iv_of (by decide) (by decide) hc4
      have hcl : (nI k).toNatClampNeg = k := nI_clamp (by omega)
      refine fv_aload_n C d_D_cancel_17 (n := 18) rfl (i := 0) rfl rfl ?_
      refine fv_get C (fl_D_24 D dA) d_D_cancel_18 (n := 21) rfl hD.1.1 rfl ?_
      refine fv_iconst C d_D_cancel_21 (n := 22) rfl kI_3 ?_
      refine fv_iload_n C d_D_cancel_22 (n := 23) rfl (i := 1) rfl rfl ?_
      refine fv_iload_n C d_D_cancel_23 (n := 24) rfl (i := 2) rfl rfl ?_
      refine fv_iconst C d_D_cancel_24 (n := 25) rfl kI_0 ?_
      refine fv_iconst C d_D_cancel_25 (n := 26) rfl kI_0 ?_
      refine fv_iconst C d_D_cancel_26 (n := 27) rfl kI_0 ?_
      refine fv_callV C (ml_D_44 D dA) im_P_offer se_P_offer hPb.1 rfl (ct_P_offerD (so := 3) (s := 0) (pr := 0) (v := 0) (by decide) (by omega) (Or.inl rfl) (fun q => absurd q (by decide)) (fun q => absurd q (by decide)) hsz haE hBs hD hI) d_D_cancel_27 (n := 30) rfl rfl rfl rfl (Nat.le_of_ble_eq_true rfl) (Nat.le_of_ble_eq_true rfl) (Nat.le_of_ble_eq_true rfl) (Nat.le_refl _) (Nat.le_refl _) (fun vv sz2 h2 hp => ?_)
      obtain ⟨rfl, rfl, q1, q2, q3⟩ := hp
      refine fv_iret C rfl d_D_cancel_30 (Nat.le_refl _) (Nat.le_refl _) ?_
      exact ⟨by unfold sp_canA; rw [if_pos hgood, hcl], by unfold sp_canS; rw [if_pos hgood, hcl], by unfold sp_canS; rw [if_pos hgood, hcl]; exact q1, by unfold sp_canS; rw [if_pos hgood, hcl]; exact q2, q3⟩
    · have hbad : ¬ (iv i 0 3 && iv id 1 1000000) = true := by simp [hc11]
      refine fv_bipush C d_D_cancel_14 (n := 16) rfl kB_m2 ?_
      refine fv_iret C rfl d_D_cancel_16 (Nat.zero_le _) (Nat.zero_le _) ?_
      exact ⟨by unfold sp_canA; rw [if_neg hbad], by unfold sp_canS; rw [if_neg hbad]; exact hsz, by unfold sp_canS; rw [if_neg hbad]; exact hD, by unfold sp_canS; rw [if_neg hbad]; exact hI, fs_rf _ _⟩
theorem ct_D_clear {i : Int32} (hsz : sz = aE + S.1.length) (haE : b0 + 132 ≤ aE) (hBs : Bs ≤ b0) (hD : DK dA h b0 aE S) (hI : sp_I S) : fv_T l (fk D dA) Bs WA m_D_clear [.ref b0, .int i] sz h 1 7 (fun vv sz' h' => vv = some (.int (sp_clrA S i)) ∧ sz' = aE + (sp_clrS S i).1.length ∧ DK dA h' b0 aE (sp_clrS S i) ∧ sp_I (sp_clrS S i) ∧ fs h h' (SD b0 aE)) := by
  obtain ⟨evs, en, hPb, hev, hen⟩ := hD.2.1
  refine fv_of (L := [_, _]) (by decide +kernel) rfl (Nat.le_of_ble_eq_true rfl) rfl ?_
  intro X hX C
  subst hX
  refine fv_iload_n C d_D_clear_0 (n := 1) rfl (i := 1) rfl rfl ?_
  refine fv_callS_r C (ml_D_32 D dA) sm_D_isInstrument ct_D_isInstrument d_D_clear_1 (n := 4) rfl rfl rfl rfl (Nat.le_of_ble_eq_true rfl) (Nat.le_of_ble_eq_true rfl) (Nat.le_of_ble_eq_true rfl) (Nat.zero_le _) (Nat.zero_le _) ?_
  refine fv_ifB_ne C d_D_clear_4 (tgt := 10) rfl (n := 7) rfl (fun hc4 => ?_) (fun hc4 => ?_)
  · have hgood := hc4
    obtain ⟨k, -, hk, rfl⟩ := iv_of (by decide) (by decide) hc4
    have hcl : (nI k).toNatClampNeg = k := nI_clamp (by omega)
    refine fv_aload_n C d_D_clear_10 (n := 11) rfl (i := 0) rfl rfl ?_
    refine fv_get C (fl_D_24 D dA) d_D_clear_11 (n := 14) rfl hD.1.1 rfl ?_
    refine fv_iconst C d_D_clear_14 (n := 15) rfl kI_5 ?_
    refine fv_iload_n C d_D_clear_15 (n := 16) rfl (i := 1) rfl rfl ?_
    refine fv_iconst C d_D_clear_16 (n := 17) rfl kI_0 ?_
    refine fv_iconst C d_D_clear_17 (n := 18) rfl kI_0 ?_
    refine fv_iconst C d_D_clear_18 (n := 19) rfl kI_0 ?_
    refine fv_iconst C d_D_clear_19 (n := 20) rfl kI_0 ?_
    refine fv_callV C (ml_D_44 D dA) im_P_offer se_P_offer hPb.1 rfl (ct_P_offerD (so := 5) (s := 0) (id := 0) (pr := 0) (v := 0) (by decide) (by omega) (Or.inl rfl) (fun q => absurd q (by decide)) (fun q => absurd q (by decide)) hsz haE hBs hD hI) d_D_clear_20 (n := 23) rfl rfl rfl rfl (Nat.le_of_ble_eq_true rfl) (Nat.le_of_ble_eq_true rfl) (Nat.le_of_ble_eq_true rfl) (Nat.le_refl _) (Nat.le_refl _) (fun vv sz2 h2 hp => ?_)
    obtain ⟨rfl, rfl, q1, q2, q3⟩ := hp
    refine fv_iret C rfl d_D_clear_23 (Nat.le_refl _) (Nat.le_refl _) ?_
    exact ⟨by unfold sp_clrA; rw [if_pos hgood, hcl], by unfold sp_clrS; rw [if_pos hgood, hcl], by unfold sp_clrS; rw [if_pos hgood, hcl]; exact q1, by unfold sp_clrS; rw [if_pos hgood, hcl]; exact q2, q3⟩
  · have hbad : ¬ iv i 0 3 = true := by rw [hc4]; decide
    refine fv_bipush C d_D_clear_7 (n := 9) rfl kB_m2 ?_
    refine fv_iret C rfl d_D_clear_9 (Nat.zero_le _) (Nat.zero_le _) ?_
    exact ⟨by unfold sp_clrA; rw [if_neg hbad], by unfold sp_clrS; rw [if_neg hbad]; exact hsz, by unfold sp_clrS; rw [if_neg hbad]; exact hD, by unfold sp_clrS; rw [if_neg hbad]; exact hI, fs_rf _ _⟩
theorem ct_D_halt {i : Int32} {on : Bool} (hsz : sz = aE + S.1.length) (haE : b0 + 132 ≤ aE) (hBs : Bs ≤ b0) (hD : DK dA h b0 aE S) (hI : sp_I S) : fv_T l (fk D dA) Bs WA m_D_halt [.ref b0, .int i, .int (fv_b on)] sz h 1 7 (fun vv sz' h' => vv = some (.int (sp_hltA S i on)) ∧ sz' = aE + (sp_hltS S i on).1.length ∧ DK dA h' b0 aE (sp_hltS S i on) ∧ sp_I (sp_hltS S i on) ∧ fs h h' (SD b0 aE)) := by
  obtain ⟨evs, en, hPb, hev, hen⟩ := hD.2.1
  refine fv_of (L := [_, _, _]) (by decide +kernel) rfl (Nat.le_of_ble_eq_true rfl) rfl ?_
  intro X hX C
  subst hX
  refine fv_iload_n C d_D_halt_0 (n := 1) rfl (i := 1) rfl rfl ?_
  refine fv_callS_r C (ml_D_32 D dA) sm_D_isInstrument ct_D_isInstrument d_D_halt_1 (n := 4) rfl rfl rfl rfl (Nat.le_of_ble_eq_true rfl) (Nat.le_of_ble_eq_true rfl) (Nat.le_of_ble_eq_true rfl) (Nat.zero_le _) (Nat.zero_le _) ?_
  refine fv_ifB_ne C d_D_halt_4 (tgt := 10) rfl (n := 7) rfl (fun hc4 => ?_) (fun hc4 => ?_)
  · have hgood := hc4
    obtain ⟨k, -, hk, rfl⟩ := iv_of (by decide) (by decide) hc4
    have hcl : (nI k).toNatClampNeg = k := nI_clamp (by omega)
    refine fv_aload_n C d_D_halt_10 (n := 11) rfl (i := 0) rfl rfl ?_
    refine fv_get C (fl_D_24 D dA) d_D_halt_11 (n := 14) rfl hD.1.1 rfl ?_
    refine fv_iconst C d_D_halt_14 (n := 15) rfl kI_4 ?_
    refine fv_iload_n C d_D_halt_15 (n := 16) rfl (i := 1) rfl rfl ?_
    refine fv_iconst C d_D_halt_16 (n := 17) rfl kI_0 ?_
    refine fv_iconst C d_D_halt_17 (n := 18) rfl kI_0 ?_
    refine fv_iconst C d_D_halt_18 (n := 19) rfl kI_0 ?_
    refine fv_iload_n C d_D_halt_19 (n := 20) rfl (i := 2) rfl rfl ?_
    refine fv_ifB_eq C d_D_halt_20 (tgt := 27) rfl (n := 23) rfl (fun hc20 => ?_) (fun hc20 => ?_)
    · have hon : nI 0 = fv_b on := by rw [hc20]; rfl
      refine fv_iconst C d_D_halt_27 (n := 28) rfl kI_0 ?_
      refine fv_eq (st' := [.int (fv_b on), .int 0, .int (nI 0), .int 0, .int (nI k), .int (nI 4), .ref (b0 + 3)]) (by rw [← hon]; rfl) rfl ?_
      refine fv_callV C (ml_D_44 D dA) im_P_offer se_P_offer hPb.1 rfl (ct_P_offerD (so := 4) (s := 0) (id := 0) (pr := 0) (v := fv_b on) (by decide) (by omega) (Or.inl rfl) (fun _ => by cases on; exact Or.inl rfl; exact Or.inr rfl) (fun q => absurd q (by decide)) hsz haE hBs hD hI) d_D_halt_28 (n := 31) rfl rfl rfl rfl (Nat.le_of_ble_eq_true rfl) (Nat.le_of_ble_eq_true rfl) (Nat.le_of_ble_eq_true rfl) (Nat.le_refl _) (Nat.le_refl _) (fun vv sz2 h2 hp => ?_)
      obtain ⟨rfl, rfl, q1, q2, q3⟩ := hp
      refine fv_iret C rfl d_D_halt_31 (Nat.le_refl _) (Nat.le_refl _) ?_
      exact ⟨by unfold sp_hltA; rw [if_pos hgood, hcl], by unfold sp_hltS; rw [if_pos hgood, hcl], by unfold sp_hltS; rw [if_pos hgood, hcl]; exact q1, by unfold sp_hltS; rw [if_pos hgood, hcl]; exact q2, q3⟩
    · have hon : nI 1 = fv_b on := by rw [hc20]; rfl
      refine fv_iconst C d_D_halt_23 (n := 24) rfl kI_1 ?_
      refine fv_goto C d_D_halt_24 (tgt := 28) rfl ?_
      refine fv_eq (st' := [.int (fv_b on), .int 0, .int (nI 0), .int 0, .int (nI k), .int (nI 4), .ref (b0 + 3)]) (by rw [← hon]; rfl) rfl ?_
      refine fv_callV C (ml_D_44 D dA) im_P_offer se_P_offer hPb.1 rfl (ct_P_offerD (so := 4) (s := 0) (id := 0) (pr := 0) (v := fv_b on) (by decide) (by omega) (Or.inl rfl) (fun _ => by cases on; exact Or.inl rfl; exact Or.inr rfl) (fun q => absurd q (by decide)) hsz haE hBs hD hI) d_D_halt_28 (n := 31) rfl rfl rfl rfl (Nat.le_of_ble_eq_true rfl) (Nat.le_of_ble_eq_true rfl) (Nat.le_of_ble_eq_true rfl) (Nat.le_refl _) (Nat.le_refl _) (fun vv sz2 h2 hp => ?_)
      obtain ⟨rfl, rfl, q1, q2, q3⟩ := hp
      refine fv_iret C rfl d_D_halt_31 (Nat.le_refl _) (Nat.le_refl _) ?_
      exact ⟨by unfold sp_hltA; rw [if_pos hgood, hcl], by unfold sp_hltS; rw [if_pos hgood, hcl], by unfold sp_hltS; rw [if_pos hgood, hcl]; exact q1, by unfold sp_hltS; rw [if_pos hgood, hcl]; exact q2, q3⟩
  · have hbad : ¬ iv i 0 3 = true := by rw [hc4]; decide
    refine fv_bipush C d_D_halt_7 (n := 9) rfl kB_m2 ?_
    refine fv_iret C rfl d_D_halt_9 (Nat.zero_le _) (Nat.zero_le _) ?_
    exact ⟨by unfold sp_hltA; rw [if_neg hbad], by unfold sp_hltS; rw [if_neg hbad]; exact hsz, by unfold sp_hltS; rw [if_neg hbad]; exact hD, by unfold sp_hltS; rw [if_neg hbad]; exact hI, fs_rf _ _⟩
theorem ct_D_add {i id s p v : Int32} (hsz : sz = aE + S.1.length) (haE : b0 + 132 ≤ aE) (hBs : Bs ≤ b0) (hD : DK dA h b0 aE S) (hI : sp_I S) : fv_T l (fk D dA) Bs WA m_D_add [.ref b0, .int i, .int id, .int s, .int p, .int v] sz h 1 7 (fun vv sz' h' => vv = some (.int (sp_addA S i id s p v)) ∧ sz' = aE + (sp_addS S i id s p v).1.length ∧ DK dA h' b0 aE (sp_addS S i id s p v) ∧ sp_I (sp_addS S i id s p v) ∧ fs h h' (SD b0 aE)) := by
  obtain ⟨evs, en, hPb, hev, hen⟩ := hD.2.1
  refine fv_of (L := [_, _, _, _, _, _]) (by decide +kernel) rfl (Nat.le_of_ble_eq_true rfl) rfl ?_
  intro X hX C
  subst hX
  refine fv_iload_n C d_D_add_0 (n := 1) rfl (i := 1) rfl rfl ?_
  refine fv_callS_r C (ml_D_32 D dA) sm_D_isInstrument ct_D_isInstrument d_D_add_1 (n := 4) rfl rfl rfl rfl (Nat.le_of_ble_eq_true rfl) (Nat.le_of_ble_eq_true rfl) (Nat.le_of_ble_eq_true rfl) (Nat.zero_le _) (Nat.zero_le _) ?_
  refine fv_ifB_eq C d_D_add_4 (tgt := 29) rfl (n := 7) rfl (fun hc4 => ?_) (fun hc4 => ?_)
  · have hbad : ¬ (iv i 0 3 && iv id 1 1000000 && iv s 0 1 && iv v 1 1000000 && sp_pv p) = true := by simp [hc4]
    refine fv_bipush C d_D_add_29 (n := 31) rfl kB_m2 ?_
    refine fv_iret C rfl d_D_add_31 (Nat.zero_le _) (Nat.zero_le _) ?_
    exact ⟨by unfold sp_addA; rw [if_neg hbad], by unfold sp_addS; rw [if_neg hbad]; exact hsz, by unfold sp_addS; rw [if_neg hbad]; exact hD, by unfold sp_addS; rw [if_neg hbad]; exact hI, fs_rf _ _⟩
  · refine fv_iload_n C d_D_add_7 (n := 8) rfl (i := 2) rfl rfl ?_
    refine fv_callS_r C (ml_D_36 D dA) sm_D_isCount ct_D_isCount d_D_add_8 (n := 11) rfl rfl rfl rfl (Nat.le_of_ble_eq_true rfl) (Nat.le_of_ble_eq_true rfl) (Nat.le_of_ble_eq_true rfl) (Nat.zero_le _) (Nat.zero_le _) ?_
    refine fv_ifB_eq C d_D_add_11 (tgt := 29) rfl (n := 14) rfl (fun hc11 => ?_) (fun hc11 => ?_)
    · have hbad : ¬ (iv i 0 3 && iv id 1 1000000 && iv s 0 1 && iv v 1 1000000 && sp_pv p) = true := by simp [hc11]
      refine fv_bipush C d_D_add_29 (n := 31) rfl kB_m2 ?_
      refine fv_iret C rfl d_D_add_31 (Nat.zero_le _) (Nat.zero_le _) ?_
      exact ⟨by unfold sp_addA; rw [if_neg hbad], by unfold sp_addS; rw [if_neg hbad]; exact hsz, by unfold sp_addS; rw [if_neg hbad]; exact hD, by unfold sp_addS; rw [if_neg hbad]; exact hI, fs_rf _ _⟩
    · refine fv_iload_n C d_D_add_14 (n := 15) rfl (i := 3) rfl rfl ?_
      refine fv_callS_r C (ml_D_39 D dA) sm_D_isSide ct_D_isSide d_D_add_15 (n := 18) rfl rfl rfl rfl (Nat.le_of_ble_eq_true rfl) (Nat.le_of_ble_eq_true rfl) (Nat.le_of_ble_eq_true rfl) (Nat.zero_le _) (Nat.zero_le _) ?_
      refine fv_ifB_eq C d_D_add_18 (tgt := 29) rfl (n := 21) rfl (fun hc18 => ?_) (fun hc18 => ?_)
      · have hbad : ¬ (iv i 0 3 && iv id 1 1000000 && iv s 0 1 && iv v 1 1000000 && sp_pv p) = true := by simp [hc18]
        refine fv_bipush C d_D_add_29 (n := 31) rfl kB_m2 ?_
        refine fv_iret C rfl d_D_add_31 (Nat.zero_le _) (Nat.zero_le _) ?_
        exact ⟨by unfold sp_addA; rw [if_neg hbad], by unfold sp_addS; rw [if_neg hbad]; exact hsz, by unfold sp_addS; rw [if_neg hbad]; exact hD, by unfold sp_addS; rw [if_neg hbad]; exact hI, fs_rf _ _⟩
      · refine fv_iload C d_D_add_21 (n := 23) rfl rfl ?_
        refine fv_callS_r C (ml_D_36 D dA) sm_D_isCount ct_D_isCount d_D_add_23 (n := 26) rfl rfl rfl rfl (Nat.le_of_ble_eq_true rfl) (Nat.le_of_ble_eq_true rfl) (Nat.le_of_ble_eq_true rfl) (Nat.zero_le _) (Nat.zero_le _) ?_
        refine fv_ifB_ne C d_D_add_26 (tgt := 32) rfl (n := 29) rfl (fun hc26 => ?_) (fun hc26 => ?_)
        · refine fv_iload C d_D_add_32 (n := 34) rfl rfl ?_
          refine fv_ldc C d_D_add_34 (n := 36) rfl kc_D_42 ?_
          refine fv_icmp_lt C d_D_add_36 (tgt := 46) rfl (n := 39) rfl (fun hc36 => ?_) (fun hc36 => ?_)
          · have hpv : sp_pv p = false := decide_eq_false (fun q => absurd hc36 (Int32.not_lt.mpr q.1))
            have hbad : ¬ (iv i 0 3 && iv id 1 1000000 && iv s 0 1 && iv v 1 1000000 && sp_pv p) = true := by simp [hpv]
            refine fv_bipush C d_D_add_46 (n := 48) rfl kB_m2 ?_
            refine fv_iret C rfl d_D_add_48 (Nat.zero_le _) (Nat.zero_le _) ?_
            exact ⟨by unfold sp_addA; rw [if_neg hbad], by unfold sp_addS; rw [if_neg hbad]; exact hsz, by unfold sp_addS; rw [if_neg hbad]; exact hD, by unfold sp_addS; rw [if_neg hbad]; exact hI, fs_rf _ _⟩
          · refine fv_iload C d_D_add_39 (n := 41) rfl rfl ?_
            refine fv_ldc C d_D_add_41 (n := 43) rfl kc_D_43 ?_
            refine fv_icmp_le C d_D_add_43 (tgt := 49) rfl (n := 46) rfl (fun hc43 => ?_) (fun hc43 => ?_)
            · have hpv : sp_pv p = true := decide_eq_true ⟨Int32.not_lt.mp hc36, hc43⟩
              have hgood : (iv i 0 3 && iv id 1 1000000 && iv s 0 1 && iv v 1 1000000 && sp_pv p) = true := by simp [hc4, hc11, hc18, hc26, hpv]
              obtain ⟨k, -, hk, rfl⟩ := iv_of (by decide) (by decide) hc4
              have hcl : (nI k).toNatClampNeg = k := nI_clamp (by omega)
              obtain ⟨s2, -, hs2, rfl⟩ := iv_of (by decide) (by decide) hc18
              have hcl2 : (nI s2).toNatClampNeg = s2 := nI_clamp (by omega)
              have hvp := iv_pos hc26
              refine fv_aload_n C d_D_add_49 (n := 50) rfl (i := 0) rfl rfl ?_
              refine fv_get C (fl_D_24 D dA) d_D_add_50 (n := 53) rfl hD.1.1 rfl ?_
              refine fv_iconst C d_D_add_53 (n := 54) rfl kI_0 ?_
              refine fv_iload_n C d_D_add_54 (n := 55) rfl (i := 1) rfl rfl ?_
              refine fv_iload_n C d_D_add_55 (n := 56) rfl (i := 2) rfl rfl ?_
              refine fv_iload_n C d_D_add_56 (n := 57) rfl (i := 3) rfl rfl ?_
              refine fv_iload C d_D_add_57 (n := 59) rfl rfl ?_
              refine fv_iload C d_D_add_59 (n := 61) rfl rfl ?_
              refine fv_callV C (ml_D_44 D dA) im_P_offer se_P_offer hPb.1 rfl (ct_P_offerD (so := 0) (s := s2) (pr := p) (v := v) (by decide) (by omega) (by omega) (fun q => absurd q (by decide)) (fun _ => hvp) hsz haE hBs hD hI) d_D_add_61 (n := 64) rfl rfl rfl rfl (Nat.le_of_ble_eq_true rfl) (Nat.le_of_ble_eq_true rfl) (Nat.le_of_ble_eq_true rfl) (Nat.le_refl _) (Nat.le_refl _) (fun vv sz2 h2 hp => ?_)
              obtain ⟨rfl, rfl, q1, q2, q3⟩ := hp
              refine fv_iret C rfl d_D_add_64 (Nat.le_refl _) (Nat.le_refl _) ?_
              exact ⟨by unfold sp_addA; rw [if_pos hgood, hcl], by unfold sp_addS; rw [if_pos hgood, hcl, hcl2], by unfold sp_addS; rw [if_pos hgood, hcl, hcl2]; exact q1, by unfold sp_addS; rw [if_pos hgood, hcl, hcl2]; exact q2, q3⟩
            · have hpv : sp_pv p = false := decide_eq_false (fun q => hc43 q.2)
              have hbad : ¬ (iv i 0 3 && iv id 1 1000000 && iv s 0 1 && iv v 1 1000000 && sp_pv p) = true := by simp [hpv]
              refine fv_bipush C d_D_add_46 (n := 48) rfl kB_m2 ?_
              refine fv_iret C rfl d_D_add_48 (Nat.zero_le _) (Nat.zero_le _) ?_
              exact ⟨by unfold sp_addA; rw [if_neg hbad], by unfold sp_addS; rw [if_neg hbad]; exact hsz, by unfold sp_addS; rw [if_neg hbad]; exact hD, by unfold sp_addS; rw [if_neg hbad]; exact hI, fs_rf _ _⟩
        · have hbad : ¬ (iv i 0 3 && iv id 1 1000000 && iv s 0 1 && iv v 1 1000000 && sp_pv p) = true := by simp [hc26]
          refine fv_bipush C d_D_add_29 (n := 31) rfl kB_m2 ?_
          refine fv_iret C rfl d_D_add_31 (Nat.zero_le _) (Nat.zero_le _) ?_
          exact ⟨by unfold sp_addA; rw [if_neg hbad], by unfold sp_addS; rw [if_neg hbad]; exact hsz, by unfold sp_addS; rw [if_neg hbad]; exact hD, by unfold sp_addS; rw [if_neg hbad]; exact hI, fs_rf _ _⟩
def sp_pubA (S : sp_T) : Nat := if S.1.length = fe_E S.2.1 S.2.1.length then 0 else S.2.1.length + 1
def sp_pubS (S : sp_T) : sp_T := if S.1.length = fe_E S.2.1 S.2.1.length then S else (S.1, S.2.1 ++ [S.1.length], S.2.2)
theorem sp_pub_I (hI : sp_I S) : sp_I (sp_pubS S) := by
  unfold sp_pubS
  split
  · exact hI
  · rename_i hc
    obtain ⟨g1, g2, g3, g4, g5⟩ := hI
    have hl : (S.2.1 ++ [S.1.length]).length = S.2.1.length + 1 := by simp
    refine ⟨g1, g2, ⟨fun p hp => ?_, ?_, ?_, g3.2.2.2⟩, fun r hr => rc_I_ends (g4 r hr), fun k q hq => ?_⟩
    · have hp : p < (S.2.1 ++ [S.1.length]).length := hp
      rw [hl] at hp
      show fe_E (S.2.1 ++ [S.1.length]) p < fe_E (S.2.1 ++ [S.1.length]) (p + 1) ∧ fe_E (S.2.1 ++ [S.1.length]) (p + 1) ≤ S.1.length
      by_cases c : p = S.2.1.length
      · subst c
        rw [fe_E_new, fe_E_app (Nat.le_refl _)]
        have := g3.2.1
        exact ⟨by omega, Nat.le_refl _⟩
      · rw [fe_E_app (by omega), fe_E_app (by omega)]
        exact g3.1 p (by omega)
    · show fe_E (S.2.1 ++ [S.1.length]) (S.2.1 ++ [S.1.length]).length ≤ S.1.length
      rw [hl, fe_E_new]
      exact Nat.le_refl _
    · show S.1.length ≤ fe_E (S.2.1 ++ [S.1.length]) (S.2.1 ++ [S.1.length]).length + 5
      rw [hl, fe_E_new]
      omega
    · obtain ⟨a1, a2, a3⟩ := g5 k q hq
      refine ⟨a1, a2, ?_⟩
      show q.2.2 ≤ (S.2.1 ++ [S.1.length]).length
      rw [hl]
      omega
theorem ct_D_publish  (haE : b0 + 132 ≤ aE) (hBs : Bs ≤ b0) (hD : DK dA h b0 aE S) (hI : sp_I S) : fv_T l (fk D dA) Bs WA m_D_publish [.ref b0] sz h 0 0 (fp_i sz (fun r h' => r = nI (sp_pubA S) ∧ DK dA h' b0 aE (sp_pubS S) ∧ fs h h' (SD b0 aE))) := by
  obtain ⟨evs, en, hPb, hev, hen⟩ := hD.2.1
  refine fv_of (L := [_]) (by decide +kernel) rfl (Nat.le_of_ble_eq_true rfl) rfl ?_
  intro X hX C
  subst hX
  refine fv_aload_n C d_D_publish_0 (n := 1) rfl (i := 0) rfl rfl ?_
  refine fv_get C (fl_D_24 D dA) d_D_publish_1 (n := 4) rfl hD.1.1 rfl ?_
  refine fv_callV_i C (ml_D_48 D dA) im_P_closePacket se_P_closePacket hPb.1 rfl (ct_P_closePacket (a := b0 + 3) (by omega) hI.2.2.1 hD.2.1) d_D_publish_4 (n := 7) rfl rfl rfl rfl (Nat.le_of_ble_eq_true rfl) (Nat.le_of_ble_eq_true rfl) (Nat.le_of_ble_eq_true rfl) (Nat.le_refl _) (Nat.le_refl _) (fun r0 h1 hp => ?_)
  refine fv_iret C rfl d_D_publish_7 (Nat.le_refl _) (Nat.le_refl _) ?_
  obtain ⟨h1a, h2, h3, h4, h5, h6⟩ := hD
  rcases hp with ⟨c, rfl, rfl⟩ | ⟨c, rfl, q1, q2⟩
  · exact ⟨_, rfl, rfl, by unfold sp_pubA; rw [if_pos c], by unfold sp_pubS; rw [if_pos c]; exact ⟨h1a, h2, h3, h4, h5, h6⟩, fs_rf _ _⟩
  · refine ⟨_, rfl, rfl, by unfold sp_pubA; rw [if_neg c], ?_, q2.mono (fun x hx => by unfold SD; omega)⟩
    unfold sp_pubS
    rw [if_neg c]
    exact ⟨h1a.fs q2 ⟨by omega, by omega, by omega⟩, q1, fun i hi => (h3 i hi).fs q2 ⟨by omega, by omega, by omega, by omega⟩, fun k hk => (h4 k hk).fs q2 (fun x a1 a2 => by omega), fun r hr => by obtain ⟨fx, a1, a2⟩ := h5 r hr; exact ⟨fx, a1.fs q2 (fun x b1 b2 => by omega), a2⟩, h6.fs q2 (fun x hx => by omega)⟩
theorem ct_D_packetByte {x y : Int32} (haE : b0 + 132 ≤ aE) (hBs : Bs ≤ b0) (hD : DK dA h b0 aE S) (hI : sp_I S) : fv_T l (fk D dA) Bs WA m_D_packetByte [.ref b0, .int x, .int y] sz h 0 0 (fp_r (.int (fe_pb S.1 S.2.1 x y)) sz h) := by
  obtain ⟨evs, en, hPb, hev, hen⟩ := hD.2.1
  refine fv_of (L := [_, _, _]) (by decide +kernel) rfl (Nat.le_of_ble_eq_true rfl) rfl ?_
  intro X hX C
  subst hX
  refine fv_aload_n C d_D_packetByte_0 (n := 1) rfl (i := 0) rfl rfl ?_
  refine fv_get C (fl_D_24 D dA) d_D_packetByte_1 (n := 4) rfl hD.1.1 rfl ?_
  refine fv_iload_n C d_D_packetByte_4 (n := 5) rfl (i := 1) rfl rfl ?_
  refine fv_iload_n C d_D_packetByte_5 (n := 6) rfl (i := 2) rfl rfl ?_
  refine fv_callV_r C (ml_D_52 D dA) im_P_byteOfPacket se_P_byteOfPacket hPb.1 rfl (ct_P_byteOfPacket hD.2.2.2.2.2 hI.2.2.1 hD.2.1) d_D_packetByte_6 (n := 9) rfl rfl rfl rfl (Nat.le_of_ble_eq_true rfl) (Nat.le_of_ble_eq_true rfl) (Nat.le_of_ble_eq_true rfl) (Nat.le_refl _) (Nat.le_refl _) ?_
  refine fv_iret C rfl d_D_packetByte_9 (Nat.le_refl _) (Nat.le_refl _) ?_
  exact ⟨rfl, rfl, rfl⟩
end DK1
