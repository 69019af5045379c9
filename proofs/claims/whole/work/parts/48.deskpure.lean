/-! the whole as a value: log, packets' ends, snapshots (instrument, events, covers), receivers, readers' views; and what each call answers and makes of it -/
abbrev sp_T : Type := List bo_E × List Nat × List (Nat × Nat × Nat) × (Nat → rc_T) × (Nat → Option (Nat → Int32))
abbrev sp_sh (S : sp_T) : List (Nat × Nat × Nat) := S.2.2.1
abbrev sp_R (S : sp_T) : Nat → rc_T := S.2.2.2.1
abbrev sp_fx (S : sp_T) : Nat → Option (Nat → Int32) := S.2.2.2.2
def sp_len (S : sp_T) (i : Nat) : Nat := (fe_li S.1 i).length
def sp_log (S : sp_T) (e : bo_E) : sp_T := (S.1 ++ [e], S.2)
def sp_setR (S : sp_T) (r : Nat) (R : rc_T) : sp_T := (S.1, S.2.1, sp_sh S, va_up (sp_R S) r R, sp_fx S)
def sp_pv (p : Int32) : Bool := decide (-1000000 ≤ p ∧ p ≤ 1000000)
/-- an event of sort so is offered -/
def sp_full (S : sp_T) : Prop := fe_E S.2.1 S.2.1.length + 5 ≤ S.1.length ∨ 400 ≤ S.1.length
def sp_oa (S : sp_T) (so ins : Nat) (id v : Int32) : Int32 := if bo_ok (fe_bk S.1 ins (sp_len S ins)) so id v = true then (if fe_E S.2.1 S.2.1.length + 5 ≤ S.1.length ∨ 400 ≤ S.1.length then -4 else nI (sp_len S ins + 1)) else -3
def sp_os (S : sp_T) (so ins : Nat) (id : Int32) (s : Nat) (pr v : Int32) : sp_T := if bo_ok (fe_bk S.1 ins (sp_len S ins)) so id v = true ∧ ¬ (fe_E S.2.1 S.2.1.length + 5 ≤ S.1.length ∨ 400 ≤ S.1.length) then sp_log S (so, ins, sp_len S ins + 1, id, s, pr, v) else S
def sp_va (i id s p v : Int32) : Bool := iv i 0 3 && iv id 1 1000000 && iv s 0 1 && iv v 1 1000000 && sp_pv p
def sp_n (S : sp_T) (r i : Int32) : Nat := if r = -1 then sp_len S i.toNatClampNeg else rc_ap (sp_R S r.toNatClampNeg) i.toNatClampNeg
def sp_b (S : sp_T) (r i : Int32) : bo_B := fe_bk S.1 i.toNatClampNeg (sp_n S r i)
/-- what holds of it -/
def sp_I (S : sp_T) : Prop := fe_ok S.1 ∧ ev_sm S.1 ∧ fe_ends S.1 S.2.1 ∧ (∀ r, r < 2 → rc_I S.1 S.2.1 (sp_R S r)) ∧ ∀ (k : Nat) (q : Nat × Nat × Nat), (sp_sh S)[k]? = some q → q.1 = k % 4 ∧ q.2.1 ≤ sp_len S q.1 ∧ q.2.2 ≤ S.2.1.length
theorem fe_ok_sm {log : List bo_E} (h : fe_ok log) (hl : log.length ≤ 400) : ev_sm log := ⟨hl, fun k ev hk => Nat.le_trans (fe_num_at h hk).2.2 (Nat.le_trans (fe_li_len log _) hl)⟩
theorem fe_li_mono (log : List bo_E) (e : bo_E) (i : Nat) : (fe_li log i).length ≤ (fe_li (log ++ [e]) i).length := by
  rw [fe_li_app]
  split
  · rw [List.length_append]; omega
  · exact Nat.le_refl _
theorem tr_I_app {log : List bo_E} {e : bo_E} {i : Nat} {t : tr_T} (h : tr_I log i t) : tr_I (log ++ [e]) i t := by
  have hm := fe_li_mono log e i
  obtain ⟨h1, h2, h3, h4⟩ := h
  exact ⟨Nat.le_trans h1 hm, h2, fun n hn => ⟨(h3 n hn).1, Nat.le_trans (h3 n hn).2 hm⟩, h4⟩
theorem rc_I_app {log : List bo_E} {ends : List Nat} {R : rc_T} {e : bo_E} (h : rc_I log ends R) : rc_I (log ++ [e]) ends R := by
  obtain ⟨⟨h1, h2, h3, h4, h5, h6⟩, h7⟩ := h
  exact ⟨⟨h1, h2, h3, h4, fun i hi => tr_I_app (h5 i hi), h6⟩, h7⟩
theorem rc_I_ends {log : List bo_E} {ends : List Nat} {R : rc_T} {x : Nat} (h : rc_I log ends R) : rc_I log (ends ++ [x]) R := by
  obtain ⟨⟨h1, h2, h3, h4, h5, h6⟩, h7⟩ := h
  have hl : (ends ++ [x]).length = ends.length + 1 := by simp
  exact ⟨⟨h1, by rw [hl]; omega, by rw [hl]; omega, h4, h5, h6⟩, h7⟩
theorem ev_n_app {log : List bo_E} {e : bo_E} {k : Nat} (hk : k < log.length) : ev_n (log ++ [e]) k = ev_n log k := by
  unfold ev_n
  rw [List.getD_eq_getElem?_getD, List.getD_eq_getElem?_getD, List.getElem?_append_left hk]
theorem TS.app {dA : Nat → ClassId} {h : fv_H} {ar aE : Nat} {log : List bo_E} {i n : Nat} {hl : List Nat} {nd : Nat} {e : bo_E} (q : TS dA h ar aE log i n hl nd) (hn : n ≤ (fe_li log i).length) : TS dA h ar aE (log ++ [e]) i n hl nd := by
  obtain ⟨hs, sv, ⟨hd, h1, h2, h3, h4⟩, h5, h6, h7⟩ := q
  have hlt : ∀ k ∈ hs, k < log.length := fun k hk => by
    obtain ⟨ev, hev, -⟩ := h4 k hk
    exact (List.getElem?_eq_some_iff.mp hev).1
  refine ⟨hs, sv, ⟨hd, h1, h2, h3, fun k hk => ?_⟩, ?_, ?_, ?_⟩
  · obtain ⟨ev, hev, hei⟩ := h4 k hk
    exact ⟨ev, by rw [List.getElem?_append_left (hlt k hk)]; exact hev, hei⟩
  · rw [fe_bk_app hn]
    exact h5
  · rw [fe_bk_app hn]
    exact h6
  · have e1 : hs.map (ev_n (log ++ [e])) = hs.map (ev_n log) := List.map_congr_left (fun k hk => ev_n_app (hlt k hk))
    rw [e1]
    exact h7
theorem VC.app {dA : Nat → ClassId} {h : fv_H} {ar pub aE : Nat} {log : List bo_E} {R : rc_T} {fx : Nat → Int32} {e : bo_E} (q : VC dA h ar pub aE log R fx) (hW : rc_W log R) : VC dA h ar pub aE (log ++ [e]) R fx := by
  obtain ⟨kp, h1, h2, h3, h4⟩ := q
  exact ⟨kp, h1, h2, fun i hi => (h3 i hi).app (hW i hi).1, h4⟩
/-! the desk's cells -/
def DKo (dA : Nat → ClassId) (h : fv_H) (b0 : Nat) : Prop := h b0 = some (.inr (0, [.ref (b0 + 3), .ref (b0 + 1), .ref (b0 + 2)])) ∧ h (b0 + 1) = some (.inl (dA 4, 2, .inr (.inr (.inr (.inr (fun j => if j < 2 then some (b0 + 64 + 34 * j + 3) else none)))))) ∧ h (b0 + 2) = some (.inl (dA 5, 2, .inr (.inr (.inr (.inr (fun j => if j < 2 then some (b0 + 64 + 34 * j) else none))))))
def SNK (dA : Nat → ClassId) (h : fv_H) (a k : Nat) (log : List bo_E) (sh : List (Nat × Nat × Nat)) : Prop := ∃ (si cov : Nat) (b : bo_B) (n : Nat), SNr dA h a si cov ∧ BL dA h (a + 1) b n ∧ ∀ (m : Nat) (q : Nat × Nat × Nat), sh[m]? = some q → (m + 1) % 8 = k → sh.length ≤ m + 8 → si = q.1 ∧ cov = q.2.2 ∧ n = q.2.1 ∧ b = fe_bk log q.1 q.2.1
def FXO (fx : Nat → Int32) (o : Option (Nat → Int32)) : Prop := ∀ c, c < 19 → fx c = match o with | none => -2000000 | some g => g c
def DK (dA : Nat → ClassId) (h : fv_H) (b0 aE : Nat) (S : sp_T) : Prop := DKo dA h b0 ∧ PB dA h (b0 + 3) aE S.1 S.2.1 (sp_sh S).length ∧ (∀ i, i < 4 → BL dA h (b0 + 8 + 4 * i) (fe_bk S.1 i (sp_len S i)) (sp_len S i)) ∧ (∀ k, k < 8 → SNK dA h (b0 + 24 + 5 * k) k S.1 (sp_sh S)) ∧ (∀ r, r < 2 → ∃ fx, VC dA h (b0 + 64 + 34 * r) (b0 + 3) aE S.1 (sp_R S r) fx ∧ FXO fx (sp_fx S r)) ∧ EVS h aE S.1
theorem DKo.fs {dA : Nat → ClassId} {h h' : fv_H} {b0 : Nat} {S : Nat → Prop} (q : DKo dA h b0) (hf : fs h h' S) (hd : ¬ S b0 ∧ ¬ S (b0 + 1) ∧ ¬ S (b0 + 2)) : DKo dA h' b0 := ⟨(hf _ hd.1).trans q.1, (hf _ hd.2.1).trans q.2.1, (hf _ hd.2.2).trans q.2.2⟩
theorem SNK.fs {dA : Nat → ClassId} {h h' : fv_H} {a k : Nat} {log : List bo_E} {sh : List (Nat × Nat × Nat)} {S : Nat → Prop} (q : SNK dA h a k log sh) (hf : fs h h' S) (hd : ∀ x, a ≤ x → x < a + 5 → ¬ S x) : SNK dA h' a k log sh := by
  obtain ⟨si, cov, b, n, h1, h2, h3⟩ := q
  exact ⟨si, cov, b, n, h1.fs hf (hd _ (by omega) (by omega)), h2.fs hf ⟨hd _ (by omega) (by omega), hd _ (by omega) (by omega), hd _ (by omega) (by omega), hd _ (by omega) (by omega)⟩, h3⟩
/-- the reference's steps leave the desk as it is -/
theorem DK.fs {dA : Nat → ClassId} {h h' : fv_H} {b0 aE : Nat} {S : sp_T} {Z : Nat → Prop} (q : DK dA h b0 aE S) (hf : fs h h' Z) (hd : ∀ x, (b0 ≤ x ∧ x < b0 + 132) ∨ aE ≤ x → ¬ Z x) : DK dA h' b0 aE S := by
  obtain ⟨h1, h2, h3, h4, h5, h6⟩ := q
  refine ⟨h1.fs hf ⟨hd _ (by omega), hd _ (by omega), hd _ (by omega)⟩, h2.fs hf ⟨hd _ (by omega), hd _ (by omega), hd _ (by omega), hd _ (by omega), hd _ (by omega)⟩, fun i hi => (h3 i hi).fs hf ⟨hd _ (by omega), hd _ (by omega), hd _ (by omega), hd _ (by omega)⟩, fun k hk => (h4 k hk).fs hf (fun x a1 a2 => hd x (by omega)), fun r hr => ?_, h6.fs hf (fun x hx => hd x (by omega))⟩
  obtain ⟨fx, a1, a2⟩ := h5 r hr
  exact ⟨fx, a1.fs hf (fun x b1 b2 => hd x (by omega)), a2⟩
/-- one receiver has changed -/
theorem dk_setR {dA : Nat → ClassId} {h h' : fv_H} {b0 aE : Nat} {S : sp_T} {r : Nat} {R : rc_T} (hr : r < 2) (haE : b0 + 132 ≤ aE) (q : DK dA h b0 aE S) (hf : fs h h' (fun x => b0 + 64 + 34 * r ≤ x ∧ x < b0 + 64 + 34 * r + 34)) (hV : ∀ fx, VC dA h (b0 + 64 + 34 * r) (b0 + 3) aE S.1 (sp_R S r) fx → VC dA h' (b0 + 64 + 34 * r) (b0 + 3) aE S.1 R fx) : DK dA h' b0 aE (sp_setR S r R) := by
  obtain ⟨h1, h2, h3, h4, h5, h6⟩ := q
  refine ⟨h1.fs hf ⟨by omega, by omega, by omega⟩, h2.fs hf ⟨by omega, by omega, by omega, by omega, by omega⟩, fun i hi => (h3 i hi).fs hf ⟨by omega, by omega, by omega, by omega⟩, fun k hk => (h4 k hk).fs hf (fun x a1 a2 => by omega), fun j hj => ?_, h6.fs hf (fun x hx => by omega)⟩
  obtain ⟨fx, a1, a2⟩ := h5 j hj
  by_cases c : j = r
  · subst c
    refine ⟨fx, ?_, a2⟩
    have e : sp_R (sp_setR S j R) j = R := va_up_self _ _ _
    rw [e]
    exact hV fx a1
  · refine ⟨fx, ?_, a2⟩
    have e : sp_R (sp_setR S r R) j = sp_R S j := va_up_ne _ _ c
    rw [e]
    exact a1.fs hf (fun x b1 b2 => by omega)
theorem sp_I_setR {S : sp_T} {r : Nat} {R : rc_T} (h : sp_I S) (hR : rc_I S.1 S.2.1 R) : sp_I (sp_setR S r R) := by
  obtain ⟨h1, h2, h3, h4, h5⟩ := h
  refine ⟨h1, h2, h3, fun j hj => ?_, h5⟩
  by_cases c : j = r
  · subst c
    have e : sp_R (sp_setR S j R) j = R := va_up_self _ _ _
    rw [e]
    exact hR
  · have e : sp_R (sp_setR S r R) j = sp_R S j := va_up_ne _ _ c
    rw [e]
    exact h4 j hj
/-- an event has come -/
theorem sp_len_log (S : sp_T) (e : bo_E) (i : Nat) : sp_len (sp_log S e) i = if e.2.1 = i then sp_len S i + 1 else sp_len S i := by
  unfold sp_len sp_log
  rw [fe_li_app]
  split
  · rw [List.length_append]; rfl
  · rfl
theorem sp_I_log {S : sp_T} {e : bo_E} (h : sp_I S) (h1 : e.2.2.1 = sp_len S e.2.1 + 1) (h2 : bo_ewf e) (h3 : bo_ok (fe_bk S.1 e.2.1 (sp_len S e.2.1)) e.1 e.2.2.2.1 e.2.2.2.2.2.2 = true) (h4 : S.1.length < fe_E S.2.1 S.2.1.length + 5) (h5 : S.1.length < 400) : sp_I (sp_log S e) := by
  obtain ⟨g1, g2, g3, g4, g5⟩ := h
  have hok := fe_ok_app g1 h1 h2 h3
  have hl : (S.1 ++ [e]).length = S.1.length + 1 := by simp
  refine ⟨hok, fe_ok_sm hok (by show (S.1 ++ [e]).length ≤ 400; rw [hl]; omega), ⟨fun p hp => ?_, ?_, ?_, ?_⟩, fun r hr => rc_I_app (g4 r hr), fun k q hq => ?_⟩
  · have := g3.1 p hp
    show fe_E S.2.1 p < fe_E S.2.1 (p + 1) ∧ fe_E S.2.1 (p + 1) ≤ (S.1 ++ [e]).length
    rw [hl]
    exact ⟨this.1, by omega⟩
  · have := g3.2.1
    show _ ≤ (S.1 ++ [e]).length
    rw [hl]
    exact Nat.le_succ_of_le this
  · show (S.1 ++ [e]).length ≤ _
    rw [hl]
    show S.1.length + 1 ≤ fe_E S.2.1 S.2.1.length + 5
    omega
  · show (S.1 ++ [e]).length ≤ _
    rw [hl]
    omega
  · obtain ⟨a1, a2, a3⟩ := g5 k q hq
    refine ⟨a1, ?_, a3⟩
    rw [sp_len_log]
    split <;> omega
