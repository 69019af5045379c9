/-! ends of contracts, and calls by them -/
def fp_r (v0 : Value) (sz0 : Nat) (h0 : fv_H) : Option Value → Nat → fv_H → Prop := fun v sz' h' => v = some v0 ∧ sz' = sz0 ∧ h' = h0
def fp_v (sz0 : Nat) (P : fv_H → Prop) : Option Value → Nat → fv_H → Prop := fun v sz' h' => v = none ∧ sz' = sz0 ∧ P h'
def fp_i (sz0 : Nat) (P : Int32 → fv_H → Prop) : Option Value → Nat → fv_H → Prop := fun v sz' h' => ∃ r : Int32, v = some (.int r) ∧ sz' = sz0 ∧ P r h'
def fp_a (sz0 : Nat) (P : Option Nat → fv_H → Prop) : Option Value → Nat → fv_H → Prop := fun v sz' h' => ∃ r : Option Nat, v = some (va_rf r) ∧ sz' = sz0 ∧ P r h'
/-- nothing but the n cells from a on has changed -/
def fr (h h' : fv_H) (a n : Nat) : Prop := ∀ x : Nat, ¬ (a ≤ x ∧ x < a + n) → h' x = h x
theorem fr_rf (h : fv_H) (a n : Nat) : fr h h a n := fun _ _ => rfl
theorem fr_up {h : fv_H} {a n x : Nat} {e : Option va_E} (h1 : a ≤ x) (h2 : x < a + n) : fr h (va_up h x e) a n := fun y hy => va_up_ne _ _ (fun q => hy (by omega))
theorem fr.tr {h h1 h2 : fv_H} {a n : Nat} (q1 : fr h h1 a n) (q2 : fr h1 h2 a n) : fr h h2 a n := fun x hx => (q2 x hx).trans (q1 x hx)
theorem fr.wide {h h' : fv_H} {a n b m : Nat} (q : fr h h' a n) (h1 : b ≤ a) (h2 : a + n ≤ b + m) : fr h h' b m := fun x hx => q x (fun z => hx (by omega))
theorem fr.at {h h1 : fv_H} {a n x : Nat} (q : fr h h1 a n) (hx : x < a ∨ a + n ≤ x) : h1 x = h x := q x (by omega)
section FC
variable {K : fv_K} {Bs : Nat} {WA : List Cond} {X : fv_X} {M : fv_M} {mc ms nL : Nat} {Q : State → Prop} {pc n : Nat} {L L' : List (Option Value)} {st : List Value} {sz : Nat} {h : fv_H} {cells slots : Nat}
theorem fv_callV_r (C : fv_C K WA X M mc ms) {idx np : Nat} {M' : fv_M} {b : Nat} {As rest : List Value} {v0 : Value} (Lk : fv_ML K WA M.1.cls idx M' np) (hw1 : Cond.instanceMethod M'.1 ∈ WA) (hw2 : Cond.selects M'.1.cls M'.1 M'.1 ∈ WA) {ci : Nat} {fs : List Value} {r : u_T × Nat} (hb : h b = some (.inr (ci, fs))) (hc : K.2.1[ci]? = some (M'.1.cls, r)) (hM : fv_T X.2.1 K Bs WA M' (.ref b :: As) sz h 0 0 (fp_r v0 sz h)) (hd : decode M.2.1 pc = .ok (.invokevirtual idx, 3)) (hn : pc + 3 = n) (hm : nL = M.2.2.1) (hnp : As.length = np) (hst : st = (As.reverse ++ .ref b :: rest)) (hW : (rest.map fun v => v.category).sum ≤ 8) (hfr : M'.2.2.2.2.1 + 1 ≤ M.2.2.2.2.1) (hlo : 8 + (M'.2.2.1 + 11) + M'.2.2.2.2.2 ≤ M.2.2.2.2.2) (hcl : cells ≤ mc) (hsl : slots ≤ ms)
    (kk : fv_V K Bs X nL Q n L (v0 :: rest) sz h cells slots) : fv_V K Bs X nL Q pc L st sz h cells slots := by
  refine fv_callV C Lk hw1 hw2 hb hc hM hd hn hm hnp hst hW hfr hlo hcl hsl (fun v sz' h' hp => ?_)
  obtain ⟨rfl, rfl, rfl⟩ := hp
  exact kk
theorem fv_callV_i (C : fv_C K WA X M mc ms) {idx np : Nat} {M' : fv_M} {b : Nat} {As rest : List Value} {P : Int32 → fv_H → Prop} (Lk : fv_ML K WA M.1.cls idx M' np) (hw1 : Cond.instanceMethod M'.1 ∈ WA) (hw2 : Cond.selects M'.1.cls M'.1 M'.1 ∈ WA) {ci : Nat} {fs : List Value} {r : u_T × Nat} (hb : h b = some (.inr (ci, fs))) (hc : K.2.1[ci]? = some (M'.1.cls, r)) (hM : fv_T X.2.1 K Bs WA M' (.ref b :: As) sz h 0 0 (fp_i sz P)) (hd : decode M.2.1 pc = .ok (.invokevirtual idx, 3)) (hn : pc + 3 = n) (hm : nL = M.2.2.1) (hnp : As.length = np) (hst : st = (As.reverse ++ .ref b :: rest)) (hW : (rest.map fun v => v.category).sum ≤ 8) (hfr : M'.2.2.2.2.1 + 1 ≤ M.2.2.2.2.1) (hlo : 8 + (M'.2.2.1 + 11) + M'.2.2.2.2.2 ≤ M.2.2.2.2.2) (hcl : cells ≤ mc) (hsl : slots ≤ ms)
    (kk : ∀ (r0 : Int32) (h' : fv_H), P r0 h' → fv_V K Bs X nL Q n L (.int r0 :: rest) sz h' cells slots) : fv_V K Bs X nL Q pc L st sz h cells slots := by
  refine fv_callV C Lk hw1 hw2 hb hc hM hd hn hm hnp hst hW hfr hlo hcl hsl (fun v sz' h' hp => ?_)
  obtain ⟨r0, rfl, rfl, hp⟩ := hp
  exact kk r0 h' hp
theorem fv_callV_a (C : fv_C K WA X M mc ms) {idx np : Nat} {M' : fv_M} {b : Nat} {As rest : List Value} {P : Option Nat → fv_H → Prop} (Lk : fv_ML K WA M.1.cls idx M' np) (hw1 : Cond.instanceMethod M'.1 ∈ WA) (hw2 : Cond.selects M'.1.cls M'.1 M'.1 ∈ WA) {ci : Nat} {fs : List Value} {r : u_T × Nat} (hb : h b = some (.inr (ci, fs))) (hc : K.2.1[ci]? = some (M'.1.cls, r)) (hM : fv_T X.2.1 K Bs WA M' (.ref b :: As) sz h 0 0 (fp_a sz P)) (hd : decode M.2.1 pc = .ok (.invokevirtual idx, 3)) (hn : pc + 3 = n) (hm : nL = M.2.2.1) (hnp : As.length = np) (hst : st = (As.reverse ++ .ref b :: rest)) (hW : (rest.map fun v => v.category).sum ≤ 8) (hfr : M'.2.2.2.2.1 + 1 ≤ M.2.2.2.2.1) (hlo : 8 + (M'.2.2.1 + 11) + M'.2.2.2.2.2 ≤ M.2.2.2.2.2) (hcl : cells ≤ mc) (hsl : slots ≤ ms)
    (kk : ∀ (r0 : Option Nat) (h' : fv_H), P r0 h' → fv_V K Bs X nL Q n L (va_rf r0 :: rest) sz h' cells slots) : fv_V K Bs X nL Q pc L st sz h cells slots := by
  refine fv_callV C Lk hw1 hw2 hb hc hM hd hn hm hnp hst hW hfr hlo hcl hsl (fun v sz' h' hp => ?_)
  obtain ⟨r0, rfl, rfl, hp⟩ := hp
  exact kk r0 h' hp
theorem fv_callV_v (C : fv_C K WA X M mc ms) {idx np : Nat} {M' : fv_M} {b : Nat} {As rest : List Value} {P : fv_H → Prop} (Lk : fv_ML K WA M.1.cls idx M' np) (hw1 : Cond.instanceMethod M'.1 ∈ WA) (hw2 : Cond.selects M'.1.cls M'.1 M'.1 ∈ WA) {ci : Nat} {fs : List Value} {r : u_T × Nat} (hb : h b = some (.inr (ci, fs))) (hc : K.2.1[ci]? = some (M'.1.cls, r)) (hM : fv_T X.2.1 K Bs WA M' (.ref b :: As) sz h 0 0 (fp_v sz P)) (hd : decode M.2.1 pc = .ok (.invokevirtual idx, 3)) (hn : pc + 3 = n) (hm : nL = M.2.2.1) (hnp : As.length = np) (hst : st = (As.reverse ++ .ref b :: rest)) (hW : (rest.map fun v => v.category).sum ≤ 8) (hfr : M'.2.2.2.2.1 + 1 ≤ M.2.2.2.2.1) (hlo : 8 + (M'.2.2.1 + 11) + M'.2.2.2.2.2 ≤ M.2.2.2.2.2) (hcl : cells ≤ mc) (hsl : slots ≤ ms)
    (kk : ∀ h' : fv_H, P h' → fv_V K Bs X nL Q n L rest sz h' cells slots) : fv_V K Bs X nL Q pc L st sz h cells slots := by
  refine fv_callV C Lk hw1 hw2 hb hc hM hd hn hm hnp hst hW hfr hlo hcl hsl (fun v sz' h' hp => ?_)
  obtain ⟨rfl, rfl, hp⟩ := hp
  exact kk h' hp
theorem fv_callS_r (C : fv_C K WA X M mc ms) {idx np : Nat} {M' : fv_M}  {As rest : List Value} {v0 : Value} (Lk : fv_ML K WA M.1.cls idx M' np) (hw1 : Cond.static M'.1 ∈ WA) (hM : fv_T X.2.1 K Bs WA M' As sz h 0 0 (fp_r v0 sz h)) (hd : decode M.2.1 pc = .ok (.invokestatic idx, 3)) (hn : pc + 3 = n) (hm : nL = M.2.2.1) (hnp : As.length = np) (hst : st = (As.reverse ++ rest)) (hW : (rest.map fun v => v.category).sum ≤ 8) (hfr : M'.2.2.2.2.1 + 1 ≤ M.2.2.2.2.1) (hlo : 8 + (M'.2.2.1 + 11) + M'.2.2.2.2.2 ≤ M.2.2.2.2.2) (hcl : cells ≤ mc) (hsl : slots ≤ ms)
    (kk : fv_V K Bs X nL Q n L (v0 :: rest) sz h cells slots) : fv_V K Bs X nL Q pc L st sz h cells slots := by
  refine fv_callS C Lk hw1 hM hd hn hm hnp hst hW hfr hlo hcl hsl (fun v sz' h' hp => ?_)
  obtain ⟨rfl, rfl, rfl⟩ := hp
  exact kk
theorem fv_callS_i (C : fv_C K WA X M mc ms) {idx np : Nat} {M' : fv_M}  {As rest : List Value} {P : Int32 → fv_H → Prop} (Lk : fv_ML K WA M.1.cls idx M' np) (hw1 : Cond.static M'.1 ∈ WA) (hM : fv_T X.2.1 K Bs WA M' As sz h 0 0 (fp_i sz P)) (hd : decode M.2.1 pc = .ok (.invokestatic idx, 3)) (hn : pc + 3 = n) (hm : nL = M.2.2.1) (hnp : As.length = np) (hst : st = (As.reverse ++ rest)) (hW : (rest.map fun v => v.category).sum ≤ 8) (hfr : M'.2.2.2.2.1 + 1 ≤ M.2.2.2.2.1) (hlo : 8 + (M'.2.2.1 + 11) + M'.2.2.2.2.2 ≤ M.2.2.2.2.2) (hcl : cells ≤ mc) (hsl : slots ≤ ms)
    (kk : ∀ (r0 : Int32) (h' : fv_H), P r0 h' → fv_V K Bs X nL Q n L (.int r0 :: rest) sz h' cells slots) : fv_V K Bs X nL Q pc L st sz h cells slots := by
  refine fv_callS C Lk hw1 hM hd hn hm hnp hst hW hfr hlo hcl hsl (fun v sz' h' hp => ?_)
  obtain ⟨r0, rfl, rfl, hp⟩ := hp
  exact kk r0 h' hp
theorem fv_callS_a (C : fv_C K WA X M mc ms) {idx np : Nat} {M' : fv_M}  {As rest : List Value} {P : Option Nat → fv_H → Prop} (Lk : fv_ML K WA M.1.cls idx M' np) (hw1 : Cond.static M'.1 ∈ WA) (hM : fv_T X.2.1 K Bs WA M' As sz h 0 0 (fp_a sz P)) (hd : decode M.2.1 pc = .ok (.invokestatic idx, 3)) (hn : pc + 3 = n) (hm : nL = M.2.2.1) (hnp : As.length = np) (hst : st = (As.reverse ++ rest)) (hW : (rest.map fun v => v.category).sum ≤ 8) (hfr : M'.2.2.2.2.1 + 1 ≤ M.2.2.2.2.1) (hlo : 8 + (M'.2.2.1 + 11) + M'.2.2.2.2.2 ≤ M.2.2.2.2.2) (hcl : cells ≤ mc) (hsl : slots ≤ ms)
    (kk : ∀ (r0 : Option Nat) (h' : fv_H), P r0 h' → fv_V K Bs X nL Q n L (va_rf r0 :: rest) sz h' cells slots) : fv_V K Bs X nL Q pc L st sz h cells slots := by
  refine fv_callS C Lk hw1 hM hd hn hm hnp hst hW hfr hlo hcl hsl (fun v sz' h' hp => ?_)
  obtain ⟨r0, rfl, rfl, hp⟩ := hp
  exact kk r0 h' hp
theorem fv_callS_v (C : fv_C K WA X M mc ms) {idx np : Nat} {M' : fv_M}  {As rest : List Value} {P : fv_H → Prop} (Lk : fv_ML K WA M.1.cls idx M' np) (hw1 : Cond.static M'.1 ∈ WA) (hM : fv_T X.2.1 K Bs WA M' As sz h 0 0 (fp_v sz P)) (hd : decode M.2.1 pc = .ok (.invokestatic idx, 3)) (hn : pc + 3 = n) (hm : nL = M.2.2.1) (hnp : As.length = np) (hst : st = (As.reverse ++ rest)) (hW : (rest.map fun v => v.category).sum ≤ 8) (hfr : M'.2.2.2.2.1 + 1 ≤ M.2.2.2.2.1) (hlo : 8 + (M'.2.2.1 + 11) + M'.2.2.2.2.2 ≤ M.2.2.2.2.2) (hcl : cells ≤ mc) (hsl : slots ≤ ms)
    (kk : ∀ h' : fv_H, P h' → fv_V K Bs X nL Q n L rest sz h' cells slots) : fv_V K Bs X nL Q pc L st sz h cells slots := by
  refine fv_callS C Lk hw1 hM hd hn hm hnp hst hW hfr hlo hcl hsl (fun v sz' h' hp => ?_)
  obtain ⟨rfl, rfl, hp⟩ := hp
  exact kk h' hp
theorem fv_callI_v (C : fv_C K WA X M mc ms) {idx np : Nat} {M' : fv_M} {b : Nat} {As rest : List Value} {P : fv_H → Prop} (Lk : fv_ML K WA M.1.cls idx M' np) (hw1 : Cond.instanceMethod M'.1 ∈ WA) (hini : M'.1.name = "<init>") (hret : M'.2.2.2.1 = none) (hM : fv_T X.2.1 K Bs WA M' (.ref b :: As) sz h 0 0 (fp_v sz P)) (hd : decode M.2.1 pc = .ok (.invokespecial idx, 3)) (hn : pc + 3 = n) (hm : nL = M.2.2.1) (hnp : As.length = np) (hst : st = (As.reverse ++ .ref b :: rest)) (hW : (rest.map fun v => v.category).sum ≤ 8) (hfr : M'.2.2.2.2.1 + 1 ≤ M.2.2.2.2.1) (hlo : 8 + (M'.2.2.1 + 11) + M'.2.2.2.2.2 ≤ M.2.2.2.2.2) (hcl : cells ≤ mc) (hsl : slots ≤ ms)
    (kk : ∀ h' : fv_H, P h' → fv_V K Bs X nL Q n L rest sz h' cells slots) : fv_V K Bs X nL Q pc L st sz h cells slots := by
  refine fv_callI C Lk hw1 hini hret hM hd hn hm hnp hst hW hfr hlo hcl hsl (fun v sz' h' hp => ?_)
  obtain ⟨rfl, rfl, hp⟩ := hp
  exact kk h' hp
end FC
/-! a book's cells -/
def BK (dA : Nat → ClassId) (h : fv_H) (a : Nat) (ids pri siz : Nat → Int32) (buys tot : Nat) (hlt : Bool) (app : Nat) : Prop :=
  h a = some (.inr (1, [.ref (a + 1), .ref (a + 2), .ref (a + 3), .int (nI buys), .int (nI tot), .int (fv_b hlt), .int (nI app)])) ∧ h (a + 1) = some (.inl (dA 0, 24, .inl ids)) ∧ h (a + 2) = some (.inl (dA 0, 24, .inl pri)) ∧ h (a + 3) = some (.inl (dA 0, 24, .inl siz))
theorem BK.fr {dA : Nat → ClassId} {h h' : fv_H} {a : Nat} {ids pri siz : Nat → Int32} {buys tot app : Nat} {hlt : Bool} {b n : Nat} (q : BK dA h a ids pri siz buys tot hlt app) (hf : fr h h' b n) (hd : a + 4 ≤ b ∨ b + n ≤ a) : BK dA h' a ids pri siz buys tot hlt app :=
  ⟨(hf.at (by omega)).trans q.1, (hf.at (by omega)).trans q.2.1, (hf.at (by omega)).trans q.2.2.1, (hf.at (by omega)).trans q.2.2.2⟩
/-- an event's cell -/
def EV (h : fv_H) (a : Nat) (e : bo_E) : Prop := h a = some (.inr (2, [.int (nI e.1), .int (nI e.2.1), .int (nI e.2.2.1), .int e.2.2.2.1, .int (nI e.2.2.2.2.1), .int e.2.2.2.2.2.1, .int e.2.2.2.2.2.2]))
theorem EV.fr {h h' : fv_H} {a : Nat} {e : bo_E} {b n : Nat} (q : EV h a e) (hf : fr h h' b n) (hd : a < b ∨ b + n ≤ a) : EV h' a e := (hf.at hd).trans q
section BKR
variable {D : va_G} {dA : Nat → ClassId} {Bs : Nat} {X : fv_X} {M : fv_M} {mc ms nL : Nat} {Q : State → Prop} {pc n : Nat} {L L' : List (Option Value)} {st : List Value} {sz : Nat} {h : fv_H} {cells slots : Nat} {a : Nat} {ids pri siz : Nat → Int32} {buys tot app : Nat} {hlt : Bool}
theorem bk_pbuys (C : fv_C (fk D dA) WA X M mc ms) {idx : Nat} {v : Nat} (F : fv_FL (fk D dA) WA M.1.cls idx 1 3 .int false) (hd : decode M.2.1 pc = .ok (.putfield idx, 3)) (hn : pc + 3 = n) (hB : BK dA h a ids pri siz buys tot hlt app) (hBs : Bs ≤ a) (kk : ∀ h' : fv_H, BK dA h' a ids pri siz v tot hlt app → fr h h' a 4 → fv_V (fk D dA) Bs X nL Q n L st sz h' cells slots) : fv_V (fk D dA) Bs X nL Q pc L (.int (nI v) :: .ref a :: st) sz h cells slots := by
  refine fv_put C F (Or.inl rfl) hd hn hB.1 hBs rfl rfl (Nat.le_of_ble_eq_true rfl) ?_
  refine kk _ ⟨va_up_self _ _ _, ?_, ?_, ?_⟩ (fr_up (by omega) (by omega))
  · rw [va_up_ne _ _ (by omega)]; exact hB.2.1
  · rw [va_up_ne _ _ (by omega)]; exact hB.2.2.1
  · rw [va_up_ne _ _ (by omega)]; exact hB.2.2.2
theorem bk_ptot (C : fv_C (fk D dA) WA X M mc ms) {idx : Nat} {v : Nat} (F : fv_FL (fk D dA) WA M.1.cls idx 1 4 .int false) (hd : decode M.2.1 pc = .ok (.putfield idx, 3)) (hn : pc + 3 = n) (hB : BK dA h a ids pri siz buys tot hlt app) (hBs : Bs ≤ a) (kk : ∀ h' : fv_H, BK dA h' a ids pri siz buys v hlt app → fr h h' a 4 → fv_V (fk D dA) Bs X nL Q n L st sz h' cells slots) : fv_V (fk D dA) Bs X nL Q pc L (.int (nI v) :: .ref a :: st) sz h cells slots := by
  refine fv_put C F (Or.inl rfl) hd hn hB.1 hBs rfl rfl (Nat.le_of_ble_eq_true rfl) ?_
  refine kk _ ⟨va_up_self _ _ _, ?_, ?_, ?_⟩ (fr_up (by omega) (by omega))
  · rw [va_up_ne _ _ (by omega)]; exact hB.2.1
  · rw [va_up_ne _ _ (by omega)]; exact hB.2.2.1
  · rw [va_up_ne _ _ (by omega)]; exact hB.2.2.2
theorem bk_phlt (C : fv_C (fk D dA) WA X M mc ms) {idx : Nat} {v : Bool} (F : fv_FL (fk D dA) WA M.1.cls idx 1 5 .boolean false) (hd : decode M.2.1 pc = .ok (.putfield idx, 3)) (hn : pc + 3 = n) (hB : BK dA h a ids pri siz buys tot hlt app) (hBs : Bs ≤ a) (kk : ∀ h' : fv_H, BK dA h' a ids pri siz buys tot v app → fr h h' a 4 → fv_V (fk D dA) Bs X nL Q n L st sz h' cells slots) : fv_V (fk D dA) Bs X nL Q pc L (.int (fv_b v) :: .ref a :: st) sz h cells slots := by
  refine fv_put C F (Or.inl rfl) hd hn hB.1 hBs (fv_b_nar v) (fv_b_fit v) (Nat.le_of_ble_eq_true rfl) ?_
  refine kk _ ⟨va_up_self _ _ _, ?_, ?_, ?_⟩ (fr_up (by omega) (by omega))
  · rw [va_up_ne _ _ (by omega)]; exact hB.2.1
  · rw [va_up_ne _ _ (by omega)]; exact hB.2.2.1
  · rw [va_up_ne _ _ (by omega)]; exact hB.2.2.2
theorem bk_papp (C : fv_C (fk D dA) WA X M mc ms) {idx : Nat} {v : Nat} (F : fv_FL (fk D dA) WA M.1.cls idx 1 6 .int false) (hd : decode M.2.1 pc = .ok (.putfield idx, 3)) (hn : pc + 3 = n) (hB : BK dA h a ids pri siz buys tot hlt app) (hBs : Bs ≤ a) (kk : ∀ h' : fv_H, BK dA h' a ids pri siz buys tot hlt v → fr h h' a 4 → fv_V (fk D dA) Bs X nL Q n L st sz h' cells slots) : fv_V (fk D dA) Bs X nL Q pc L (.int (nI v) :: .ref a :: st) sz h cells slots := by
  refine fv_put C F (Or.inl rfl) hd hn hB.1 hBs rfl rfl (Nat.le_of_ble_eq_true rfl) ?_
  refine kk _ ⟨va_up_self _ _ _, ?_, ?_, ?_⟩ (fr_up (by omega) (by omega))
  · rw [va_up_ne _ _ (by omega)]; exact hB.2.1
  · rw [va_up_ne _ _ (by omega)]; exact hB.2.2.1
  · rw [va_up_ne _ _ (by omega)]; exact hB.2.2.2
theorem bk_sids (C : fv_C (fk D dA) WA X M mc ms) {j : Nat} {x : Int32} (hd : decode M.2.1 pc = .ok (.iastore, 1)) (hn : pc + 1 = n) (hB : BK dA h a ids pri siz buys tot hlt app) (hBs : Bs ≤ a) (hj : j < 24) (kk : ∀ h' : fv_H, BK dA h' a (upd ids j x) pri siz buys tot hlt app → fr h h' a 4 → fv_V (fk D dA) Bs X nL Q n L st sz h' cells slots) : fv_V (fk D dA) Bs X nL Q pc L (.int x :: .int (nI j) :: .ref (a + 1) :: st) sz h cells slots := by
  refine fv_iastN C (t0 := 0) rfl hd hn hB.2.1 (by omega) hj (by decide) ?_
  refine kk _ ⟨?_, ?_, ?_, ?_⟩ (fr_up (by omega) (by omega))
  · rw [va_up_ne _ _ (by omega)]; exact hB.1
  · exact va_up_self _ _ _
  · rw [va_up_ne _ _ (by omega)]; exact hB.2.2.1
  · rw [va_up_ne _ _ (by omega)]; exact hB.2.2.2
theorem bk_cids (C : fv_C (fk D dA) WA X M mc ms) {idx a0 n0 sp dp z : Nat} {g : Nat → Int32} (hw1 : Cond.methodLink M.1.cls idx arraycopyName ∈ WA) (hd : decode M.2.1 pc = .ok (.invokestatic idx, 3)) (hn : pc + 3 = n) (hm : nL = M.2.2.1) (ha0 : h a0 = some (.inl (dA 0, n0, .inl g))) (hB : BK dA h a ids pri siz buys tot hlt app) (hBs : Bs ≤ a) (h4 : sp + z ≤ n0) (h5 : dp + z ≤ 24) (h0 : n0 < 2 ^ 31) (hf : 1 ≤ M.2.2.2.2.1) (hlo : (st.map fun v => v.category).sum + (nativeFrameWords "java/lang/System" "arraycopy" 5 + 11) ≤ M.2.2.2.2.2) (kk : ∀ h' : fv_H, BK dA h' a (va_cpy g ids sp dp z) pri siz buys tot hlt app → fr h h' a 4 → fv_V (fk D dA) Bs X nL Q n L st sz h' cells slots) : fv_V (fk D dA) Bs X nL Q pc L (.int (nI z) :: .int (nI dp) :: .ref (a + 1) :: .int (nI sp) :: .ref a0 :: st) sz h cells slots := by
  refine fv_copyN C (t0 := 0) rfl hw1 n_an n_as n_ai hd hn hm ha0 hB.2.1 (by omega) h4 h5 h0 (by decide) hf hlo ?_
  refine kk _ ⟨?_, ?_, ?_, ?_⟩ (fr_up (by omega) (by omega))
  · rw [va_up_ne _ _ (by omega)]; exact hB.1
  · exact va_up_self _ _ _
  · rw [va_up_ne _ _ (by omega)]; exact hB.2.2.1
  · rw [va_up_ne _ _ (by omega)]; exact hB.2.2.2
theorem bk_spri (C : fv_C (fk D dA) WA X M mc ms) {j : Nat} {x : Int32} (hd : decode M.2.1 pc = .ok (.iastore, 1)) (hn : pc + 1 = n) (hB : BK dA h a ids pri siz buys tot hlt app) (hBs : Bs ≤ a) (hj : j < 24) (kk : ∀ h' : fv_H, BK dA h' a ids (upd pri j x) siz buys tot hlt app → fr h h' a 4 → fv_V (fk D dA) Bs X nL Q n L st sz h' cells slots) : fv_V (fk D dA) Bs X nL Q pc L (.int x :: .int (nI j) :: .ref (a + 2) :: st) sz h cells slots := by
  refine fv_iastN C (t0 := 0) rfl hd hn hB.2.2.1 (by omega) hj (by decide) ?_
  refine kk _ ⟨?_, ?_, ?_, ?_⟩ (fr_up (by omega) (by omega))
  · rw [va_up_ne _ _ (by omega)]; exact hB.1
  · rw [va_up_ne _ _ (by omega)]; exact hB.2.1
  · exact va_up_self _ _ _
  · rw [va_up_ne _ _ (by omega)]; exact hB.2.2.2
theorem bk_cpri (C : fv_C (fk D dA) WA X M mc ms) {idx a0 n0 sp dp z : Nat} {g : Nat → Int32} (hw1 : Cond.methodLink M.1.cls idx arraycopyName ∈ WA) (hd : decode M.2.1 pc = .ok (.invokestatic idx, 3)) (hn : pc + 3 = n) (hm : nL = M.2.2.1) (ha0 : h a0 = some (.inl (dA 0, n0, .inl g))) (hB : BK dA h a ids pri siz buys tot hlt app) (hBs : Bs ≤ a) (h4 : sp + z ≤ n0) (h5 : dp + z ≤ 24) (h0 : n0 < 2 ^ 31) (hf : 1 ≤ M.2.2.2.2.1) (hlo : (st.map fun v => v.category).sum + (nativeFrameWords "java/lang/System" "arraycopy" 5 + 11) ≤ M.2.2.2.2.2) (kk : ∀ h' : fv_H, BK dA h' a ids (va_cpy g pri sp dp z) siz buys tot hlt app → fr h h' a 4 → fv_V (fk D dA) Bs X nL Q n L st sz h' cells slots) : fv_V (fk D dA) Bs X nL Q pc L (.int (nI z) :: .int (nI dp) :: .ref (a + 2) :: .int (nI sp) :: .ref a0 :: st) sz h cells slots := by
  refine fv_copyN C (t0 := 0) rfl hw1 n_an n_as n_ai hd hn hm ha0 hB.2.2.1 (by omega) h4 h5 h0 (by decide) hf hlo ?_
  refine kk _ ⟨?_, ?_, ?_, ?_⟩ (fr_up (by omega) (by omega))
  · rw [va_up_ne _ _ (by omega)]; exact hB.1
  · rw [va_up_ne _ _ (by omega)]; exact hB.2.1
  · exact va_up_self _ _ _
  · rw [va_up_ne _ _ (by omega)]; exact hB.2.2.2
theorem bk_ssiz (C : fv_C (fk D dA) WA X M mc ms) {j : Nat} {x : Int32} (hd : decode M.2.1 pc = .ok (.iastore, 1)) (hn : pc + 1 = n) (hB : BK dA h a ids pri siz buys tot hlt app) (hBs : Bs ≤ a) (hj : j < 24) (kk : ∀ h' : fv_H, BK dA h' a ids pri (upd siz j x) buys tot hlt app → fr h h' a 4 → fv_V (fk D dA) Bs X nL Q n L st sz h' cells slots) : fv_V (fk D dA) Bs X nL Q pc L (.int x :: .int (nI j) :: .ref (a + 3) :: st) sz h cells slots := by
  refine fv_iastN C (t0 := 0) rfl hd hn hB.2.2.2 (by omega) hj (by decide) ?_
  refine kk _ ⟨?_, ?_, ?_, ?_⟩ (fr_up (by omega) (by omega))
  · rw [va_up_ne _ _ (by omega)]; exact hB.1
  · rw [va_up_ne _ _ (by omega)]; exact hB.2.1
  · rw [va_up_ne _ _ (by omega)]; exact hB.2.2.1
  · exact va_up_self _ _ _
theorem bk_csiz (C : fv_C (fk D dA) WA X M mc ms) {idx a0 n0 sp dp z : Nat} {g : Nat → Int32} (hw1 : Cond.methodLink M.1.cls idx arraycopyName ∈ WA) (hd : decode M.2.1 pc = .ok (.invokestatic idx, 3)) (hn : pc + 3 = n) (hm : nL = M.2.2.1) (ha0 : h a0 = some (.inl (dA 0, n0, .inl g))) (hB : BK dA h a ids pri siz buys tot hlt app) (hBs : Bs ≤ a) (h4 : sp + z ≤ n0) (h5 : dp + z ≤ 24) (h0 : n0 < 2 ^ 31) (hf : 1 ≤ M.2.2.2.2.1) (hlo : (st.map fun v => v.category).sum + (nativeFrameWords "java/lang/System" "arraycopy" 5 + 11) ≤ M.2.2.2.2.2) (kk : ∀ h' : fv_H, BK dA h' a ids pri (va_cpy g siz sp dp z) buys tot hlt app → fr h h' a 4 → fv_V (fk D dA) Bs X nL Q n L st sz h' cells slots) : fv_V (fk D dA) Bs X nL Q pc L (.int (nI z) :: .int (nI dp) :: .ref (a + 3) :: .int (nI sp) :: .ref a0 :: st) sz h cells slots := by
  refine fv_copyN C (t0 := 0) rfl hw1 n_an n_as n_ai hd hn hm ha0 hB.2.2.2 (by omega) h4 h5 h0 (by decide) hf hlo ?_
  refine kk _ ⟨?_, ?_, ?_, ?_⟩ (fr_up (by omega) (by omega))
  · rw [va_up_ne _ _ (by omega)]; exact hB.1
  · rw [va_up_ne _ _ (by omega)]; exact hB.2.1
  · rw [va_up_ne _ _ (by omega)]; exact hB.2.2.1
  · exact va_up_self _ _ _
end BKR
