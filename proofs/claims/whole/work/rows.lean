section
/-! A layer of my own over the kit's worlds: the heap is a function from addresses to cells, with its size; one judgement fv_V at an instruction, one contract fv_T. -/
abbrev fv_H : Type := Nat → Option va_E
/-- static: class numbers and slots, the classes, the array classes, links to nest mates' fields and methods, classes with arrays over them -/
abbrev fv_K : Type := va_G × List vw_C × List (ClassId × FieldType) × List (String × Nat × String × String × String × String) × List (String × Nat × MethodName × String) × List String
/-- an activation -/
abbrev fv_X : Type := Program × Launch × Env × Room × State × MethodId × Array Value × List Frame × Method × Code
/-- a method: name, bytes, locals, answer's type, frames and words that it needs -/
abbrev fv_M : Type := MethodName × ByteArray × Nat × Option FieldType × Nat × Nat
def fv_S (K : fv_K) (U : State) : Prop := va_K K.1 K.2.1 K.2.2.1 U ∧ (∀ w ∈ K.2.2.2.1, va_Nw (.fieldLinkNest w.1 w.2.1 w.2.2.1 w.2.2.2.1 w.2.2.2.2.1 w.2.2.2.2.2) U) ∧ (∀ w ∈ K.2.2.2.2.1, va_Nw (.methodLinkNest w.1 w.2.1 w.2.2.1 w.2.2.2) U) ∧ ∀ C ∈ K.2.2.2.2.2, va_AO C U
theorem fv_S.warm {K : fv_K} {s U : State} (hW : s.WarmedH U.vm) (h : fv_S K s) : fv_S K U := ⟨va_K.moved hW.alike h.1, fun w hw => va_Nw.warmF hW (h.2.1 w hw), fun w hw => va_Nw.warmM hW (h.2.2.1 w hw), fun C hC => va_AO.moved hW.alike (h.2.2.2 C hC)⟩
theorem fv_S.same {K : fv_K} {s U : State} (hvm : s.vm = U.vm) (h : fv_S K s) : fv_S K U := ⟨va_K.moved (hvm ▸ Vm.Alike.refl s.vm) h.1, fun w hw => va_Nw.same rfl hvm (h.2.1 w hw), fun w hw => va_Nw.same rfl hvm (h.2.2.1 w hw), fun C hC => va_AO.moved (hvm ▸ Vm.Alike.refl s.vm) (h.2.2.2 C hC)⟩
def fv_R (K : fv_K) (sz : Nat) (h : fv_H) (H : Heap) : Prop := H.size = sz ∧ ∀ (a : Nat) (e : va_E), h a = some e → va_at K.1 K.2.1 (a, e) H
theorem fv_R.set {K : fv_K} {sz a : Nat} {h : fv_H} {e : va_E} {H H1 : Heap} (r : fv_R K sz h H) (z : H1.size = H.size) (oq : ∀ q : Nat, q ≠ a → H1[q]? = H[q]?) (he : va_at K.1 K.2.1 (a, e) H1) : fv_R K sz (va_up h a (some e)) H1 := by
  refine ⟨z.trans r.1, fun b e' hb => ?_⟩
  by_cases hba : b = a
  · subst hba
    rw [va_up_self] at hb
    cases hb
    exact he
  · rw [va_up_ne _ _ hba] at hb
    exact (r.2 b e' hb).kept (oq b hba)
theorem fv_R.push {K : fv_K} {sz : Nat} {h : fv_H} {e : va_E} {H H1 : Heap} (r : fv_R K sz h H) (z : H1.size = sz + 1) (oq : ∀ q : Nat, q < sz → H1[q]? = H[q]?) (he : va_at K.1 K.2.1 (sz, e) H1) : fv_R K (sz + 1) (va_up h sz (some e)) H1 := by
  refine ⟨z, fun b e' hb => ?_⟩
  by_cases hba : b = sz
  · subst hba
    rw [va_up_self] at hb
    cases hb
    exact he
  · rw [va_up_ne _ _ hba] at hb
    have hr := r.2 b e' hb
    have hl : b < H.size := hr.lt
    exact hr.kept (oq b (by rw [← r.1]; exact hl))
theorem fv_R.one {K : fv_K} {sz a : Nat} {h : fv_H} {e : va_E} {H : Heap} (r : fv_R K sz h H) (ha : h a = some e) : va_P K.1 K.2.1 [(a, e)] H := by
  intro k q hk
  have hz : k < 1 := (List.getElem?_eq_some_iff.mp hk).1
  rw [show k = 0 by omega] at hk
  cases hk
  exact r.2 a e ha
/-! the locals: a list, none where nothing is known -/
def fv_as : Nat → List (Option Value) → List (Nat × Value)
  | _, [] => []
  | n, none :: t => fv_as (n + 1) t
  | n, some v :: t => (n, v) :: fv_as (n + 1) t
theorem fv_mem : ∀ (L : List (Option Value)) (n i : Nat) (v : Value), (i, v) ∈ fv_as n L ↔ n ≤ i ∧ L[i - n]? = some (some v)
  | [], n, i, v => by simp [fv_as]
  | none :: t, n, i, v => by
    rw [fv_as, fv_mem t]
    constructor
    · rintro ⟨h1, h2⟩
      refine ⟨by omega, ?_⟩
      rw [show i - n = (i - (n + 1)) + 1 by omega, List.getElem?_cons_succ]
      exact h2
    · rintro ⟨h1, h2⟩
      by_cases hi : i = n
      · subst hi
        rw [Nat.sub_self, List.getElem?_cons_zero] at h2
        cases h2
      · refine ⟨by omega, ?_⟩
        rw [show i - n = (i - (n + 1)) + 1 by omega, List.getElem?_cons_succ] at h2
        exact h2
  | some w :: t, n, i, v => by
    rw [fv_as, List.mem_cons, fv_mem t]
    constructor
    · rintro (h | ⟨h1, h2⟩)
      · cases h
        exact ⟨Nat.le_refl _, by rw [Nat.sub_self, List.getElem?_cons_zero]⟩
      · refine ⟨by omega, ?_⟩
        rw [show i - n = (i - (n + 1)) + 1 by omega, List.getElem?_cons_succ]
        exact h2
    · rintro ⟨h1, h2⟩
      by_cases hi : i = n
      · subst hi
        rw [Nat.sub_self, List.getElem?_cons_zero] at h2
        cases h2
        exact Or.inl rfl
      · refine Or.inr ⟨by omega, ?_⟩
        rw [show i - n = (i - (n + 1)) + 1 by omega, List.getElem?_cons_succ] at h2
        exact h2
def fv_L (ls : Array Slot) (nL : Nat) (L : List (Option Value)) : Prop := lv_has ls nL (fv_as 0 L) ∧ ∀ q ∈ fv_as 0 L, q.2.category = 1
theorem fv_L.at {ls : Array Slot} {nL i : Nat} {L : List (Option Value)} {v : Value} (h : fv_L ls nL L) (hi : L[i]? = some (some v)) : ls[i]? = some (.val v) := h.1.2.2 (i, v) ((fv_mem L 0 i v).mpr ⟨Nat.zero_le _, hi⟩)
theorem fv_L.store {ls ls' : Array Slot} {nL i : Nat} {L : List (Option Value)} {v : Value} (h : fv_L ls nL L) (hc : v.category = 1) (h' : lv_has ls' nL ((i, v) :: (fv_as 0 L).filter (fun q => !(q.1 == i) && !(q.1 + 1 == i && q.2.category == 2)))) : fv_L ls' nL (L.set i (some v)) := by
  have key : ∀ q ∈ fv_as 0 (L.set i (some v)), q = (i, v) ∨ (q ∈ fv_as 0 L ∧ q.1 ≠ i) := by
    rintro ⟨j, w⟩ hq
    have h2 := ((fv_mem _ 0 j w).mp hq).2
    rw [Nat.sub_zero] at h2
    by_cases hj : j = i
    · subst hj
      have hl : j < L.length := by
        have := (List.getElem?_eq_some_iff.mp h2).1
        rwa [List.length_set] at this
      rw [List.getElem?_set_self hl] at h2
      cases h2
      exact Or.inl rfl
    · rw [List.getElem?_set_ne (Ne.symm hj)] at h2
      exact Or.inr ⟨(fv_mem L 0 j w).mpr ⟨Nat.zero_le _, h2⟩, hj⟩
  refine ⟨⟨h'.1, h'.2.1, fun q hq => ?_⟩, fun q hq => ?_⟩
  · rcases key q hq with rfl | ⟨h1, h2⟩
    · exact h'.2.2 _ List.mem_cons_self
    · refine h'.2.2 q (List.mem_cons_of_mem _ (List.mem_filter.mpr ⟨h1, ?_⟩))
      have h3 := h.2 q h1
      simp [h2, h3]
  · rcases key q hq with rfl | ⟨h1, -⟩
    · exact hc
    · exact h.2 q h1
theorem fv_L.weak {ls : Array Slot} {nL : Nat} {L L' : List (Option Value)} (h : fv_L ls nL L) (hs : ∀ (i : Nat) (v : Value), L'[i]? = some (some v) → L[i]? = some (some v)) : fv_L ls nL L' := by
  have key : ∀ q ∈ fv_as 0 L', q ∈ fv_as 0 L := by
    rintro ⟨j, w⟩ hq
    exact (fv_mem L 0 j w).mpr ⟨Nat.zero_le _, hs j w ((fv_mem L' 0 j w).mp hq).2⟩
  exact ⟨⟨h.1.1, h.1.2.1, fun q hq => h.1.2.2 q (key q hq)⟩, fun q hq => h.2 q (key q hq)⟩
def fv_c1 (av : List Value) : Bool := av.all (fun v => v.category == 1)
def fv_en (av : List Value) (n : Nat) : List (Option Value) := av.map some ++ List.replicate (n - av.length) none
theorem fv_as_none (n k : Nat) : fv_as n (List.replicate k none) = [] := by
  induction k generalizing n with
  | zero => rfl
  | succ k ih => rw [List.replicate_succ, fv_as, ih]
theorem fv_as_en : ∀ (av : List Value) (n k : Nat), fv_c1 av = true → fv_as n (av.map some ++ List.replicate k none) = lv_args n av
  | [], n, k, _ => by simp [fv_as_none, lv_args]
  | v :: t, n, k, h => by
    simp only [fv_c1, List.all_cons, Bool.and_eq_true, beq_iff_eq] at h
    have h2 : ¬ v.category = 2 := by omega
    rw [List.map_cons, List.cons_append, fv_as, lv_args, if_neg h2, fv_as_en t (n + 1) k h.2]
theorem fv_sl_len : ∀ (av : List Value), fv_c1 av = true → (lg_sl av).length = av.length
  | [], _ => rfl
  | v :: t, h => by
    simp only [fv_c1, List.all_cons, Bool.and_eq_true, beq_iff_eq] at h
    have h2 : ¬ v.category = 2 := by omega
    have h3 := fv_sl_len t h.2
    simp only [lg_sl, List.flatMap_cons, if_neg h2] at h3 ⊢
    simp [h3]
theorem fv_cat_args : ∀ (av : List Value) (n : Nat), fv_c1 av = true → ∀ q ∈ lv_args n av, q.2.category = 1
  | [], n, _, q, hq => by simp [lv_args] at hq
  | v :: t, n, h, q, hq => by
    simp only [fv_c1, List.all_cons, Bool.and_eq_true, beq_iff_eq] at h
    rw [lv_args] at hq
    rcases List.mem_cons.mp hq with rfl | hq
    · exact h.1
    · exact fv_cat_args t _ h.2 q hq
theorem fv_entry (av : List Value) {n : Nat} (hc : fv_c1 av = true) (hn : av.length ≤ n) : fv_L ((lg_sl av ++ List.replicate (n - (lg_sl av).length) Slot.unset).toArray) n (fv_en av n) := by
  have h := lv_entry av (n := n) (by rw [fv_sl_len av hc]; exact hn)
  have e : fv_as 0 (fv_en av n) = lv_args 0 av := fv_as_en av 0 _ hc
  exact ⟨by rw [e]; exact h, by rw [e]; exact fv_cat_args av 0 hc⟩
/-! contracts -/
def fv_Q (K : fv_K) (post : Option Value → Nat → fv_H → Prop) : Array Value → State → Outcome → State → Prop := fun _ _ o t => ∃ (v : Option Value) (sz : Nat) (h : fv_H), o = .returned v ∧ post v sz h ∧ fv_R K sz h t.heap
def fv_good (w : Cond) : Prop := (w.onTables && w.keeps) = true ∨ ∃ ty, w = .arrayClass ty
def fv_T (l : Launch) (K : fv_K) (Bs : Nat) (WA : List Cond) (M : fv_M) (av : List Value) (sz : Nat) (h : fv_H) (mc ms : Nat) (post : Option Value → Nat → fv_H → Prop) : Prop :=
  Met l M.1 (Cond.code M.1 M.2.1 M.2.2.1 M.2.2.2.1 :: WA) { frames := M.2.2.2.2.1, cells := mc, slots := ms, locals := M.2.2.2.2.2 } (va_Pc av (fun U => fv_R K sz h U.heap ∧ fv_S K U)) (fv_Q K post) mc ms (fun q => Bs ≤ q)
/-- what a method's walk may lean on -/
def fv_C (K : fv_K) (WA : List Cond) (X : fv_X) (M : fv_M) (mc ms : Nat) : Prop :=
  X.1.tables.exec = Jvm.exec ∧ X.2.2.2.2.2.2.2.2.2.code = M.2.1 ∧ X.2.2.2.2.2.2.2.2.2.maxLocals = M.2.2.1 ∧ X.2.2.2.2.2.2.2.2.1.sig.returnType = M.2.2.2.1 ∧ X.2.2.2.2.2.2.2.2.1.locks = false ∧
  X.2.2.2.2.1.vm.findClass M.1.cls = some X.2.2.2.2.2.1.cls ∧ (∀ w ∈ WA, w.before X.2.2.2.2.2.2.1 X.2.2.2.2.1 = true) ∧ fv_S K X.2.2.2.2.1 ∧ X.2.2.2.1 = { frames := M.2.2.2.2.1, cells := mc, slots := ms, locals := M.2.2.2.2.2 } ∧ X.2.2.2.2.2.2.2.2.1.name = M.1.name
def fv_V (K : fv_K) (Bs : Nat) (X : fv_X) (nL : Nat) (Q : State → Prop) (pc : Nat) (L : List (Option Value)) (st : List Value) (sz : Nat) (h : fv_H) (cells slots : Nat) : Prop :=
  ∀ (H : Heap) (locs : List Loc) (ls : Array Slot), fv_R K sz h H → (∀ q ∈ locs, Bs ≤ q.base) → fv_L ls nL L → W X.1 X.2.1 X.2.2.1 X.2.2.2.1 X.2.2.2.2.1 X.2.2.2.2.2.1 X.2.2.2.2.2.2.1 X.2.2.2.2.2.2.2.1 X.2.2.2.2.2.2.2.2.1 X.2.2.2.2.2.2.2.2.2 H locs cells slots Q (F0 X.2.2.2.2.2.1 pc ls st)
def fv_MQ (K : fv_K) (Bs : Nat) (X : fv_X) (post : Option Value → Nat → fv_H → Prop) (mc ms : Nat) : State → Prop := MQ X.2.2.2.2.2.2.2.1 (fv_Q K post) X.2.2.2.2.2.2.1 X.2.2.2.2.1 mc ms (fun q => Bs ≤ q)
theorem fv_of {l : Launch} {K : fv_K} {Bs : Nat} {WA : List Cond} {M : fv_M} {av : List Value} {sz : Nat} {h : fv_H} {mc ms : Nat} {post : Option Value → Nat → fv_H → Prop} (hy : plainName M.1.cls = true) (hc : fv_c1 av = true) (hn : av.length ≤ M.2.2.1) {L : List (Option Value)} (hL : fv_en av M.2.2.1 = L)
    (body : ∀ X : fv_X, X.2.1 = l → fv_C K WA X M mc ms → fv_V K Bs X M.2.2.1 (fv_MQ K Bs X post mc ms) 0 L [] sz h 0 0) : fv_T l K Bs WA M av sz h mc ms post := by
  subst hL
  refine Met.ofW (cc := M.2.1) (maxL := M.2.2.1) (ret := M.2.2.2.1) hy rfl ?_
  intro p e s m args below meth c s₁ B hml hv
  obtain ⟨rfl, hR, hS⟩ := hv
  have hts := atoms_spec (ws := Cond.code M.1 M.2.1 M.2.2.1 M.2.2.2.1 :: WA) B.pre
  rw [lg_entry_eq]
  exact body (p, l, e, _, s, m, av.toArray, below, meth, c) rfl ⟨B.exec, B.bytes, hml, B.returns, B.notSynchronized, findClass_of_methodNamed B.named, fun w hw => hts w (List.mem_cons_of_mem _ hw), hS, rfl, (name_of_methodNamed B.named B.method).1⟩ s.heap [] _ hR (fun q hq => by cases hq) (fv_entry av hc hn)
theorem fv_T.to {l : Launch} {K : fv_K} {Bs : Nat} {WA : List Cond} {M : fv_M} {av : List Value} {sz : Nat} {h : fv_H} {mc ms : Nat} {post : Option Value → Nat → fv_H → Prop} {av' : List Value} {h' : fv_H} (t : fv_T l K Bs WA M av sz h mc ms post) (e1 : av = av') (e2 : h = h') : fv_T l K Bs WA M av' sz h' mc ms post := by
  subst e1; subst e2; exact t
section FV
variable {K : fv_K} {Bs : Nat} {WA : List Cond} {X : fv_X} {M : fv_M} {mc ms nL : Nat} {Q : State → Prop} {pc n : Nat} {L L' : List (Option Value)} {st : List Value} {sz : Nat} {h : fv_H} {cells slots : Nat}
theorem fv_weak (hs : ∀ (i : Nat) (v : Value), L'[i]? = some (some v) → L[i]? = some (some v)) (k : fv_V K Bs X nL Q pc L' st sz h cells slots) : fv_V K Bs X nL Q pc L st sz h cells slots := fun H locs ls hR hl hL => k H locs ls hR hl (hL.weak hs)
theorem fv_drop (i : Nat) (hs : L.set i none = L') (k : fv_V K Bs X nL Q pc L' st sz h cells slots) : fv_V K Bs X nL Q pc L st sz h cells slots := by
  subst hs
  refine fv_weak (fun j v hj => ?_) k
  by_cases hij : i = j
  · subst hij
    have hl : i < L.length := by
      have := (List.getElem?_eq_some_iff.mp hj).1
      rwa [List.length_set] at this
    rw [List.getElem?_set_self hl] at hj
    cases hj
  · rwa [List.getElem?_set_ne hij] at hj
theorem fv_widen {c2 s2 : Nat} (h1 : cells ≤ c2) (h2 : slots ≤ s2) (k : fv_V K Bs X nL Q pc L st sz h c2 s2) : fv_V K Bs X nL Q pc L st sz h cells slots := fun H locs ls hR hl hL => W.widen h1 h2 (k H locs ls hR hl hL)
theorem fv_eq {h' : fv_H} {st' : List Value} (e1 : st = st') (e2 : h = h') (k : fv_V K Bs X nL Q pc L st' sz h' cells slots) : fv_V K Bs X nL Q pc L st sz h cells slots := by
  subst e1; subst e2; exact k
theorem fv_eqL (e1 : L = L') (k : fv_V K Bs X nL Q pc L' st sz h cells slots) : fv_V K Bs X nL Q pc L st sz h cells slots := by
  subst e1; exact k
theorem fv_iconst (C : fv_C K WA X M mc ms) {z : Int} {v : Int32} (hd : decode M.2.1 pc = .ok (.iconst z, 1)) (hn : pc + 1 = n) (hv : Int32.ofInt z = v) (k : fv_V K Bs X nL Q n L (.int v :: st) sz h cells slots) : fv_V K Bs X nL Q pc L st sz h cells slots := by
  subst hn
  intro H locs ls hR hl hL
  exact lv_iconst C.1 C.2.1 hd hv (k H locs ls hR hl hL)
theorem fv_bipush (C : fv_C K WA X M mc ms) {z : Int} {v : Int32} (hd : decode M.2.1 pc = .ok (.bipush z, 2)) (hn : pc + 2 = n) (hv : (Int8.ofInt z).toInt32 = v) (k : fv_V K Bs X nL Q n L (.int v :: st) sz h cells slots) : fv_V K Bs X nL Q pc L st sz h cells slots := by
  subst hn
  intro H locs ls hR hl hL
  exact lv_bipush C.1 C.2.1 hd hv (k H locs ls hR hl hL)
theorem fv_sipush (C : fv_C K WA X M mc ms) {z : Int} {v : Int32} (hd : decode M.2.1 pc = .ok (.sipush z, 3)) (hn : pc + 3 = n) (hv : (Int16.ofInt z).toInt32 = v) (k : fv_V K Bs X nL Q n L (.int v :: st) sz h cells slots) : fv_V K Bs X nL Q pc L st sz h cells slots := by
  subst hn
  intro H locs ls hR hl hL
  exact lv_sipush C.1 C.2.1 hd hv (k H locs ls hR hl hL)
theorem fv_ldc (C : fv_C K WA X M mc ms) {idx : Nat} {v : Int32} (hd : decode M.2.1 pc = .ok (.ldc idx, 2)) (hn : pc + 2 = n) (hv : Jvm.Cond.constant M.1.cls idx v ∈ WA) (k : fv_V K Bs X nL Q n L (.int v :: st) sz h cells slots) : fv_V K Bs X nL Q pc L st sz h cells slots := by
  subst hn
  intro H locs ls hR hl hL
  exact lv_ldc C.1 C.2.1 C.2.2.2.2.2.1 (C.2.2.2.2.2.2.1 _ hv) hd (k H locs ls hR hl hL)
theorem fv_null (C : fv_C K WA X M mc ms)  (hd : decode M.2.1 pc = .ok (.aconst_null, 1)) (hn : pc + 1 = n)  (k : fv_V K Bs X nL Q n L (.null :: st) sz h cells slots) : fv_V K Bs X nL Q pc L st sz h cells slots := by
  subst hn
  intro H locs ls hR hl hL
  exact lv_null C.1 C.2.1 hd (k H locs ls hR hl hL)
theorem fv_iload_n (C : fv_C K WA X M mc ms) {j : Fin 4} {i : Nat} {x : Int32} (hd : decode M.2.1 pc = .ok (.iload_n j, 1)) (hn : pc + 1 = n) (hi : (j : Nat) = i) (hx : L[i]? = some (some (.int x))) (k : fv_V K Bs X nL Q n L (.int x :: st) sz h cells slots) : fv_V K Bs X nL Q pc L st sz h cells slots := by
  subst hn
  intro H locs ls hR hl hL
  exact lv_iload_n C.1 C.2.1 hd hi (hL.at hx) (k H locs ls hR hl hL)
theorem fv_iload (C : fv_C K WA X M mc ms) {i : Nat} {x : Int32} (hd : decode M.2.1 pc = .ok (.iload i, 2)) (hn : pc + 2 = n) (hx : L[i]? = some (some (.int x))) (k : fv_V K Bs X nL Q n L (.int x :: st) sz h cells slots) : fv_V K Bs X nL Q pc L st sz h cells slots := by
  subst hn
  intro H locs ls hR hl hL
  exact lv_iload C.1 C.2.1 hd (hL.at hx) (k H locs ls hR hl hL)
theorem fv_aload_n (C : fv_C K WA X M mc ms) {j : Fin 4} {i : Nat} {x : Nat} (hd : decode M.2.1 pc = .ok (.aload_n j, 1)) (hn : pc + 1 = n) (hi : (j : Nat) = i) (hx : L[i]? = some (some (.ref x))) (k : fv_V K Bs X nL Q n L (.ref x :: st) sz h cells slots) : fv_V K Bs X nL Q pc L st sz h cells slots := by
  subst hn
  intro H locs ls hR hl hL
  exact lv_aload_n C.1 C.2.1 hd hi (hL.at hx) (k H locs ls hR hl hL)
theorem fv_aload (C : fv_C K WA X M mc ms) {i : Nat} {x : Nat} (hd : decode M.2.1 pc = .ok (.aload i, 2)) (hn : pc + 2 = n) (hx : L[i]? = some (some (.ref x))) (k : fv_V K Bs X nL Q n L (.ref x :: st) sz h cells slots) : fv_V K Bs X nL Q pc L st sz h cells slots := by
  subst hn
  intro H locs ls hR hl hL
  exact lv_aload C.1 C.2.1 hd (hL.at hx) (k H locs ls hR hl hL)
theorem fv_aload_nN (C : fv_C K WA X M mc ms) {j : Fin 4} {i : Nat} (hd : decode M.2.1 pc = .ok (.aload_n j, 1)) (hn : pc + 1 = n) (hi : (j : Nat) = i) (hx : L[i]? = some (some .null)) (k : fv_V K Bs X nL Q n L (.null :: st) sz h cells slots) : fv_V K Bs X nL Q pc L st sz h cells slots := by
  subst hn
  intro H locs ls hR hl hL
  exact lv_aload_nN C.1 C.2.1 hd hi (hL.at hx) (k H locs ls hR hl hL)
theorem fv_aloadN (C : fv_C K WA X M mc ms) {i : Nat} (hd : decode M.2.1 pc = .ok (.aload i, 2)) (hn : pc + 2 = n) (hx : L[i]? = some (some .null)) (k : fv_V K Bs X nL Q n L (.null :: st) sz h cells slots) : fv_V K Bs X nL Q pc L st sz h cells slots := by
  subst hn
  intro H locs ls hR hl hL
  exact lv_aloadN C.1 C.2.1 hd (hL.at hx) (k H locs ls hR hl hL)
theorem fv_istore_n (C : fv_C K WA X M mc ms) {j : Fin 4} {i : Nat} {x : Int32} (hd : decode M.2.1 pc = .ok (.istore_n j, 1)) (hn : pc + 1 = n) (hi : (j : Nat) = i) (hnL : i < nL) (hL' : L.set i (some (.int x)) = L') (k : fv_V K Bs X nL Q n L' st sz h cells slots) : fv_V K Bs X nL Q pc L ((.int x) :: st) sz h cells slots := by
  subst hn
  subst hL'
  intro H locs ls hR hl hL
  exact lv_istore_n C.1 C.2.1 hd hi hL.1 hnL rfl (fun ls' h' => k H locs ls' hR hl (hL.store rfl h'))
theorem fv_istore (C : fv_C K WA X M mc ms) {i : Nat} {x : Int32} (hd : decode M.2.1 pc = .ok (.istore i, 2)) (hn : pc + 2 = n)  (hnL : i < nL) (hL' : L.set i (some (.int x)) = L') (k : fv_V K Bs X nL Q n L' st sz h cells slots) : fv_V K Bs X nL Q pc L ((.int x) :: st) sz h cells slots := by
  subst hn
  subst hL'
  intro H locs ls hR hl hL
  exact lv_istore C.1 C.2.1 hd  hL.1 hnL rfl (fun ls' h' => k H locs ls' hR hl (hL.store rfl h'))
theorem fv_astore_n (C : fv_C K WA X M mc ms) {j : Fin 4} {i : Nat} {x : Nat} (hd : decode M.2.1 pc = .ok (.astore_n j, 1)) (hn : pc + 1 = n) (hi : (j : Nat) = i) (hnL : i < nL) (hL' : L.set i (some (.ref x)) = L') (k : fv_V K Bs X nL Q n L' st sz h cells slots) : fv_V K Bs X nL Q pc L ((.ref x) :: st) sz h cells slots := by
  subst hn
  subst hL'
  intro H locs ls hR hl hL
  exact lv_astore_n C.1 C.2.1 hd hi hL.1 hnL rfl (fun ls' h' => k H locs ls' hR hl (hL.store rfl h'))
theorem fv_astore (C : fv_C K WA X M mc ms) {i : Nat} {x : Nat} (hd : decode M.2.1 pc = .ok (.astore i, 2)) (hn : pc + 2 = n)  (hnL : i < nL) (hL' : L.set i (some (.ref x)) = L') (k : fv_V K Bs X nL Q n L' st sz h cells slots) : fv_V K Bs X nL Q pc L ((.ref x) :: st) sz h cells slots := by
  subst hn
  subst hL'
  intro H locs ls hR hl hL
  exact lv_astore C.1 C.2.1 hd  hL.1 hnL rfl (fun ls' h' => k H locs ls' hR hl (hL.store rfl h'))
theorem fv_astore_nN (C : fv_C K WA X M mc ms) {j : Fin 4} {i : Nat} (hd : decode M.2.1 pc = .ok (.astore_n j, 1)) (hn : pc + 1 = n) (hi : (j : Nat) = i) (hnL : i < nL) (hL' : L.set i (some .null) = L') (k : fv_V K Bs X nL Q n L' st sz h cells slots) : fv_V K Bs X nL Q pc L (.null :: st) sz h cells slots := by
  subst hn
  subst hL'
  intro H locs ls hR hl hL
  exact lv_astore_nN C.1 C.2.1 hd hi hL.1 hnL rfl (fun ls' h' => k H locs ls' hR hl (hL.store rfl h'))
theorem fv_astoreN (C : fv_C K WA X M mc ms) {i : Nat} (hd : decode M.2.1 pc = .ok (.astore i, 2)) (hn : pc + 2 = n)  (hnL : i < nL) (hL' : L.set i (some .null) = L') (k : fv_V K Bs X nL Q n L' st sz h cells slots) : fv_V K Bs X nL Q pc L (.null :: st) sz h cells slots := by
  subst hn
  subst hL'
  intro H locs ls hR hl hL
  exact lv_astoreN C.1 C.2.1 hd  hL.1 hnL rfl (fun ls' h' => k H locs ls' hR hl (hL.store rfl h'))
theorem fv_iinc (C : fv_C K WA X M mc ms) {i : Nat} {z : Int} {x v : Int32} (hd : decode M.2.1 pc = .ok (.iinc i z, 3)) (hn : pc + 3 = n) (hx : L[i]? = some (some (.int x))) (hv : x + Int32.ofInt z = v) (hnL : i < nL) (hL' : L.set i (some (.int v)) = L') (k : fv_V K Bs X nL Q n L' st sz h cells slots) : fv_V K Bs X nL Q pc L st sz h cells slots := by
  subst hn
  subst hL'
  intro H locs ls hR hl hL
  obtain ⟨q, hq⟩ := List.getElem?_of_mem ((fv_mem L 0 i (.int x)).mpr ⟨Nat.zero_le _, hx⟩)
  exact lv_iinc C.1 C.2.1 hd hL.1 hq hv hnL rfl (fun ls' h' => k H locs ls' hR hl (hL.store rfl h'))
theorem fv_iadd (C : fv_C K WA X M mc ms) {x y : Int32} (hd : decode M.2.1 pc = .ok (.iadd, 1)) (hn : pc + 1 = n)  (k : fv_V K Bs X nL Q n L (.int (x + y) :: st) sz h cells slots) : fv_V K Bs X nL Q pc L (.int y :: .int x :: st) sz h cells slots := by
  subst hn
  intro H locs ls hR hl hL
  exact lv_iadd C.1 C.2.1 hd (k H locs ls hR hl hL)
theorem fv_isub (C : fv_C K WA X M mc ms) {x y : Int32} (hd : decode M.2.1 pc = .ok (.isub, 1)) (hn : pc + 1 = n)  (k : fv_V K Bs X nL Q n L (.int (x - y) :: st) sz h cells slots) : fv_V K Bs X nL Q pc L (.int y :: .int x :: st) sz h cells slots := by
  subst hn
  intro H locs ls hR hl hL
  exact lv_isub C.1 C.2.1 hd (k H locs ls hR hl hL)
theorem fv_imul (C : fv_C K WA X M mc ms) {x y : Int32} (hd : decode M.2.1 pc = .ok (.imul, 1)) (hn : pc + 1 = n)  (k : fv_V K Bs X nL Q n L (.int (x * y) :: st) sz h cells slots) : fv_V K Bs X nL Q pc L (.int y :: .int x :: st) sz h cells slots := by
  subst hn
  intro H locs ls hR hl hL
  exact lv_imul C.1 C.2.1 hd (k H locs ls hR hl hL)
theorem fv_iand (C : fv_C K WA X M mc ms) {x y : Int32} (hd : decode M.2.1 pc = .ok (.iand, 1)) (hn : pc + 1 = n)  (k : fv_V K Bs X nL Q n L (.int (x &&& y) :: st) sz h cells slots) : fv_V K Bs X nL Q pc L (.int y :: .int x :: st) sz h cells slots := by
  subst hn
  intro H locs ls hR hl hL
  exact lv_iand C.1 C.2.1 hd (k H locs ls hR hl hL)
theorem fv_idiv (C : fv_C K WA X M mc ms) {x y : Int32} (hd : decode M.2.1 pc = .ok (.idiv, 1)) (hn : pc + 1 = n) (h0 : ¬ y = 0) (k : fv_V K Bs X nL Q n L (.int (x / y) :: st) sz h cells slots) : fv_V K Bs X nL Q pc L (.int y :: .int x :: st) sz h cells slots := by
  subst hn
  intro H locs ls hR hl hL
  exact lv_idiv C.1 C.2.1 hd h0 (k H locs ls hR hl hL)
theorem fv_irem (C : fv_C K WA X M mc ms) {x y : Int32} (hd : decode M.2.1 pc = .ok (.irem, 1)) (hn : pc + 1 = n) (h0 : ¬ y = 0) (k : fv_V K Bs X nL Q n L (.int (x - x / y * y) :: st) sz h cells slots) : fv_V K Bs X nL Q pc L (.int y :: .int x :: st) sz h cells slots := by
  subst hn
  intro H locs ls hR hl hL
  exact lv_irem C.1 C.2.1 hd h0 (k H locs ls hR hl hL)
theorem fv_iushr (C : fv_C K WA X M mc ms) {x y v : Int32} (hd : decode M.2.1 pc = .ok (.iushr, 1)) (hn : pc + 1 = n) (hv : (x.toUInt32 >>> (y.toUInt32 &&& Int32.toUInt32 31)).toInt32 = v) (k : fv_V K Bs X nL Q n L (.int v :: st) sz h cells slots) : fv_V K Bs X nL Q pc L (.int y :: .int x :: st) sz h cells slots := by
  subst hn
  intro H locs ls hR hl hL
  exact lv_iushr C.1 C.2.1 hd hv (k H locs ls hR hl hL)
theorem fv_ineg (C : fv_C K WA X M mc ms) {x : Int32} (hd : decode M.2.1 pc = .ok (.ineg, 1)) (hn : pc + 1 = n)  (k : fv_V K Bs X nL Q n L (.int (-x) :: st) sz h cells slots) : fv_V K Bs X nL Q pc L (.int x :: st) sz h cells slots := by
  subst hn
  intro H locs ls hR hl hL
  exact lv_ineg C.1 C.2.1 hd (k H locs ls hR hl hL)
theorem fv_dup (C : fv_C K WA X M mc ms) {va : Value} (hd : decode M.2.1 pc = .ok (.dup, 1)) (hn : pc + 1 = n) (hva : va.category = 1) (k : fv_V K Bs X nL Q n L (va :: va :: st) sz h cells slots) : fv_V K Bs X nL Q pc L (va :: st) sz h cells slots := by
  subst hn
  intro H locs ls hR hl hL
  exact lv_dup C.1 C.2.1 hd hva (k H locs ls hR hl hL)
theorem fv_pop (C : fv_C K WA X M mc ms) {va : Value} (hd : decode M.2.1 pc = .ok (.pop, 1)) (hn : pc + 1 = n) (hva : va.category = 1) (k : fv_V K Bs X nL Q n L st sz h cells slots) : fv_V K Bs X nL Q pc L (va :: st) sz h cells slots := by
  subst hn
  intro H locs ls hR hl hL
  exact lv_pop C.1 C.2.1 hd hva (k H locs ls hR hl hL)
theorem fv_dup_x1 (C : fv_C K WA X M mc ms) {va vb : Value} (hd : decode M.2.1 pc = .ok (.dup_x1, 1)) (hn : pc + 1 = n) (hva : va.category = 1) (hvb : vb.category = 1) (k : fv_V K Bs X nL Q n L (va :: vb :: va :: st) sz h cells slots) : fv_V K Bs X nL Q pc L (va :: vb :: st) sz h cells slots := by
  subst hn
  intro H locs ls hR hl hL
  exact lv_dup_x1 C.1 C.2.1 hd hva hvb (k H locs ls hR hl hL)
theorem fv_dup_x2 (C : fv_C K WA X M mc ms) {va vb vd : Value} (hd : decode M.2.1 pc = .ok (.dup_x2, 1)) (hn : pc + 1 = n) (hva : va.category = 1) (hvb : vb.category = 1) (hvd : vd.category = 1) (k : fv_V K Bs X nL Q n L (va :: vb :: vd :: va :: st) sz h cells slots) : fv_V K Bs X nL Q pc L (va :: vb :: vd :: st) sz h cells slots := by
  subst hn
  intro H locs ls hR hl hL
  exact lv_dup_x2 C.1 C.2.1 hd hva hvb hvd (k H locs ls hR hl hL)
theorem fv_dup2 (C : fv_C K WA X M mc ms) {va vb : Value} (hd : decode M.2.1 pc = .ok (.dup2, 1)) (hn : pc + 1 = n) (hva : va.category = 1) (hvb : vb.category = 1) (k : fv_V K Bs X nL Q n L (va :: vb :: va :: vb :: st) sz h cells slots) : fv_V K Bs X nL Q pc L (va :: vb :: st) sz h cells slots := by
  subst hn
  intro H locs ls hR hl hL
  exact lv_dup2_11 C.1 C.2.1 hd hva hvb (k H locs ls hR hl hL)
theorem fv_if_eq (C : fv_C K WA X M mc ms) {x : Int32} {off : Int} {tgt : Nat} (hd : decode M.2.1 pc = .ok (.ifCond .eq off, 3)) (ht : (pc : Int) + off = (tgt : Int)) (hn : pc + 3 = n) (kt : x = 0 → fv_V K Bs X nL Q tgt L st sz h cells slots) (kf : ¬ x = 0 → fv_V K Bs X nL Q n L st sz h cells slots) : fv_V K Bs X nL Q pc L (.int x :: st) sz h cells slots := by
  subst hn
  intro H locs ls hR hl hL
  exact lv_if_eq C.1 C.2.1 hd ht (fun q => kt q H locs ls hR hl hL) (fun q => kf q H locs ls hR hl hL)
theorem fv_icmp_eq (C : fv_C K WA X M mc ms) {x y : Int32} {off : Int} {tgt : Nat} (hd : decode M.2.1 pc = .ok (.if_icmp .eq off, 3)) (ht : (pc : Int) + off = (tgt : Int)) (hn : pc + 3 = n) (kt : x = y → fv_V K Bs X nL Q tgt L st sz h cells slots) (kf : ¬ x = y → fv_V K Bs X nL Q n L st sz h cells slots) : fv_V K Bs X nL Q pc L (.int y :: .int x :: st) sz h cells slots := by
  subst hn
  intro H locs ls hR hl hL
  exact lv_icmp_eq C.1 C.2.1 hd ht (fun q => kt q H locs ls hR hl hL) (fun q => kf q H locs ls hR hl hL)
theorem fv_if_ne (C : fv_C K WA X M mc ms) {x : Int32} {off : Int} {tgt : Nat} (hd : decode M.2.1 pc = .ok (.ifCond .ne off, 3)) (ht : (pc : Int) + off = (tgt : Int)) (hn : pc + 3 = n) (kt : ¬ x = 0 → fv_V K Bs X nL Q tgt L st sz h cells slots) (kf : x = 0 → fv_V K Bs X nL Q n L st sz h cells slots) : fv_V K Bs X nL Q pc L (.int x :: st) sz h cells slots := by
  subst hn
  intro H locs ls hR hl hL
  exact lv_if_ne C.1 C.2.1 hd ht (fun q => kt q H locs ls hR hl hL) (fun q => kf q H locs ls hR hl hL)
theorem fv_icmp_ne (C : fv_C K WA X M mc ms) {x y : Int32} {off : Int} {tgt : Nat} (hd : decode M.2.1 pc = .ok (.if_icmp .ne off, 3)) (ht : (pc : Int) + off = (tgt : Int)) (hn : pc + 3 = n) (kt : ¬ x = y → fv_V K Bs X nL Q tgt L st sz h cells slots) (kf : x = y → fv_V K Bs X nL Q n L st sz h cells slots) : fv_V K Bs X nL Q pc L (.int y :: .int x :: st) sz h cells slots := by
  subst hn
  intro H locs ls hR hl hL
  exact lv_icmp_ne C.1 C.2.1 hd ht (fun q => kt q H locs ls hR hl hL) (fun q => kf q H locs ls hR hl hL)
theorem fv_if_lt (C : fv_C K WA X M mc ms) {x : Int32} {off : Int} {tgt : Nat} (hd : decode M.2.1 pc = .ok (.ifCond .lt off, 3)) (ht : (pc : Int) + off = (tgt : Int)) (hn : pc + 3 = n) (kt : x < 0 → fv_V K Bs X nL Q tgt L st sz h cells slots) (kf : ¬ x < 0 → fv_V K Bs X nL Q n L st sz h cells slots) : fv_V K Bs X nL Q pc L (.int x :: st) sz h cells slots := by
  subst hn
  intro H locs ls hR hl hL
  exact lv_if_lt C.1 C.2.1 hd ht (fun q => kt q H locs ls hR hl hL) (fun q => kf q H locs ls hR hl hL)
theorem fv_icmp_lt (C : fv_C K WA X M mc ms) {x y : Int32} {off : Int} {tgt : Nat} (hd : decode M.2.1 pc = .ok (.if_icmp .lt off, 3)) (ht : (pc : Int) + off = (tgt : Int)) (hn : pc + 3 = n) (kt : x < y → fv_V K Bs X nL Q tgt L st sz h cells slots) (kf : ¬ x < y → fv_V K Bs X nL Q n L st sz h cells slots) : fv_V K Bs X nL Q pc L (.int y :: .int x :: st) sz h cells slots := by
  subst hn
  intro H locs ls hR hl hL
  exact lv_icmp_lt C.1 C.2.1 hd ht (fun q => kt q H locs ls hR hl hL) (fun q => kf q H locs ls hR hl hL)
theorem fv_if_ge (C : fv_C K WA X M mc ms) {x : Int32} {off : Int} {tgt : Nat} (hd : decode M.2.1 pc = .ok (.ifCond .ge off, 3)) (ht : (pc : Int) + off = (tgt : Int)) (hn : pc + 3 = n) (kt : 0 ≤ x → fv_V K Bs X nL Q tgt L st sz h cells slots) (kf : ¬ 0 ≤ x → fv_V K Bs X nL Q n L st sz h cells slots) : fv_V K Bs X nL Q pc L (.int x :: st) sz h cells slots := by
  subst hn
  intro H locs ls hR hl hL
  exact lv_if_ge C.1 C.2.1 hd ht (fun q => kt q H locs ls hR hl hL) (fun q => kf q H locs ls hR hl hL)
theorem fv_icmp_ge (C : fv_C K WA X M mc ms) {x y : Int32} {off : Int} {tgt : Nat} (hd : decode M.2.1 pc = .ok (.if_icmp .ge off, 3)) (ht : (pc : Int) + off = (tgt : Int)) (hn : pc + 3 = n) (kt : y ≤ x → fv_V K Bs X nL Q tgt L st sz h cells slots) (kf : ¬ y ≤ x → fv_V K Bs X nL Q n L st sz h cells slots) : fv_V K Bs X nL Q pc L (.int y :: .int x :: st) sz h cells slots := by
  subst hn
  intro H locs ls hR hl hL
  exact lv_icmp_ge C.1 C.2.1 hd ht (fun q => kt q H locs ls hR hl hL) (fun q => kf q H locs ls hR hl hL)
theorem fv_if_gt (C : fv_C K WA X M mc ms) {x : Int32} {off : Int} {tgt : Nat} (hd : decode M.2.1 pc = .ok (.ifCond .gt off, 3)) (ht : (pc : Int) + off = (tgt : Int)) (hn : pc + 3 = n) (kt : 0 < x → fv_V K Bs X nL Q tgt L st sz h cells slots) (kf : ¬ 0 < x → fv_V K Bs X nL Q n L st sz h cells slots) : fv_V K Bs X nL Q pc L (.int x :: st) sz h cells slots := by
  subst hn
  intro H locs ls hR hl hL
  exact lv_if_gt C.1 C.2.1 hd ht (fun q => kt q H locs ls hR hl hL) (fun q => kf q H locs ls hR hl hL)
theorem fv_icmp_gt (C : fv_C K WA X M mc ms) {x y : Int32} {off : Int} {tgt : Nat} (hd : decode M.2.1 pc = .ok (.if_icmp .gt off, 3)) (ht : (pc : Int) + off = (tgt : Int)) (hn : pc + 3 = n) (kt : y < x → fv_V K Bs X nL Q tgt L st sz h cells slots) (kf : ¬ y < x → fv_V K Bs X nL Q n L st sz h cells slots) : fv_V K Bs X nL Q pc L (.int y :: .int x :: st) sz h cells slots := by
  subst hn
  intro H locs ls hR hl hL
  exact lv_icmp_gt C.1 C.2.1 hd ht (fun q => kt q H locs ls hR hl hL) (fun q => kf q H locs ls hR hl hL)
theorem fv_if_le (C : fv_C K WA X M mc ms) {x : Int32} {off : Int} {tgt : Nat} (hd : decode M.2.1 pc = .ok (.ifCond .le off, 3)) (ht : (pc : Int) + off = (tgt : Int)) (hn : pc + 3 = n) (kt : x ≤ 0 → fv_V K Bs X nL Q tgt L st sz h cells slots) (kf : ¬ x ≤ 0 → fv_V K Bs X nL Q n L st sz h cells slots) : fv_V K Bs X nL Q pc L (.int x :: st) sz h cells slots := by
  subst hn
  intro H locs ls hR hl hL
  exact lv_if_le C.1 C.2.1 hd ht (fun q => kt q H locs ls hR hl hL) (fun q => kf q H locs ls hR hl hL)
theorem fv_icmp_le (C : fv_C K WA X M mc ms) {x y : Int32} {off : Int} {tgt : Nat} (hd : decode M.2.1 pc = .ok (.if_icmp .le off, 3)) (ht : (pc : Int) + off = (tgt : Int)) (hn : pc + 3 = n) (kt : x ≤ y → fv_V K Bs X nL Q tgt L st sz h cells slots) (kf : ¬ x ≤ y → fv_V K Bs X nL Q n L st sz h cells slots) : fv_V K Bs X nL Q pc L (.int y :: .int x :: st) sz h cells slots := by
  subst hn
  intro H locs ls hR hl hL
  exact lv_icmp_le C.1 C.2.1 hd ht (fun q => kt q H locs ls hR hl hL) (fun q => kf q H locs ls hR hl hL)
theorem fv_goto (C : fv_C K WA X M mc ms) {off : Int} {tgt : Nat} (hd : decode M.2.1 pc = .ok (.goto off, 3)) (ht : (pc : Int) + off = (tgt : Int)) (k : fv_V K Bs X nL Q tgt L st sz h cells slots) : fv_V K Bs X nL Q pc L st sz h cells slots := fun H locs ls hR hl hL => lv_goto C.1 C.2.1 hd ht (k H locs ls hR hl hL)
theorem fv_ifnonnull (C : fv_C K WA X M mc ms) {x : Nat} {off : Int} {tgt : Nat} (hd : decode M.2.1 pc = .ok (.ifnonnull off, 3)) (ht : (pc : Int) + off = (tgt : Int)) (k : fv_V K Bs X nL Q tgt L st sz h cells slots) : fv_V K Bs X nL Q pc L (.ref x :: st) sz h cells slots := fun H locs ls hR hl hL => lv_ifnonnull C.1 C.2.1 hd ht (k H locs ls hR hl hL)
theorem fv_ifnonnullN (C : fv_C K WA X M mc ms) {off : Int} (hd : decode M.2.1 pc = .ok (.ifnonnull off, 3)) (hn : pc + 3 = n) (k : fv_V K Bs X nL Q n L st sz h cells slots) : fv_V K Bs X nL Q pc L (.null :: st) sz h cells slots := by
  subst hn
  exact fun H locs ls hR hl hL => lv_ifnonnullN C.1 C.2.1 hd (k H locs ls hR hl hL)
theorem fv_ifnull (C : fv_C K WA X M mc ms) {x : Nat} {off : Int} (hd : decode M.2.1 pc = .ok (.ifnull off, 3)) (hn : pc + 3 = n) (k : fv_V K Bs X nL Q n L st sz h cells slots) : fv_V K Bs X nL Q pc L (.ref x :: st) sz h cells slots := by
  subst hn
  exact fun H locs ls hR hl hL => lv_ifnull C.1 C.2.1 hd (k H locs ls hR hl hL)
theorem fv_ifnullN (C : fv_C K WA X M mc ms) {off : Int} {tgt : Nat} (hd : decode M.2.1 pc = .ok (.ifnull off, 3)) (ht : (pc : Int) + off = (tgt : Int)) (k : fv_V K Bs X nL Q tgt L st sz h cells slots) : fv_V K Bs X nL Q pc L (.null :: st) sz h cells slots := fun H locs ls hR hl hL => lv_ifnullN C.1 C.2.1 hd ht (k H locs ls hR hl hL)
theorem fv_tableOut (C : fv_C K WA X M mc ms) {dflt lo hi : Int} {offs : Array Int} {len : Nat} {x : Int32} {tgt : Nat} (hd : decode M.2.1 pc = .ok (.tableswitch dflt lo hi offs, len)) (hx : x.toInt < lo ∨ hi < x.toInt) (ht : (pc : Int) + dflt = (tgt : Int)) (k : fv_V K Bs X nL Q tgt L st sz h cells slots) : fv_V K Bs X nL Q pc L (.int x :: st) sz h cells slots := fun H locs ls hR hl hL => lv_tableOut C.1 C.2.1 hd hx ht (k H locs ls hR hl hL)
theorem fv_tableIn (C : fv_C K WA X M mc ms) {dflt lo hi : Int} {offs : Array Int} {len : Nat} {x : Int32} {off : Int} {tgt : Nat} (hd : decode M.2.1 pc = .ok (.tableswitch dflt lo hi offs, len)) (h1 : ¬ x.toInt < lo) (h2 : ¬ hi < x.toInt) (ho : offs[(x.toInt - lo).toNat]? = some off) (ht : (pc : Int) + off = (tgt : Int)) (k : fv_V K Bs X nL Q tgt L st sz h cells slots) : fv_V K Bs X nL Q pc L (.int x :: st) sz h cells slots := fun H locs ls hR hl hL => lv_tableIn C.1 C.2.1 hd h1 h2 ho ht (k H locs ls hR hl hL)
theorem fv_lookup (C : fv_C K WA X M mc ms) {dflt : Int} {ps : Array (Int × Int)} {len : Nat} {x : Int32} {off : Int} {tgt : Nat} (hd : decode M.2.1 pc = .ok (.lookupswitch dflt ps, len)) (hp : (ps.toList.zip (ps.toList.drop 1)).all (fun (a, next) => a.1 < next.1) = true) (ho : Op.lookupswitch.offset ps.toList dflt x.toInt = off) (ht : (pc : Int) + off = (tgt : Int)) (k : fv_V K Bs X nL Q tgt L st sz h cells slots) : fv_V K Bs X nL Q pc L (.int x :: st) sz h cells slots := fun H locs ls hR hl hL => lv_lookup C.1 C.2.1 hd hp ho ht (k H locs ls hR hl hL)
theorem fv_iret (C : fv_C K WA X M mc ms) {post : Option Value → Nat → fv_H → Prop} {v : Int32} (hr : M.2.2.2.1 = some .int) (hd : decode M.2.1 pc = .ok (.ireturn, 1)) (hc : cells ≤ mc) (hs : slots ≤ ms) (hp : post (some (.int v)) sz h) : fv_V K Bs X nL (fv_MQ K Bs X post mc ms) pc L [.int v] sz h cells slots := by
  intro H locs ls hR hl hL
  refine W.widen hc hs ?_
  exact W.iret C.1 C.2.1 (C.2.2.2.1.trans hr) (fun t ht hW => ⟨_, sz, h, rfl, hp, by rw [ht]; exact hR⟩) hl hd C.2.2.2.2.1
theorem fv_zret (C : fv_C K WA X M mc ms) {post : Option Value → Nat → fv_H → Prop} {v : Int32} (hr : M.2.2.2.1 = some .boolean) (hd : decode M.2.1 pc = .ok (.ireturn, 1)) (hv : narrow .boolean (.int v) = .int v) (hc : cells ≤ mc) (hs : slots ≤ ms) (hp : post (some (.int v)) sz h) : fv_V K Bs X nL (fv_MQ K Bs X post mc ms) pc L [.int v] sz h cells slots := by
  intro H locs ls hR hl hL
  refine W.widen hc hs ?_
  exact W.zret C.1 C.2.1 (C.2.2.2.1.trans hr) hv (fun t ht hW => ⟨_, sz, h, rfl, hp, by rw [ht]; exact hR⟩) hl hd C.2.2.2.2.1
theorem fv_vret (C : fv_C K WA X M mc ms) {post : Option Value → Nat → fv_H → Prop} (hr : M.2.2.2.1 = none) (hd : decode M.2.1 pc = .ok (.return_, 1)) (hc : cells ≤ mc) (hs : slots ≤ ms) (hp : post none sz h) : fv_V K Bs X nL (fv_MQ K Bs X post mc ms) pc L [] sz h cells slots := by
  intro H locs ls hR hl hL
  refine W.widen hc hs ?_
  exact W.vret C.1 C.2.1 (C.2.2.2.1.trans hr) (fun t ht hW => ⟨_, sz, h, rfl, hp, by rw [ht]; exact hR⟩) hl hd C.2.2.2.2.1
theorem fv_aret (C : fv_C K WA X M mc ms) {post : Option Value → Nat → fv_H → Prop} {v : Value} {rt : FieldType} (hr : M.2.2.2.1 = some rt) (hrt : (∃ n, rt = .object n) ∨ ∃ t, rt = .array t) (hv : v = .null ∨ ∃ a, v = .ref a) (hd : decode M.2.1 pc = .ok (.areturn, 1)) (hc : cells ≤ mc) (hs : slots ≤ ms) (hp : post (some v) sz h) : fv_V K Bs X nL (fv_MQ K Bs X post mc ms) pc L [v] sz h cells slots := by
  intro H locs ls hR hl hL
  refine W.widen hc hs ?_
  exact W.aret C.1 C.2.1 (C.2.2.2.1.trans hr) hrt hv (fun t ht hW => ⟨_, sz, h, rfl, hp, by rw [ht]; exact hR⟩) hl hd C.2.2.2.2.1
/-- a field's link: class own's pool entry idx names field k of class ci, of type ty -/
def fv_FL (K : fv_K) (WA : List Cond) (own : String) (idx ci k : Nat) (ty : FieldType) (fin : Bool) : Prop :=
  ∃ (C0 : String) (T : u_T) (N : Nat) (ty0 : Nat → FieldType), K.2.1[ci]? = some (C0, T, N) ∧ k < N ∧ (∀ w ∈ u_ws C0 T N, w ∈ WA) ∧ (T k).1 = C0 ∧ (Cond.fieldLink own idx C0 (T k).2.1 (T k).2.2.1 ∈ WA ∨ ∃ host, (own, idx, C0, (T k).2.1, (T k).2.2.1, host) ∈ K.2.2.2.1) ∧
  (∀ j, j < N → parseFieldDescriptor (T j).2.2.1 = some (ty0 j)) ∧ (∀ a, a < N → ∀ b, b < N → a ≠ b → (T a).2.1 ≠ (T b).2.1) ∧ ty0 k = ty ∧ (T k).2.2.2 = fin
theorem fv_get (C : fv_C K WA X M mc ms) {idx ci k a : Nat} {ty : FieldType} {fin : Bool} {fs : List Value} {v : Value} (F : fv_FL K WA M.1.cls idx ci k ty fin) (hd : decode M.2.1 pc = .ok (.getfield idx, 3)) (hn : pc + 3 = n) (ha : h a = some (.inr (ci, fs))) (hv : fs[k]? = some v) (kk : fv_V K Bs X nL Q n L (v :: st) sz h cells slots) : fv_V K Bs X nL Q pc L (.ref a :: st) sz h cells slots := by
  subst hn
  intro H locs ls hR hl hL
  obtain ⟨C0, T, N, ty0, hc, hk, hin, hT, hlink, -⟩ := F
  rcases hlink with hlink | ⟨host, hlink⟩
  · exact va_get (D := K.1) (cl := K.2.1) (tys := K.2.2.1) C.1 C.2.1 C.2.2.2.2.2.2.1 hin C.2.2.2.2.2.1 C.2.2.2.2.2.2.2.1.1 (hR.one ha) 0 rfl hc k hk (C.2.2.2.2.2.2.1 _ hlink) (fun x hx => by rw [hT] at hx; exact hx) hv hd (kk H locs ls hR hl hL)
  · exact va_getN (D := K.1) (cl := K.2.1) (tys := K.2.2.1) C.1 C.2.1 C.2.2.2.2.2.2.1 hin C.2.2.2.2.2.1 C.2.2.2.2.2.2.2.1.1 (hR.one ha) 0 rfl hc k hk (va_Nw.use rfl (C.2.2.2.2.2.2.2.1.2.1 _ hlink)) (fun x hx => by rw [hT] at hx; exact hx) hv hd (kk H locs ls hR hl hL)
theorem fv_locs {locs : List Loc} {a i : Nat} (hl : ∀ q ∈ locs, Bs ≤ q.base) (ha : Bs ≤ a) : ∀ q ∈ locs ++ [(⟨a, i⟩ : Loc)], Bs ≤ q.base := by
  intro q hq
  rcases List.mem_append.mp hq with h1 | h1
  · exact hl q h1
  · rw [List.mem_singleton.mp h1]
    exact ha
theorem fv_put (C : fv_C K WA X M mc ms) {idx ci k a : Nat} {ty : FieldType} {fin : Bool} {fs : List Value} {v : Value} (F : fv_FL K WA M.1.cls idx ci k ty fin) (hfin : fin = false ∨ (fin = true ∧ M.1.name = "<init>" ∧ ∃ r, K.2.1[ci]? = some (M.1.cls, r) ∧ ∀ host C0 nm ds, (M.1.cls, idx, C0, nm, ds, host) ∉ K.2.2.2.1)) (hd : decode M.2.1 pc = .ok (.putfield idx, 3)) (hn : pc + 3 = n) (ha : h a = some (.inr (ci, fs))) (hB : Bs ≤ a) (hnr : narrow ty v = v) (hft : fits ty v = true) (hl9 : k < fs.length)
    (kk : fv_V K Bs X nL Q n L st sz (va_up h a (some (.inr (ci, fs.set k v)))) cells slots) : fv_V K Bs X nL Q pc L (v :: .ref a :: st) sz h cells slots := by
  subst hn
  intro H locs ls hR hl hL
  obtain ⟨C0, T, N, ty0, hc, hk, hin, hT, hlink, hty, hnm, hk0, hTf⟩ := F
  have hts := C.2.2.2.2.2.2.1
  have hown := C.2.2.2.2.2.1
  have hK := C.2.2.2.2.2.2.2.1.1
  have hd0 : parseFieldDescriptor (T k).2.2.1 = some ty := by rw [hty k hk, hk0]
  have hap := va_apart (own := M.1.cls) hts hin ty0 hty hnm hK hc
  obtain ⟨r, h1, cell, q1, q2, q3, q4⟩ := hR.2 a _ ha
  have hr : r = (C0, T, N) := Option.some.inj (h1.symm.trans hc)
  subst hr
  obtain ⟨hS, hfc, kC, hkC, hkind⟩ := hK.1 ci _ hc
  obtain ⟨cf, kf, fi, f, hi, hsl⟩ := hS k hk
  have hlay := hts _ (hin _ (u_in_lay hk))
  have hst := (u_facts hfc hkC (u_lays hts hin hk) hi).1
  have fin2 : ∀ H1 : Heap, H1[a]? = some (cell.setSlot f.slot v) → H1.size = H.size → (∀ q, q ≠ a → H1[q]? = H[q]?) → fv_R K sz (va_up h a (some (.inr (ci, fs.set k v)))) H1 := by
    intro H1 e1 e2 e3
    rw [hsl] at e1
    exact hR.set e2 e3 ⟨_, hc, t_OB.to (V := updV (vp_V fs) k v) ⟨_, e1, q2, q3, t_set q4 hap hk v⟩ (fun j _ => vp_updV_set hl9 v j)⟩
  have hsame : ∀ x, X.2.2.2.2.1.fieldFound? (T k).1 (T k).2.1 (T k).2.2.1 = some x → X.2.2.2.2.1.fieldFound? C0 (T k).2.1 (T k).2.2.1 = some x := fun x hx => by rw [hT] at hx; exact hx
  have hlt : f.slot < cell.slots.size := by rw [hsl]; exact k2_hasslot (q4 k hk)
  unfold u_lay at hlay
  rcases hfin with hfin | ⟨hfin, hini, r, hrr, hno⟩
  · rw [if_neg (by rw [hTf, hfin]; decide)] at hlay
    have h6 := u_store hfc hkC hkind hlay hi hd0 hnr hft
    rcases hlink with hlink | ⟨host, hlink⟩
    · exact W.putK C.1 C.2.1 (f := f) ⟨hown, hts _ hlink, ⟨_, _, _, hsame _ hi⟩, hst⟩ (by rw [q2]; exact h6) q1 q3 hlt rfl rfl hd fun H' e1 e2 e3 => kk H' _ ls (fin2 H' e1 e2 e3) (fv_locs hl hB) hL
    · exact va_WputK C.1 C.2.1 (f := f) hown (va_Nw.use rfl (C.2.2.2.2.2.2.2.1.2.1 _ hlink)) (hsame _ hi) hst (by rw [q2]; exact h6) q1 q3 hlt rfl rfl hd fun H' e1 e2 e3 => kk H' _ ls (fin2 H' e1 e2 e3) (fv_locs hl hB) hL
  · rw [if_pos (by rw [hTf, hfin])] at hlay
    rcases hlink with hlink | ⟨host, hlink⟩
    · have hcls : C0 = M.1.cls := (Prod.mk.inj (Option.some.inj (hc.symm.trans hrr))).1
      have hcf : X.2.2.2.2.2.1.cls = cf := by
        obtain ⟨_, _, c', _, _, _, -, -, hf', -, -, -, hown2, -⟩ := Cond.laysFinal_spec hlay
        have e1 : c' = cf := by have := hi.symm.trans hf'; simp at this; exact this.1.symm
        rw [hT, hcls] at hown2
        rw [← e1]; exact Option.some.inj (hown.symm.trans hown2)
      have h6 := u_fits hfc hkC hkind (Or.inr hlay) hi hd0 hnr hft
      exact W.putFinK C.1 C.2.1 hown (hts _ hlink) (hsame _ hi) hst hcf (C.2.2.2.2.2.2.2.2.2.trans hini) (by rw [q2]; exact h6) q1 q3 hlt rfl rfl hd fun H' e1 e2 e3 => kk H' _ ls (fin2 H' e1 e2 e3) (fv_locs hl hB) hL
    · exact absurd hlink (hno _ _ _ _)
theorem fv_iald (C : fv_C K WA X M mc ms) {a t0 : Nat} {cA : ClassId} {N : Nat} {f : Nat → Int32} {i : Int32} (ht : K.2.2.1[t0]? = some (cA, .int)) (hd : decode M.2.1 pc = .ok (.iaload, 1)) (hn : pc + 1 = n) (ha : h a = some (.inl (cA, N, .inl f))) (hin : vp_in i N) (kk : fv_V K Bs X nL Q n L (.int (f i.toNatClampNeg) :: st) sz h cells slots) : fv_V K Bs X nL Q pc L (.int i :: .ref a :: st) sz h cells slots := by
  subst hn
  exact fun H locs ls hR hl hL => va_iald (D := K.1) (cl := K.2.1) (tys := K.2.2.1) C.1 C.2.1 C.2.2.2.2.2.2.2.1.1 (hR.one ha) 0 t0 rfl ht hin hd (kk H locs ls hR hl hL)
theorem fv_zald (C : fv_C K WA X M mc ms) {a t0 : Nat} {cA : ClassId} {N : Nat} {f : Nat → Int32} {i : Int32} (ht : K.2.2.1[t0]? = some (cA, .boolean)) (hd : decode M.2.1 pc = .ok (.baload, 1)) (hn : pc + 1 = n) (ha : h a = some (.inl (cA, N, .inl f))) (hin : vp_in i N) (kk : fv_V K Bs X nL Q n L (.int (f i.toNatClampNeg) :: st) sz h cells slots) : fv_V K Bs X nL Q pc L (.int i :: .ref a :: st) sz h cells slots := by
  subst hn
  exact fun H locs ls hR hl hL => va_zald (D := K.1) (cl := K.2.1) (tys := K.2.2.1) C.1 C.2.1 C.2.2.2.2.2.2.2.1.1 (hR.one ha) 0 t0 rfl ht hin hd (kk H locs ls hR hl hL)
theorem fv_aald (C : fv_C K WA X M mc ms) {a t0 : Nat} {cA : ClassId} {C0 : String} {N : Nat} {f : Nat → Option Nat} {i : Int32} {v : Value} (ht : K.2.2.1[t0]? = some (cA, .object C0)) (hd : decode M.2.1 pc = .ok (.aaload, 1)) (hn : pc + 1 = n) (ha : h a = some (.inl (cA, N, .inr (.inr (.inr (.inr f)))))) (hin : vp_in i N) (hv : va_rf (f i.toNatClampNeg) = v) (kk : fv_V K Bs X nL Q n L (v :: st) sz h cells slots) : fv_V K Bs X nL Q pc L (.int i :: .ref a :: st) sz h cells slots := by
  subst hn
  subst hv
  exact fun H locs ls hR hl hL => va_aldq (D := K.1) (cl := K.2.1) (tys := K.2.2.1) C.1 C.2.1 C.2.2.2.2.2.2.2.1.1 (hR.one ha) 0 t0 rfl ht hin hd (kk H locs ls hR hl hL)
theorem fv_alen (C : fv_C K WA X M mc ms) {a t0 : Nat} {cA : ClassId} {x : vp_A} {ty : FieldType} {v : Int32} (ht : K.2.2.1[t0]? = some (cA, ty)) (hd : decode M.2.1 pc = .ok (.arraylength, 1)) (hn : pc + 1 = n) (ha : h a = some (.inl (cA, x))) (hv : Int32.ofNat x.1 = v) (kk : fv_V K Bs X nL Q n L (.int v :: st) sz h cells slots) : fv_V K Bs X nL Q pc L (.ref a :: st) sz h cells slots := by
  subst hn
  exact fun H locs ls hR hl hL => va_alen (D := K.1) (cl := K.2.1) (tys := K.2.2.1) C.1 C.2.1 C.2.2.2.2.2.2.2.1.1 (hR.one ha) 0 t0 rfl ht hv hd (kk H locs ls hR hl hL)
theorem fv_iast (C : fv_C K WA X M mc ms) {a t0 : Nat} {cA : ClassId} {N : Nat} {f : Nat → Int32} {i x : Int32} (ht : K.2.2.1[t0]? = some (cA, .int)) (hd : decode M.2.1 pc = .ok (.iastore, 1)) (hn : pc + 1 = n) (ha : h a = some (.inl (cA, N, .inl f))) (hB : Bs ≤ a) (hin : vp_in i N) (kk : fv_V K Bs X nL Q n L st sz (va_up h a (some (.inl (cA, N, .inl (upd f i.toNatClampNeg x))))) cells slots) : fv_V K Bs X nL Q pc L (.int x :: .int i :: .ref a :: st) sz h cells slots := by
  subst hn
  intro H locs ls hR hl hL
  refine W.iast C.1 C.2.1 (hR.2 a _ ha) ((C.2.2.2.2.2.2.2.1.1.2 t0 _ ht).1 N (fun j => .int (f j))) (fun q => by cases q) (by show ¬ (i < 0 ∨ (arrV _ _ _).slots.size ≤ _); rw [arrV_size]; exact hin) rfl rfl hd fun H1 e z oq => ?_
  refine kk H1 _ ls (hR.set z oq ?_) (fv_locs hl hB) hL
  show H1[a]? = some (vp_cell _ _)
  rw [e, vp_cell_i, vp_cell_i, arrV_store]
  congr 2
  funext q
  by_cases hq : q = i.toNatClampNeg
  · subst hq
    simp [updV, upd]
  · simp [updV, upd, hq]
theorem fv_zast (C : fv_C K WA X M mc ms) {a t0 : Nat} {cA : ClassId} {N : Nat} {f : Nat → Int32} {i x : Int32} (ht : K.2.2.1[t0]? = some (cA, .boolean)) (hd : decode M.2.1 pc = .ok (.bastore, 1)) (hn : pc + 1 = n) (ha : h a = some (.inl (cA, N, .inl f))) (hB : Bs ≤ a) (hin : vp_in i N) (hx : narrow .boolean (.int x) = .int x) (kk : fv_V K Bs X nL Q n L st sz (va_up h a (some (.inl (cA, N, .inl (upd f i.toNatClampNeg x))))) cells slots) : fv_V K Bs X nL Q pc L (.int x :: .int i :: .ref a :: st) sz h cells slots := by
  subst hn
  intro H locs ls hR hl hL
  refine W.zast C.1 C.2.1 (hR.2 a _ ha) ((C.2.2.2.2.2.2.2.1.1.2 t0 _ ht).1 N (fun j => .int (f j))) (fun q => by cases q) (by show ¬ (i < 0 ∨ (arrV _ _ _).slots.size ≤ _); rw [arrV_size]; exact hin) rfl rfl hd fun H1 e z oq => ?_
  refine kk H1 _ ls (hR.set z oq ?_) (fv_locs hl hB) hL
  show H1[a]? = some (vp_cell _ _)
  rw [e, hx, vp_cell_i, vp_cell_i, arrV_store]
  congr 2
  funext q
  by_cases hq : q = i.toNatClampNeg
  · subst hq
    simp [updV, upd]
  · simp [updV, upd, hq]
theorem fv_aast (C : fv_C K WA X M mc ms) {a t0 ci v : Nat} {cA : ClassId} {r : vw_C} {N : Nat} {vs : List Value} {f : Nat → Option Nat} {i : Int32} (ht : K.2.2.1[t0]? = some (cA, .object r.1)) (hd : decode M.2.1 pc = .ok (.aastore, 1)) (hn : pc + 1 = n) (ha : h a = some (.inl (cA, N, .inr (.inr (.inr (.inr f)))))) (hv : h v = some (.inr (ci, vs))) (hc : K.2.1[ci]? = some r) (hB : Bs ≤ a) (hin : vp_in i N) (kk : fv_V K Bs X nL Q n L st sz (va_up h a (some (.inl (cA, N, .inr (.inr (.inr (.inr (va_up f i.toNatClampNeg (some v))))))))) cells slots) : fv_V K Bs X nL Q pc L (.ref v :: .int i :: .ref a :: st) sz h cells slots := by
  subst hn
  intro H locs ls hR hl hL
  have hK := C.2.2.2.2.2.2.2.1.1
  have hlt : i.toNatClampNeg < N := Nat.not_le.mp fun q => hin (Or.inr q)
  have h0 : ¬ i < 0 := fun q => hin (Or.inl q)
  obtain ⟨r', hr', cellV, g1, g2, g3, -⟩ := hR.2 v _ hv
  have hcls := (hK.1 ci r hc).2
  obtain ⟨kA, comp, k1, k2, k3, -⟩ := (hK.2 t0 _ ht).2
  have hcomp : comp = K.1.1 ci := Option.some.inj (k3.symm.trans hcls.1)
  subst hcomp
  obtain ⟨kC, hkC, -⟩ := hcls.2
  refine W.aast C.1 C.2.1 (hR.2 a _ ha) (fun q h => by cases h) (fun h => by cases h) k1 k2 rfl hkC ⟨h0, by show _ < (arrV _ _ _).slots.size; rw [arrV_size]; exact hlt⟩ g1 (fun q h => by rw [g3] at h; cases h) (by rw [g2]; exact hkC) (by rw [g2]; exact va_assign hcls) rfl rfl hd fun H1 e z oq => ?_
  refine kk H1 _ ls (hR.set z oq ?_) (fv_locs hl hB) hL
  show H1[a]? = some (vp_cell _ _)
  rw [e, vp_cell_q, vp_cell_q, arrV_store]
  congr 2
  funext q
  by_cases hq : q = i.toNatClampNeg
  · subst hq
    simp [updV, va_up, va_rf]
  · simp [updV, va_up, hq]
theorem fv_aastN (C : fv_C K WA X M mc ms) {a t0 : Nat} {cA : ClassId} {C0 : String} {N : Nat} {f : Nat → Option Nat} {i : Int32} (ht : K.2.2.1[t0]? = some (cA, .object C0)) (hd : decode M.2.1 pc = .ok (.aastore, 1)) (hn : pc + 1 = n) (ha : h a = some (.inl (cA, N, .inr (.inr (.inr (.inr f)))))) (hB : Bs ≤ a) (hin : vp_in i N) (kk : fv_V K Bs X nL Q n L st sz (va_up h a (some (.inl (cA, N, .inr (.inr (.inr (.inr (va_up f i.toNatClampNeg none)))))))) cells slots) : fv_V K Bs X nL Q pc L (.null :: .int i :: .ref a :: st) sz h cells slots := by
  subst hn
  intro H locs ls hR hl hL
  refine va_WaastN (C := C0) C.1 C.2.1 (hR.2 a _ ha) ((C.2.2.2.2.2.2.2.1.1.2 t0 _ ht).1 N (fun j => va_rf (f j))) (fun h => by cases h) (by show ¬ (i < 0 ∨ (arrV _ _ _).slots.size ≤ _); rw [arrV_size]; exact hin) rfl rfl hd fun H1 e z oq => ?_
  refine kk H1 _ ls (hR.set z oq ?_) (fv_locs hl hB) hL
  show H1[a]? = some (vp_cell _ _)
  rw [e, vp_cell_q, vp_cell_q, arrV_store]
  congr 2
  funext q
  by_cases hq : q = i.toNatClampNeg
  · subst hq
    simp [updV, va_up, va_rf]
  · simp [updV, va_up, hq]
theorem fv_newa (C : fv_C K WA X M mc ms) {t0 : Nat} {cA : ClassId} {atype : ArrayType} {ty : FieldType} {z : Int32} {N : Nat} (ht : K.2.2.1[t0]? = some (cA, ty)) (hty : newarray.typeOf atype = ty) (hpr : ty = .int ∨ ty = .boolean) (hw : Cond.arrayClass ty ∈ WA) (hd : decode M.2.1 pc = .ok (.newarray atype, 2)) (hn : pc + 2 = n) (h0 : ¬ z < 0) (hN : z.toNatClampNeg = N) (hb : N * 4 ≤ 536870912) (hcells : cells + 1 ≤ mc) (hslots : slots + N ≤ ms)
    (kk : fv_V K Bs X nL Q n L (.ref sz :: st) (sz + 1) (va_up h sz (some (.inl (cA, N, .inl (fun _ => 0))))) (cells + 1) (slots + N)) : fv_V K Bs X nL Q pc L (.int z :: st) sz h cells slots := by
  subst hn
  subst hty
  intro H locs ls hR hl hL
  have hRm := C.2.2.2.2.2.2.2.2.1
  refine va_newaK C.1 C.2.1 (C.2.2.2.2.2.2.1 _ hw) rfl hd rfl h0 hN (by rcases hpr with q | q <;> rw [q] <;> simp [componentBytes] <;> omega) (by rw [hRm]; exact hcells) (by rw [hRm]; exact hslots) hR.1 fun H1 cA' e1 z1 o1 hAr hNm => ?_
  have hcA : cA' = cA := by
    have h2 := (C.2.2.2.2.2.2.2.1.1.2 t0 _ ht).2
    rcases hpr with q | q <;> rw [q] at h2 hNm <;> exact Option.some.inj (hNm.symm.trans h2)
  subst hcA
  refine kk H1 locs ls (hR.push z1 o1 ?_) hl hL
  show H1[sz]? = some (vp_cell _ _)
  rw [e1, vp_cell_i]
  rcases hpr with q | q <;> rw [q] <;> rfl
theorem fv_anewa (C : fv_C K WA X M mc ms) {t0 idx : Nat} {cA : ClassId} {C0 : String} {z : Int32} {N : Nat} (ht : K.2.2.1[t0]? = some (cA, .object C0)) (hao : C0 ∈ K.2.2.2.2.2) (hw : Cond.classLink M.1.cls idx C0 ∈ WA) (hd : decode M.2.1 pc = .ok (.anewarray idx, 3)) (hn : pc + 3 = n) (h0 : ¬ z < 0) (hN : z.toNatClampNeg = N) (hb : N * 4 ≤ 536870912) (hcells : cells + 1 ≤ mc) (hslots : slots + N ≤ ms)
    (kk : fv_V K Bs X nL Q n L (.ref sz :: st) (sz + 1) (va_up h sz (some (.inl (cA, N, .inr (.inr (.inr (.inr (fun _ => none)))))))) (cells + 1) (slots + N)) : fv_V K Bs X nL Q pc L (.int z :: st) sz h cells slots := by
  subst hn
  subst hN
  intro H locs ls hR hl hL
  have hRm := C.2.2.2.2.2.2.2.2.1
  have hz := hR.1
  subst hz
  refine W.anew C.1 C.2.1 C.2.2.2.2.2.1 (C.2.2.2.2.2.2.1 _ hw) (va_AO.use (C.2.2.2.2.2.2.2.1.2.2.2 _ hao)) rfl hd rfl h0 hb (by rw [hRm]; exact hcells) (by rw [hRm]; exact hslots) fun cA' kA comp f1 f2 f3 f4 => ?_
  have hcA : cA' = cA := by
    obtain ⟨_, _, -, -, -, h4⟩ := (C.2.2.2.2.2.2.2.1.1.2 t0 _ ht).2
    exact Option.some.inj (f1.symm.trans h4)
  subst hcA
  refine kk _ locs ls (hR.push (by rw [Array.size_push]) (fun q hq => by rw [Array.getElem?_push, if_neg (Nat.ne_of_lt hq)]) ?_) hl hL
  show (H.push _)[H.size]? = some (vp_cell _ _)
  rw [Array.getElem?_push_size, vp_cell_q, ← arrV_new]
  rfl
theorem fv_new (C : fv_C K WA X M mc ms) {idx ci N : Nat} {C0 : String} {T : u_T} {fs : List Value} (ty : Nat → FieldType) (hin : ∀ w ∈ u_ws C0 T N, w ∈ WA) (hty : ∀ k, k < N → parseFieldDescriptor (T k).2.2.1 = some (ty k)) (hc : K.2.1[ci]? = some (C0, T, N)) (hw1 : Cond.classLink M.1.cls idx C0 ∈ WA) (hw2 : Cond.instantiable C0 N ∈ WA) (hw3 : Cond.initialized C0 ∈ WA) (hfs : ∀ j, j < N → defaultValue (ty j) = vp_V fs j) (hd : decode M.2.1 pc = .ok (.new idx, 3)) (hn : pc + 3 = n) (hcells : cells + 1 ≤ mc) (hslots : slots + N ≤ ms)
    (kk : fv_V K Bs X nL Q n L (.ref sz :: st) (sz + 1) (va_up h sz (some (.inr (ci, fs)))) (cells + 1) (slots + N)) : fv_V K Bs X nL Q pc L st sz h cells slots := by
  subst hn
  intro H locs ls hR hl hL
  have hRm := C.2.2.2.2.2.2.2.2.1
  have hts := C.2.2.2.2.2.2.1
  have hKn := C.2.2.2.2.2.2.2.1.1.1 ci _ hc
  refine W.newcK C.1 C.2.1 C.2.2.2.2.2.1 (hts _ hw1) (hts _ hw2) (hts _ hw3) rfl hd (by rw [hRm]; exact hcells) (by rw [hRm]; exact hslots) hKn.2.1 hR.1 fun H1 kC hkC e1 z1 o1 => ?_
  exact kk H1 locs ls (hR.push z1 o1 ⟨_, hc, (u_born ty hts hin hKn hkC e1 hty).to hfs⟩) hl hL
theorem fv_objInit (C : fv_C K WA X M mc ms) {idx a : Nat} (hw1 : Cond.methodLink M.1.cls idx Lib.objectInit ∈ WA) (hw2 : Cond.instanceMethod Lib.objectInit ∈ WA) (hw3 : Cond.code Lib.objectInit ⟨#[0xb1]⟩ 1 none ∈ WA) (hd : decode M.2.1 pc = .ok (.invokespecial idx, 3)) (hn : pc + 3 = n) (hm : nL = M.2.2.1) (hf : 1 ≤ M.2.2.2.2.1) (hlo : (st.map fun v => v.category).sum + 12 ≤ M.2.2.2.2.2) (k : fv_V K Bs X nL Q n L st sz h cells slots) : fv_V K Bs X nL Q pc L (.ref a :: st) sz h cells slots := by
  subst hn
  intro H locs ls hR hl hL
  have hRm := C.2.2.2.2.2.2.2.2.1
  have hts := C.2.2.2.2.2.2.1
  refine W.objInit C.1 C.2.1 C.2.2.2.2.2.1 (hts _ hw1) (hts _ hw2) (hts _ hw3) rfl (by rw [C.2.2.1, ← hm]; exact hL.1.1) rfl hd (by rw [hRm]; exact hf) (by rw [hRm]; show 2 * 0 + _ + 12 ≤ _; simpa using hlo) ?_
  exact k H locs ls hR hl hL
/-- a method's link -/
def fv_ML (K : fv_K) (WA : List Cond) (own : String) (idx : Nat) (M' : fv_M) (np : Nat) : Prop :=
  (∀ w ∈ WA, fv_good w) ∧ Cond.code M'.1 M'.2.1 M'.2.2.1 M'.2.2.2.1 ∈ WA ∧ Cond.initialized M'.1.cls ∈ WA ∧ (Cond.methodLink own idx M'.1 ∈ WA ∨ ∃ host, (own, idx, M'.1, host) ∈ K.2.2.2.2.1) ∧ (M'.1.cls ≠ "java/lang/invoke/MethodHandle" ∧ M'.1.cls ≠ "java/lang/invoke/VarHandle") ∧ (parseMethodDescriptor M'.1.desc).map (fun d => d.parameters.length) = some np
theorem fv_blind {av : List Value} : FrameBlind (va_Pc av (fun U => fv_R K sz h U.heap ∧ fv_S K U)) := by
  intro a U g mk q
  obtain ⟨q0, q1, q2⟩ := q
  exact ⟨q0, q1, q2.same rfl⟩
theorem fv_words {y : Cond} {args : Array Value} {s : State} (hg : ∀ w ∈ WA, fv_good w) (hts : ∀ w ∈ WA, w.before args s = true) (hy : y ∈ WA) : ∀ w ∈ y :: WA, ∀ (a' : Array Value) (U : State), s.WarmedH U.vm → w.before a' U = true := by
  refine pay_in hts (fun w hw => ?_)
  rcases List.mem_cons.mp hw with rfl | hw
  · exact ⟨hy, hg _ hy⟩
  · exact ⟨hw, hg _ hw⟩
theorem fv_goes {post : Option Value → Nat → fv_H → Prop} {mc' ms' : Nat} {rest st0 : List Value} {a : Array Value} (hm : nL = nL) (hrun : ∀ (H : Heap) (locs : List Loc) (ls : Array Slot), fv_R K sz h H → fv_L ls nL L → va_Run X.1 X.2.1 X.2.2.1 X.2.2.2.1 X.2.2.2.2.1 X.2.2.2.2.2.1 X.2.2.2.2.2.2.1 X.2.2.2.2.2.2.2.1 X.2.2.2.2.2.2.2.2.1 X.2.2.2.2.2.2.2.2.2 H locs cells slots mc' ms' (F0 X.2.2.2.2.2.1 pc ls st0) rest (fv_Q K post a) (fun q => Bs ≤ q))
    (kk : ∀ (v : Option Value) (sz' : Nat) (h' : fv_H), post v sz' h' → fv_V K Bs X nL Q (pc + 3) L (v.toList ++ rest) sz' h' (cells + mc') (slots + ms')) : fv_V K Bs X nL Q pc L st0 sz h cells slots := by
  intro H locs ls hR hl hL T hT X'
  obtain ⟨v, st₀, t, T', L1, h0, X2, hL1, e1, e2, ⟨v', sz', h', hv, hp, hR'⟩, st⟩ := hrun H locs ls hR hL T hT X'
  cases hv
  obtain ⟨t2, a1, b1⟩ := kk v sz' h' hp T'.heap (locs ++ L1) ls (by rw [e1]; exact hR') (fun q hq => by
    rcases List.mem_append.mp hq with h | h
    · exact hl q h
    · exact hL1 q h) hL T' rfl X2
  exact ⟨t2, st t2 a1, b1⟩
theorem fv_callV (C : fv_C K WA X M mc ms) {idx np : Nat} {M' : fv_M} {b : Nat} {As rest : List Value} {mc' ms' : Nat} {post : Option Value → Nat → fv_H → Prop} (Lk : fv_ML K WA M.1.cls idx M' np) (hw1 : Cond.instanceMethod M'.1 ∈ WA) (hw2 : Cond.selects M'.1.cls M'.1 M'.1 ∈ WA) {ci : Nat} {fs : List Value} {r : u_T × Nat} (hb : h b = some (.inr (ci, fs))) (hc : K.2.1[ci]? = some (M'.1.cls, r)) (hM : fv_T X.2.1 K Bs WA M' (.ref b :: As) sz h mc' ms' post) (hd : decode M.2.1 pc = .ok (.invokevirtual idx, 3)) (hn : pc + 3 = n) (hm : nL = M.2.2.1) (hnp : As.length = np) (hst : st = (As.reverse ++ .ref b :: rest)) (hW : (rest.map fun v => v.category).sum ≤ 8) (hfr : M'.2.2.2.2.1 + 1 ≤ M.2.2.2.2.1) (hlo : 8 + (M'.2.2.1 + 11) + M'.2.2.2.2.2 ≤ M.2.2.2.2.2) (hcl : cells + mc' ≤ mc) (hsl : slots + ms' ≤ ms)
    (kk : ∀ (v : Option Value) (sz' : Nat) (h' : fv_H), post v sz' h' → fv_V K Bs X nL Q n L (v.toList ++ rest) sz' h' (cells + mc') (slots + ms')) : fv_V K Bs X nL Q pc L st sz h cells slots := by
  subst hn
  subst hst
  have hts := C.2.2.2.2.2.2.1
  have hRm := C.2.2.2.2.2.2.2.2.1
  obtain ⟨hg, hcode, hini0, hlink, hy, hpar⟩ := Lk
  have hlen : ∀ sig, parseMethodDescriptor M'.1.desc = some sig → np = sig.parameters.length := fun sig hsig => by
    have h2 := hpar
    rw [hsig] at h2
    exact (Option.some.inj h2).symm
  refine fv_goes (a := (.ref b :: As).toArray) rfl (fun H locs ls hR hL => ?_) kk
  rcases hlink with hlink | ⟨host, hlink⟩
  · exact va_runV (C := M'.1.cls) (nL := nL) (own := M.1.cls) (index := idx) (n := np) (As := As) (rest := rest) ⟨C.1, C.2.1, C.2.2.1.trans hm.symm, C.2.2.2.2.2.1, hts⟩ hM ⟨⟨rfl, rfl, by rw [hRm]; exact hfr, by rw [hRm]; exact hlo, fv_words hg hts hcode, List.mem_cons_self, hts _ hcode, hts _ hini0, hy, hlen, hts _ hlink⟩, hts _ hw1, hts _ hw2⟩ ⟨fv_blind, va_recv (q0 := 0) C.2.2.2.2.2.2.2.1.1 (hR.one hb) hc rfl, fun U hU hW => ⟨rfl, by rw [hU]; exact hR, C.2.2.2.2.2.2.2.1.warm hW⟩⟩ rfl hnp hL.1.1 rfl (lv_room hW) hd ⟨by rw [hRm]; exact hcl, by rw [hRm]; exact hsl⟩
  · exact va_runVN (C := M'.1.cls) (nL := nL) (own := M.1.cls) (host := host) (index := idx) (n := np) (As := As) (rest := rest) ⟨C.1, C.2.1, C.2.2.1.trans hm.symm, C.2.2.2.2.2.1, hts⟩ hM ⟨⟨⟨rfl, rfl, by rw [hRm]; exact hfr, by rw [hRm]; exact hlo, fv_words hg hts hcode, List.mem_cons_self⟩, hts _ hcode, hts _ hini0, hy, hlen, va_Nw.use rfl (C.2.2.2.2.2.2.2.1.2.2.1 _ hlink)⟩, hts _ hw1, hts _ hw2⟩ ⟨fv_blind, va_recv (q0 := 0) C.2.2.2.2.2.2.2.1.1 (hR.one hb) hc rfl, fun U hU hW => ⟨rfl, by rw [hU]; exact hR, C.2.2.2.2.2.2.2.1.warm hW⟩⟩ rfl hnp hL.1.1 rfl (lv_room hW) hd ⟨by rw [hRm]; exact hcl, by rw [hRm]; exact hsl⟩
theorem fv_callS (C : fv_C K WA X M mc ms) {idx np : Nat} {M' : fv_M}  {As rest : List Value} {mc' ms' : Nat} {post : Option Value → Nat → fv_H → Prop} (Lk : fv_ML K WA M.1.cls idx M' np) (hw1 : Cond.static M'.1 ∈ WA) (hM : fv_T X.2.1 K Bs WA M' As sz h mc' ms' post) (hd : decode M.2.1 pc = .ok (.invokestatic idx, 3)) (hn : pc + 3 = n) (hm : nL = M.2.2.1) (hnp : As.length = np) (hst : st = (As.reverse ++ rest)) (hW : (rest.map fun v => v.category).sum ≤ 8) (hfr : M'.2.2.2.2.1 + 1 ≤ M.2.2.2.2.1) (hlo : 8 + (M'.2.2.1 + 11) + M'.2.2.2.2.2 ≤ M.2.2.2.2.2) (hcl : cells + mc' ≤ mc) (hsl : slots + ms' ≤ ms)
    (kk : ∀ (v : Option Value) (sz' : Nat) (h' : fv_H), post v sz' h' → fv_V K Bs X nL Q n L (v.toList ++ rest) sz' h' (cells + mc') (slots + ms')) : fv_V K Bs X nL Q pc L st sz h cells slots := by
  subst hn
  subst hst
  have hts := C.2.2.2.2.2.2.1
  have hRm := C.2.2.2.2.2.2.2.2.1
  obtain ⟨hg, hcode, hini0, hlink, hy, hpar⟩ := Lk
  have hlen : ∀ sig, parseMethodDescriptor M'.1.desc = some sig → np = sig.parameters.length := fun sig hsig => by
    have h2 := hpar
    rw [hsig] at h2
    exact (Option.some.inj h2).symm
  refine fv_goes (a := As.toArray) rfl (fun H locs ls hR hL => ?_) kk
  rcases hlink with hlink | ⟨host, hlink⟩
  · exact va_runS (nL := nL) (own := M.1.cls) (index := idx) (n := np) (As := As) (rest := rest) ⟨C.1, C.2.1, C.2.2.1.trans hm.symm, C.2.2.2.2.2.1, hts⟩ hM ⟨⟨rfl, rfl, by rw [hRm]; exact hfr, by rw [hRm]; exact hlo, fv_words hg hts hcode, List.mem_cons_self, hts _ hcode, hts _ hini0, hy, hlen, hts _ hlink⟩, hts _ hw1⟩ ⟨fv_blind, fun U hU hW => ⟨rfl, by rw [hU]; exact hR, C.2.2.2.2.2.2.2.1.warm hW⟩⟩ rfl hnp hL.1.1 rfl (lv_room hW) hd ⟨by rw [hRm]; exact hcl, by rw [hRm]; exact hsl⟩
  · exact va_runSN (nL := nL) (own := M.1.cls) (host := host) (index := idx) (n := np) (As := As) (rest := rest) ⟨C.1, C.2.1, C.2.2.1.trans hm.symm, C.2.2.2.2.2.1, hts⟩ hM ⟨⟨⟨rfl, rfl, by rw [hRm]; exact hfr, by rw [hRm]; exact hlo, fv_words hg hts hcode, List.mem_cons_self⟩, hts _ hcode, hts _ hini0, hy, hlen, va_Nw.use rfl (C.2.2.2.2.2.2.2.1.2.2.1 _ hlink)⟩, hts _ hw1, trivial⟩ ⟨fv_blind, fun U hU hW => ⟨rfl, by rw [hU]; exact hR, C.2.2.2.2.2.2.2.1.warm hW⟩⟩ rfl hnp hL.1.1 rfl (lv_room hW) hd ⟨by rw [hRm]; exact hcl, by rw [hRm]; exact hsl⟩
theorem fv_callI (C : fv_C K WA X M mc ms) {idx np : Nat} {M' : fv_M} {b : Nat} {As rest : List Value} {mc' ms' : Nat} {post : Option Value → Nat → fv_H → Prop} (Lk : fv_ML K WA M.1.cls idx M' np) (hw1 : Cond.instanceMethod M'.1 ∈ WA) (hini : M'.1.name = "<init>") (hret : M'.2.2.2.1 = none) (hM : fv_T X.2.1 K Bs WA M' (.ref b :: As) sz h mc' ms' post) (hd : decode M.2.1 pc = .ok (.invokespecial idx, 3)) (hn : pc + 3 = n) (hm : nL = M.2.2.1) (hnp : As.length = np) (hst : st = (As.reverse ++ .ref b :: rest)) (hW : (rest.map fun v => v.category).sum ≤ 8) (hfr : M'.2.2.2.2.1 + 1 ≤ M.2.2.2.2.1) (hlo : 8 + (M'.2.2.1 + 11) + M'.2.2.2.2.2 ≤ M.2.2.2.2.2) (hcl : cells + mc' ≤ mc) (hsl : slots + ms' ≤ ms)
    (kk : ∀ (v : Option Value) (sz' : Nat) (h' : fv_H), post v sz' h' → fv_V K Bs X nL Q n L (v.toList ++ rest) sz' h' (cells + mc') (slots + ms')) : fv_V K Bs X nL Q pc L st sz h cells slots := by
  subst hn
  subst hst
  have hts := C.2.2.2.2.2.2.1
  have hRm := C.2.2.2.2.2.2.2.2.1
  obtain ⟨y0, b0, m0, r0, f0, l0⟩ := M'
  dsimp only at hret
  subst hret
  obtain ⟨hg, hcode, hini0, hlink, hy, hpar⟩ := Lk
  have hlen : ∀ sig, parseMethodDescriptor y0.desc = some sig → np = sig.parameters.length := fun sig hsig => by
    have h2 := hpar
    rw [hsig] at h2
    exact (Option.some.inj h2).symm
  refine fv_goes (a := (.ref b :: As).toArray) rfl (fun H locs ls hR hL => ?_) kk
  rcases hlink with hlink | ⟨host, hlink⟩
  · exact va_runI (nL := nL) (own := M.1.cls) (index := idx) (n := np) (As := As) (rest := rest) ⟨C.1, C.2.1, C.2.2.1.trans hm.symm, C.2.2.2.2.2.1, hts⟩ hM ⟨⟨rfl, rfl, by rw [hRm]; exact hfr, by rw [hRm]; exact hlo, fv_words hg hts hcode, List.mem_cons_self, hts _ hcode, hts _ hini0, hy, hlen, hts _ hlink⟩, hini, hts _ hw1⟩ ⟨fv_blind, fun U hU hW => ⟨rfl, by rw [hU]; exact hR, C.2.2.2.2.2.2.2.1.warm hW⟩⟩ rfl hnp hL.1.1 rfl (lv_room hW) hd ⟨by rw [hRm]; exact hcl, by rw [hRm]; exact hsl⟩
  · exact va_runIN (nL := nL) (own := M.1.cls) (host := host) (index := idx) (n := np) (As := As) (rest := rest) ⟨C.1, C.2.1, C.2.2.1.trans hm.symm, C.2.2.2.2.2.1, hts⟩ hM ⟨⟨⟨rfl, rfl, by rw [hRm]; exact hfr, by rw [hRm]; exact hlo, fv_words hg hts hcode, List.mem_cons_self⟩, hts _ hcode, hts _ hini0, hy, hlen, va_Nw.use rfl (C.2.2.2.2.2.2.2.1.2.2.1 _ hlink)⟩, hini, hts _ hw1⟩ ⟨fv_blind, fun U hU hW => ⟨rfl, by rw [hU]; exact hR, C.2.2.2.2.2.2.2.1.warm hW⟩⟩ rfl hnp hL.1.1 rfl (lv_room hW) hd ⟨by rw [hRm]; exact hcl, by rw [hRm]; exact hsl⟩
theorem fv_mmax (C : fv_C K WA X M mc ms) {idx : Nat} {x y : Int32} (hw1 : Cond.methodLink M.1.cls idx Lib.Math.max.name ∈ WA) (hw2 : Cond.static Lib.Math.max.name ∈ WA) (hw3 : Cond.initialized "java/lang/Math" ∈ WA) (hw4 : Cond.code Lib.Math.max.name Lib.Math.max.code 2 (some .int) ∈ WA) (hd : decode M.2.1 pc = .ok (.invokestatic idx, 3)) (hn : pc + 3 = n) (hm : nL = M.2.2.1) (hf : 1 ≤ M.2.2.2.2.1) (hlo : (st.map fun v => v.category).sum + 13 ≤ M.2.2.2.2.2) (hcl : cells ≤ mc) (hsl : slots ≤ ms)
    (kk : fv_V K Bs X nL Q n L (.int (if x < y then y else x) :: st) sz h cells slots) : fv_V K Bs X nL Q pc L (.int y :: .int x :: st) sz h cells slots := by
  subst hn
  intro H locs ls hR hl hL
  have hts := C.2.2.2.2.2.2.1
  have hRm := C.2.2.2.2.2.2.2.2.1
  exact va_mmax C.1 C.2.1 (by rw [C.2.2.1, ← hm]; exact hL.1.1.symm) C.2.2.2.2.2.1 (hts _ hw1) (hts _ hw2) (hts _ hw3) (hts _ hw4) (by rw [hRm]; exact hf) (by rw [hRm]; exact hlo) (by rw [hRm]; exact hcl) (by rw [hRm]; exact hsl) hd (kk H locs ls hR hl hL)
theorem fv_copyi (C : fv_C K WA X M mc ms) {idx a0 a t0 : Nat} {cA : ClassId} {n0 n1 : Nat} {f g : Nat → Int32} {sp dp z : Int32} (ht : K.2.2.1[t0]? = some (cA, .int)) (hw1 : Cond.methodLink M.1.cls idx arraycopyName ∈ WA) (hw2 : Cond.native arraycopyName ∈ WA) (hw3 : Cond.static arraycopyName ∈ WA) (hw4 : Cond.initialized "java/lang/System" ∈ WA) (hd : decode M.2.1 pc = .ok (.invokestatic idx, 3)) (hn : pc + 3 = n) (hm : nL = M.2.2.1) (ha0 : h a0 = some (.inl (cA, n0, .inl f))) (ha : h a = some (.inl (cA, n1, .inl g))) (hB : Bs ≤ a) (h1 : ¬ sp < 0) (h2 : ¬ dp < 0) (h3 : ¬ z < 0) (h4 : sp.toNatClampNeg + z.toNatClampNeg ≤ n0) (h5 : dp.toNatClampNeg + z.toNatClampNeg ≤ n1) (hf : 1 ≤ M.2.2.2.2.1) (hlo : (st.map fun v => v.category).sum + (nativeFrameWords "java/lang/System" "arraycopy" 5 + 11) ≤ M.2.2.2.2.2)
    (kk : fv_V K Bs X nL Q n L st sz (va_up h a (some (.inl (cA, n1, .inl (va_cpy f g sp.toNatClampNeg dp.toNatClampNeg z.toNatClampNeg))))) cells slots) : fv_V K Bs X nL Q pc L (.int z :: .int dp :: .ref a :: .int sp :: .ref a0 :: st) sz h cells slots := by
  subst hn
  intro H locs ls hR hl hL
  have hts := C.2.2.2.2.2.2.1
  have hRm := C.2.2.2.2.2.2.2.2.1
  have hK := C.2.2.2.2.2.2.2.1.1
  have nn : ∀ w : Int32, ¬ w < 0 → w.toInt = (w.toNatClampNeg : Int) := by
    intro w hw
    have hz0 : (0 : Int) ≤ w.toInt := by
      have := Int32.not_lt.mp hw
      simpa using Int32.le_iff_toInt_le.mp this
    show w.toInt = ((w.toInt.toNat : Nat) : Int)
    omega
  intro T hT X'
  have hc0 : H[a0]? = some (vp_cell cA (n0, .inl f)) := hR.2 a0 _ ha0
  have hc1 : H[a]? = some (vp_cell cA (n1, .inl g)) := hR.2 a _ ha
  obtain ⟨-, k0, hk0, cm0, hkk0⟩ := (hK.2 t0 _ ht).1 n0 (fun j => .int (f j))
  obtain ⟨-, k1, hk1, cm1, hkk1⟩ := (hK.2 t0 _ ht).1 n1 (fun j => .int (g j))
  obtain ⟨vm', X2, step⟩ := X'.arraycopy C.1 C.2.2.2.2.2.1 (hts _ hw1) (hts _ hw2) (hts _ hw3) (hts _ hw4) (src := a0) (dst := a) (cs := vp_cell cA (n0, .inl f)) (cd := vp_cell cA (n1, .inl g)) (srcPos := sp) (destPos := dp) (n := z) (by rw [hT]; exact hc0) (by rw [hT]; exact hc1)
    (fun _ h => by cases h) (fun _ h => by cases h) (fun h => by cases h) (fun h => by cases h) hk0 hk1 hkk0 hkk1 (by simp [refKind]) h1 h2 h3
    (by rw [nn sp h1, nn z h3]; show ¬ _ > ((arrV cA n0 (fun j => .int (f j))).slots.size : Int); rw [arrV_size]; omega)
    (by rw [nn dp h2, nn z h3]; show ¬ _ > ((arrV cA n1 (fun j => .int (g j))).slots.size : Int); rw [arrV_size]; omega)
    (fun vm₁ _ i hi => by
      have e : (vp_cell cA (n0, .inl f)).slots.getD (sp.toNatClampNeg + i) .null = .int (f (sp.toNatClampNeg + i)) := by
        show (arrV cA n0 (fun j => .int (f j))).slots.getD _ _ = _
        rw [Array.getD_eq_getD_getElem?, arrV_read _ _ (by omega)]
        rfl
      refine ⟨?_, ?_⟩
      · rw [e]
        rfl
      · rw [e]
        exact trivial)
    (g := F0 X.2.2.2.2.2.1 pc ls (.int z :: .int dp :: .ref a :: .int sp :: .ref a0 :: st)) rfl (by rw [C.2.2.1, ← hm]; exact hL.1.1) (rest := st) rfl (by rw [C.2.1]; exact hd) (by rw [hRm]; exact hf) (by rw [hRm]; show 2 * 0 + _ + _ ≤ M.2.2.2.2.2; omega)
  have e1 : copied (vp_cell cA (n0, .inl f)) (vp_cell cA (n1, .inl g)) sp dp z = vp_cell cA (n1, .inl (va_cpy f g sp.toNatClampNeg dp.toNatClampNeg z.toNatClampNeg)) := va_copied (fun z => .int z) cA cA f g h4
  rw [e1] at X2 step
  have hlt : a < H.size := (Array.getElem?_eq_some_iff.mp hc1).1
  have hheap : ((T.setVm vm').setCell a (vp_cell cA (n1, .inl (va_cpy f g sp.toNatClampNeg dp.toNatClampNeg z.toNatClampNeg)))).heap = H.setIfInBounds a (vp_cell cA (n1, .inl (va_cpy f g sp.toNatClampNeg dp.toNatClampNeg z.toNatClampNeg))) := by rw [← hT]; rfl
  obtain ⟨t, a1, b1⟩ := kk (H.setIfInBounds a (vp_cell cA (n1, .inl (va_cpy f g sp.toNatClampNeg dp.toNatClampNeg z.toNatClampNeg)))) _ ls (hR.set (a := a) (by simp) (fun q hq => by simp [Array.getElem?_setIfInBounds, Ne.symm hq]) (show (H.setIfInBounds a _)[a]? = some _ by simp [Array.getElem?_setIfInBounds, hlt])) (fun q hq => by
      rcases List.mem_append.mp hq with h | h
      · exact hl q h
      · obtain ⟨w, -, hw⟩ := List.mem_map.mp h
        rw [← hw]
        exact hB) hL _ hheap X2
  exact ⟨t, step t a1, b1⟩
end FV
end
