/-! a receiver as a value: next, highest, asked, kept; of each instrument how many are applied, the numbers held; its reader's row; what is needed -/
abbrev rc_T : Type := Nat × Nat × Nat × (Nat → Bool) × (Nat → Nat) × (Nat → List Nat) × List Nat × (Nat → Nat)
abbrev rc_kp (R : rc_T) : Nat → Bool := R.2.2.2.1
abbrev rc_ap (R : rc_T) : Nat → Nat := R.2.2.2.2.1
abbrev rc_hl (R : rc_T) : Nat → List Nat := R.2.2.2.2.2.1
abbrev rc_rw (R : rc_T) : List Nat := R.2.2.2.2.2.2.1
abbrev rc_nd (R : rc_T) : Nat → Nat := R.2.2.2.2.2.2.2
/-- one instrument of it becomes t -/
def rc_set (R : rc_T) (i : Nat) (t : tr_T) : rc_T := (R.1, R.2.1, R.2.2.1, rc_kp R, va_up (rc_ap R) i t.1, va_up (rc_hl R) i t.2.1, t.2.2, rc_nd R)
def rc_tr (R : rc_T) (i : Nat) : tr_T := (rc_ap R i, rc_hl R i, rc_rw R)
def rc_take (log : List bo_E) (R : rc_T) (e : bo_E) : rc_T := rc_set R e.2.1 (tr_take log e.2.1 e.2.2.1 (rc_tr R e.2.1))
def rc_evs (log : List bo_E) (ends : List Nat) (p : Nat) : List bo_E := (log.take (fe_E ends p)).drop (fe_E ends (p - 1))
def rc_uk (R : rc_T) (p : Nat) : rc_T := (R.1, R.2.1, R.2.2.1, va_up (rc_kp R) p false, R.2.2.2.2)
def rc_nx (R : rc_T) (p : Nat) : rc_T := (p, R.2)
def rc_pass (log : List bo_E) (ends : List Nat) (R : rc_T) : rc_T := rc_nx ((rc_evs log ends R.1).foldl (rc_take log) (rc_uk R R.1)) (R.1 + 1)
def rc_pt (log : List bo_E) (ends : List Nat) (last : Nat) : Nat → rc_T → rc_T
  | 0, R => R
  | k + 1, R => if R.1 ≤ ends.length ∧ (R.1 ≤ last ∨ rc_kp R R.1 = true) then rc_pt log ends last k (rc_pass log ends R) else R
def rc_W (log : List bo_E) (R : rc_T) : Prop := ∀ i, i < 4 → tr_I log i (rc_tr R i)
def rc_J (log : List bo_E) (ends : List Nat) (R : rc_T) : Prop := 1 ≤ R.1 ∧ R.1 ≤ ends.length + 1 ∧ R.2.1 ≤ ends.length ∧ (∀ p, rc_kp R p = true → R.1 ≤ p ∧ p ≤ R.1 + 6 ∧ p ≤ R.2.1) ∧ rc_W log R ∧ ∀ i, i < 4 → rc_nd R i < R.1
def rc_I (log : List bo_E) (ends : List Nat) (R : rc_T) : Prop := rc_J log ends R ∧ rc_kp R R.1 = false ∧ R.2.2.1 ≤ R.2.1
theorem rc_set_W {log : List bo_E} {R : rc_T} {i : Nat} {t : tr_T} (h : rc_W log R) (ht : tr_I log i t) : rc_W log (rc_set R i t) := by
  intro j hj
  by_cases hji : j = i
  · subst hji
    have e : rc_tr (rc_set R j t) j = t := by
      unfold rc_tr rc_set
      simp only [rc_ap, rc_hl, rc_rw, va_up_self]
    rw [e]
    exact ht
  · have e : rc_tr (rc_set R i t) j = (rc_ap R j, rc_hl R j, t.2.2) := by
      unfold rc_tr rc_set
      simp only [rc_ap, rc_hl, rc_rw, va_up_ne _ _ hji]
    rw [e]
    obtain ⟨h1, h2, h3, h4, -, -⟩ := h j hj
    exact ⟨h1, h2, h3, h4, ht.2.2.2.2⟩
theorem rc_take_W {log : List bo_E} {R : rc_T} {e : bo_E} (h : rc_W log R) (hi : e.2.1 < 4) (hm : e.2.2.1 ≤ (fe_li log e.2.1).length) : rc_W log (rc_take log R e) := rc_set_W h (tr_take_I hi hm (h _ hi))
theorem rc_fold_W {log : List bo_E} : ∀ (es : List bo_E) (R : rc_T), rc_W log R → (∀ e ∈ es, e.2.1 < 4 ∧ e.2.2.1 ≤ (fe_li log e.2.1).length) → rc_W log (es.foldl (rc_take log) R)
  | [], _, h, _ => h
  | e :: t, R, h, he => by
    rw [List.foldl_cons]
    exact rc_fold_W t _ (rc_take_W h (he e List.mem_cons_self).1 (he e List.mem_cons_self).2) (fun x hx => he x (List.mem_cons_of_mem _ hx))
theorem rc_fold_rest {log : List bo_E} : ∀ (es : List bo_E) (R : rc_T), (es.foldl (rc_take log) R).1 = R.1 ∧ (es.foldl (rc_take log) R).2.1 = R.2.1 ∧ (es.foldl (rc_take log) R).2.2.1 = R.2.2.1 ∧ rc_kp (es.foldl (rc_take log) R) = rc_kp R ∧ rc_nd (es.foldl (rc_take log) R) = rc_nd R
  | [], _ => ⟨rfl, rfl, rfl, rfl, rfl⟩
  | e :: t, R => by
    rw [List.foldl_cons]
    exact rc_fold_rest t (rc_take log R e)
theorem rc_ev_in {log : List bo_E} (hok : fe_ok log) {k : Nat} {e : bo_E} (hk : log[k]? = some e) : e.2.1 < 4 ∧ e.2.2.1 ≤ (fe_li log e.2.1).length := by
  obtain ⟨h1, h2, h3⟩ := fe_num_at hok hk
  obtain ⟨-, h5, -⟩ := hok _ _ _ h1
  exact ⟨h5.2.1, h3⟩
theorem rc_evs_in {log : List bo_E} (hok : fe_ok log) {ends : List Nat} {p : Nat} : ∀ e ∈ rc_evs log ends p, e.2.1 < 4 ∧ e.2.2.1 ≤ (fe_li log e.2.1).length := by
  intro e he
  have h1 := List.mem_of_mem_take (List.mem_of_mem_drop he)
  obtain ⟨k, hk⟩ := List.getElem?_of_mem h1
  exact rc_ev_in hok hk
theorem rc_uk_J {log : List bo_E} {ends : List Nat} {R : rc_T} (h : rc_J log ends R) (p : Nat) : rc_J log ends (rc_uk R p) := by
  obtain ⟨h1, h2, h3, h4, h5, h6⟩ := h
  refine ⟨h1, h2, h3, fun q hq => ?_, h5, h6⟩
  by_cases hp : q = p
  · subst hp
    simp only [rc_uk, rc_kp, va_up_self] at hq
    cases hq
  · simp only [rc_uk, rc_kp, va_up_ne _ _ hp] at hq
    exact h4 q hq
theorem rc_pass_J {log : List bo_E} {ends : List Nat} {R : rc_T} (hok : fe_ok log) (h : rc_J log ends R) (hc : R.1 ≤ ends.length) : rc_J log ends (rc_pass log ends R) := by
  have hu := rc_uk_J h R.1
  obtain ⟨f1, f2, f3, f4, f5⟩ := rc_fold_rest (log := log) (rc_evs log ends R.1) (rc_uk R R.1)
  have hw := rc_fold_W (rc_evs log ends R.1) _ hu.2.2.2.2.1 (rc_evs_in hok)
  unfold rc_pass
  refine ⟨?_, ?_, ?_, fun q hq => ?_, hw, fun i hi => ?_⟩
  · show 1 ≤ R.1 + 1
    omega
  · show R.1 + 1 ≤ ends.length + 1
    omega
  · show ((rc_evs log ends R.1).foldl (rc_take log) (rc_uk R R.1)).2.1 ≤ ends.length
    rw [f2]
    exact hu.2.2.1
  · have hq : rc_kp ((rc_evs log ends R.1).foldl (rc_take log) (rc_uk R R.1)) q = true := hq
    rw [f4] at hq
    obtain ⟨k1, k2, k3⟩ := hu.2.2.2.1 q hq
    have hne : q ≠ R.1 := by
      intro e
      rw [e] at hq
      simp only [rc_uk, rc_kp, va_up_self] at hq
      cases hq
    show R.1 + 1 ≤ q ∧ q ≤ R.1 + 1 + 6 ∧ q ≤ ((rc_evs log ends R.1).foldl (rc_take log) (rc_uk R R.1)).2.1
    rw [f2]
    have k1 : R.1 ≤ q := k1
    have k2 : q ≤ R.1 + 6 := k2
    exact ⟨by omega, by omega, k3⟩
  · show rc_nd ((rc_evs log ends R.1).foldl (rc_take log) (rc_uk R R.1)) i < R.1 + 1
    rw [f5]
    have h9 : rc_nd R i < R.1 := hu.2.2.2.2.2 i hi
    exact Nat.lt_succ_of_lt h9
theorem rc_pt_J {log : List bo_E} {ends : List Nat} {last : Nat} (hok : fe_ok log) : ∀ (k : Nat) (R : rc_T), rc_J log ends R → rc_J log ends (rc_pt log ends last k R)
  | 0, _, h => h
  | k + 1, R, h => by
    unfold rc_pt
    split
    · rename_i hc
      exact rc_pt_J hok k _ (rc_pass_J hok h hc.1)
    · exact h
theorem rc_pass_nx (log : List bo_E) (ends : List Nat) (R : rc_T) : (rc_pass log ends R).1 = R.1 + 1 := rfl
theorem rc_pass_hg (log : List bo_E) (ends : List Nat) (R : rc_T) : (rc_pass log ends R).2.1 = R.2.1 ∧ (rc_pass log ends R).2.2.1 = R.2.2.1 := by
  obtain ⟨f1, f2, f3, f4, f5⟩ := rc_fold_rest (log := log) (rc_evs log ends R.1) (rc_uk R R.1)
  exact ⟨f2, f3⟩
theorem rc_pt_hg {log : List bo_E} {ends : List Nat} {last : Nat} : ∀ (k : Nat) (R : rc_T), (rc_pt log ends last k R).2.1 = R.2.1 ∧ (rc_pt log ends last k R).2.2.1 = R.2.2.1
  | 0, _ => ⟨rfl, rfl⟩
  | k + 1, R => by
    unfold rc_pt
    split
    · have h1 := rc_pt_hg (log := log) (ends := ends) (last := last) k (rc_pass log ends R)
      have h2 := rc_pass_hg log ends R
      exact ⟨h1.1.trans h2.1, h1.2.trans h2.2⟩
    · exact ⟨rfl, rfl⟩
/-- with fuel enough, the passing has come to its end -/
theorem rc_pt_end {log : List bo_E} {ends : List Nat} {last : Nat} (hok : fe_ok log) : ∀ (k : Nat) (R : rc_T), rc_J log ends R → ends.length + 1 ≤ R.1 + k → ¬ ((rc_pt log ends last k R).1 ≤ ends.length ∧ ((rc_pt log ends last k R).1 ≤ last ∨ rc_kp (rc_pt log ends last k R) (rc_pt log ends last k R).1 = true))
  | 0, R, h, hk => by
    unfold rc_pt
    intro q
    have := q.1
    omega
  | k + 1, R, h, hk => by
    unfold rc_pt
    split
    · rename_i hc
      exact rc_pt_end hok k _ (rc_pass_J hok h hc.1) (by rw [rc_pass_nx]; omega)
    · rename_i hc
      exact hc
theorem rc_pt_I {log : List bo_E} {ends : List Nat} {last k : Nat} {R : rc_T} (hok : fe_ok log) (h : rc_J log ends R) (hk : ends.length + 1 ≤ R.1 + k) (ha : R.2.2.1 ≤ R.2.1) : rc_I log ends (rc_pt log ends last k R) := by
  have hJ := rc_pt_J (last := last) hok k R h
  refine ⟨hJ, ?_, ?_⟩
  · cases hq : rc_kp (rc_pt log ends last k R) (rc_pt log ends last k R).1 with
    | false => rfl
    | true =>
      have h1 := hJ.2.2.2.1 _ hq
      have h2 := hJ.2.2.1
      exact absurd ⟨by omega, Or.inr hq⟩ (rc_pt_end (last := last) hok k R h hk)
  · obtain ⟨e1, e2⟩ := rc_pt_hg (log := log) (ends := ends) (last := last) k R
    rw [e1, e2]
    exact ha
theorem rc_evs_snoc {log : List bo_E} {s e : Nat} {ev : bo_E} (hs : s ≤ e) (h : log[e]? = some ev) : (log.take (e + 1)).drop s = (log.take e).drop s ++ [ev] := by
  have hl := (List.getElem?_eq_some_iff.mp h).1
  rw [List.take_succ, h, List.drop_append_of_le_length (by rw [List.length_take]; omega)]
  rfl
theorem rc_evs_nil {log : List bo_E} {s : Nat} : (log.take s).drop s = [] := List.drop_eq_nil_of_le (by rw [List.length_take]; omega)
/-! its cells -/
def TS (dA : Nat → ClassId) (h : fv_H) (ar aE : Nat) (log : List bo_E) (i n : Nat) (hl : List Nat) (nd : Nat) : Prop := ∃ (hs : List Nat) (sv : Nat → Int32), TK dA h (ar + 6 + 7 * i) i ar aE log hs nd sv ∧ (∀ c, c < 19 → sv c = fe_vw (fe_bk log i n) c) ∧ BL dA h (ar + 6 + 7 * i + 1) (fe_bk log i n) n ∧ (hs.map (ev_n log)).Perm hl
theorem TS.fs {dA : Nat → ClassId} {h h' : fv_H} {ar aE : Nat} {log : List bo_E} {i n : Nat} {hl : List Nat} {nd : Nat} {S : Nat → Prop} (q : TS dA h ar aE log i n hl nd) (hf : fs h h' S) (hd : ∀ x, ar + 6 + 7 * i ≤ x → x < ar + 6 + 7 * i + 7 → ¬ S x) : TS dA h' ar aE log i n hl nd := by
  obtain ⟨hs, sv, h1, h2, h3, h4⟩ := q
  exact ⟨hs, sv, h1.fs hf ⟨hd _ (by omega) (by omega), hd _ (by omega) (by omega), hd _ (by omega) (by omega)⟩, h2, h3.fs hf ⟨hd _ (by omega) (by omega), hd _ (by omega) (by omega), hd _ (by omega) (by omega), hd _ (by omega) (by omega)⟩, h4⟩
