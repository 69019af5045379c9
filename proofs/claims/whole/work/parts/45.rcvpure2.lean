/-! what a receiver answers -/
def rc_hg (R : rc_T) (p : Nat) : rc_T := (R.1, (if R.2.1 < p then p else R.2.1), R.2.2)
def rc_kk (R : rc_T) (p : Nat) : rc_T := (R.1, R.2.1, R.2.2.1, va_up (rc_kp R) p true, R.2.2.2.2)
def rc_ak (R : rc_T) (k : Nat) : rc_T := (R.1, R.2.1, k, R.2.2.2)
def rc_ha (R : rc_T) (p : Nat) : Nat := if p < R.1 then 0 else if R.1 + 6 < p then 3 else if R.1 < p then 2 else 1
def rc_hear (log : List bo_E) (ends : List Nat) (p : Nat) (R : rc_T) : rc_T := if p < R.1 then rc_hg R p else if R.1 + 6 < p then rc_hg R p else if R.1 < p then rc_kk (rc_hg R p) p else rc_pt log ends p (ends.length + 1 - R.1) (rc_hg R p)
def rc_ga (R : rc_T) : Nat → Nat → Nat
  | 0, _ => R.2.1
  | k + 1, p => if rc_kp R p = true then p - 1 else rc_ga R k (p + 1)
def rc_gap (R : rc_T) : Nat := rc_ga R 6 (R.1 + 1)
def rc_gu (R : rc_T) (last : Nat) : rc_T := (last + 1, R.2.1, R.2.2.1, (fun p => if p ≤ last then false else rc_kp R p), rc_ap R, rc_hl R, rc_rw R, fun i => if i < 4 then last else rc_nd R i)
def rc_sa (ends : List Nat) (R : rc_T) : Nat := if R.2.2.1 < R.1 then 0 else if fe_rep ends R.1 = true then 1 else 2
def rc_serve (log : List bo_E) (ends : List Nat) (R : rc_T) : rc_T := if R.2.2.1 < R.1 then rc_ak R 0 else if fe_rep ends R.1 = true then rc_pt log ends R.2.2.1 (ends.length + 1 - R.1) (rc_ak R 0) else rc_pt log ends R.2.2.1 (ends.length + 1 - (R.2.2.1 + 1)) (rc_gu (rc_ak R 0) R.2.2.1)
def rc_b (b : Bool) : Nat := if b = true then 1 else 0
def rc_ck (R : rc_T) : Nat := rc_b (rc_kp R R.1) + rc_b (rc_kp R (R.1 + 1)) + rc_b (rc_kp R (R.1 + 2)) + rc_b (rc_kp R (R.1 + 3)) + rc_b (rc_kp R (R.1 + 4)) + rc_b (rc_kp R (R.1 + 5)) + rc_b (rc_kp R (R.1 + 6)) + rc_b (rc_kp R (R.1 + 7))
def rc_ch (R : rc_T) : Nat := (rc_hl R 0).length + (rc_hl R 1).length + (rc_hl R 2).length + (rc_hl R 3).length
theorem rc_b_le (b : Bool) : rc_b b ≤ 1 := by cases b <;> decide
theorem rc_ga_le {log : List bo_E} {ends : List Nat} {R : rc_T} (h : rc_J log ends R) : ∀ k p, rc_ga R k p ≤ R.2.1
  | 0, _ => Nat.le_refl _
  | k + 1, p => by
    unfold rc_ga
    split
    · rename_i hk
      have := (h.2.2.2.1 p hk).2.2
      omega
    · exact rc_ga_le h k (p + 1)
theorem rc_hg_J {log : List bo_E} {ends : List Nat} {R : rc_T} {p : Nat} (h : rc_J log ends R) (hp : p ≤ ends.length) : rc_J log ends (rc_hg R p) := by
  obtain ⟨h1, h2, h3, h4, h5, h6⟩ := h
  refine ⟨h1, h2, ?_, fun q hq => ?_, h5, h6⟩
  · show (if R.2.1 < p then p else R.2.1) ≤ _
    split <;> omega
  · obtain ⟨a, b, c⟩ := h4 q hq
    refine ⟨a, b, ?_⟩
    show q ≤ (if R.2.1 < p then p else R.2.1)
    split <;> omega
theorem rc_hear_I {log : List bo_E} {ends : List Nat} {R : rc_T} {p : Nat} (hok : fe_ok log) (h : rc_I log ends R) (hp : p ≤ ends.length) : rc_I log ends (rc_hear log ends p R) := by
  obtain ⟨hJ, hk, ha⟩ := h
  have hJ2 := rc_hg_J hJ hp
  have ha2 : (rc_hg R p).2.2.1 ≤ (rc_hg R p).2.1 := by
    show R.2.2.1 ≤ (if R.2.1 < p then p else R.2.1)
    split <;> omega
  unfold rc_hear
  by_cases c1 : p < R.1
  · rw [if_pos c1]
    exact ⟨hJ2, hk, ha2⟩
  · rw [if_neg c1]
    by_cases c2 : R.1 + 6 < p
    · rw [if_pos c2]
      exact ⟨hJ2, hk, ha2⟩
    · rw [if_neg c2]
      by_cases c3 : R.1 < p
      · rw [if_pos c3]
        obtain ⟨h1, h2, h3, h4, h5, h6⟩ := hJ2
        refine ⟨⟨h1, h2, h3, fun q hq => ?_, h5, h6⟩, ?_, ha2⟩
        · by_cases hqp : q = p
          · subst hqp
            show R.1 ≤ q ∧ q ≤ R.1 + 6 ∧ q ≤ (if R.2.1 < q then q else R.2.1)
            refine ⟨by omega, by omega, ?_⟩
            split <;> omega
          · have hq : va_up (rc_kp (rc_hg R p)) p true q = true := hq
            rw [va_up_ne _ _ hqp] at hq
            exact h4 q hq
        · show va_up (rc_kp (rc_hg R p)) p true R.1 = false
          rw [va_up_ne _ _ (by omega)]
          exact hk
      · rw [if_neg c3]
        exact rc_pt_I hok hJ2 (by show ends.length + 1 ≤ R.1 + (ends.length + 1 - R.1); omega) ha2
theorem rc_ak_I {log : List bo_E} {ends : List Nat} {R : rc_T} {k : Nat} (h : rc_I log ends R) (hk : k ≤ R.2.1) : rc_I log ends (rc_ak R k) := ⟨h.1, h.2.1, hk⟩
theorem rc_gu_J {log : List bo_E} {ends : List Nat} {R : rc_T} {last : Nat} (h : rc_J log ends R) (h1 : R.1 ≤ last) (h2 : last ≤ R.2.1) : rc_J log ends (rc_gu R last) := by
  obtain ⟨g1, g2, g3, g4, g5, g6⟩ := h
  refine ⟨by show 1 ≤ last + 1; omega, by show last + 1 ≤ _; omega, g3, fun q hq => ?_, g5, fun i hi => ?_⟩
  · have hq : (if q ≤ last then false else rc_kp R q) = true := hq
    by_cases c : q ≤ last
    · rw [if_pos c] at hq
      cases hq
    · rw [if_neg c] at hq
      obtain ⟨a, b, c2⟩ := g4 q hq
      show last + 1 ≤ q ∧ q ≤ last + 1 + 6 ∧ q ≤ R.2.1
      exact ⟨by omega, by omega, c2⟩
  · show (if i < 4 then last else rc_nd R i) < last + 1
    rw [if_pos hi]
    omega
theorem rc_serve_I {log : List bo_E} {ends : List Nat} {R : rc_T} (hok : fe_ok log) (h : rc_I log ends R) : rc_I log ends (rc_serve log ends R) := by
  unfold rc_serve
  have h0 := rc_ak_I h (Nat.zero_le R.2.1)
  by_cases c1 : R.2.2.1 < R.1
  · rw [if_pos c1]
    exact h0
  · rw [if_neg c1]
    by_cases c2 : fe_rep ends R.1 = true
    · rw [if_pos c2]
      exact rc_pt_I hok h0.1 (by show ends.length + 1 ≤ R.1 + (ends.length + 1 - R.1); omega) (Nat.zero_le _)
    · rw [if_neg c2]
      have hh := h.2.2
      exact rc_pt_I hok (rc_gu_J (R := rc_ak R 0) h0.1 (by show R.1 ≤ R.2.2.1; omega) hh) (by show ends.length + 1 ≤ R.2.2.1 + 1 + (ends.length + 1 - (R.2.2.1 + 1)); omega) (Nat.zero_le _)
theorem rc_ring (kp : Nat → Bool) (n : Nat) : rc_b (kp (n % 8)) + rc_b (kp ((n + 1) % 8)) + rc_b (kp ((n + 2) % 8)) + rc_b (kp ((n + 3) % 8)) + rc_b (kp ((n + 4) % 8)) + rc_b (kp ((n + 5) % 8)) + rc_b (kp ((n + 6) % 8)) + rc_b (kp ((n + 7) % 8)) = rc_b (kp 0) + rc_b (kp 1) + rc_b (kp 2) + rc_b (kp 3) + rc_b (kp 4) + rc_b (kp 5) + rc_b (kp 6) + rc_b (kp 7) := by
  have hr : n % 8 = 0 ∨ n % 8 = 1 ∨ n % 8 = 2 ∨ n % 8 = 3 ∨ n % 8 = 4 ∨ n % 8 = 5 ∨ n % 8 = 6 ∨ n % 8 = 7 := by omega
  have e : ∀ k, (n + k) % 8 = (n % 8 + k) % 8 := fun k => by omega
  rw [e 1, e 2, e 3, e 4, e 5, e 6, e 7]
  rcases hr with h | h | h | h | h | h | h | h <;> rw [h] <;> simp only [Nat.reduceAdd, Nat.reduceMod] <;> omega
theorem rc_max0 {g n : Nat} (hg : g ≤ 400) (hn : n ≤ 401) : (if nI 0 < nI g - nI n + nI 1 then nI g - nI n + nI 1 else nI 0) = nI (g + 1 - n) := by
  have e : (nI g - nI n + nI 1).toInt = (g : Int) - n + 1 := by
    rw [Int32.toInt_add, pk_sub_toInt (by omega) (by omega), nI_toInt (by decide)]
    apply Int.bmod_eq_of_le <;> omega
  by_cases h : n ≤ g
  · have h1 : nI 0 < nI g - nI n + nI 1 := by
      rw [Int32.lt_iff_toInt_lt, e, nI_toInt (by decide)]
      omega
    rw [if_pos h1, pk_sub h, nI_add]
    congr 1
    omega
  · have h1 : ¬ nI 0 < nI g - nI n + nI 1 := by
      rw [Int32.lt_iff_toInt_lt, e, nI_toInt (by decide)]
      omega
    rw [if_neg h1]
    congr 1
    omega
