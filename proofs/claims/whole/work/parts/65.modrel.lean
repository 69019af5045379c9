/-! what the reference's rows say of the whole as a value -/
def RV (F : Nat → Nat → Int32) (r : Nat) (R : rc_T) : Prop := (∀ i, i < 4 → F 16 (4 * r + i) = nI (rc_ap R i) ∧ F 17 (4 * r + i) = nI (rc_nd R i) ∧ (∀ n, n ≤ 400 → F 18 (401 * (4 * r + i) + n) = fv_b (decide (n ∈ rc_hl R i))) ∧ F 19 (4 * r + i) = nI (rc_hl R i).length) ∧ F 20 r = nI R.1 ∧ F 21 r = nI R.2.1 ∧ (∀ p, p ≤ 401 → F 22 (402 * r + p) = fv_b (rc_kp R p)) ∧ (∃ q, F 23 r = nI q ∧ (q = R.2.2.1 ∨ (q < R.1 ∧ R.2.2.1 < R.1))) ∧ (∀ j i, (rc_rw R)[j]? = some i → F 27 (4 * r + j) = nI i) ∧ F 28 r = nI (rc_rw R).length
def SHR (F : Nat → Nat → Int32) (sh : List (Nat × Nat × Nat)) : Prop := ∀ (k : Nat) (q : Nat × Nat × Nat), sh[k]? = some q → F 24 (k + 1) = nI q.1 ∧ F 25 (k + 1) = nI q.2.1 ∧ F 26 (k + 1) = nI q.2.2
def FXR (F : Nat → Nat → Int32) (r : Nat) (o : Option (Nat → Int32)) : Prop := F 30 r = fv_b o.isSome ∧ ∀ g, o = some g → ∀ c, c < 19 → F 29 (19 * r + c) = g c
def MR (F : Nat → Nat → Int32) (S : sp_T) : Prop := LG F S.1 ∧ (∀ i, i < 4 → F 8 i = nI (sp_len S i)) ∧ (∀ p, p ≤ S.2.1.length → F 9 (p + 1) = nI (fe_E S.2.1 p)) ∧ (∀ r, r < 2 → RV F r (sp_R S r)) ∧ SHR F (sp_sh S) ∧ ∀ r, r < 2 → FXR F r (sp_fx S r)
def RM (dA : Nat → ClassId) (h : fv_H) (m0 : Nat) (S : sp_T) : Prop := ∃ (F : Nat → Nat → Int32) (bl : Nat) (bh : Bool), MC dA h m0 S.1.length S.2.1.length bl bh (sp_sh S).length F ∧ MR F S
theorem RV.eq {F F' : Nat → Nat → Int32} {r : Nat} {R : rc_T} (h : RV F r R) (h1 : ∀ k, 16 ≤ k → k ≤ 23 → F' k = F k) (h2 : F' 27 = F 27) (h3 : F' 28 = F 28) : RV F' r R := by
  unfold RV
  rw [h1 16 (by decide) (by decide), h1 17 (by decide) (by decide), h1 18 (by decide) (by decide), h1 19 (by decide) (by decide), h1 20 (by decide) (by decide), h1 21 (by decide) (by decide), h1 22 (by decide) (by decide), h1 23 (by decide) (by decide), h2, h3]
  exact h
theorem SHR.eq {F F' : Nat → Nat → Int32} {sh : List (Nat × Nat × Nat)} (h : SHR F sh) (h1 : F' 24 = F 24) (h2 : F' 25 = F 25) (h3 : F' 26 = F 26) : SHR F' sh := by
  unfold SHR
  rw [h1, h2, h3]
  exact h
theorem FXR.eq {F F' : Nat → Nat → Int32} {r : Nat} {o : Option (Nat → Int32)} (h : FXR F r o) (h1 : F' 29 = F 29) (h2 : F' 30 = F 30) : FXR F' r o := by
  unfold FXR
  rw [h1, h2]
  exact h
theorem MR.ke {F F' : Nat → Nat → Int32} {S : sp_T} (h : MR F S) (hk : KE 10 15 F F') : MR F' S := by
  obtain ⟨h1, h2, h3, h4, h5, h6⟩ := h
  refine ⟨h1.ke hk (by decide), ?_, ?_, fun r hr => (h4 r hr).eq (fun k a b => hk k (by omega)) (hk 27 (by decide)) (hk 28 (by decide)), h5.eq (hk 24 (by decide)) (hk 25 (by decide)) (hk 26 (by decide)), fun r hr => (h6 r hr).eq (hk 29 (by decide)) (hk 30 (by decide))⟩
  · rw [hk 8 (by decide)]; exact h2
  · rw [hk 9 (by decide)]; exact h3
theorem MR.log {F F' : Nat → Nat → Int32} {S : sp_T} {so i s : Nat} {id pr v : Int32} (h : MR F S) (hi : i < 4) (e1 : F' 1 = upd (F 1) S.1.length (nI so)) (e2 : F' 2 = upd (F 2) S.1.length (nI i)) (e3 : F' 3 = upd (F 3) S.1.length (nI (sp_len S i + 1))) (e4 : F' 4 = upd (F 4) S.1.length id) (e5 : F' 5 = upd (F 5) S.1.length (nI s)) (e6 : F' 6 = upd (F 6) S.1.length pr) (e7 : F' 7 = upd (F 7) S.1.length v) (e8 : F' 8 = upd (F 8) i (nI (sp_len S i + 1))) (hk : ∀ k, k = 9 ∨ 16 ≤ k → F' k = F k) : MR F' (sp_log S (so, i, sp_len S i + 1, id, s, pr, v)) := by
  obtain ⟨h1, h2, h3, h4, h5, h6⟩ := h
  refine ⟨fun e ev he => ?_, fun j hj => ?_, ?_, fun r hr => (h4 r hr).eq (fun k a b => hk k (by omega)) (hk 27 (by omega)) (hk 28 (by omega)), h5.eq (hk 24 (by omega)) (hk 25 (by omega)) (hk 26 (by omega)), fun r hr => (h6 r hr).eq (hk 29 (by omega)) (hk 30 (by omega))⟩
  · have he : (S.1 ++ [(so, i, sp_len S i + 1, id, s, pr, v)])[e]? = some ev := he
    rw [e1, e2, e3, e4, e5, e6, e7]
    by_cases c : e < S.1.length
    · rw [List.getElem?_append_left c] at he
      unfold upd
      rw [if_neg (by omega), if_neg (by omega), if_neg (by omega), if_neg (by omega), if_neg (by omega), if_neg (by omega), if_neg (by omega)]
      exact h1 e ev he
    · rw [List.getElem?_append_right (by omega)] at he
      have hz : e - S.1.length < 1 := (List.getElem?_eq_some_iff.mp he).1
      have hz2 : e = S.1.length := by omega
      subst hz2
      rw [Nat.sub_self, List.getElem?_cons_zero] at he
      cases he
      simp [upd]
  · rw [e8, sp_len_log]
    unfold upd
    by_cases c : j = i
    · rw [if_pos c, if_pos c.symm, c]
    · rw [if_neg c, if_neg (fun q => c q.symm)]
      exact h2 j hj
  · rw [hk 9 (by omega)]
    exact h3
