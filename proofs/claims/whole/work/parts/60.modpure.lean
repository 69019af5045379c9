/-! the reference's book: orders as they came, in four rows -/
theorem ix_del : ∀ {l : List bo_O} {k : Nat} {o : bo_O}, (l.map (fun o => o.1)).Nodup → l[k]? = some o → l.eraseIdx k = bo_del l o.1
  | [], k, o, _, h => by simp at h
  | a :: t, 0, o, hn, h => by
    simp only [List.getElem?_cons_zero, Option.some.injEq] at h
    subst h
    rw [List.map_cons, List.nodup_cons] at hn
    unfold bo_del
    rw [List.filter_cons, if_neg (by simp)]
    refine (List.filter_eq_self.mpr fun b hb => ?_).symm
    refine decide_eq_true (fun q => hn.1 ?_)
    rw [← q]
    exact List.mem_map_of_mem hb
  | a :: t, k + 1, o, hn, h => by
    rw [List.getElem?_cons_succ] at h
    rw [List.map_cons, List.nodup_cons] at hn
    have hne : a.1 ≠ o.1 := fun q => hn.1 (by rw [q]; exact List.mem_map_of_mem (List.mem_of_getElem? h))
    have h9 := ix_del hn.2 h
    rw [List.eraseIdx_cons_succ, h9]
    unfold bo_del
    rw [List.filter_cons, if_pos (decide_eq_true hne)]
theorem ix_siz {l : List bo_O} {k : Nat} {o : bo_O} {v : Int32} (hn : (l.map (fun o => o.1)).Nodup) (h : l[k]? = some o) (j : Nat) : (bo_siz l o.1 v)[j]? = if j = k then some (o.1, o.2.1, o.2.2.1, v) else l[j]? := by
  unfold bo_siz
  rw [List.getElem?_map]
  by_cases c : j = k
  · rw [if_pos c, c, h]
    simp
  · rw [if_neg c]
    cases hj : l[j]? with
    | none => rfl
    | some b =>
      have hne : ¬ b.1 = o.1 := fun q => by
        obtain ⟨a1, a2⟩ := List.getElem?_eq_some_iff.mp hj
        obtain ⟨b1, b2⟩ := List.getElem?_eq_some_iff.mp h
        have hh := List.pairwise_iff_getElem.mp hn
        rcases Nat.lt_or_gt_of_ne c with q2 | q2
        · exact hh j k (by simpa using a1) (by simpa using b1) q2 (by simp [a2, b2, q])
        · exact hh k j (by simpa using b1) (by simpa using a1) q2 (by simp [a2, b2, q])
      simp [hne]
theorem ix_del2 {l : List bo_O} {k : Nat} {o : bo_O} {v : Int32} (hn : (l.map (fun o => o.1)).Nodup) (h : l[k]? = some o) : (bo_siz l o.1 v).eraseIdx k = bo_del l o.1 := by
  have h1 : (bo_siz l o.1 v)[k]? = some (o.1, o.2.1, o.2.2.1, v) := by rw [ix_siz hn h, if_pos rfl]
  have h2 := ix_del (by rw [bo_map_ids]; exact hn) h1
  rw [h2]
  unfold bo_del bo_siz
  rw [List.filter_map]
  have e1 : l.filter ((fun x => decide (x.1 ≠ o.1)) ∘ fun x => if x.1 = o.1 then (x.1, x.2.1, x.2.2.1, v) else x) = l.filter (fun x => decide (x.1 ≠ o.1)) := by
    apply List.filter_congr
    intro b _
    by_cases q : b.1 = o.1 <;> simp [q]
  show List.map _ (l.filter ((fun x => decide (x.1 ≠ o.1)) ∘ fun x => if x.1 = o.1 then (x.1, x.2.1, x.2.2.1, v) else x)) = _
  rw [e1]
  refine (List.map_congr_left (g := id) fun b hb => ?_).trans (List.map_id _)
  have hb2 : b.1 ≠ o.1 := by simpa using (List.mem_filter.mp hb).2
  simp [hb2]
/-! the log, gone over -/
theorem fe_li_take (log : List bo_E) (i e : Nat) : fe_li (log.take e) i = (fe_li log i).take (fe_li (log.take e) i).length := by
  have h1 : fe_li log i = fe_li (log.take e) i ++ fe_li (log.drop e) i := by
    unfold fe_li
    rw [← List.filter_append, List.take_append_drop]
  rw [h1, List.take_left']
  rfl
theorem fe_bk_take (log : List bo_E) (i n e : Nat) : fe_bk (log.take e) i n = fe_bk log i (min n (fe_li (log.take e) i).length) := by
  unfold fe_bk
  rw [← List.take_take, ← fe_li_take]
theorem fe_li_next {log : List bo_E} {e : Nat} {ev : bo_E} (i : Nat) (h : log[e]? = some ev) : fe_li (log.take (e + 1)) i = if ev.2.1 = i then fe_li (log.take e) i ++ [ev] else fe_li (log.take e) i := by
  rw [List.take_succ, h]
  exact fe_li_app _ _ _
theorem fe_num_take {log : List bo_E} (hok : fe_ok log) {e : Nat} {ev : bo_E} (h : log[e]? = some ev) : ev.2.2.1 = (fe_li (log.take e) ev.2.1).length + 1 ∧ (fe_li log ev.2.1)[(fe_li (log.take e) ev.2.1).length]? = some ev := by
  have h1 := fe_li_take log ev.2.1 (e + 1)
  have h2 := fe_li_next ev.2.1 h
  rw [if_pos rfl] at h2
  have h3 : (fe_li (log.take (e + 1)) ev.2.1)[(fe_li (log.take e) ev.2.1).length]? = some ev := by rw [h2]; simp
  have h4 : (fe_li (log.take (e + 1)) ev.2.1).length = (fe_li (log.take e) ev.2.1).length + 1 := by rw [h2]; simp
  rw [h1, List.getElem?_take, if_pos (by omega)] at h3
  exact ⟨(hok _ _ _ h3).1, h3⟩
theorem go_wf {log : List bo_E} (hok : fe_ok log) (i n e : Nat) : bo_wf (fe_bk (log.take e) i n).1 := by
  rw [fe_bk_take]
  refine fe_bk_wf hok i _ (Nat.le_trans (Nat.min_le_right _ _) ?_)
  have := congrArg List.length (fe_li_take log i e)
  rw [List.length_take] at this
  omega
theorem go_yes {log : List bo_E} (hok : fe_ok log) {i n e : Nat} {ev : bo_E} (h : log[e]? = some ev) (hi : ev.2.1 = i) (hn : ev.2.2.1 ≤ n) : fe_bk (log.take (e + 1)) i n = bo_apl (fe_bk (log.take e) i n) ev ∧ bo_ewf ev ∧ bo_ok (fe_bk (log.take e) i n) ev.1 ev.2.2.2.1 ev.2.2.2.2.2.2 = true := by
  subst hi
  obtain ⟨h1, h2⟩ := fe_num_take hok h
  have h3 := fe_li_next ev.2.1 h
  rw [if_pos rfl] at h3
  have e1 : fe_bk (log.take e) ev.2.1 n = fe_bk log ev.2.1 (fe_li (log.take e) ev.2.1).length := by
    rw [fe_bk_take, Nat.min_eq_right (by omega)]
  have e2 : fe_bk (log.take (e + 1)) ev.2.1 n = fe_bk log ev.2.1 ((fe_li (log.take e) ev.2.1).length + 1) := by
    rw [fe_bk_take, h3, Nat.min_eq_right (by simp; omega)]
    simp
  obtain ⟨g1, g2, g3⟩ := hok _ _ _ h2
  rw [e1, e2, fe_bk_succ h2]
  exact ⟨rfl, g2, g3⟩
theorem go_no {log : List bo_E} (hok : fe_ok log) {i n e : Nat} {ev : bo_E} (h : log[e]? = some ev) (hi : ¬ (ev.2.1 = i ∧ ev.2.2.1 ≤ n)) : fe_bk (log.take (e + 1)) i n = fe_bk (log.take e) i n := by
  have h3 := fe_li_next i h
  by_cases c : ev.2.1 = i
  · subst c
    obtain ⟨h1, h2⟩ := fe_num_take hok h
    rw [if_pos rfl] at h3
    have hn : ¬ ev.2.2.1 ≤ n := fun q => hi ⟨rfl, q⟩
    rw [fe_bk_take, fe_bk_take, h3, Nat.min_eq_left (by simp; omega), Nat.min_eq_left (by omega)]
  · rw [if_neg c] at h3
    unfold fe_bk
    rw [h3]
/-! the reference's cells -/
def mt (k : Nat) : Nat := if k = 18 ∨ k = 22 ∨ k = 30 then 1 else 0
def ml (k : Nat) : Nat := [0, 400, 400, 400, 400, 400, 400, 400, 4, 402, 24, 24, 24, 24, 19, 19, 8, 8, 3208, 8, 2, 2, 804, 2, 513, 513, 513, 8, 2, 38, 2].getD k 0
def BA (F : Nat → Nat → Int32) (l : List bo_O) : Prop := ∀ (j : Nat) (o : bo_O), l[j]? = some o → F 10 j = o.1 ∧ F 11 j = nI o.2.1 ∧ F 12 j = o.2.2.1 ∧ F 13 j = o.2.2.2
def LG (F : Nat → Nat → Int32) (log : List bo_E) : Prop := ∀ (e : Nat) (ev : bo_E), log[e]? = some ev → F 1 e = nI ev.1 ∧ F 2 e = nI ev.2.1 ∧ F 3 e = nI ev.2.2.1 ∧ F 4 e = ev.2.2.2.1 ∧ F 5 e = nI ev.2.2.2.2.1 ∧ F 6 e = ev.2.2.2.2.2.1 ∧ F 7 e = ev.2.2.2.2.2.2
def KE (lo hi : Nat) (F F' : Nat → Nat → Int32) : Prop := ∀ k, k < lo ∨ hi < k → F' k = F k
theorem KE.rf (lo hi : Nat) (F : Nat → Nat → Int32) : KE lo hi F F := fun _ _ => rfl
theorem KE.tr {a b c d lo hi : Nat} {F F1 F2 : Nat → Nat → Int32} (h1 : KE a b F F1) (h2 : KE c d F1 F2) (q1 : lo ≤ a) (q2 : b ≤ hi) (q3 : lo ≤ c) (q4 : d ≤ hi) : KE lo hi F F2 := fun k hk => (h2 k (by omega)).trans (h1 k (by omega))
theorem KE.one {k : Nat} {F F' : Nat → Nat → Int32} (h : ∀ q, q ≠ k → F' q = F q) : KE k k F F' := fun q hq => h q (by omega)
theorem LG.ke {lo hi : Nat} {F F' : Nat → Nat → Int32} {log : List bo_E} (h : LG F log) (hk : KE lo hi F F') (h8 : 8 ≤ lo) : LG F' log := fun e ev he => by
  rw [hk 1 (by omega), hk 2 (by omega), hk 3 (by omega), hk 4 (by omega), hk 5 (by omega), hk 6 (by omega), hk 7 (by omega)]
  exact h e ev he
theorem BA.ke {lo hi : Nat} {F F' : Nat → Nat → Int32} {l : List bo_O} (h : BA F l) (hk : KE lo hi F F') (h8 : 14 ≤ lo) : BA F' l := fun e ev he => by
  rw [hk 10 (by omega), hk 11 (by omega), hk 12 (by omega), hk 13 (by omega)]
  exact h e ev he
def MS (m0 : Nat) : Nat → Prop := fun x => m0 ≤ x ∧ x ≤ m0 + 30
