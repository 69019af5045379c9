/-! what the arrays become -/
theorem bo_arr_ins {l : List bo_O} {o : bo_O} (hs : o.2.1 = 0 ∨ o.2.1 = 1) : bo_arr (l ++ [o]) = (bo_arr l).take (bo_st0 l o.2.1 + bo_pl o.2.1 o (bo_srt o.2.1 l)) ++ o :: (bo_arr l).drop (bo_st0 l o.2.1 + bo_pl o.2.1 o (bo_srt o.2.1 l)) := by
  unfold bo_arr
  rw [bo_srt_app, bo_srt_app]
  rcases hs with h | h
  · have hp := bo_pl_le (s := 0) (o := o) (l := bo_srt 0 l)
    rw [h, if_pos rfl, if_neg (by decide)]
    simp only [bo_st0, if_true, Nat.zero_add]
    rw [List.take_append_of_le_length hp, List.drop_append_of_le_length hp, bo_ins_pl]
    simp
  · rw [h, if_neg (by decide), if_pos rfl]
    simp only [bo_st0, Nat.one_ne_zero, if_false]
    rw [List.take_append, List.drop_append, bo_ins_pl]
    simp [List.take_of_length_le, List.drop_eq_nil_of_le]
theorem bo_srt0_ins {l : List bo_O} {o : bo_O} (hs : o.2.1 = 0 ∨ o.2.1 = 1) : (bo_srt 0 (l ++ [o])).length = (bo_srt 0 l).length + (if o.2.1 = 0 then 1 else 0) := by
  rw [bo_srt_app]
  split
  · rw [bo_ins_len]
  · rfl
theorem bo_del_len {a : List bo_O} {k : Nat} {o : bo_O} (hn : (a.map (fun o => o.1)).Nodup) (hk : a[k]? = some o) : (bo_del a o.1).length = a.length - 1 := by
  have hl := (List.getElem?_eq_some_iff.mp hk).1
  rw [← bo_erase_del hn hk, List.length_eraseIdx]
  simp [hl]
theorem bo_srt_del (s : Nat) (l : List bo_O) (x : Int32) : bo_srt s (bo_del l x) = bo_del (bo_srt s l) x := bo_srt_filter s _ l
theorem bo_srt_siz (s : Nat) (l : List bo_O) (x v : Int32) : bo_srt s (bo_siz l x v) = bo_siz (bo_srt s l) x v := by
  unfold bo_siz
  apply bo_srt_map
  · intro o
    split <;> rfl
  · intro o
    split <;> rfl
theorem bo_siz_len (l : List bo_O) (x v : Int32) : (bo_siz l x v).length = l.length := by unfold bo_siz; rw [List.length_map]
theorem bo_del_none {a : List bo_O} {x : Int32} (h : ∀ o ∈ a, o.1 ≠ x) : bo_del a x = a := by
  unfold bo_del
  apply List.filter_eq_self.mpr
  intro o ho
  simp [h o ho]
/-- deleting the k-th of the arrays: how many buys are left -/
theorem bo_buys_del {l : List bo_O} {k : Nat} {o : bo_O} (hw : bo_wf l) (hk : (bo_arr l)[k]? = some o) : (bo_srt 0 (bo_del l o.1)).length = if k < (bo_srt 0 l).length then (bo_srt 0 l).length - 1 else (bo_srt 0 l).length := by
  rw [bo_srt_del]
  have hnd := bo_arr_nodup hw
  have hn0 : ((bo_srt 0 l).map (fun o => o.1)).Nodup := by
    unfold bo_arr at hnd
    rw [List.map_append] at hnd
    exact (List.nodup_append.mp hnd).1
  by_cases h : k < (bo_srt 0 l).length
  · rw [if_pos h]
    rw [bo_arr_lo h] at hk
    exact bo_del_len hn0 hk
  · rw [if_neg h]
    obtain ⟨j, rfl⟩ : ∃ j, k = (bo_srt 0 l).length + j := ⟨k - (bo_srt 0 l).length, by omega⟩
    rw [bo_arr_hi] at hk
    rw [bo_del_none]
    intro p hp e
    unfold bo_arr at hnd
    rw [List.map_append] at hnd
    exact (List.nodup_append.mp hnd).2.2 p.1 (List.mem_map.mpr ⟨p, hp, rfl⟩) o.1 (List.mem_map.mpr ⟨o, List.mem_of_getElem? hk, rfl⟩) e
theorem bo_len_del {l : List bo_O} {k : Nat} {o : bo_O} (hw : bo_wf l) (hk : (bo_arr l)[k]? = some o) : (bo_del l o.1).length = l.length - 1 := by
  have h1 := bo_del_len (bo_arr_nodup hw) hk
  rw [← bo_arr_del, bo_arr_len (bo_wf_del hw).2.1, bo_arr_len hw.2.1] at h1
  exact h1
