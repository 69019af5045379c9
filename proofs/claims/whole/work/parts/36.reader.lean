/-! frames by a set of addresses -/
def fs (h h' : fv_H) (S : Nat → Prop) : Prop := ∀ x : Nat, ¬ S x → h' x = h x
theorem fs_rf (h : fv_H) (S : Nat → Prop) : fs h h S := fun _ _ => rfl
theorem fs.tr {h h1 h2 : fv_H} {S T U : Nat → Prop} (q1 : fs h h1 S) (q2 : fs h1 h2 T) (hS : ∀ x, S x → U x) (hT : ∀ x, T x → U x) : fs h h2 U := fun x hx => (q2 x (fun z => hx (hT x z))).trans (q1 x (fun z => hx (hS x z)))
theorem fs.mono {h h1 : fv_H} {S U : Nat → Prop} (q1 : fs h h1 S) (hS : ∀ x, S x → U x) : fs h h1 U := fun x hx => q1 x (fun z => hx (hS x z))
theorem fr.fs {h h' : fv_H} {a n : Nat} (q : fr h h' a n) : fs h h' (fun x => a ≤ x ∧ x < a + n) := q
theorem BL.fs {dA : Nat → ClassId} {h h' : fv_H} {a : Nat} {b : bo_B} {n : Nat} {S : Nat → Prop} (q : BL dA h a b n) (hf : fs h h' S) (hd : ¬ S a ∧ ¬ S (a + 1) ∧ ¬ S (a + 2) ∧ ¬ S (a + 3)) : BL dA h' a b n := by
  obtain ⟨ids, pri, siz, hB, hA, hw⟩ := q
  exact ⟨ids, pri, siz, ⟨(hf _ hd.1).trans hB.1, (hf _ hd.2.1).trans hB.2.1, (hf _ hd.2.2.1).trans hB.2.2.1, (hf _ hd.2.2.2).trans hB.2.2.2⟩, hA, hw⟩
/-! Reader -/
def RDr (dA : Nat → ClassId) (h : fv_H) (a : Nat) (g : Nat → Int32) (cnt : Nat) (fx : Nat → Int32) : Prop := h (a) = some (.inr (4, [.ref (a + 1), .int (nI cnt), .ref (a + 2)])) ∧ h (a + 1) = some (.inl (dA 0, 4, .inl g)) ∧ h (a + 2) = some (.inl (dA 0, 19, .inl fx))
section RDrS
variable {D : va_G} {dA : Nat → ClassId} {Bs : Nat} {X : fv_X} {M : fv_M} {mc ms nL : Nat} {Q : State → Prop} {pc n : Nat} {L L' : List (Option Value)} {st : List Value} {sz : Nat} {h : fv_H} {cells slots : Nat} {a : Nat} {g : Nat → Int32} {cnt : Nat} {fx : Nat → Int32}
theorem RDr.fs {h' : fv_H} {S : Nat → Prop} (hO : RDr dA h a g cnt fx) (hf : fs h h' S) (hd : ¬ S (a) ∧ ¬ S (a + 1) ∧ ¬ S (a + 2)) : RDr dA h' a g cnt fx := by
  exact ⟨(hf _ hd.1).trans hO.1, (hf _ hd.2.1).trans hO.2.1, (hf _ hd.2.2).trans hO.2.2⟩
theorem rd_pc (C : fv_C (fk D dA) WA X M mc ms) {idx : Nat} {v : Nat} (F : fv_FL (fk D dA) WA M.1.cls idx 4 1 .int false) (hd : decode M.2.1 pc = .ok (.putfield idx, 3)) (hn : pc + 3 = n) (hO : RDr dA h a g cnt fx) (hBs : Bs ≤ a) (kk : ∀ h' : fv_H, RDr dA h' a g v fx → fs h h' (fun z => z = a) → fv_V (fk D dA) Bs X nL Q n L st sz h' cells slots) : fv_V (fk D dA) Bs X nL Q pc L (.int (nI v) :: .ref (a) :: st) sz h cells slots := by
  refine fv_put C F (Or.inl rfl) hd hn hO.1 (by omega) rfl rfl (Nat.le_of_ble_eq_true rfl) ?_
  refine kk _ ⟨?_, ?_, ?_⟩ (fun z hz => va_up_ne _ _ hz)
  · exact va_up_self _ _ _
  · rw [va_up_ne _ _ (by omega)]; exact hO.2.1
  · rw [va_up_ne _ _ (by omega)]; exact hO.2.2
theorem rd_sg (C : fv_C (fk D dA) WA X M mc ms) {j : Nat} {x : Int32} (hd : decode M.2.1 pc = .ok (.iastore, 1)) (hn : pc + 1 = n) (hO : RDr dA h a g cnt fx) (hBs : Bs ≤ a) (hj : j < 4) (kk : ∀ h' : fv_H, RDr dA h' a (upd g j x) cnt fx → fs h h' (fun z => z = a + 1) → fv_V (fk D dA) Bs X nL Q n L st sz h' cells slots) : fv_V (fk D dA) Bs X nL Q pc L (.int x :: .int (nI j) :: .ref (a + 1) :: st) sz h cells slots := by
  refine fv_iastN C (t0 := 0) rfl hd hn hO.2.1 (by omega) hj (by decide) ?_
  refine kk _ ⟨?_, ?_, ?_⟩ (fun z hz => va_up_ne _ _ hz)
  · rw [va_up_ne _ _ (by omega)]; exact hO.1
  · exact va_up_self _ _ _
  · rw [va_up_ne _ _ (by omega)]; exact hO.2.2
theorem rd_cg (C : fv_C (fk D dA) WA X M mc ms) {idx a0 n0 sp dp zz : Nat} {gg : Nat → Int32} (hw1 : Cond.methodLink M.1.cls idx arraycopyName ∈ WA) (hd : decode M.2.1 pc = .ok (.invokestatic idx, 3)) (hn : pc + 3 = n) (hm : nL = M.2.2.1) (ha0 : h a0 = some (.inl (dA 0, n0, .inl gg))) (hO : RDr dA h a g cnt fx) (hBs : Bs ≤ a) (h4 : sp + zz ≤ n0) (h5 : dp + zz ≤ 4) (h0 : n0 < 2 ^ 31) (hf : 1 ≤ M.2.2.2.2.1) (hlo : (st.map fun v => v.category).sum + (nativeFrameWords "java/lang/System" "arraycopy" 5 + 11) ≤ M.2.2.2.2.2) (kk : ∀ h' : fv_H, RDr dA h' a (va_cpy gg g sp dp zz) cnt fx → fs h h' (fun z => z = a + 1) → fv_V (fk D dA) Bs X nL Q n L st sz h' cells slots) : fv_V (fk D dA) Bs X nL Q pc L (.int (nI zz) :: .int (nI dp) :: .ref (a + 1) :: .int (nI sp) :: .ref a0 :: st) sz h cells slots := by
  refine fv_copyN C (t0 := 0) rfl hw1 n_an n_as n_ai hd hn hm ha0 hO.2.1 (by omega) h4 h5 h0 (by decide) hf hlo ?_
  refine kk _ ⟨?_, ?_, ?_⟩ (fun z hz => va_up_ne _ _ hz)
  · rw [va_up_ne _ _ (by omega)]; exact hO.1
  · exact va_up_self _ _ _
  · rw [va_up_ne _ _ (by omega)]; exact hO.2.2
end RDrS
def RD (dA : Nat → ClassId) (h : fv_H) (a : Nat) (row : List Nat) (fx : Nat → Int32) : Prop := ∃ g : Nat → Int32, RDr dA h a g row.length fx ∧ ∀ j i : Nat, row[j]? = some i → g j = nI i
theorem RD.fs {dA : Nat → ClassId} {h h' : fv_H} {a : Nat} {row : List Nat} {fx : Nat → Int32} {S : Nat → Prop} (q : RD dA h a row fx) (hf : fs h h' S) (hd : ¬ S a ∧ ¬ S (a + 1) ∧ ¬ S (a + 2)) : RD dA h' a row fx := by
  obtain ⟨g, hO, hg⟩ := q
  exact ⟨g, hO.fs hf hd, hg⟩
theorem row_len : ∀ (n : Nat) (l : List Nat), l.Nodup → (∀ j ∈ l, j < n) → l.length ≤ n
  | 0, l, _, h => by
    cases l with
    | nil => exact Nat.le_refl _
    | cons a t => exact absurd (h a List.mem_cons_self) (by omega)
  | n + 1, l, hn, h => by
    by_cases hm : n ∈ l
    · have h1 := row_len n (l.erase n) (hn.erase n) (fun j hj => by
        have h2 := h j (List.mem_of_mem_erase hj)
        have h3 : j ≠ n := fun q => by rw [q] at hj; exact (List.Nodup.not_mem_erase hn) hj
        omega)
      have h4 := List.length_erase_of_mem hm
      have h5 : 0 < l.length := List.length_pos_of_mem hm
      omega
    · have h1 := row_len n l hn (fun j hj => by
        have h2 := h j hj
        have h3 : j ≠ n := fun q => hm (by rw [← q]; exact hj)
        omega)
      omega
section RDW
variable {l : Launch} {D : va_G} {dA : Nat → ClassId} {Bs sz : Nat} {h : fv_H} {a : Nat} {row : List Nat} {fx : Nat → Int32}
theorem ct_W_mark {i : Nat} (hi : i < 4) (hBs : Bs ≤ a) (hn : row.Nodup) (h4 : ∀ j ∈ row, j < 4) (hR : RD dA h a row fx) : fv_T l (fk D dA) Bs WA m_W_mark [.ref a, .int (nI i)] sz h 0 0 (fp_v sz (fun h' => RD dA h' a (tr_mark i row) fx ∧ fs h h' (fun x => a ≤ x ∧ x < a + 3))) := by
  obtain ⟨g, hO, hg⟩ := hR
  have hl4 := row_len 4 row hn h4
  refine fv_of (L := [_, _, _]) (by decide +kernel) rfl (Nat.le_of_ble_eq_true rfl) rfl ?_
  intro X hX C
  subst hX
  have loop : ∀ k j, j + k = row.length → (∀ t, t < j → row[t]? ≠ some i) → fv_V (fk D dA) Bs X 3 (fv_MQ (fk D dA) Bs X (fp_v sz (fun h' => RD dA h' a (tr_mark i row) fx ∧ fs h h' (fun x => a ≤ x ∧ x < a + 3))) 0 0) 2 [some (.ref a), some (.int (nI i)), some (.int (nI j))] [] sz h 0 0 := by
    intro k
    induction k with
    | zero =>
      intro j hj hno
      have hni : i ∉ row := by
        intro hm
        obtain ⟨t, ht⟩ := List.getElem?_of_mem hm
        exact hno t (by have := (List.getElem?_eq_some_iff.mp ht).1; omega) ht
      have hl3 : row.length < 4 := by
        have := row_len 4 (i :: row) (List.nodup_cons.mpr ⟨hni, hn⟩) (fun j hj => by rcases List.mem_cons.mp hj with rfl | hj; exact hi; exact h4 j hj)
        simp at this
        omega
      refine fv_iload_n C d_W_mark_2 (n := 3) rfl (i := 2) rfl rfl ?_
      refine fv_aload_n C d_W_mark_3 (n := 4) rfl (i := 0) rfl rfl ?_
      refine fv_get C (fl_W_15 D dA) d_W_mark_4 (n := 7) rfl hO.1 rfl ?_
      refine fv_icmpN_ge C (by omega) (by omega) d_W_mark_7 (tgt := 27) rfl (n := 10) rfl (fun hc7 => ?_) (fun hc7 => ?_)
      · refine fv_aload_n C d_W_mark_27 (n := 28) rfl (i := 0) rfl rfl ?_
        refine fv_get C (fl_W_15 D dA) d_W_mark_28 (n := 31) rfl hO.1 rfl ?_
        refine fv_iconst C d_W_mark_31 (n := 32) rfl kI_4 ?_
        refine fv_icmpN_ge C (by omega) (by omega) d_W_mark_32 (tgt := 55) rfl (n := 35) rfl (fun hc32 => ?_) (fun hc32 => ?_)
        · exact absurd hc32 (by omega)
        · refine fv_aload_n C d_W_mark_35 (n := 36) rfl (i := 0) rfl rfl ?_
          refine fv_get C (fl_W_9 D dA) d_W_mark_36 (n := 39) rfl hO.1 rfl ?_
          refine fv_aload_n C d_W_mark_39 (n := 40) rfl (i := 0) rfl rfl ?_
          refine fv_get C (fl_W_15 D dA) d_W_mark_40 (n := 43) rfl hO.1 rfl ?_
          refine fv_iload_n C d_W_mark_43 (n := 44) rfl (i := 1) rfl rfl ?_
          refine rd_sg C d_W_mark_44 (n := 45) rfl hO hBs hl3 (fun h1 hO hF1 => ?_)
          refine fv_aload_n C d_W_mark_45 (n := 46) rfl (i := 0) rfl rfl ?_
          refine fv_dup C d_W_mark_46 (n := 47) rfl rfl ?_
          refine fv_get C (fl_W_15 D dA) d_W_mark_47 (n := 50) rfl hO.1 rfl ?_
          refine fv_iconst C d_W_mark_50 (n := 51) rfl kI_1 ?_
          first | refine fv_iaddN C d_W_mark_51 (n := 52) rfl ?_ | refine fv_iadd C d_W_mark_51 (n := 52) rfl ?_
          refine rd_pc C (fl_W_15 D dA) d_W_mark_52 (n := 55) rfl hO hBs (fun h1 hO hF2 => ?_)
          refine fv_vret C rfl d_W_mark_55 (Nat.le_refl _) (Nat.le_refl _) ?_
          refine ⟨rfl, rfl, ⟨upd g row.length (nI i), ?_, ?_⟩, hF1.tr hF2 (fun x hx => by omega) (fun x hx => by omega)⟩
          · unfold tr_mark; rw [if_neg hni, List.length_append]; exact hO
          · intro t z hz
            unfold tr_mark at hz
            rw [if_neg hni] at hz
            by_cases h9 : t < row.length
            · rw [List.getElem?_append_left h9] at hz; unfold upd; rw [if_neg (by omega)]; exact hg t z hz
            · rw [List.getElem?_append_right (by omega)] at hz
              have h10 : t - row.length < 1 := (List.getElem?_eq_some_iff.mp hz).1
              have h11 : t = row.length := by omega
              subst h11
              rw [Nat.sub_self, List.getElem?_cons_zero] at hz
              cases hz
              simp [upd]
      · exact absurd hc7 (by omega)
    | succ k ih =>
      intro j hj hno
      obtain ⟨z, hz⟩ : ∃ z, row[j]? = some z := ⟨_, List.getElem?_eq_getElem (by omega)⟩
      have hgz := hg j z hz
      have hz4 := h4 z (List.mem_of_getElem? hz)
      refine fv_iload_n C d_W_mark_2 (n := 3) rfl (i := 2) rfl rfl ?_
      refine fv_aload_n C d_W_mark_3 (n := 4) rfl (i := 0) rfl rfl ?_
      refine fv_get C (fl_W_15 D dA) d_W_mark_4 (n := 7) rfl hO.1 rfl ?_
      refine fv_icmpN_ge C (by omega) (by omega) d_W_mark_7 (tgt := 27) rfl (n := 10) rfl (fun hc7 => ?_) (fun hc7 => ?_)
      · exact absurd hc7 (by omega)
      · refine fv_aload_n C d_W_mark_10 (n := 11) rfl (i := 0) rfl rfl ?_
        refine fv_get C (fl_W_9 D dA) d_W_mark_11 (n := 14) rfl hO.1 rfl ?_
        refine fv_iload_n C d_W_mark_14 (n := 15) rfl (i := 2) rfl rfl ?_
        refine fv_ialdN C (t0 := 0) rfl d_W_mark_15 (n := 16) rfl hO.2.1 (by omega) (by decide) ?_
        rw [hgz]
        refine fv_iload_n C d_W_mark_16 (n := 17) rfl (i := 1) rfl rfl ?_
        refine fv_icmpN_ne C (by omega) (by omega) d_W_mark_17 (tgt := 21) rfl (n := 20) rfl (fun hc17 => ?_) (fun hc17 => ?_)
        · refine fv_iincN C d_W_mark_21 (n := 24) rfl rfl (by decide) (L' := [_, _, _]) rfl ?_
          refine fv_goto C d_W_mark_24 (tgt := 2) rfl ?_
          refine ih (j + 1) (by omega) (fun t ht => ?_)
          by_cases h9 : t = j
          · subst h9; rw [hz]; exact fun q => hc17 (Option.some.inj q)
          · exact hno t (by omega)
        · have hin : i ∈ row := by rw [← hc17]; exact List.mem_of_getElem? hz
          refine fv_vret C rfl d_W_mark_20 (Nat.le_refl _) (Nat.le_refl _) ?_
          refine ⟨rfl, rfl, ⟨g, ?_, ?_⟩, fs_rf _ _⟩
          · unfold tr_mark; rw [if_pos hin]; exact hO
          · unfold tr_mark; rw [if_pos hin]; exact hg
  refine fv_iconst C d_W_mark_0 (n := 1) rfl kI_0 ?_
  refine fv_istore_n C d_W_mark_1 (n := 2) rfl (i := 2) rfl (by decide) (L' := [_, _, _]) rfl ?_
  exact loop row.length 0 (by omega) (fun t ht => absurd ht (by omega))
theorem ct_W_takeFirst0 (hR : RD dA h a [] fx) : fv_T l (fk D dA) Bs WA m_W_takeFirst [.ref a] sz h 0 0 (fp_r (.int (-1)) sz h) := by
  obtain ⟨g, hO, hg⟩ := hR
  have hO : RDr dA h a g 0 fx := hO
  refine fv_of (L := [_, _]) (by decide +kernel) rfl (Nat.le_of_ble_eq_true rfl) rfl ?_
  intro X hX C
  subst hX
  refine fv_aload_n C d_W_takeFirst_0 (n := 1) rfl (i := 0) rfl rfl ?_
  refine fv_get C (fl_W_15 D dA) d_W_takeFirst_1 (n := 4) rfl hO.1 rfl ?_
  refine fv_ifN_ne C (by omega) d_W_takeFirst_4 (tgt := 9) rfl (n := 7) rfl (fun hc4 => ?_) (fun hc4 => ?_)
  · exact absurd rfl hc4
  · refine fv_iconst C d_W_takeFirst_7 (n := 8) rfl kI_m1 ?_
    refine fv_iret C rfl d_W_takeFirst_8 (Nat.le_refl _) (Nat.le_refl _) ?_
    exact ⟨rfl, rfl, rfl⟩
theorem ct_W_takeFirst {i : Nat} {t : List Nat} (hBs : Bs ≤ a) (hl : t.length < 4) (hR : RD dA h a (i :: t) fx) : fv_T l (fk D dA) Bs WA m_W_takeFirst [.ref a] sz h 0 0 (fp_i sz (fun r h' => r = nI i ∧ RD dA h' a t fx ∧ fs h h' (fun x => a ≤ x ∧ x < a + 3))) := by
  obtain ⟨g, hO, hg⟩ := hR
  have hg0 := hg 0 i rfl
  have hlen : (i :: t).length = t.length + 1 := rfl
  rw [hlen] at hO
  refine fv_of (L := [_, _]) (by decide +kernel) rfl (Nat.le_of_ble_eq_true rfl) rfl ?_
  intro X hX C
  subst hX
  refine fv_aload_n C d_W_takeFirst_0 (n := 1) rfl (i := 0) rfl rfl ?_
  refine fv_get C (fl_W_15 D dA) d_W_takeFirst_1 (n := 4) rfl hO.1 rfl ?_
  refine fv_ifN_ne C (by omega) d_W_takeFirst_4 (tgt := 9) rfl (n := 7) rfl (fun hc4 => ?_) (fun hc4 => ?_)
  · refine fv_aload_n C d_W_takeFirst_9 (n := 10) rfl (i := 0) rfl rfl ?_
    refine fv_get C (fl_W_9 D dA) d_W_takeFirst_10 (n := 13) rfl hO.1 rfl ?_
    refine fv_iconst C d_W_takeFirst_13 (n := 14) rfl kI_0 ?_
    refine fv_ialdN C (t0 := 0) rfl d_W_takeFirst_14 (n := 15) rfl hO.2.1 (by omega) (by decide) ?_
    rw [hg0]
    refine fv_istore_n C d_W_takeFirst_15 (n := 16) rfl (i := 1) rfl (by decide) (L' := [_, _]) rfl ?_
    refine fv_aload_n C d_W_takeFirst_16 (n := 17) rfl (i := 0) rfl rfl ?_
    refine fv_dup C d_W_takeFirst_17 (n := 18) rfl rfl ?_
    refine fv_get C (fl_W_15 D dA) d_W_takeFirst_18 (n := 21) rfl hO.1 rfl ?_
    refine fv_iconst C d_W_takeFirst_21 (n := 22) rfl kI_1 ?_
    refine fv_isubN C (by omega) d_W_takeFirst_22 (n := 23) rfl ?_
    refine rd_pc C (fl_W_15 D dA) d_W_takeFirst_23 (n := 26) rfl hO hBs (fun h1 hO hF1 => ?_)
    rw [Nat.add_sub_cancel] at hO
    refine fv_aload_n C d_W_takeFirst_26 (n := 27) rfl (i := 0) rfl rfl ?_
    refine fv_get C (fl_W_9 D dA) d_W_takeFirst_27 (n := 30) rfl hO.1 rfl ?_
    refine fv_iconst C d_W_takeFirst_30 (n := 31) rfl kI_1 ?_
    refine fv_aload_n C d_W_takeFirst_31 (n := 32) rfl (i := 0) rfl rfl ?_
    refine fv_get C (fl_W_9 D dA) d_W_takeFirst_32 (n := 35) rfl hO.1 rfl ?_
    refine fv_iconst C d_W_takeFirst_35 (n := 36) rfl kI_0 ?_
    refine fv_aload_n C d_W_takeFirst_36 (n := 37) rfl (i := 0) rfl rfl ?_
    refine fv_get C (fl_W_15 D dA) d_W_takeFirst_37 (n := 40) rfl hO.1 rfl ?_
    refine rd_cg C nl_W_26 d_W_takeFirst_40 (n := 43) rfl rfl hO.2.1 hO hBs (by omega) (by omega) (by decide) (Nat.le_of_ble_eq_true rfl) (Nat.le_of_ble_eq_true rfl) (fun h1 hO hF2 => ?_)
    refine fv_iload_n C d_W_takeFirst_43 (n := 44) rfl (i := 1) rfl rfl ?_
    refine fv_iret C rfl d_W_takeFirst_44 (Nat.le_refl _) (Nat.le_refl _) ?_
    refine ⟨_, rfl, rfl, rfl, ⟨_, hO, ?_⟩, hF1.tr hF2 (fun x hx => by omega) (fun x hx => by omega)⟩
    intro j z hz
    have hj := (List.getElem?_eq_some_iff.mp hz).1
    have h9 : 0 ≤ j ∧ j < 0 + t.length := by omega
    simp only [va_cpy, if_pos h9]
    exact hg _ z (by rw [show 1 + (j - 0) = j + 1 by omega, List.getElem?_cons_succ]; exact hz)
  · exact absurd hc4 (by omega)
end RDW
