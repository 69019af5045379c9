/-! Track: follow, take, restore -/
theorem fe_num_at {log : List bo_E} (hok : fe_ok log) {k : Nat} {ev : bo_E} (hk : log[k]? = some ev) : (fe_li log ev.2.1)[ev.2.2.1 - 1]? = some ev ∧ 1 ≤ ev.2.2.1 ∧ ev.2.2.1 ≤ (fe_li log ev.2.1).length := by
  have hm : ev ∈ fe_li log ev.2.1 := List.mem_filter.mpr ⟨List.mem_of_getElem? hk, by simp⟩
  obtain ⟨j, hj⟩ := List.getElem?_of_mem hm
  obtain ⟨h1, -, -⟩ := hok _ j ev hj
  have hl := (List.getElem?_eq_some_iff.mp hj).1
  rw [h1, Nat.add_sub_cancel]
  exact ⟨hj, by omega, by omega⟩
theorem fe_li_400 {log : List bo_E} (hsm : ev_sm log) (i : Nat) : (fe_li log i).length ≤ 400 := Nat.le_trans (fe_li_len log i) hsm.1
def SX (a ar : Nat) : Nat → Prop := fun x => (a ≤ x ∧ x < a + 7) ∨ (ar ≤ x ∧ x < ar + 3)
def TRP (dA : Nat → ClassId) (h : fv_H) (a i ar aE : Nat) (log : List bo_E) (nd : Nat) (fx : Nat → Int32) (t : tr_T) (h' : fv_H) : Prop :=
  ∃ (hs : List Nat) (sv : Nat → Int32), TK dA h' a i ar aE log hs nd sv ∧ (∀ c, c < 19 → sv c = fe_vw (fe_bk log i t.1) c) ∧ BL dA h' (a + 1) (fe_bk log i t.1) t.1 ∧ RD dA h' ar t.2.2 fx ∧ (hs.map (ev_n log)).Perm t.2.1 ∧ fs h h' (SX a ar)
theorem tr_dif_congr {f g v : Nat → Int32} (h : ∀ c, c < 19 → f c = g c) : tr_dif f v = tr_dif g v := by
  unfold tr_dif
  rw [Bool.eq_iff_iff, List.any_eq_true, List.any_eq_true]
  constructor
  · rintro ⟨c, hc, h1⟩
    exact ⟨c, hc, by rw [← h c (List.mem_range.mp hc)]; exact h1⟩
  · rintro ⟨c, hc, h1⟩
    exact ⟨c, hc, by rw [h c (List.mem_range.mp hc)]; exact h1⟩
section TK2
variable {l : Launch} {D : va_G} {dA : Nat → ClassId} {Bs sz : Nat} {h : fv_H} {a i ar aE : Nat} {log : List bo_E} {hs : List Nat} {nd : Nat} {sv : Nat → Int32} {fx : Nat → Int32}
theorem ct_T_follow {m n : Nat} {hl row : List Nat} (hok : fe_ok log) (hsm : ev_sm log) (hi : i < 4) (hBs : Bs ≤ a) (hBr : Bs ≤ ar) (hdis : ar + 3 ≤ a) (haE : a + 7 ≤ aE) (hE : EVS h aE log) (hT : TK dA h a i ar aE log hs nd sv) (hsv : ∀ c, c < 19 → sv c = fe_vw (fe_bk log i m) c) (hL : BL dA h (a + 1) (fe_bk log i n) n) (hR : RD dA h ar row fx) (hJ : tr_J log i (n, hl, row)) (hp : (hs.map (ev_n log)).Perm hl) : fv_T l (fk D dA) Bs WA m_T_follow [.ref a] sz h 0 0 (fp_v sz (TRP dA h a i ar aE log nd fx (tr_fol log i hl.length (tr_bec log i n (m, hl, row))))) := by
  have h400 := fe_li_400 hsm i
  refine fv_of (L := [_, _, _]) (by decide +kernel) rfl (Nat.le_of_ble_eq_true rfl) rfl ?_
  intro X hX C
  subst hX
  obtain ⟨tt, htt⟩ : ∃ tt, tt = (tr_fol log i hl.length (tr_bec log i n (m, hl, row))) := ⟨_, rfl⟩
  rw [← htt]
  have loop : ∀ (q m n c : Nat) (hl row hs : List Nat) (sv : Nat → Int32) (h1 : fv_H), hl.length = q → c + q ≤ 30 → fs h h1 (SX a ar) → TK dA h1 a i ar aE log hs nd sv → (∀ c, c < 19 → sv c = fe_vw (fe_bk log i m) c) → BL dA h1 (a + 1) (fe_bk log i n) n → RD dA h1 ar row fx → tr_J log i (n, hl, row) → (hs.map (ev_n log)).Perm hl → tt = (tr_fol log i hl.length (tr_bec log i n (m, hl, row))) → fv_V (fk D dA) Bs X 3 (fv_MQ (fk D dA) Bs X (fp_v sz (TRP dA h a i ar aE log nd fx tt)) 0 0) 2 [some (.ref a), some (.int (nI c)), none] [] sz h1 0 0 := by
    intro q
    induction q using Nat.strongRecOn with
    | ind q ih =>
    intro m n c hl row hs sv h1 hq hc hF hT hsv hL hR hJ hp htt
    have hn400 : n ≤ 400 := Nat.le_trans hJ.1 h400
    have hL0 := hL
    obtain ⟨hd, hO, hhd, h30, hlog⟩ := hT
    obtain ⟨ids, pri, siz, hB, hA, hw⟩ := hL0
    have rest : ∀ (h2 : fv_H) (sv2 : Nat → Int32) (row2 : List Nat), fs h h2 (SX a ar) → TK dA h2 a i ar aE log hs nd sv2 → (∀ c, c < 19 → sv2 c = fe_vw (fe_bk log i n) c) → BL dA h2 (a + 1) (fe_bk log i n) n → RD dA h2 ar row2 fx → tr_bec log i n (m, hl, row) = (n, hl, row2) → tr_J log i (n, hl, row2) → fv_V (fk D dA) Bs X 3 (fv_MQ (fk D dA) Bs X (fp_v sz (TRP dA h a i ar aE log nd fx tt)) 0 0) 33 [some (.ref a), some (.int (nI c)), none] [] sz h2 0 0 := by
      intro h2 sv2 row2 hF hT hsv2 hL hR hbec hJ2
      have hT0 := hT
      have hL1 := hL
      obtain ⟨hd, hO, hhd, h30, hlog⟩ := hT
      obtain ⟨ids, pri, siz, hB, hA, hw⟩ := hL1
      have hE2 : EVS h2 aE log := hE.fs hF (fun x hx => by unfold SX; omega)
      refine fv_aload_n C d_T_follow_33 (n := 34) rfl (i := 0) rfl rfl ?_
      refine fv_aload_n C d_T_follow_34 (n := 35) rfl (i := 0) rfl rfl ?_
      refine fv_get C (fl_T_12 D dA) d_T_follow_35 (n := 38) rfl hO.1 rfl ?_
      refine fv_get C (fl_T_46 D dA) d_T_follow_38 (n := 41) rfl hB.1 rfl ?_
      refine fv_iconst C d_T_follow_41 (n := 42) rfl kI_1 ?_
      first | refine fv_iaddN C d_T_follow_42 (n := 43) rfl ?_ | refine fv_iadd C d_T_follow_42 (n := 43) rfl ?_
      refine fv_callV_a C (ml_T_85 D dA) im_T_takeHeld se_T_takeHeld hO.1 rfl (ct_T_takeHeld (n := n + 1) (by omega) hBs hE2 haE hsm hT0) d_T_follow_43 (n := 46) rfl rfl rfl rfl (Nat.le_of_ble_eq_true rfl) (Nat.le_of_ble_eq_true rfl) (Nat.le_of_ble_eq_true rfl) (Nat.le_refl _) (Nat.le_refl _) (fun r0 h3 hp3 => ?_)
      rcases hp3 with ⟨k, hs2, rfl, hnk, hperm, hT3, hF3⟩ | ⟨rfl, rfl, hno⟩
      · have hkm : k ∈ hs := hperm.mem_iff.mpr List.mem_cons_self
        obtain ⟨ev, hev, hei⟩ := hlog k hkm
        have hnum := (ev_n_of hev).symm.trans hnk
        obtain ⟨hat, h1n, hnl⟩ := fe_num_at hok hev
        rw [hnum, hei] at hat hnl
        rw [Nat.add_sub_cancel] at hat
        obtain ⟨-, hew, hbok⟩ := hok i n ev hat
        have hEk : EV h3 (aE + k) ev := (hF3 _ (by omega)).trans (hE2 k ev hev)
        have hL3 := hL.fs hF3 ⟨by omega, by omega, by omega, by omega⟩
        have hR3 := hR.fs hF3 ⟨by omega, by omega, by omega⟩
        obtain ⟨ids, pri, siz, hB, hA, hw⟩ := hL3
        have hL3 : BL dA h3 (a + 1) (fe_bk log i n) n := ⟨ids, pri, siz, hB, hA, hw⟩
        have hO : TKr dA h3 a i ar hT3.choose hs2.length nd sv2 := hT3.choose_spec.1
        have hmp : (n + 1) :: (hs2.map (ev_n log)) |>.Perm hl := by
          have h9 := (hperm.map (ev_n log)).symm.trans hp
          rw [List.map_cons, hnk] at h9
          exact h9
        obtain ⟨hin, hpe⟩ := List.cons_perm_iff_perm_erase.mp hmp
        have hel := List.length_erase_of_mem hin
        have hpos : 0 < hl.length := List.length_pos_of_mem hin
        refine fv_astore_n C d_T_follow_46 (n := 47) rfl (i := 2) rfl (by decide) (L' := [_, _, _]) rfl ?_
        refine fv_aload_n C d_T_follow_47 (n := 48) rfl (i := 2) rfl rfl ?_
        refine fv_ifnonnull C d_T_follow_48 (tgt := 52) rfl ?_
        refine fv_aload_n C d_T_follow_52 (n := 53) rfl (i := 0) rfl rfl ?_
        refine fv_get C (fl_T_12 D dA) d_T_follow_53 (n := 56) rfl hO.1 rfl ?_
        refine fv_aload_n C d_T_follow_56 (n := 57) rfl (i := 2) rfl rfl ?_
        refine fv_callV_v C (ml_T_52 D dA) im_B_apply se_B_apply hB.1 rfl (ct_B_apply hEk (by omega) (by omega) hew hbok hL3) d_T_follow_57 (n := 60) rfl rfl rfl rfl (Nat.le_of_ble_eq_true rfl) (Nat.le_of_ble_eq_true rfl) (Nat.le_of_ble_eq_true rfl) (Nat.le_refl _) (Nat.le_refl _) (fun h4 hp4 => ?_)
        obtain ⟨hL4, hF4⟩ := hp4
        rw [← fe_bk_succ hat] at hL4
        refine fv_iincN C d_T_follow_60 (n := 63) rfl rfl (by decide) (L' := [_, _, _]) rfl ?_
        refine fv_goto C d_T_follow_63 (tgt := 2) rfl ?_
        refine fv_drop 2 (L' := [_, _, _]) rfl ?_
        refine ih (hl.erase (n + 1)).length (by omega) n (n + 1) (c + 1) (hl.erase (n + 1)) row2 hs2 sv2 h4 rfl (by omega) ?_ (hT3.fs hF4 ⟨by omega, by omega, by omega⟩) hsv2 hL4 (hR3.fs hF4 ⟨by omega, by omega, by omega⟩) ?_ hpe ?_
        · exact (hF.tr hF3 (U := SX a ar) (fun x hx => hx) (fun x hx => by unfold SX; omega)).tr hF4 (fun x hx => hx) (fun x hx => by unfold SX; omega)
        · obtain ⟨j1, j2, j3, j4, j5, j6⟩ := hJ2
          refine ⟨hnl, j2.erase _, fun x hx => ⟨?_, (j3 x (List.mem_of_mem_erase hx)).2⟩, by show (hl.erase (n + 1)).length ≤ 30; dsimp only at j4; omega, j5, j6⟩
          have hx1 := (j3 x (List.mem_of_mem_erase hx)).1
          have hx2 : x ≠ n + 1 := fun q => by rw [q] at hx; exact (List.Nodup.not_mem_erase j2) hx
          dsimp only at hx1 ⊢
          omega
        · rw [htt, hbec, show hl.length = (hl.erase (n + 1)).length + 1 by omega, tr_fol, if_pos hin]
      · have hni : n + 1 ∉ hl := by
          intro hin
          obtain ⟨k, hk, hkn⟩ := List.mem_map.mp (hp.mem_iff.mpr hin)
          exact hno k hk hkn
        have hfin : tt = (n, hl, row2) := by
          rw [htt, hbec]
          cases hl.length with
          | zero => rfl
          | succ q => rw [tr_fol, if_neg hni]
        refine fv_astore_nN C d_T_follow_46 (n := 47) rfl (i := 2) rfl (by decide) (L' := [_, _, _]) rfl ?_
        refine fv_aload_nN C d_T_follow_47 (n := 48) rfl (i := 2) rfl rfl ?_
        refine fv_ifnonnullN C d_T_follow_48 (n := 51) rfl ?_
        refine fv_vret C rfl d_T_follow_51 (Nat.le_refl _) (Nat.le_refl _) ?_
        rw [hfin]
        exact ⟨rfl, rfl, hs, sv2, hT0, hsv2, hL, hR, hp, hF⟩
    have hE1 : EVS h1 aE log := hE.fs hF (fun x hx => by unfold SX; omega)
    have hdc := tr_dif_congr (v := fe_vw (fe_bk log i n)) hsv
    obtain ⟨gR, hRr, hRg⟩ := hR
    have hR : RD dA h1 ar row fx := ⟨gR, hRr, hRg⟩
    refine fv_iload_n C d_T_follow_2 (n := 3) rfl (i := 1) rfl rfl ?_
    refine fv_bipush C d_T_follow_3 (n := 5) rfl kB_30 ?_
    refine fv_icmpN_gt C (by omega) (by omega) d_T_follow_5 (tgt := 66) rfl (n := 8) rfl (fun hc5 => ?_) (fun hc5 => ?_)
    · exact absurd hc5 (by omega)
    · refine fv_aload_n C d_T_follow_8 (n := 9) rfl (i := 0) rfl rfl ?_
      refine fv_get C (fl_T_12 D dA) d_T_follow_9 (n := 12) rfl hO.1 rfl ?_
      refine fv_aload_n C d_T_follow_12 (n := 13) rfl (i := 0) rfl rfl ?_
      refine fv_get C (fl_T_22 D dA) d_T_follow_13 (n := 16) rfl hO.1 rfl ?_
      refine fv_callV_i C (ml_T_75 D dA) im_B_refresh se_B_refresh hB.1 rfl (ct_B_refresh hO.2.1 (by omega) (by omega) hL) d_T_follow_16 (n := 19) rfl rfl rfl rfl (Nat.le_of_ble_eq_true rfl) (Nat.le_of_ble_eq_true rfl) (Nat.le_of_ble_eq_true rfl) (Nat.le_refl _) (Nat.le_refl _) (fun r0 h2 hp2 => ?_)
      obtain ⟨rfl, hc2, hF2⟩ := hp2
      have hO : TKr dA h2 a i ar hd hs.length nd _ := ⟨(hF2.at (by omega)).trans hO.1, hc2, (hF2.at (by omega)).trans hO.2.2⟩
      have hT2 : TK dA h2 a i ar aE log hs nd _ := ⟨hd, hO, hhd, h30, hlog⟩
      have hL2 := hL.fr hF2 (by omega)
      have hR2 := hR.fs hF2.fs ⟨by omega, by omega, by omega⟩
      have hRr : RDr dA h2 ar gR row.length fx := hRr.fs hF2.fs ⟨by omega, by omega, by omega⟩
      have hF2 := hF.tr hF2.fs (U := SX a ar) (fun x hx => hx) (fun x hx => by unfold SX; omega)
      rw [hdc]
      refine fv_ifB_eq C d_T_follow_19 (tgt := 33) rfl (n := 22) rfl (fun hc19 => ?_) (fun hc19 => ?_)
      · exact rest h2 _ row hF2 hT2 (fun c hc => by rw [if_pos hc]) hL2 hR2 (by unfold tr_bec; dsimp only; rw [hc19]; rfl) hJ
      · refine fv_aload_n C d_T_follow_22 (n := 23) rfl (i := 0) rfl rfl ?_
        refine fv_get C (fl_T_42 D dA) d_T_follow_23 (n := 26) rfl hO.1 rfl ?_
        refine fv_aload_n C d_T_follow_26 (n := 27) rfl (i := 0) rfl rfl ?_
        refine fv_get C (fl_T_39 D dA) d_T_follow_27 (n := 30) rfl hO.1 rfl ?_
        refine fv_callV_v C (ml_T_79 D dA) im_W_mark se_W_mark hRr.1 rfl (ct_W_mark hi hBr hJ.2.2.2.2.1 hJ.2.2.2.2.2 hR2) d_T_follow_30 (n := 33) rfl rfl rfl rfl (Nat.le_of_ble_eq_true rfl) (Nat.le_of_ble_eq_true rfl) (Nat.le_of_ble_eq_true rfl) (Nat.le_refl _) (Nat.le_refl _) (fun h3 hp3 => ?_)
        obtain ⟨hR3, hF3⟩ := hp3
        exact rest h3 _ (tr_mark i row) (hF2.tr hF3 (fun x hx => hx) (fun x hx => by unfold SX; omega)) (hT2.fs hF3 ⟨by omega, by omega, by omega⟩) (fun c hc => by rw [if_pos hc]) (hL2.fs hF3 ⟨by omega, by omega, by omega, by omega⟩) hR3 (by unfold tr_bec; dsimp only; rw [hc19]; rfl) ⟨hJ.1, hJ.2.1, hJ.2.2.1, hJ.2.2.2.1, (tr_mark_I hi hJ.2.2.2.2.1 hJ.2.2.2.2.2).1, (tr_mark_I hi hJ.2.2.2.2.1 hJ.2.2.2.2.2).2⟩
  refine fv_iconst C d_T_follow_0 (n := 1) rfl kI_0 ?_
  refine fv_istore_n C d_T_follow_1 (n := 2) rfl (i := 1) rfl (by decide) (L' := [_, _, _]) rfl ?_
  exact loop hl.length m n 0 hl row hs sv h rfl (by have := hJ.2.2.2.1; dsimp only at this; omega) (fs_rf _ _) hT hsv hL hR hJ hp htt
theorem ct_T_take {n k0 : Nat} {hl row : List Nat} {ev0 : bo_E} (hok : fe_ok log) (hsm : ev_sm log) (hi : i < 4) (hBs : Bs ≤ a) (hBr : Bs ≤ ar) (hdis : ar + 3 ≤ a) (haE : a + 7 ≤ aE) (hE : EVS h aE log) (hk0 : log[k0]? = some ev0) (hi0 : ev0.2.1 = i) (hT : TK dA h a i ar aE log hs nd sv) (hsv : ∀ c, c < 19 → sv c = fe_vw (fe_bk log i n) c) (hL : BL dA h (a + 1) (fe_bk log i n) n) (hR : RD dA h ar row fx) (hI : tr_I log i (n, hl, row)) (hp : (hs.map (ev_n log)).Perm hl) : fv_T l (fk D dA) Bs WA m_T_take [.ref a, .ref (aE + k0)] sz h 0 0 (fp_v sz (TRP dA h a i ar aE log nd fx (tr_take log i ev0.2.2.1 (n, hl, row)))) := by
  have h400 := fe_li_400 hsm i
  have hn400 : n ≤ 400 := Nat.le_trans hI.1 h400
  have hsm0 := hsm.2 k0 ev0 hk0
  have hE0 := hE k0 ev0 hk0
  obtain ⟨hat, h1n, hnl⟩ := fe_num_at hok hk0
  rw [hi0] at hat hnl
  have hT0 := hT
  have hL0 := hL
  obtain ⟨hd, hO, hhd, h30, hlog⟩ := hT
  obtain ⟨ids, pri, siz, hB, hA, hw⟩ := hL0
  refine fv_of (L := [_, _, _]) (by decide +kernel) rfl (Nat.le_of_ble_eq_true rfl) rfl ?_
  intro X hX C
  subst hX
  refine fv_aload_n C d_T_take_0 (n := 1) rfl (i := 0) rfl rfl ?_
  refine fv_get C (fl_T_12 D dA) d_T_take_1 (n := 4) rfl hO.1 rfl ?_
  refine fv_get C (fl_T_46 D dA) d_T_take_4 (n := 7) rfl hB.1 rfl ?_
  refine fv_iconst C d_T_take_7 (n := 8) rfl kI_1 ?_
  first | refine fv_iaddN C d_T_take_8 (n := 9) rfl ?_ | refine fv_iadd C d_T_take_8 (n := 9) rfl ?_
  refine fv_istore_n C d_T_take_9 (n := 10) rfl (i := 2) rfl (by decide) (L' := [_, _, _]) rfl ?_
  refine fv_aload_n C d_T_take_10 (n := 11) rfl (i := 1) rfl rfl ?_
  refine fv_get C (fl_T_49 D dA) d_T_take_11 (n := 14) rfl hE0 rfl ?_
  refine fv_iload_n C d_T_take_14 (n := 15) rfl (i := 2) rfl rfl ?_
  refine fv_icmpN_ne C (by omega) (by omega) d_T_take_15 (tgt := 33) rfl (n := 18) rfl (fun hc15 => ?_) (fun hc15 => ?_)
  · have htk : tr_take log i ev0.2.2.1 (n, hl, row) = if n + 1 < ev0.2.2.1 ∧ ev0.2.2.1 ∉ hl ∧ hl.length < 30 then (n, hl ++ [ev0.2.2.1], row) else (n, hl, row) := by unfold tr_take; rw [if_neg hc15]
    refine fv_aload_n C d_T_take_33 (n := 34) rfl (i := 1) rfl rfl ?_
    refine fv_get C (fl_T_49 D dA) d_T_take_34 (n := 37) rfl hE0 rfl ?_
    refine fv_iload_n C d_T_take_37 (n := 38) rfl (i := 2) rfl rfl ?_
    refine fv_icmpN_le C (by omega) (by omega) d_T_take_38 (tgt := 46) rfl (n := 41) rfl (fun hc38 => ?_) (fun hc38 => ?_)
    · rw [if_neg (fun q => by omega)] at htk
      refine fv_vret C rfl d_T_take_46 (Nat.le_refl _) (Nat.le_refl _) ?_
      rw [htk]
      exact ⟨rfl, rfl, hs, sv, hT0, hsv, hL, hR, hp, fs_rf _ _⟩
    · refine fv_aload_n C d_T_take_41 (n := 42) rfl (i := 0) rfl rfl ?_
      refine fv_aload_n C d_T_take_42 (n := 43) rfl (i := 1) rfl rfl ?_
      refine fv_callV_v C (ml_T_59 D dA) im_T_hold se_T_hold hO.1 rfl (ct_T_hold hk0 hi0 hBs hE haE hsm hT0) d_T_take_43 (n := 46) rfl rfl rfl rfl (Nat.le_of_ble_eq_true rfl) (Nat.le_of_ble_eq_true rfl) (Nat.le_of_ble_eq_true rfl) (Nat.le_refl _) (Nat.le_refl _) (fun h3 hp3 => ?_)
      obtain ⟨hs3, q1, q2, q3⟩ := hp3
      refine fv_vret C rfl d_T_take_46 (Nat.le_refl _) (Nat.le_refl _) ?_
      rw [htk]
      have hmem : ev0.2.2.1 ∈ hl ↔ ∃ k ∈ hs, ev_n log k = ev0.2.2.1 := by rw [← hp.mem_iff, List.mem_map]
      have hlen : hl.length = hs.length := by rw [← hp.length_eq, List.length_map]
      have hL3 := hL.fs q2 ⟨by omega, by omega, by omega, by omega⟩
      have hR3 := hR.fs q2 ⟨by omega, by omega, by omega⟩
      have hF3 : fs h h3 (SX a ar) := q2.mono (fun x hx => by unfold SX; omega)
      rcases q3 with ⟨rfl, h9⟩ | ⟨rfl, h9, h10⟩
      · rw [if_neg (fun q => by rcases h9 with h9 | h9; exact q.2.1 (hmem.mpr h9); omega)]
        exact ⟨rfl, rfl, hs3, sv, q1, hsv, hL3, hR3, hp, hF3⟩
      · rw [if_pos ⟨hc38, fun q => by obtain ⟨k, hk, e⟩ := hmem.mp q; exact h9 k hk e, by omega⟩]
        refine ⟨rfl, rfl, _, sv, q1, hsv, hL3, hR3, ?_, hF3⟩
        rw [List.map_append, List.map_cons, List.map_nil, ev_n_of hk0]
        exact hp.append_right _
  · rw [hc15, Nat.add_sub_cancel] at hat
    obtain ⟨-, hew, hbok⟩ := hok i n ev0 hat
    refine fv_aload_n C d_T_take_18 (n := 19) rfl (i := 0) rfl rfl ?_
    refine fv_get C (fl_T_12 D dA) d_T_take_19 (n := 22) rfl hO.1 rfl ?_
    refine fv_aload_n C d_T_take_22 (n := 23) rfl (i := 1) rfl rfl ?_
    refine fv_callV_v C (ml_T_52 D dA) im_B_apply se_B_apply hB.1 rfl (ct_B_apply hE0 (by omega) (by omega) hew hbok hL) d_T_take_23 (n := 26) rfl rfl rfl rfl (Nat.le_of_ble_eq_true rfl) (Nat.le_of_ble_eq_true rfl) (Nat.le_of_ble_eq_true rfl) (Nat.le_refl _) (Nat.le_refl _) (fun h2 hp2 => ?_)
    obtain ⟨hL2, hF2⟩ := hp2
    rw [← fe_bk_succ hat] at hL2
    have hT2 := hT0.fs hF2.fs ⟨by omega, by omega, by omega⟩
    have hO : TKr dA h2 a i ar hd hs.length nd sv := hO.fs hF2.fs ⟨by omega, by omega, by omega⟩
    have hJ2 : tr_J log i (n + 1, hl, row) := ⟨by rw [hc15] at hnl; exact hnl, hI.2.1, fun x hx => hI.2.2.1 x hx, hI.2.2.2⟩
    refine fv_aload_n C d_T_take_26 (n := 27) rfl (i := 0) rfl rfl ?_
    refine fv_callV_v C (ml_T_56 D dA) im_T_follow se_T_follow hO.1 rfl (ct_T_follow (m := n) (n := n + 1) hok hsm hi hBs hBr hdis haE (hE.fs hF2.fs (fun x hx => by omega)) hT2 hsv hL2 (hR.fs hF2.fs ⟨by omega, by omega, by omega⟩) hJ2 hp) d_T_take_27 (n := 30) rfl rfl rfl rfl (Nat.le_of_ble_eq_true rfl) (Nat.le_of_ble_eq_true rfl) (Nat.le_of_ble_eq_true rfl) (Nat.le_refl _) (Nat.le_refl _) (fun h3 hp3 => ?_)
    obtain ⟨hs3, sv3, q1, q2, q3, q4, q5, q6⟩ := hp3
    have htk : tr_take log i ev0.2.2.1 (n, hl, row) = tr_fol log i hl.length (tr_bec log i (n + 1) (n, hl, row)) := by unfold tr_take; rw [if_pos hc15, hc15]
    refine fv_goto C d_T_take_30 (tgt := 46) rfl ?_
    refine fv_vret C rfl d_T_take_46 (Nat.le_refl _) (Nat.le_refl _) ?_
    rw [htk]
    exact ⟨rfl, rfl, hs3, sv3, q1, q2, q3, q4, q5, hF2.fs.tr q6 (fun x hx => by unfold SX; omega) (fun x hx => hx)⟩
end TK2
