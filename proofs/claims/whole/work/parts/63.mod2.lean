/-! FeedDeskModel: an event performed; the log gone over -/
theorem BA_siz {F F' : Nat → Nat → Int32} {l : List bo_O} {k : Nat} {o : bo_O} {v : Int32} (hA : BA F l) (hn : (l.map (fun o => o.1)).Nodup) (h : l[k]? = some o) (g1 : F' 13 = upd (F 13) k v) (g2 : ∀ q, q ≠ 13 → F' q = F q) : BA F' (bo_siz l o.1 v) := by
  intro j b hb
  rw [ix_siz hn h] at hb
  rw [g1, g2 10 (by decide), g2 11 (by decide), g2 12 (by decide)]
  by_cases c : j = k
  · rw [if_pos c] at hb
    cases hb
    have h9 := hA k o h
    rw [c]
    exact ⟨h9.1, h9.2.1, h9.2.2.1, by simp [upd]⟩
  · rw [if_neg c] at hb
    have h9 := hA j b hb
    exact ⟨h9.1, h9.2.1, h9.2.2.1, by unfold upd; rw [if_neg c]; exact h9.2.2.2⟩
theorem i32_sub0 {a b : Int32} (h : a - b = 0) : a = b := by
  have h9 := Int32.sub_add_cancel a b
  rw [h, Int32.zero_add] at h9
  exact h9.symm
section MD2
variable {l : Launch} {D : va_G} {dA : Nat → ClassId} {Bs sz : Nat} {h : fv_H} {m0 ev pk bl : Nat} {bh : Bool} {sh : Nat} {F : Nat → Nat → Int32}
theorem ct_M_perform0 {log : List bo_E} {E0 : bo_E} {b : bo_B} {e : Nat} (hBs : Bs ≤ m0) (hM : MC dA h m0 ev pk b.1.length b.2 sh F) (he : e < 400) (hLG : LG F log) (hev : log[e]? = some E0) (hA : BA F b.1) (hwf : bo_wf b.1) (hs : E0.1 = 0) (hok : bo_ok b E0.1 E0.2.2.2.1 E0.2.2.2.2.2.2 = true) : fv_T l (fk D dA) Bs WA m_M_perform [.ref m0, .int (nI e)] sz h 0 0 (fp_v sz (fun h' => (∃ F', MC dA h' m0 ev pk (bo_apl b E0).1.length (bo_apl b E0).2 sh F' ∧ BA F' (bo_apl b E0).1 ∧ KE 10 13 F F') ∧ fs h h' (MS m0))) := by
  have hF : fs h h (MS m0) := fs_rf _ _
  obtain ⟨l1, l2, l3, l4, l5, l6, l7⟩ := hLG e E0 hev
  rw [hs] at l1
  have h24 := hwf.2.2.2
  have hlt : b.1.length < 24 := by
    unfold bo_ok at hok
    rw [if_pos hs] at hok
    simp only [Bool.and_eq_true, decide_eq_true_eq] at hok
    exact hok.2
  have hap : bo_apl b E0 = (b.1 ++ [(E0.2.2.2.1, E0.2.2.2.2.1, E0.2.2.2.2.2.1, E0.2.2.2.2.2.2)], b.2) := by unfold bo_apl; rw [if_pos hs]
  refine fv_of (L := [_, _, _]) (by decide +kernel) rfl (Nat.le_of_ble_eq_true rfl) rfl ?_
  intro X hX C
  subst hX
  refine fv_aload_n C d_M_perform_0 (n := 1) rfl (i := 0) rfl rfl ?_
  refine fv_aload_n C d_M_perform_1 (n := 2) rfl (i := 0) rfl rfl ?_
  refine fv_get C (fl_M_19 D dA) d_M_perform_2 (n := 5) rfl hM.1 rfl ?_
  refine fv_iload_n C d_M_perform_5 (n := 6) rfl (i := 1) rfl rfl ?_
  refine fv_ialdN C (t0 := 0) rfl d_M_perform_6 (n := 7) rfl (mc_4 hM) (by omega) (by decide) ?_
  rw [l4]
  refine fv_callV_i C (ml_M_110 D dA) im_M_find se_M_find hM.1 rfl (ct_M_find hM rfl h24 hA) d_M_perform_7 (n := 10) rfl rfl rfl rfl (Nat.le_of_ble_eq_true rfl) (Nat.le_of_ble_eq_true rfl) (Nat.le_of_ble_eq_true rfl) (Nat.le_refl _) (Nat.le_refl _) (fun r0 h1 hp => ?_)
  obtain ⟨rfl, hfi⟩ := hp
  refine fv_istore_n C d_M_perform_10 (n := 11) rfl (i := 2) rfl (by decide) (L' := [_, _, _]) rfl ?_
  refine fv_aload_n C d_M_perform_11 (n := 12) rfl (i := 0) rfl rfl ?_
  refine fv_get C (fl_M_7 D dA) d_M_perform_12 (n := 15) rfl hM.1 rfl ?_
  refine fv_iload_n C d_M_perform_15 (n := 16) rfl (i := 1) rfl rfl ?_
  refine fv_ialdN C (t0 := 0) rfl d_M_perform_16 (n := 17) rfl (mc_1 hM) (by omega) (by decide) ?_
  rw [l1]
  refine fv_ifN_ne C (by omega) d_M_perform_17 (tgt := 90) rfl (n := 20) rfl (fun hc17 => ?_) (fun hc17 => ?_)
  · exact absurd rfl hc17
  · refine fv_aload_n C d_M_perform_20 (n := 21) rfl (i := 0) rfl rfl ?_
    refine fv_get C (fl_M_37 D dA) d_M_perform_21 (n := 24) rfl hM.1 rfl ?_
    refine fv_aload_n C d_M_perform_24 (n := 25) rfl (i := 0) rfl rfl ?_
    refine fv_get C (fl_M_106 D dA) d_M_perform_25 (n := 28) rfl hM.1 rfl ?_
    refine fv_aload_n C d_M_perform_28 (n := 29) rfl (i := 0) rfl rfl ?_
    refine fv_get C (fl_M_19 D dA) d_M_perform_29 (n := 32) rfl hM.1 rfl ?_
    refine fv_iload_n C d_M_perform_32 (n := 33) rfl (i := 1) rfl rfl ?_
    refine fv_ialdN C (t0 := 0) rfl d_M_perform_33 (n := 34) rfl (mc_4 hM) (by omega) (by decide) ?_
    rw [l4]
    refine mc_ia C 10 (by decide) (by decide) rfl d_M_perform_34 (n := 35) rfl hM hBs (by decide) (show _ < 24 by omega) (fun h1 Fa hM g1 g2 f1 => ?_)
    have hF := hF.tr f1 (U := MS m0) (fun x hx => hx) (fun x hx => hx)
    have l1 := (congrFun (g2 1 (by decide)) e).trans l1
    have l2 := (congrFun (g2 2 (by decide)) e).trans l2
    have l3 := (congrFun (g2 3 (by decide)) e).trans l3
    have l4 := (congrFun (g2 4 (by decide)) e).trans l4
    have l5 := (congrFun (g2 5 (by decide)) e).trans l5
    have l6 := (congrFun (g2 6 (by decide)) e).trans l6
    have l7 := (congrFun (g2 7 (by decide)) e).trans l7
    have kFa : KE 10 13 F Fa := fun q hq => g2 q (by omega)
    have pFa := g1
    have qFa := g2
    refine fv_aload_n C d_M_perform_35 (n := 36) rfl (i := 0) rfl rfl ?_
    refine fv_get C (fl_M_40 D dA) d_M_perform_36 (n := 39) rfl hM.1 rfl ?_
    refine fv_aload_n C d_M_perform_39 (n := 40) rfl (i := 0) rfl rfl ?_
    refine fv_get C (fl_M_106 D dA) d_M_perform_40 (n := 43) rfl hM.1 rfl ?_
    refine fv_aload_n C d_M_perform_43 (n := 44) rfl (i := 0) rfl rfl ?_
    refine fv_get C (fl_M_22 D dA) d_M_perform_44 (n := 47) rfl hM.1 rfl ?_
    refine fv_iload_n C d_M_perform_47 (n := 48) rfl (i := 1) rfl rfl ?_
    refine fv_ialdN C (t0 := 0) rfl d_M_perform_48 (n := 49) rfl (mc_5 hM) (by omega) (by decide) ?_
    rw [l5]
    refine mc_ia C 11 (by decide) (by decide) rfl d_M_perform_49 (n := 50) rfl hM hBs (by decide) (show _ < 24 by omega) (fun h1 Fb hM g1 g2 f1 => ?_)
    have hF := hF.tr f1 (U := MS m0) (fun x hx => hx) (fun x hx => hx)
    have l1 := (congrFun (g2 1 (by decide)) e).trans l1
    have l2 := (congrFun (g2 2 (by decide)) e).trans l2
    have l3 := (congrFun (g2 3 (by decide)) e).trans l3
    have l4 := (congrFun (g2 4 (by decide)) e).trans l4
    have l5 := (congrFun (g2 5 (by decide)) e).trans l5
    have l6 := (congrFun (g2 6 (by decide)) e).trans l6
    have l7 := (congrFun (g2 7 (by decide)) e).trans l7
    have kFb : KE 10 13 Fa Fb := fun q hq => g2 q (by omega)
    have pFb := g1
    have qFb := g2
    refine fv_aload_n C d_M_perform_50 (n := 51) rfl (i := 0) rfl rfl ?_
    refine fv_get C (fl_M_43 D dA) d_M_perform_51 (n := 54) rfl hM.1 rfl ?_
    refine fv_aload_n C d_M_perform_54 (n := 55) rfl (i := 0) rfl rfl ?_
    refine fv_get C (fl_M_106 D dA) d_M_perform_55 (n := 58) rfl hM.1 rfl ?_
    refine fv_aload_n C d_M_perform_58 (n := 59) rfl (i := 0) rfl rfl ?_
    refine fv_get C (fl_M_25 D dA) d_M_perform_59 (n := 62) rfl hM.1 rfl ?_
    refine fv_iload_n C d_M_perform_62 (n := 63) rfl (i := 1) rfl rfl ?_
    refine fv_ialdN C (t0 := 0) rfl d_M_perform_63 (n := 64) rfl (mc_6 hM) (by omega) (by decide) ?_
    rw [l6]
    refine mc_ia C 12 (by decide) (by decide) rfl d_M_perform_64 (n := 65) rfl hM hBs (by decide) (show _ < 24 by omega) (fun h1 Fc hM g1 g2 f1 => ?_)
    have hF := hF.tr f1 (U := MS m0) (fun x hx => hx) (fun x hx => hx)
    have l1 := (congrFun (g2 1 (by decide)) e).trans l1
    have l2 := (congrFun (g2 2 (by decide)) e).trans l2
    have l3 := (congrFun (g2 3 (by decide)) e).trans l3
    have l4 := (congrFun (g2 4 (by decide)) e).trans l4
    have l5 := (congrFun (g2 5 (by decide)) e).trans l5
    have l6 := (congrFun (g2 6 (by decide)) e).trans l6
    have l7 := (congrFun (g2 7 (by decide)) e).trans l7
    have kFc : KE 10 13 Fb Fc := fun q hq => g2 q (by omega)
    have pFc := g1
    have qFc := g2
    refine fv_aload_n C d_M_perform_65 (n := 66) rfl (i := 0) rfl rfl ?_
    refine fv_get C (fl_M_46 D dA) d_M_perform_66 (n := 69) rfl hM.1 rfl ?_
    refine fv_aload_n C d_M_perform_69 (n := 70) rfl (i := 0) rfl rfl ?_
    refine fv_get C (fl_M_106 D dA) d_M_perform_70 (n := 73) rfl hM.1 rfl ?_
    refine fv_aload_n C d_M_perform_73 (n := 74) rfl (i := 0) rfl rfl ?_
    refine fv_get C (fl_M_28 D dA) d_M_perform_74 (n := 77) rfl hM.1 rfl ?_
    refine fv_iload_n C d_M_perform_77 (n := 78) rfl (i := 1) rfl rfl ?_
    refine fv_ialdN C (t0 := 0) rfl d_M_perform_78 (n := 79) rfl (mc_7 hM) (by omega) (by decide) ?_
    rw [l7]
    refine mc_ia C 13 (by decide) (by decide) rfl d_M_perform_79 (n := 80) rfl hM hBs (by decide) (show _ < 24 by omega) (fun h1 Fd hM g1 g2 f1 => ?_)
    have hF := hF.tr f1 (U := MS m0) (fun x hx => hx) (fun x hx => hx)
    have l1 := (congrFun (g2 1 (by decide)) e).trans l1
    have l2 := (congrFun (g2 2 (by decide)) e).trans l2
    have l3 := (congrFun (g2 3 (by decide)) e).trans l3
    have l4 := (congrFun (g2 4 (by decide)) e).trans l4
    have l5 := (congrFun (g2 5 (by decide)) e).trans l5
    have l6 := (congrFun (g2 6 (by decide)) e).trans l6
    have l7 := (congrFun (g2 7 (by decide)) e).trans l7
    have kFd : KE 10 13 Fc Fd := fun q hq => g2 q (by omega)
    have pFd := g1
    have qFd := g2
    refine fv_aload_n C d_M_perform_80 (n := 81) rfl (i := 0) rfl rfl ?_
    refine fv_dup C d_M_perform_81 (n := 82) rfl rfl ?_
    refine fv_get C (fl_M_106 D dA) d_M_perform_82 (n := 85) rfl hM.1 rfl ?_
    refine fv_iconst C d_M_perform_85 (n := 86) rfl kI_1 ?_
    first | refine fv_iaddN C d_M_perform_86 (n := 87) rfl ?_ | refine fv_iadd C d_M_perform_86 (n := 87) rfl ?_
    refine mc_pbl C (fl_M_106 D dA) d_M_perform_87 (n := 90) rfl hM hBs (fun h1 hM f1 => ?_)
    have hF := hF.tr f1 (U := MS m0) (fun x hx => hx) (fun x hx => hx)
    refine fv_aload_n C d_M_perform_90 (n := 91) rfl (i := 0) rfl rfl ?_
    refine fv_get C (fl_M_7 D dA) d_M_perform_91 (n := 94) rfl hM.1 rfl ?_
    refine fv_iload_n C d_M_perform_94 (n := 95) rfl (i := 1) rfl rfl ?_
    refine fv_ialdN C (t0 := 0) rfl d_M_perform_95 (n := 96) rfl (mc_1 hM) (by omega) (by decide) ?_
    rw [l1]
    refine fv_iconst C d_M_perform_96 (n := 97) rfl kI_1 ?_
    refine fv_icmpN_ne C (by omega) (by omega) d_M_perform_97 (tgt := 112) rfl (n := 100) rfl (fun hc97 => ?_) (fun hc97 => ?_)
    · refine fv_aload_n C d_M_perform_112 (n := 113) rfl (i := 0) rfl rfl ?_
      refine fv_get C (fl_M_7 D dA) d_M_perform_113 (n := 116) rfl hM.1 rfl ?_
      refine fv_iload_n C d_M_perform_116 (n := 117) rfl (i := 1) rfl rfl ?_
      refine fv_ialdN C (t0 := 0) rfl d_M_perform_117 (n := 118) rfl (mc_1 hM) (by omega) (by decide) ?_
      rw [l1]
      refine fv_iconst C d_M_perform_118 (n := 119) rfl kI_2 ?_
      refine fv_icmpN_ne C (by omega) (by omega) d_M_perform_119 (tgt := 151) rfl (n := 122) rfl (fun hc119 => ?_) (fun hc119 => ?_)
      · refine fv_aload_n C d_M_perform_151 (n := 152) rfl (i := 0) rfl rfl ?_
        refine fv_get C (fl_M_7 D dA) d_M_perform_152 (n := 155) rfl hM.1 rfl ?_
        refine fv_iload_n C d_M_perform_155 (n := 156) rfl (i := 1) rfl rfl ?_
        refine fv_ialdN C (t0 := 0) rfl d_M_perform_156 (n := 157) rfl (mc_1 hM) (by omega) (by decide) ?_
        rw [l1]
        refine fv_iconst C d_M_perform_157 (n := 158) rfl kI_3 ?_
        refine fv_icmpN_ne C (by omega) (by omega) d_M_perform_158 (tgt := 166) rfl (n := 161) rfl (fun hc158 => ?_) (fun hc158 => ?_)
        · refine fv_aload_n C d_M_perform_166 (n := 167) rfl (i := 0) rfl rfl ?_
          refine fv_get C (fl_M_7 D dA) d_M_perform_167 (n := 170) rfl hM.1 rfl ?_
          refine fv_iload_n C d_M_perform_170 (n := 171) rfl (i := 1) rfl rfl ?_
          refine fv_ialdN C (t0 := 0) rfl d_M_perform_171 (n := 172) rfl (mc_1 hM) (by omega) (by decide) ?_
          rw [l1]
          refine fv_iconst C d_M_perform_172 (n := 173) rfl kI_4 ?_
          refine fv_icmpN_ne C (by omega) (by omega) d_M_perform_173 (tgt := 195) rfl (n := 176) rfl (fun hc173 => ?_) (fun hc173 => ?_)
          · refine fv_aload_n C d_M_perform_195 (n := 196) rfl (i := 0) rfl rfl ?_
            refine fv_get C (fl_M_7 D dA) d_M_perform_196 (n := 199) rfl hM.1 rfl ?_
            refine fv_iload_n C d_M_perform_199 (n := 200) rfl (i := 1) rfl rfl ?_
            refine fv_ialdN C (t0 := 0) rfl d_M_perform_200 (n := 201) rfl (mc_1 hM) (by omega) (by decide) ?_
            rw [l1]
            refine fv_iconst C d_M_perform_201 (n := 202) rfl kI_5 ?_
            refine fv_icmpN_ne C (by omega) (by omega) d_M_perform_202 (tgt := 210) rfl (n := 205) rfl (fun hc202 => ?_) (fun hc202 => ?_)
            · refine fv_vret C rfl d_M_perform_210 (Nat.le_refl _) (Nat.le_refl _) ?_
              refine ⟨rfl, rfl, ⟨Fd, ?_, ?_, fun q hq => ?_⟩, hF⟩
              · rw [hap, List.length_append]; exact hM
              · rw [hap]
                have e10 : Fd 10 = upd (F 10) b.1.length E0.2.2.2.1 := by rw [qFd 10 (by decide), qFc 10 (by decide), qFb 10 (by decide), pFa]
                have e11 : Fd 11 = upd (F 11) b.1.length (nI E0.2.2.2.2.1) := by rw [qFd 11 (by decide), qFc 11 (by decide), pFb, qFa 11 (by decide)]
                have e12 : Fd 12 = upd (F 12) b.1.length E0.2.2.2.2.2.1 := by rw [qFd 12 (by decide), pFc, qFb 12 (by decide), qFa 12 (by decide)]
                have e13 : Fd 13 = upd (F 13) b.1.length E0.2.2.2.2.2.2 := by rw [pFd, qFc 13 (by decide), qFb 13 (by decide), qFa 13 (by decide)]
                intro t o ht
                rw [e10, e11, e12, e13]
                by_cases c : t < b.1.length
                · rw [List.getElem?_append_left c] at ht
                  unfold upd
                  rw [if_neg (by omega), if_neg (by omega), if_neg (by omega), if_neg (by omega)]
                  exact hA t o ht
                · rw [List.getElem?_append_right (by omega)] at ht
                  have hz : t - b.1.length < 1 := (List.getElem?_eq_some_iff.mp ht).1
                  have hz2 : t = b.1.length := by omega
                  subst hz2
                  rw [Nat.sub_self, List.getElem?_cons_zero] at ht
                  cases ht
                  simp [upd]
              · rw [qFd q (by omega), qFc q (by omega), qFb q (by omega), qFa q (by omega)]
            · exact absurd hc202 (by decide)
          · exact absurd hc173 (by decide)
        · exact absurd hc158 (by decide)
      · exact absurd hc119 (by decide)
    · exact absurd hc97 (by decide)
theorem ct_M_perform1 {log : List bo_E} {E0 : bo_E} {b : bo_B} {e : Nat} (hBs : Bs ≤ m0) (hM : MC dA h m0 ev pk b.1.length b.2 sh F) (he : e < 400) (hLG : LG F log) (hev : log[e]? = some E0) (hA : BA F b.1) (hwf : bo_wf b.1) (hs : E0.1 = 1) (hok : bo_ok b E0.1 E0.2.2.2.1 E0.2.2.2.2.2.2 = true) : fv_T l (fk D dA) Bs WA m_M_perform [.ref m0, .int (nI e)] sz h 0 0 (fp_v sz (fun h' => (∃ F', MC dA h' m0 ev pk (bo_apl b E0).1.length (bo_apl b E0).2 sh F' ∧ BA F' (bo_apl b E0).1 ∧ KE 10 13 F F') ∧ fs h h' (MS m0))) := by
  have hF : fs h h (MS m0) := fs_rf _ _
  obtain ⟨l1, l2, l3, l4, l5, l6, l7⟩ := hLG e E0 hev
  rw [hs] at l1
  have h24 := hwf.2.2.2
  have hfd : ¬ ∀ o ∈ b.1, o.1 ≠ E0.2.2.2.1 := by
    intro q
    have q2 := bo_fi_none.mpr q
    unfold bo_ok at hok
    rw [hs] at hok
    simp [q2] at hok
  refine fv_of (L := [_, _, _]) (by decide +kernel) rfl (Nat.le_of_ble_eq_true rfl) rfl ?_
  intro X hX C
  subst hX
  refine fv_aload_n C d_M_perform_0 (n := 1) rfl (i := 0) rfl rfl ?_
  refine fv_aload_n C d_M_perform_1 (n := 2) rfl (i := 0) rfl rfl ?_
  refine fv_get C (fl_M_19 D dA) d_M_perform_2 (n := 5) rfl hM.1 rfl ?_
  refine fv_iload_n C d_M_perform_5 (n := 6) rfl (i := 1) rfl rfl ?_
  refine fv_ialdN C (t0 := 0) rfl d_M_perform_6 (n := 7) rfl (mc_4 hM) (by omega) (by decide) ?_
  rw [l4]
  refine fv_callV_i C (ml_M_110 D dA) im_M_find se_M_find hM.1 rfl (ct_M_find hM rfl h24 hA) d_M_perform_7 (n := 10) rfl rfl rfl rfl (Nat.le_of_ble_eq_true rfl) (Nat.le_of_ble_eq_true rfl) (Nat.le_of_ble_eq_true rfl) (Nat.le_refl _) (Nat.le_refl _) (fun r0 h1 hp => ?_)
  obtain ⟨rfl, hfi⟩ := hp
  rcases hfi with ⟨hfi, -⟩ | ⟨k, o, ho, ho1, hk, rfl⟩
  · exact absurd hfi hfd
  have hsz := (hA k o ho).2.2.2
  have hap : bo_apl b E0 = (bo_siz b.1 o.1 E0.2.2.2.2.2.2, b.2) := by unfold bo_apl; rw [hs, ho1]; rfl
  refine fv_istore_n C d_M_perform_10 (n := 11) rfl (i := 2) rfl (by decide) (L' := [_, _, _]) rfl ?_
  refine fv_aload_n C d_M_perform_11 (n := 12) rfl (i := 0) rfl rfl ?_
  refine fv_get C (fl_M_7 D dA) d_M_perform_12 (n := 15) rfl hM.1 rfl ?_
  refine fv_iload_n C d_M_perform_15 (n := 16) rfl (i := 1) rfl rfl ?_
  refine fv_ialdN C (t0 := 0) rfl d_M_perform_16 (n := 17) rfl (mc_1 hM) (by omega) (by decide) ?_
  rw [l1]
  refine fv_ifN_ne C (by omega) d_M_perform_17 (tgt := 90) rfl (n := 20) rfl (fun hc17 => ?_) (fun hc17 => ?_)
  · refine fv_aload_n C d_M_perform_90 (n := 91) rfl (i := 0) rfl rfl ?_
    refine fv_get C (fl_M_7 D dA) d_M_perform_91 (n := 94) rfl hM.1 rfl ?_
    refine fv_iload_n C d_M_perform_94 (n := 95) rfl (i := 1) rfl rfl ?_
    refine fv_ialdN C (t0 := 0) rfl d_M_perform_95 (n := 96) rfl (mc_1 hM) (by omega) (by decide) ?_
    rw [l1]
    refine fv_iconst C d_M_perform_96 (n := 97) rfl kI_1 ?_
    refine fv_icmpN_ne C (by omega) (by omega) d_M_perform_97 (tgt := 112) rfl (n := 100) rfl (fun hc97 => ?_) (fun hc97 => ?_)
    · exact absurd rfl hc97
    · refine fv_aload_n C d_M_perform_100 (n := 101) rfl (i := 0) rfl rfl ?_
      refine fv_get C (fl_M_46 D dA) d_M_perform_101 (n := 104) rfl hM.1 rfl ?_
      refine fv_iload_n C d_M_perform_104 (n := 105) rfl (i := 2) rfl rfl ?_
      refine fv_aload_n C d_M_perform_105 (n := 106) rfl (i := 0) rfl rfl ?_
      refine fv_get C (fl_M_28 D dA) d_M_perform_106 (n := 109) rfl hM.1 rfl ?_
      refine fv_iload_n C d_M_perform_109 (n := 110) rfl (i := 1) rfl rfl ?_
      refine fv_ialdN C (t0 := 0) rfl d_M_perform_110 (n := 111) rfl (mc_7 hM) (by omega) (by decide) ?_
      rw [l7]
      refine mc_ia C 13 (by decide) (by decide) rfl d_M_perform_111 (n := 112) rfl hM hBs (by decide) (show _ < 24 by omega) (fun h1 Fa hM g1 g2 f1 => ?_)
      have hF := hF.tr f1 (U := MS m0) (fun x hx => hx) (fun x hx => hx)
      have l1 := (congrFun (g2 1 (by decide)) e).trans l1
      have l2 := (congrFun (g2 2 (by decide)) e).trans l2
      have l3 := (congrFun (g2 3 (by decide)) e).trans l3
      have l4 := (congrFun (g2 4 (by decide)) e).trans l4
      have l5 := (congrFun (g2 5 (by decide)) e).trans l5
      have l6 := (congrFun (g2 6 (by decide)) e).trans l6
      have l7 := (congrFun (g2 7 (by decide)) e).trans l7
      have kFa : KE 10 13 F Fa := fun q hq => g2 q (by omega)
      have pFa := g1
      have qFa := g2
      refine fv_aload_n C d_M_perform_112 (n := 113) rfl (i := 0) rfl rfl ?_
      refine fv_get C (fl_M_7 D dA) d_M_perform_113 (n := 116) rfl hM.1 rfl ?_
      refine fv_iload_n C d_M_perform_116 (n := 117) rfl (i := 1) rfl rfl ?_
      refine fv_ialdN C (t0 := 0) rfl d_M_perform_117 (n := 118) rfl (mc_1 hM) (by omega) (by decide) ?_
      rw [l1]
      refine fv_iconst C d_M_perform_118 (n := 119) rfl kI_2 ?_
      refine fv_icmpN_ne C (by omega) (by omega) d_M_perform_119 (tgt := 151) rfl (n := 122) rfl (fun hc119 => ?_) (fun hc119 => ?_)
      · refine fv_aload_n C d_M_perform_151 (n := 152) rfl (i := 0) rfl rfl ?_
        refine fv_get C (fl_M_7 D dA) d_M_perform_152 (n := 155) rfl hM.1 rfl ?_
        refine fv_iload_n C d_M_perform_155 (n := 156) rfl (i := 1) rfl rfl ?_
        refine fv_ialdN C (t0 := 0) rfl d_M_perform_156 (n := 157) rfl (mc_1 hM) (by omega) (by decide) ?_
        rw [l1]
        refine fv_iconst C d_M_perform_157 (n := 158) rfl kI_3 ?_
        refine fv_icmpN_ne C (by omega) (by omega) d_M_perform_158 (tgt := 166) rfl (n := 161) rfl (fun hc158 => ?_) (fun hc158 => ?_)
        · refine fv_aload_n C d_M_perform_166 (n := 167) rfl (i := 0) rfl rfl ?_
          refine fv_get C (fl_M_7 D dA) d_M_perform_167 (n := 170) rfl hM.1 rfl ?_
          refine fv_iload_n C d_M_perform_170 (n := 171) rfl (i := 1) rfl rfl ?_
          refine fv_ialdN C (t0 := 0) rfl d_M_perform_171 (n := 172) rfl (mc_1 hM) (by omega) (by decide) ?_
          rw [l1]
          refine fv_iconst C d_M_perform_172 (n := 173) rfl kI_4 ?_
          refine fv_icmpN_ne C (by omega) (by omega) d_M_perform_173 (tgt := 195) rfl (n := 176) rfl (fun hc173 => ?_) (fun hc173 => ?_)
          · refine fv_aload_n C d_M_perform_195 (n := 196) rfl (i := 0) rfl rfl ?_
            refine fv_get C (fl_M_7 D dA) d_M_perform_196 (n := 199) rfl hM.1 rfl ?_
            refine fv_iload_n C d_M_perform_199 (n := 200) rfl (i := 1) rfl rfl ?_
            refine fv_ialdN C (t0 := 0) rfl d_M_perform_200 (n := 201) rfl (mc_1 hM) (by omega) (by decide) ?_
            rw [l1]
            refine fv_iconst C d_M_perform_201 (n := 202) rfl kI_5 ?_
            refine fv_icmpN_ne C (by omega) (by omega) d_M_perform_202 (tgt := 210) rfl (n := 205) rfl (fun hc202 => ?_) (fun hc202 => ?_)
            · refine fv_vret C rfl d_M_perform_210 (Nat.le_refl _) (Nat.le_refl _) ?_
              refine ⟨rfl, rfl, ⟨Fa, ?_, ?_, kFa⟩, hF⟩
              · rw [hap, show (bo_siz b.1 o.1 E0.2.2.2.2.2.2, b.2).1.length = b.1.length by simp [bo_siz]]; exact hM
              · rw [hap]; exact BA_siz hA hwf.1 ho pFa qFa
            · exact absurd hc202 (by decide)
          · exact absurd hc173 (by decide)
        · exact absurd hc158 (by decide)
      · exact absurd hc119 (by decide)
  · exact absurd hc17 (by decide)
theorem ct_M_perform2 {log : List bo_E} {E0 : bo_E} {b : bo_B} {e : Nat} (hBs : Bs ≤ m0) (hM : MC dA h m0 ev pk b.1.length b.2 sh F) (he : e < 400) (hLG : LG F log) (hev : log[e]? = some E0) (hA : BA F b.1) (hwf : bo_wf b.1) (hs : E0.1 = 2) (hok : bo_ok b E0.1 E0.2.2.2.1 E0.2.2.2.2.2.2 = true) : fv_T l (fk D dA) Bs WA m_M_perform [.ref m0, .int (nI e)] sz h 0 0 (fp_v sz (fun h' => (∃ F', MC dA h' m0 ev pk (bo_apl b E0).1.length (bo_apl b E0).2 sh F' ∧ BA F' (bo_apl b E0).1 ∧ KE 10 13 F F') ∧ fs h h' (MS m0))) := by
  have hF : fs h h (MS m0) := fs_rf _ _
  obtain ⟨l1, l2, l3, l4, l5, l6, l7⟩ := hLG e E0 hev
  rw [hs] at l1
  have h24 := hwf.2.2.2
  have hfd : ¬ ∀ o ∈ b.1, o.1 ≠ E0.2.2.2.1 := by
    intro q
    have q2 := bo_fi_none.mpr q
    unfold bo_ok at hok
    rw [hs] at hok
    simp [q2] at hok
  refine fv_of (L := [_, _, _]) (by decide +kernel) rfl (Nat.le_of_ble_eq_true rfl) rfl ?_
  intro X hX C
  subst hX
  refine fv_aload_n C d_M_perform_0 (n := 1) rfl (i := 0) rfl rfl ?_
  refine fv_aload_n C d_M_perform_1 (n := 2) rfl (i := 0) rfl rfl ?_
  refine fv_get C (fl_M_19 D dA) d_M_perform_2 (n := 5) rfl hM.1 rfl ?_
  refine fv_iload_n C d_M_perform_5 (n := 6) rfl (i := 1) rfl rfl ?_
  refine fv_ialdN C (t0 := 0) rfl d_M_perform_6 (n := 7) rfl (mc_4 hM) (by omega) (by decide) ?_
  rw [l4]
  refine fv_callV_i C (ml_M_110 D dA) im_M_find se_M_find hM.1 rfl (ct_M_find hM rfl h24 hA) d_M_perform_7 (n := 10) rfl rfl rfl rfl (Nat.le_of_ble_eq_true rfl) (Nat.le_of_ble_eq_true rfl) (Nat.le_of_ble_eq_true rfl) (Nat.le_refl _) (Nat.le_refl _) (fun r0 h1 hp => ?_)
  obtain ⟨rfl, hfi⟩ := hp
  rcases hfi with ⟨hfi, -⟩ | ⟨k, o, ho, ho1, hk, rfl⟩
  · exact absurd hfi hfd
  have hsz := (hA k o ho).2.2.2
  have hszo : bo_szo b.1 E0.2.2.2.1 = o.2.2.2 := by unfold bo_szo; rw [← ho1, bo_fi_of hwf.1 (List.mem_of_getElem? ho)]
  have hap : bo_apl b E0 = (if o.2.2.2 = E0.2.2.2.2.2.2 then bo_del b.1 o.1 else bo_siz b.1 o.1 (o.2.2.2 - E0.2.2.2.2.2.2), b.2) := by unfold bo_apl; rw [hs, hszo, ho1]; rfl
  refine fv_istore_n C d_M_perform_10 (n := 11) rfl (i := 2) rfl (by decide) (L' := [_, _, _]) rfl ?_
  refine fv_aload_n C d_M_perform_11 (n := 12) rfl (i := 0) rfl rfl ?_
  refine fv_get C (fl_M_7 D dA) d_M_perform_12 (n := 15) rfl hM.1 rfl ?_
  refine fv_iload_n C d_M_perform_15 (n := 16) rfl (i := 1) rfl rfl ?_
  refine fv_ialdN C (t0 := 0) rfl d_M_perform_16 (n := 17) rfl (mc_1 hM) (by omega) (by decide) ?_
  rw [l1]
  refine fv_ifN_ne C (by omega) d_M_perform_17 (tgt := 90) rfl (n := 20) rfl (fun hc17 => ?_) (fun hc17 => ?_)
  · refine fv_aload_n C d_M_perform_90 (n := 91) rfl (i := 0) rfl rfl ?_
    refine fv_get C (fl_M_7 D dA) d_M_perform_91 (n := 94) rfl hM.1 rfl ?_
    refine fv_iload_n C d_M_perform_94 (n := 95) rfl (i := 1) rfl rfl ?_
    refine fv_ialdN C (t0 := 0) rfl d_M_perform_95 (n := 96) rfl (mc_1 hM) (by omega) (by decide) ?_
    rw [l1]
    refine fv_iconst C d_M_perform_96 (n := 97) rfl kI_1 ?_
    refine fv_icmpN_ne C (by omega) (by omega) d_M_perform_97 (tgt := 112) rfl (n := 100) rfl (fun hc97 => ?_) (fun hc97 => ?_)
    · refine fv_aload_n C d_M_perform_112 (n := 113) rfl (i := 0) rfl rfl ?_
      refine fv_get C (fl_M_7 D dA) d_M_perform_113 (n := 116) rfl hM.1 rfl ?_
      refine fv_iload_n C d_M_perform_116 (n := 117) rfl (i := 1) rfl rfl ?_
      refine fv_ialdN C (t0 := 0) rfl d_M_perform_117 (n := 118) rfl (mc_1 hM) (by omega) (by decide) ?_
      rw [l1]
      refine fv_iconst C d_M_perform_118 (n := 119) rfl kI_2 ?_
      refine fv_icmpN_ne C (by omega) (by omega) d_M_perform_119 (tgt := 151) rfl (n := 122) rfl (fun hc119 => ?_) (fun hc119 => ?_)
      · exact absurd rfl hc119
      · refine fv_aload_n C d_M_perform_122 (n := 123) rfl (i := 0) rfl rfl ?_
        refine fv_get C (fl_M_46 D dA) d_M_perform_123 (n := 126) rfl hM.1 rfl ?_
        refine fv_iload_n C d_M_perform_126 (n := 127) rfl (i := 2) rfl rfl ?_
        refine fv_dup2 C d_M_perform_127 (n := 128) rfl rfl rfl ?_
        refine fv_ialdN C (t0 := 0) rfl d_M_perform_128 (n := 129) rfl (mc_13 hM) (by omega) (by decide) ?_
        rw [hsz]
        refine fv_aload_n C d_M_perform_129 (n := 130) rfl (i := 0) rfl rfl ?_
        refine fv_get C (fl_M_28 D dA) d_M_perform_130 (n := 133) rfl hM.1 rfl ?_
        refine fv_iload_n C d_M_perform_133 (n := 134) rfl (i := 1) rfl rfl ?_
        refine fv_ialdN C (t0 := 0) rfl d_M_perform_134 (n := 135) rfl (mc_7 hM) (by omega) (by decide) ?_
        rw [l7]
        refine fv_isub C d_M_perform_135 (n := 136) rfl ?_
        refine mc_ia C 13 (by decide) (by decide) rfl d_M_perform_136 (n := 137) rfl hM hBs (by decide) (show _ < 24 by omega) (fun h1 Fa hM g1 g2 f1 => ?_)
        have hF := hF.tr f1 (U := MS m0) (fun x hx => hx) (fun x hx => hx)
        have l1 := (congrFun (g2 1 (by decide)) e).trans l1
        have l2 := (congrFun (g2 2 (by decide)) e).trans l2
        have l3 := (congrFun (g2 3 (by decide)) e).trans l3
        have l4 := (congrFun (g2 4 (by decide)) e).trans l4
        have l5 := (congrFun (g2 5 (by decide)) e).trans l5
        have l6 := (congrFun (g2 6 (by decide)) e).trans l6
        have l7 := (congrFun (g2 7 (by decide)) e).trans l7
        have kFa : KE 10 13 F Fa := fun q hq => g2 q (by omega)
        have pFa := g1
        have qFa := g2
        have hlen : (bo_siz b.1 o.1 (o.2.2.2 - E0.2.2.2.2.2.2)).length = b.1.length := by simp [bo_siz]
        have hA2 : BA Fa (bo_siz b.1 o.1 (o.2.2.2 - E0.2.2.2.2.2.2)) := BA_siz hA hwf.1 ho pFa qFa
        refine fv_aload_n C d_M_perform_137 (n := 138) rfl (i := 0) rfl rfl ?_
        refine fv_get C (fl_M_46 D dA) d_M_perform_138 (n := 141) rfl hM.1 rfl ?_
        refine fv_iload_n C d_M_perform_141 (n := 142) rfl (i := 2) rfl rfl ?_
        refine fv_ialdN C (t0 := 0) rfl d_M_perform_142 (n := 143) rfl (mc_13 hM) (by omega) (by decide) ?_
        rw [show Fa 13 k = o.2.2.2 - E0.2.2.2.2.2.2 by rw [pFa]; simp [upd]]
        refine fv_if_ne C d_M_perform_143 (tgt := 151) rfl (n := 146) rfl (fun hc143 => ?_) (fun hc143 => ?_)
        · have hap2 : bo_apl b E0 = (bo_siz b.1 o.1 (o.2.2.2 - E0.2.2.2.2.2.2), b.2) := by rw [hap, if_neg (fun q => hc143 (by rw [q, Int32.sub_self]))]
          have hfin : (∃ F1, MC dA h1 m0 ev pk (bo_apl b E0).1.length (bo_apl b E0).2 sh F1 ∧ BA F1 (bo_apl b E0).1 ∧ KE 10 13 F F1 ∧ F1 1 e = nI 2) := ⟨Fa, by rw [hap2, hlen]; exact hM, by rw [hap2]; exact hA2, kFa, l1⟩
          obtain ⟨F9, hM, hA9, k9, l1⟩ := hfin
          refine fv_aload_n C d_M_perform_151 (n := 152) rfl (i := 0) rfl rfl ?_
          refine fv_get C (fl_M_7 D dA) d_M_perform_152 (n := 155) rfl hM.1 rfl ?_
          refine fv_iload_n C d_M_perform_155 (n := 156) rfl (i := 1) rfl rfl ?_
          refine fv_ialdN C (t0 := 0) rfl d_M_perform_156 (n := 157) rfl (mc_1 hM) (by omega) (by decide) ?_
          rw [l1]
          refine fv_iconst C d_M_perform_157 (n := 158) rfl kI_3 ?_
          refine fv_icmpN_ne C (by omega) (by omega) d_M_perform_158 (tgt := 166) rfl (n := 161) rfl (fun hc158 => ?_) (fun hc158 => ?_)
          · refine fv_aload_n C d_M_perform_166 (n := 167) rfl (i := 0) rfl rfl ?_
            refine fv_get C (fl_M_7 D dA) d_M_perform_167 (n := 170) rfl hM.1 rfl ?_
            refine fv_iload_n C d_M_perform_170 (n := 171) rfl (i := 1) rfl rfl ?_
            refine fv_ialdN C (t0 := 0) rfl d_M_perform_171 (n := 172) rfl (mc_1 hM) (by omega) (by decide) ?_
            rw [l1]
            refine fv_iconst C d_M_perform_172 (n := 173) rfl kI_4 ?_
            refine fv_icmpN_ne C (by omega) (by omega) d_M_perform_173 (tgt := 195) rfl (n := 176) rfl (fun hc173 => ?_) (fun hc173 => ?_)
            · refine fv_aload_n C d_M_perform_195 (n := 196) rfl (i := 0) rfl rfl ?_
              refine fv_get C (fl_M_7 D dA) d_M_perform_196 (n := 199) rfl hM.1 rfl ?_
              refine fv_iload_n C d_M_perform_199 (n := 200) rfl (i := 1) rfl rfl ?_
              refine fv_ialdN C (t0 := 0) rfl d_M_perform_200 (n := 201) rfl (mc_1 hM) (by omega) (by decide) ?_
              rw [l1]
              refine fv_iconst C d_M_perform_201 (n := 202) rfl kI_5 ?_
              refine fv_icmpN_ne C (by omega) (by omega) d_M_perform_202 (tgt := 210) rfl (n := 205) rfl (fun hc202 => ?_) (fun hc202 => ?_)
              · refine fv_vret C rfl d_M_perform_210 (Nat.le_refl _) (Nat.le_refl _) ?_
                exact ⟨rfl, rfl, ⟨F9, hM, hA9, k9⟩, hF⟩
              · exact absurd hc202 (by decide)
            · exact absurd hc173 (by decide)
          · exact absurd hc158 (by decide)
        · have hap2 : bo_apl b E0 = (bo_del b.1 o.1, b.2) := by rw [hap, if_pos (i32_sub0 hc143)]
          refine fv_aload_n C d_M_perform_146 (n := 147) rfl (i := 0) rfl rfl ?_
          refine fv_iload_n C d_M_perform_147 (n := 148) rfl (i := 2) rfl rfl ?_
          refine fv_callV_v C (ml_M_114 D dA) im_M_drop se_M_drop hM.1 rfl (ct_M_drop (lo := bo_siz b.1 o.1 (o.2.2.2 - E0.2.2.2.2.2.2)) hBs hM hlen.symm (by omega) hA2 (by omega)) d_M_perform_148 (n := 151) rfl rfl rfl rfl (Nat.le_of_ble_eq_true rfl) (Nat.le_of_ble_eq_true rfl) (Nat.le_of_ble_eq_true rfl) (Nat.le_refl _) (Nat.le_refl _) (fun h1 hp => ?_)
          obtain ⟨⟨F8, hM, hA8, k8⟩, f1⟩ := hp
          have hF := hF.tr f1 (U := MS m0) (fun x hx => hx) (fun x hx => hx)
          rw [ix_del2 hwf.1 ho] at hA8
          have hl8 : (bo_del b.1 o.1).length = (bo_siz b.1 o.1 (o.2.2.2 - E0.2.2.2.2.2.2)).length - 1 := by rw [← ix_del2 (v := o.2.2.2 - E0.2.2.2.2.2.2) hwf.1 ho, List.length_eraseIdx_of_lt (by omega)]
          have hfin : (∃ F1, MC dA h1 m0 ev pk (bo_apl b E0).1.length (bo_apl b E0).2 sh F1 ∧ BA F1 (bo_apl b E0).1 ∧ KE 10 13 F F1 ∧ F1 1 e = nI 2) := ⟨F8, by rw [hap2, hl8]; exact hM, by rw [hap2]; exact hA8, kFa.tr k8 (by decide) (by decide) (by decide) (by decide), by rw [k8 1 (by decide)]; exact l1⟩
          obtain ⟨F9, hM, hA9, k9, l1⟩ := hfin
          refine fv_aload_n C d_M_perform_151 (n := 152) rfl (i := 0) rfl rfl ?_
          refine fv_get C (fl_M_7 D dA) d_M_perform_152 (n := 155) rfl hM.1 rfl ?_
          refine fv_iload_n C d_M_perform_155 (n := 156) rfl (i := 1) rfl rfl ?_
          refine fv_ialdN C (t0 := 0) rfl d_M_perform_156 (n := 157) rfl (mc_1 hM) (by omega) (by decide) ?_
          rw [l1]
          refine fv_iconst C d_M_perform_157 (n := 158) rfl kI_3 ?_
          refine fv_icmpN_ne C (by omega) (by omega) d_M_perform_158 (tgt := 166) rfl (n := 161) rfl (fun hc158 => ?_) (fun hc158 => ?_)
          · refine fv_aload_n C d_M_perform_166 (n := 167) rfl (i := 0) rfl rfl ?_
            refine fv_get C (fl_M_7 D dA) d_M_perform_167 (n := 170) rfl hM.1 rfl ?_
            refine fv_iload_n C d_M_perform_170 (n := 171) rfl (i := 1) rfl rfl ?_
            refine fv_ialdN C (t0 := 0) rfl d_M_perform_171 (n := 172) rfl (mc_1 hM) (by omega) (by decide) ?_
            rw [l1]
            refine fv_iconst C d_M_perform_172 (n := 173) rfl kI_4 ?_
            refine fv_icmpN_ne C (by omega) (by omega) d_M_perform_173 (tgt := 195) rfl (n := 176) rfl (fun hc173 => ?_) (fun hc173 => ?_)
            · refine fv_aload_n C d_M_perform_195 (n := 196) rfl (i := 0) rfl rfl ?_
              refine fv_get C (fl_M_7 D dA) d_M_perform_196 (n := 199) rfl hM.1 rfl ?_
              refine fv_iload_n C d_M_perform_199 (n := 200) rfl (i := 1) rfl rfl ?_
              refine fv_ialdN C (t0 := 0) rfl d_M_perform_200 (n := 201) rfl (mc_1 hM) (by omega) (by decide) ?_
              rw [l1]
              refine fv_iconst C d_M_perform_201 (n := 202) rfl kI_5 ?_
              refine fv_icmpN_ne C (by omega) (by omega) d_M_perform_202 (tgt := 210) rfl (n := 205) rfl (fun hc202 => ?_) (fun hc202 => ?_)
              · refine fv_vret C rfl d_M_perform_210 (Nat.le_refl _) (Nat.le_refl _) ?_
                exact ⟨rfl, rfl, ⟨F9, hM, hA9, k9⟩, hF⟩
              · exact absurd hc202 (by decide)
            · exact absurd hc173 (by decide)
          · exact absurd hc158 (by decide)
    · exact absurd hc97 (by decide)
  · exact absurd hc17 (by decide)
theorem ct_M_perform3 {log : List bo_E} {E0 : bo_E} {b : bo_B} {e : Nat} (hBs : Bs ≤ m0) (hM : MC dA h m0 ev pk b.1.length b.2 sh F) (he : e < 400) (hLG : LG F log) (hev : log[e]? = some E0) (hA : BA F b.1) (hwf : bo_wf b.1) (hs : E0.1 = 3) (hok : bo_ok b E0.1 E0.2.2.2.1 E0.2.2.2.2.2.2 = true) : fv_T l (fk D dA) Bs WA m_M_perform [.ref m0, .int (nI e)] sz h 0 0 (fp_v sz (fun h' => (∃ F', MC dA h' m0 ev pk (bo_apl b E0).1.length (bo_apl b E0).2 sh F' ∧ BA F' (bo_apl b E0).1 ∧ KE 10 13 F F') ∧ fs h h' (MS m0))) := by
  have hF : fs h h (MS m0) := fs_rf _ _
  obtain ⟨l1, l2, l3, l4, l5, l6, l7⟩ := hLG e E0 hev
  rw [hs] at l1
  have h24 := hwf.2.2.2
  have hfd : ¬ ∀ o ∈ b.1, o.1 ≠ E0.2.2.2.1 := by
    intro q
    have q2 := bo_fi_none.mpr q
    unfold bo_ok at hok
    rw [hs] at hok
    simp [q2] at hok
  refine fv_of (L := [_, _, _]) (by decide +kernel) rfl (Nat.le_of_ble_eq_true rfl) rfl ?_
  intro X hX C
  subst hX
  refine fv_aload_n C d_M_perform_0 (n := 1) rfl (i := 0) rfl rfl ?_
  refine fv_aload_n C d_M_perform_1 (n := 2) rfl (i := 0) rfl rfl ?_
  refine fv_get C (fl_M_19 D dA) d_M_perform_2 (n := 5) rfl hM.1 rfl ?_
  refine fv_iload_n C d_M_perform_5 (n := 6) rfl (i := 1) rfl rfl ?_
  refine fv_ialdN C (t0 := 0) rfl d_M_perform_6 (n := 7) rfl (mc_4 hM) (by omega) (by decide) ?_
  rw [l4]
  refine fv_callV_i C (ml_M_110 D dA) im_M_find se_M_find hM.1 rfl (ct_M_find hM rfl h24 hA) d_M_perform_7 (n := 10) rfl rfl rfl rfl (Nat.le_of_ble_eq_true rfl) (Nat.le_of_ble_eq_true rfl) (Nat.le_of_ble_eq_true rfl) (Nat.le_refl _) (Nat.le_refl _) (fun r0 h1 hp => ?_)
  obtain ⟨rfl, hfi⟩ := hp
  rcases hfi with ⟨hfi, -⟩ | ⟨k, o, ho, ho1, hk, rfl⟩
  · exact absurd hfi hfd
  have hsz := (hA k o ho).2.2.2
  have hap : bo_apl b E0 = (bo_del b.1 o.1, b.2) := by unfold bo_apl; rw [hs, ho1]; rfl
  refine fv_istore_n C d_M_perform_10 (n := 11) rfl (i := 2) rfl (by decide) (L' := [_, _, _]) rfl ?_
  refine fv_aload_n C d_M_perform_11 (n := 12) rfl (i := 0) rfl rfl ?_
  refine fv_get C (fl_M_7 D dA) d_M_perform_12 (n := 15) rfl hM.1 rfl ?_
  refine fv_iload_n C d_M_perform_15 (n := 16) rfl (i := 1) rfl rfl ?_
  refine fv_ialdN C (t0 := 0) rfl d_M_perform_16 (n := 17) rfl (mc_1 hM) (by omega) (by decide) ?_
  rw [l1]
  refine fv_ifN_ne C (by omega) d_M_perform_17 (tgt := 90) rfl (n := 20) rfl (fun hc17 => ?_) (fun hc17 => ?_)
  · refine fv_aload_n C d_M_perform_90 (n := 91) rfl (i := 0) rfl rfl ?_
    refine fv_get C (fl_M_7 D dA) d_M_perform_91 (n := 94) rfl hM.1 rfl ?_
    refine fv_iload_n C d_M_perform_94 (n := 95) rfl (i := 1) rfl rfl ?_
    refine fv_ialdN C (t0 := 0) rfl d_M_perform_95 (n := 96) rfl (mc_1 hM) (by omega) (by decide) ?_
    rw [l1]
    refine fv_iconst C d_M_perform_96 (n := 97) rfl kI_1 ?_
    refine fv_icmpN_ne C (by omega) (by omega) d_M_perform_97 (tgt := 112) rfl (n := 100) rfl (fun hc97 => ?_) (fun hc97 => ?_)
    · refine fv_aload_n C d_M_perform_112 (n := 113) rfl (i := 0) rfl rfl ?_
      refine fv_get C (fl_M_7 D dA) d_M_perform_113 (n := 116) rfl hM.1 rfl ?_
      refine fv_iload_n C d_M_perform_116 (n := 117) rfl (i := 1) rfl rfl ?_
      refine fv_ialdN C (t0 := 0) rfl d_M_perform_117 (n := 118) rfl (mc_1 hM) (by omega) (by decide) ?_
      rw [l1]
      refine fv_iconst C d_M_perform_118 (n := 119) rfl kI_2 ?_
      refine fv_icmpN_ne C (by omega) (by omega) d_M_perform_119 (tgt := 151) rfl (n := 122) rfl (fun hc119 => ?_) (fun hc119 => ?_)
      · refine fv_aload_n C d_M_perform_151 (n := 152) rfl (i := 0) rfl rfl ?_
        refine fv_get C (fl_M_7 D dA) d_M_perform_152 (n := 155) rfl hM.1 rfl ?_
        refine fv_iload_n C d_M_perform_155 (n := 156) rfl (i := 1) rfl rfl ?_
        refine fv_ialdN C (t0 := 0) rfl d_M_perform_156 (n := 157) rfl (mc_1 hM) (by omega) (by decide) ?_
        rw [l1]
        refine fv_iconst C d_M_perform_157 (n := 158) rfl kI_3 ?_
        refine fv_icmpN_ne C (by omega) (by omega) d_M_perform_158 (tgt := 166) rfl (n := 161) rfl (fun hc158 => ?_) (fun hc158 => ?_)
        · exact absurd rfl hc158
        · refine fv_aload_n C d_M_perform_161 (n := 162) rfl (i := 0) rfl rfl ?_
          refine fv_iload_n C d_M_perform_162 (n := 163) rfl (i := 2) rfl rfl ?_
          refine fv_callV_v C (ml_M_114 D dA) im_M_drop se_M_drop hM.1 rfl (ct_M_drop (lo := b.1) hBs hM rfl h24 hA hk) d_M_perform_163 (n := 166) rfl rfl rfl rfl (Nat.le_of_ble_eq_true rfl) (Nat.le_of_ble_eq_true rfl) (Nat.le_of_ble_eq_true rfl) (Nat.le_refl _) (Nat.le_refl _) (fun h1 hp => ?_)
          obtain ⟨⟨F8, hM, hA8, k8⟩, f1⟩ := hp
          have hF := hF.tr f1 (U := MS m0) (fun x hx => hx) (fun x hx => hx)
          rw [ix_del hwf.1 ho] at hA8
          have hl8 : (bo_del b.1 o.1).length = b.1.length - 1 := by rw [← ix_del hwf.1 ho, List.length_eraseIdx_of_lt (by omega)]
          have l1 : F8 1 e = nI 3 := by rw [k8 1 (by decide)]; exact l1
          refine fv_aload_n C d_M_perform_166 (n := 167) rfl (i := 0) rfl rfl ?_
          refine fv_get C (fl_M_7 D dA) d_M_perform_167 (n := 170) rfl hM.1 rfl ?_
          refine fv_iload_n C d_M_perform_170 (n := 171) rfl (i := 1) rfl rfl ?_
          refine fv_ialdN C (t0 := 0) rfl d_M_perform_171 (n := 172) rfl (mc_1 hM) (by omega) (by decide) ?_
          rw [l1]
          refine fv_iconst C d_M_perform_172 (n := 173) rfl kI_4 ?_
          refine fv_icmpN_ne C (by omega) (by omega) d_M_perform_173 (tgt := 195) rfl (n := 176) rfl (fun hc173 => ?_) (fun hc173 => ?_)
          · refine fv_aload_n C d_M_perform_195 (n := 196) rfl (i := 0) rfl rfl ?_
            refine fv_get C (fl_M_7 D dA) d_M_perform_196 (n := 199) rfl hM.1 rfl ?_
            refine fv_iload_n C d_M_perform_199 (n := 200) rfl (i := 1) rfl rfl ?_
            refine fv_ialdN C (t0 := 0) rfl d_M_perform_200 (n := 201) rfl (mc_1 hM) (by omega) (by decide) ?_
            rw [l1]
            refine fv_iconst C d_M_perform_201 (n := 202) rfl kI_5 ?_
            refine fv_icmpN_ne C (by omega) (by omega) d_M_perform_202 (tgt := 210) rfl (n := 205) rfl (fun hc202 => ?_) (fun hc202 => ?_)
            · refine fv_vret C rfl d_M_perform_210 (Nat.le_refl _) (Nat.le_refl _) ?_
              exact ⟨rfl, rfl, ⟨F8, by rw [hap, hl8]; exact hM, by rw [hap]; exact hA8, k8⟩, hF⟩
            · exact absurd hc202 (by decide)
          · exact absurd hc173 (by decide)
      · exact absurd hc119 (by decide)
    · exact absurd hc97 (by decide)
  · exact absurd hc17 (by decide)
theorem ct_M_perform4 {log : List bo_E} {E0 : bo_E} {b : bo_B} {e : Nat} (hBs : Bs ≤ m0) (hM : MC dA h m0 ev pk b.1.length b.2 sh F) (he : e < 400) (hLG : LG F log) (hev : log[e]? = some E0) (hA : BA F b.1) (hwf : bo_wf b.1) (hs : E0.1 = 4) (hok : bo_ok b E0.1 E0.2.2.2.1 E0.2.2.2.2.2.2 = true) : fv_T l (fk D dA) Bs WA m_M_perform [.ref m0, .int (nI e)] sz h 0 0 (fp_v sz (fun h' => (∃ F', MC dA h' m0 ev pk (bo_apl b E0).1.length (bo_apl b E0).2 sh F' ∧ BA F' (bo_apl b E0).1 ∧ KE 10 13 F F') ∧ fs h h' (MS m0))) := by
  have hF : fs h h (MS m0) := fs_rf _ _
  obtain ⟨l1, l2, l3, l4, l5, l6, l7⟩ := hLG e E0 hev
  rw [hs] at l1
  have h24 := hwf.2.2.2
  have hap : bo_apl b E0 = (b.1, decide (E0.2.2.2.2.2.2 = 1)) := by unfold bo_apl; rw [hs]; rfl
  refine fv_of (L := [_, _, _]) (by decide +kernel) rfl (Nat.le_of_ble_eq_true rfl) rfl ?_
  intro X hX C
  subst hX
  refine fv_aload_n C d_M_perform_0 (n := 1) rfl (i := 0) rfl rfl ?_
  refine fv_aload_n C d_M_perform_1 (n := 2) rfl (i := 0) rfl rfl ?_
  refine fv_get C (fl_M_19 D dA) d_M_perform_2 (n := 5) rfl hM.1 rfl ?_
  refine fv_iload_n C d_M_perform_5 (n := 6) rfl (i := 1) rfl rfl ?_
  refine fv_ialdN C (t0 := 0) rfl d_M_perform_6 (n := 7) rfl (mc_4 hM) (by omega) (by decide) ?_
  rw [l4]
  refine fv_callV_i C (ml_M_110 D dA) im_M_find se_M_find hM.1 rfl (ct_M_find hM rfl h24 hA) d_M_perform_7 (n := 10) rfl rfl rfl rfl (Nat.le_of_ble_eq_true rfl) (Nat.le_of_ble_eq_true rfl) (Nat.le_of_ble_eq_true rfl) (Nat.le_refl _) (Nat.le_refl _) (fun r0 h1 hp => ?_)
  obtain ⟨rfl, hfi⟩ := hp
  refine fv_istore_n C d_M_perform_10 (n := 11) rfl (i := 2) rfl (by decide) (L' := [_, _, _]) rfl ?_
  refine fv_aload_n C d_M_perform_11 (n := 12) rfl (i := 0) rfl rfl ?_
  refine fv_get C (fl_M_7 D dA) d_M_perform_12 (n := 15) rfl hM.1 rfl ?_
  refine fv_iload_n C d_M_perform_15 (n := 16) rfl (i := 1) rfl rfl ?_
  refine fv_ialdN C (t0 := 0) rfl d_M_perform_16 (n := 17) rfl (mc_1 hM) (by omega) (by decide) ?_
  rw [l1]
  refine fv_ifN_ne C (by omega) d_M_perform_17 (tgt := 90) rfl (n := 20) rfl (fun hc17 => ?_) (fun hc17 => ?_)
  · refine fv_aload_n C d_M_perform_90 (n := 91) rfl (i := 0) rfl rfl ?_
    refine fv_get C (fl_M_7 D dA) d_M_perform_91 (n := 94) rfl hM.1 rfl ?_
    refine fv_iload_n C d_M_perform_94 (n := 95) rfl (i := 1) rfl rfl ?_
    refine fv_ialdN C (t0 := 0) rfl d_M_perform_95 (n := 96) rfl (mc_1 hM) (by omega) (by decide) ?_
    rw [l1]
    refine fv_iconst C d_M_perform_96 (n := 97) rfl kI_1 ?_
    refine fv_icmpN_ne C (by omega) (by omega) d_M_perform_97 (tgt := 112) rfl (n := 100) rfl (fun hc97 => ?_) (fun hc97 => ?_)
    · refine fv_aload_n C d_M_perform_112 (n := 113) rfl (i := 0) rfl rfl ?_
      refine fv_get C (fl_M_7 D dA) d_M_perform_113 (n := 116) rfl hM.1 rfl ?_
      refine fv_iload_n C d_M_perform_116 (n := 117) rfl (i := 1) rfl rfl ?_
      refine fv_ialdN C (t0 := 0) rfl d_M_perform_117 (n := 118) rfl (mc_1 hM) (by omega) (by decide) ?_
      rw [l1]
      refine fv_iconst C d_M_perform_118 (n := 119) rfl kI_2 ?_
      refine fv_icmpN_ne C (by omega) (by omega) d_M_perform_119 (tgt := 151) rfl (n := 122) rfl (fun hc119 => ?_) (fun hc119 => ?_)
      · refine fv_aload_n C d_M_perform_151 (n := 152) rfl (i := 0) rfl rfl ?_
        refine fv_get C (fl_M_7 D dA) d_M_perform_152 (n := 155) rfl hM.1 rfl ?_
        refine fv_iload_n C d_M_perform_155 (n := 156) rfl (i := 1) rfl rfl ?_
        refine fv_ialdN C (t0 := 0) rfl d_M_perform_156 (n := 157) rfl (mc_1 hM) (by omega) (by decide) ?_
        rw [l1]
        refine fv_iconst C d_M_perform_157 (n := 158) rfl kI_3 ?_
        refine fv_icmpN_ne C (by omega) (by omega) d_M_perform_158 (tgt := 166) rfl (n := 161) rfl (fun hc158 => ?_) (fun hc158 => ?_)
        · refine fv_aload_n C d_M_perform_166 (n := 167) rfl (i := 0) rfl rfl ?_
          refine fv_get C (fl_M_7 D dA) d_M_perform_167 (n := 170) rfl hM.1 rfl ?_
          refine fv_iload_n C d_M_perform_170 (n := 171) rfl (i := 1) rfl rfl ?_
          refine fv_ialdN C (t0 := 0) rfl d_M_perform_171 (n := 172) rfl (mc_1 hM) (by omega) (by decide) ?_
          rw [l1]
          refine fv_iconst C d_M_perform_172 (n := 173) rfl kI_4 ?_
          refine fv_icmpN_ne C (by omega) (by omega) d_M_perform_173 (tgt := 195) rfl (n := 176) rfl (fun hc173 => ?_) (fun hc173 => ?_)
          · exact absurd rfl hc173
          · refine fv_aload_n C d_M_perform_176 (n := 177) rfl (i := 0) rfl rfl ?_
            refine fv_aload_n C d_M_perform_177 (n := 178) rfl (i := 0) rfl rfl ?_
            refine fv_get C (fl_M_28 D dA) d_M_perform_178 (n := 181) rfl hM.1 rfl ?_
            refine fv_iload_n C d_M_perform_181 (n := 182) rfl (i := 1) rfl rfl ?_
            refine fv_ialdN C (t0 := 0) rfl d_M_perform_182 (n := 183) rfl (mc_7 hM) (by omega) (by decide) ?_
            rw [l7]
            refine fv_iconst C d_M_perform_183 (n := 184) rfl kI_1 ?_
            refine fv_icmp_ne C d_M_perform_184 (tgt := 191) rfl (n := 187) rfl (fun hc184 => ?_) (fun hc184 => ?_)
            · have hv : decide (E0.2.2.2.2.2.2 = 1) = false := decide_eq_false hc184
              refine fv_iconst C d_M_perform_191 (n := 192) rfl kI_0 ?_
              refine mc_pbh C (decide (E0.2.2.2.2.2.2 = 1)) (by rw [hv]; rfl) (fl_M_118 D dA) d_M_perform_192 (n := 195) rfl hM hBs (fun h1 hM f1 => ?_)
              have hF := hF.tr f1 (U := MS m0) (fun x hx => hx) (fun x hx => hx)
              refine fv_aload_n C d_M_perform_195 (n := 196) rfl (i := 0) rfl rfl ?_
              refine fv_get C (fl_M_7 D dA) d_M_perform_196 (n := 199) rfl hM.1 rfl ?_
              refine fv_iload_n C d_M_perform_199 (n := 200) rfl (i := 1) rfl rfl ?_
              refine fv_ialdN C (t0 := 0) rfl d_M_perform_200 (n := 201) rfl (mc_1 hM) (by omega) (by decide) ?_
              rw [l1]
              refine fv_iconst C d_M_perform_201 (n := 202) rfl kI_5 ?_
              refine fv_icmpN_ne C (by omega) (by omega) d_M_perform_202 (tgt := 210) rfl (n := 205) rfl (fun hc202 => ?_) (fun hc202 => ?_)
              · refine fv_vret C rfl d_M_perform_210 (Nat.le_refl _) (Nat.le_refl _) ?_
                exact ⟨rfl, rfl, ⟨F, by rw [hap]; exact hM, by rw [hap]; exact hA, KE.rf _ _ _⟩, hF⟩
              · exact absurd hc202 (by decide)
            · have hv : decide (E0.2.2.2.2.2.2 = 1) = true := decide_eq_true hc184
              refine fv_iconst C d_M_perform_187 (n := 188) rfl kI_1 ?_
              refine fv_goto C d_M_perform_188 (tgt := 192) rfl ?_
              refine mc_pbh C (decide (E0.2.2.2.2.2.2 = 1)) (by rw [hv]; rfl) (fl_M_118 D dA) d_M_perform_192 (n := 195) rfl hM hBs (fun h1 hM f1 => ?_)
              have hF := hF.tr f1 (U := MS m0) (fun x hx => hx) (fun x hx => hx)
              refine fv_aload_n C d_M_perform_195 (n := 196) rfl (i := 0) rfl rfl ?_
              refine fv_get C (fl_M_7 D dA) d_M_perform_196 (n := 199) rfl hM.1 rfl ?_
              refine fv_iload_n C d_M_perform_199 (n := 200) rfl (i := 1) rfl rfl ?_
              refine fv_ialdN C (t0 := 0) rfl d_M_perform_200 (n := 201) rfl (mc_1 hM) (by omega) (by decide) ?_
              rw [l1]
              refine fv_iconst C d_M_perform_201 (n := 202) rfl kI_5 ?_
              refine fv_icmpN_ne C (by omega) (by omega) d_M_perform_202 (tgt := 210) rfl (n := 205) rfl (fun hc202 => ?_) (fun hc202 => ?_)
              · refine fv_vret C rfl d_M_perform_210 (Nat.le_refl _) (Nat.le_refl _) ?_
                exact ⟨rfl, rfl, ⟨F, by rw [hap]; exact hM, by rw [hap]; exact hA, KE.rf _ _ _⟩, hF⟩
              · exact absurd hc202 (by decide)
        · exact absurd hc158 (by decide)
      · exact absurd hc119 (by decide)
    · exact absurd hc97 (by decide)
  · exact absurd hc17 (by decide)
theorem ct_M_perform5 {log : List bo_E} {E0 : bo_E} {b : bo_B} {e : Nat} (hBs : Bs ≤ m0) (hM : MC dA h m0 ev pk b.1.length b.2 sh F) (he : e < 400) (hLG : LG F log) (hev : log[e]? = some E0) (hA : BA F b.1) (hwf : bo_wf b.1) (hs : E0.1 = 5) (hok : bo_ok b E0.1 E0.2.2.2.1 E0.2.2.2.2.2.2 = true) : fv_T l (fk D dA) Bs WA m_M_perform [.ref m0, .int (nI e)] sz h 0 0 (fp_v sz (fun h' => (∃ F', MC dA h' m0 ev pk (bo_apl b E0).1.length (bo_apl b E0).2 sh F' ∧ BA F' (bo_apl b E0).1 ∧ KE 10 13 F F') ∧ fs h h' (MS m0))) := by
  have hF : fs h h (MS m0) := fs_rf _ _
  obtain ⟨l1, l2, l3, l4, l5, l6, l7⟩ := hLG e E0 hev
  rw [hs] at l1
  have h24 := hwf.2.2.2
  have hap : bo_apl b E0 = ([], b.2) := by unfold bo_apl; rw [hs]; rfl
  refine fv_of (L := [_, _, _]) (by decide +kernel) rfl (Nat.le_of_ble_eq_true rfl) rfl ?_
  intro X hX C
  subst hX
  refine fv_aload_n C d_M_perform_0 (n := 1) rfl (i := 0) rfl rfl ?_
  refine fv_aload_n C d_M_perform_1 (n := 2) rfl (i := 0) rfl rfl ?_
  refine fv_get C (fl_M_19 D dA) d_M_perform_2 (n := 5) rfl hM.1 rfl ?_
  refine fv_iload_n C d_M_perform_5 (n := 6) rfl (i := 1) rfl rfl ?_
  refine fv_ialdN C (t0 := 0) rfl d_M_perform_6 (n := 7) rfl (mc_4 hM) (by omega) (by decide) ?_
  rw [l4]
  refine fv_callV_i C (ml_M_110 D dA) im_M_find se_M_find hM.1 rfl (ct_M_find hM rfl h24 hA) d_M_perform_7 (n := 10) rfl rfl rfl rfl (Nat.le_of_ble_eq_true rfl) (Nat.le_of_ble_eq_true rfl) (Nat.le_of_ble_eq_true rfl) (Nat.le_refl _) (Nat.le_refl _) (fun r0 h1 hp => ?_)
  obtain ⟨rfl, hfi⟩ := hp
  refine fv_istore_n C d_M_perform_10 (n := 11) rfl (i := 2) rfl (by decide) (L' := [_, _, _]) rfl ?_
  refine fv_aload_n C d_M_perform_11 (n := 12) rfl (i := 0) rfl rfl ?_
  refine fv_get C (fl_M_7 D dA) d_M_perform_12 (n := 15) rfl hM.1 rfl ?_
  refine fv_iload_n C d_M_perform_15 (n := 16) rfl (i := 1) rfl rfl ?_
  refine fv_ialdN C (t0 := 0) rfl d_M_perform_16 (n := 17) rfl (mc_1 hM) (by omega) (by decide) ?_
  rw [l1]
  refine fv_ifN_ne C (by omega) d_M_perform_17 (tgt := 90) rfl (n := 20) rfl (fun hc17 => ?_) (fun hc17 => ?_)
  · refine fv_aload_n C d_M_perform_90 (n := 91) rfl (i := 0) rfl rfl ?_
    refine fv_get C (fl_M_7 D dA) d_M_perform_91 (n := 94) rfl hM.1 rfl ?_
    refine fv_iload_n C d_M_perform_94 (n := 95) rfl (i := 1) rfl rfl ?_
    refine fv_ialdN C (t0 := 0) rfl d_M_perform_95 (n := 96) rfl (mc_1 hM) (by omega) (by decide) ?_
    rw [l1]
    refine fv_iconst C d_M_perform_96 (n := 97) rfl kI_1 ?_
    refine fv_icmpN_ne C (by omega) (by omega) d_M_perform_97 (tgt := 112) rfl (n := 100) rfl (fun hc97 => ?_) (fun hc97 => ?_)
    · refine fv_aload_n C d_M_perform_112 (n := 113) rfl (i := 0) rfl rfl ?_
      refine fv_get C (fl_M_7 D dA) d_M_perform_113 (n := 116) rfl hM.1 rfl ?_
      refine fv_iload_n C d_M_perform_116 (n := 117) rfl (i := 1) rfl rfl ?_
      refine fv_ialdN C (t0 := 0) rfl d_M_perform_117 (n := 118) rfl (mc_1 hM) (by omega) (by decide) ?_
      rw [l1]
      refine fv_iconst C d_M_perform_118 (n := 119) rfl kI_2 ?_
      refine fv_icmpN_ne C (by omega) (by omega) d_M_perform_119 (tgt := 151) rfl (n := 122) rfl (fun hc119 => ?_) (fun hc119 => ?_)
      · refine fv_aload_n C d_M_perform_151 (n := 152) rfl (i := 0) rfl rfl ?_
        refine fv_get C (fl_M_7 D dA) d_M_perform_152 (n := 155) rfl hM.1 rfl ?_
        refine fv_iload_n C d_M_perform_155 (n := 156) rfl (i := 1) rfl rfl ?_
        refine fv_ialdN C (t0 := 0) rfl d_M_perform_156 (n := 157) rfl (mc_1 hM) (by omega) (by decide) ?_
        rw [l1]
        refine fv_iconst C d_M_perform_157 (n := 158) rfl kI_3 ?_
        refine fv_icmpN_ne C (by omega) (by omega) d_M_perform_158 (tgt := 166) rfl (n := 161) rfl (fun hc158 => ?_) (fun hc158 => ?_)
        · refine fv_aload_n C d_M_perform_166 (n := 167) rfl (i := 0) rfl rfl ?_
          refine fv_get C (fl_M_7 D dA) d_M_perform_167 (n := 170) rfl hM.1 rfl ?_
          refine fv_iload_n C d_M_perform_170 (n := 171) rfl (i := 1) rfl rfl ?_
          refine fv_ialdN C (t0 := 0) rfl d_M_perform_171 (n := 172) rfl (mc_1 hM) (by omega) (by decide) ?_
          rw [l1]
          refine fv_iconst C d_M_perform_172 (n := 173) rfl kI_4 ?_
          refine fv_icmpN_ne C (by omega) (by omega) d_M_perform_173 (tgt := 195) rfl (n := 176) rfl (fun hc173 => ?_) (fun hc173 => ?_)
          · refine fv_aload_n C d_M_perform_195 (n := 196) rfl (i := 0) rfl rfl ?_
            refine fv_get C (fl_M_7 D dA) d_M_perform_196 (n := 199) rfl hM.1 rfl ?_
            refine fv_iload_n C d_M_perform_199 (n := 200) rfl (i := 1) rfl rfl ?_
            refine fv_ialdN C (t0 := 0) rfl d_M_perform_200 (n := 201) rfl (mc_1 hM) (by omega) (by decide) ?_
            rw [l1]
            refine fv_iconst C d_M_perform_201 (n := 202) rfl kI_5 ?_
            refine fv_icmpN_ne C (by omega) (by omega) d_M_perform_202 (tgt := 210) rfl (n := 205) rfl (fun hc202 => ?_) (fun hc202 => ?_)
            · exact absurd rfl hc202
            · refine fv_aload_n C d_M_perform_205 (n := 206) rfl (i := 0) rfl rfl ?_
              refine fv_iconst C d_M_perform_206 (n := 207) rfl kI_0 ?_
              refine mc_pbl C (fl_M_106 D dA) d_M_perform_207 (n := 210) rfl hM hBs (fun h1 hM f1 => ?_)
              have hF := hF.tr f1 (U := MS m0) (fun x hx => hx) (fun x hx => hx)
              refine fv_vret C rfl d_M_perform_210 (Nat.le_refl _) (Nat.le_refl _) ?_
              exact ⟨rfl, rfl, ⟨F, by rw [hap]; exact hM, by rw [hap]; exact fun j o hj => absurd hj (by simp), KE.rf _ _ _⟩, hF⟩
          · exact absurd hc173 (by decide)
        · exact absurd hc158 (by decide)
      · exact absurd hc119 (by decide)
    · exact absurd hc97 (by decide)
  · exact absurd hc17 (by decide)
theorem ct_M_perform {log : List bo_E} {E0 : bo_E} {b : bo_B} {e : Nat} (hBs : Bs ≤ m0) (hM : MC dA h m0 ev pk b.1.length b.2 sh F) (he : e < 400) (hLG : LG F log) (hev : log[e]? = some E0) (hA : BA F b.1) (hwf : bo_wf b.1) (hew : bo_ewf E0) (hok : bo_ok b E0.1 E0.2.2.2.1 E0.2.2.2.2.2.2 = true) : fv_T l (fk D dA) Bs WA m_M_perform [.ref m0, .int (nI e)] sz h 0 0 (fp_v sz (fun h' => (∃ F', MC dA h' m0 ev pk (bo_apl b E0).1.length (bo_apl b E0).2 sh F' ∧ BA F' (bo_apl b E0).1 ∧ KE 10 13 F F') ∧ fs h h' (MS m0))) := by
  have h5 := hew.1
  rcases (show E0.1 = 0 ∨ E0.1 = 1 ∨ E0.1 = 2 ∨ E0.1 = 3 ∨ E0.1 = 4 ∨ E0.1 = 5 by omega) with hs | hs | hs | hs | hs | hs
  · exact ct_M_perform0 hBs hM he hLG hev hA hwf hs hok
  · exact ct_M_perform1 hBs hM he hLG hev hA hwf hs hok
  · exact ct_M_perform2 hBs hM he hLG hev hA hwf hs hok
  · exact ct_M_perform3 hBs hM he hLG hev hA hwf hs hok
  · exact ct_M_perform4 hBs hM he hLG hev hA hwf hs hok
  · exact ct_M_perform5 hBs hM he hLG hev hA hwf hs hok
theorem ct_M_goOver {log : List bo_E} {i n : Nat} (hBs : Bs ≤ m0) (hM : MC dA h m0 log.length pk bl bh sh F) (hLG : LG F log) (hok : fe_ok log) (hsm : ev_sm log) (hi : i < 4) (hn : n ≤ 400) : fv_T l (fk D dA) Bs WA m_M_goOver [.ref m0, .int (nI i), .int (nI n)] sz h 0 0 (fp_v sz (fun h' => (∃ F', MC dA h' m0 log.length pk (fe_bk log i n).1.length (fe_bk log i n).2 sh F' ∧ BA F' (fe_bk log i n).1 ∧ KE 10 13 F F') ∧ fs h h' (MS m0))) := by
  have hF : fs h h (MS m0) := fs_rf _ _
  have hl4 := hsm.1
  refine fv_of (L := [_, _, _, _]) (by decide +kernel) rfl (Nat.le_of_ble_eq_true rfl) rfl ?_
  intro X hX C
  subst hX
  have loop : ∀ k e (h1 : fv_H) (F1 : Nat → Nat → Int32), e + k = log.length → MC dA h1 m0 log.length pk (fe_bk (log.take e) i n).1.length (fe_bk (log.take e) i n).2 sh F1 → BA F1 (fe_bk (log.take e) i n).1 → KE 10 13 F F1 → fs h h1 (MS m0) → fv_V (fk D dA) Bs X 4 (fv_MQ (fk D dA) Bs X (fp_v sz (fun h' => (∃ F', MC dA h' m0 log.length pk (fe_bk log i n).1.length (fe_bk log i n).2 sh F' ∧ BA F' (fe_bk log i n).1 ∧ KE 10 13 F F') ∧ fs h h' (MS m0))) 0 0) 12 [some (.ref m0), some (.int (nI i)), some (.int (nI n)), some (.int (nI e))] [] sz h1 0 0 := by
    intro k
    induction k with
    | zero =>
      intro e h1 F1 he hM hA hK hF
      have he2 : e = log.length := by omega
      rw [he2, List.take_length] at hM hA
      refine fv_iload_n C d_M_goOver_12 (n := 13) rfl (i := 3) rfl rfl ?_
      refine fv_aload_n C d_M_goOver_13 (n := 14) rfl (i := 0) rfl rfl ?_
      refine fv_get C (fl_M_122 D dA) d_M_goOver_14 (n := 17) rfl hM.1 rfl ?_
      refine fv_icmpN_ge C (by omega) (by omega) d_M_goOver_17 (tgt := 51) rfl (n := 20) rfl (fun hc17 => ?_) (fun hc17 => ?_)
      · refine fv_vret C rfl d_M_goOver_51 (Nat.le_refl _) (Nat.le_refl _) ?_
        exact ⟨rfl, rfl, ⟨F1, hM, hA, hK⟩, hF⟩
      · exact absurd hc17 (by omega)
    | succ k ih =>
      intro e h1 F1 he hM hA hK hF
      obtain ⟨E0, hE0⟩ : ∃ E0, log[e]? = some E0 := ⟨_, List.getElem?_eq_getElem (by omega)⟩
      have hLG1 := hLG.ke hK (by decide)
      obtain ⟨l1, l2, l3, -, -, -, -⟩ := hLG1 e E0 hE0
      have hn4 := hsm.2 e E0 hE0
      have hi4 := (hok _ _ _ (fe_num_take hok hE0).2).2.1.2.1
      refine fv_iload_n C d_M_goOver_12 (n := 13) rfl (i := 3) rfl rfl ?_
      refine fv_aload_n C d_M_goOver_13 (n := 14) rfl (i := 0) rfl rfl ?_
      refine fv_get C (fl_M_122 D dA) d_M_goOver_14 (n := 17) rfl hM.1 rfl ?_
      refine fv_icmpN_ge C (by omega) (by omega) d_M_goOver_17 (tgt := 51) rfl (n := 20) rfl (fun hc17 => ?_) (fun hc17 => ?_)
      · exact absurd hc17 (by omega)
      · refine fv_aload_n C d_M_goOver_20 (n := 21) rfl (i := 0) rfl rfl ?_
        refine fv_get C (fl_M_13 D dA) d_M_goOver_21 (n := 24) rfl hM.1 rfl ?_
        refine fv_iload_n C d_M_goOver_24 (n := 25) rfl (i := 3) rfl rfl ?_
        refine fv_ialdN C (t0 := 0) rfl d_M_goOver_25 (n := 26) rfl (mc_2 hM) (by omega) (by decide) ?_
        rw [l2]
        refine fv_iload_n C d_M_goOver_26 (n := 27) rfl (i := 1) rfl rfl ?_
        refine fv_icmpN_ne C (by omega) (by omega) d_M_goOver_27 (tgt := 45) rfl (n := 30) rfl (fun hc27 => ?_) (fun hc27 => ?_)
        · have hno : ¬ (E0.2.1 = i ∧ E0.2.2.1 ≤ n) := fun q => hc27 q.1
          have hnx := go_no hok hE0 hno
          have hM : MC dA h1 m0 log.length pk (fe_bk (log.take (e + 1)) i n).1.length (fe_bk (log.take (e + 1)) i n).2 sh F1 := by rw [hnx]; exact hM
          have hA : BA F1 (fe_bk (log.take (e + 1)) i n).1 := by rw [hnx]; exact hA
          refine fv_iincN C d_M_goOver_45 (n := 48) rfl rfl (by decide) (L' := [_, _, _, _]) rfl ?_
          refine fv_goto C d_M_goOver_48 (tgt := 12) rfl ?_
          exact ih (e + 1) _ _ (by omega) hM hA hK hF
        · refine fv_aload_n C d_M_goOver_30 (n := 31) rfl (i := 0) rfl rfl ?_
          refine fv_get C (fl_M_16 D dA) d_M_goOver_31 (n := 34) rfl hM.1 rfl ?_
          refine fv_iload_n C d_M_goOver_34 (n := 35) rfl (i := 3) rfl rfl ?_
          refine fv_ialdN C (t0 := 0) rfl d_M_goOver_35 (n := 36) rfl (mc_3 hM) (by omega) (by decide) ?_
          rw [l3]
          refine fv_iload_n C d_M_goOver_36 (n := 37) rfl (i := 2) rfl rfl ?_
          refine fv_icmpN_gt C (by omega) (by omega) d_M_goOver_37 (tgt := 45) rfl (n := 40) rfl (fun hc37 => ?_) (fun hc37 => ?_)
          · have hno : ¬ (E0.2.1 = i ∧ E0.2.2.1 ≤ n) := fun q => by omega
            have hnx := go_no hok hE0 hno
            have hM : MC dA h1 m0 log.length pk (fe_bk (log.take (e + 1)) i n).1.length (fe_bk (log.take (e + 1)) i n).2 sh F1 := by rw [hnx]; exact hM
            have hA : BA F1 (fe_bk (log.take (e + 1)) i n).1 := by rw [hnx]; exact hA
            refine fv_iincN C d_M_goOver_45 (n := 48) rfl rfl (by decide) (L' := [_, _, _, _]) rfl ?_
            refine fv_goto C d_M_goOver_48 (tgt := 12) rfl ?_
            exact ih (e + 1) _ _ (by omega) hM hA hK hF
          · obtain ⟨y1, y2, y3⟩ := go_yes hok hE0 hc27 (by omega)
            refine fv_aload_n C d_M_goOver_40 (n := 41) rfl (i := 0) rfl rfl ?_
            refine fv_iload_n C d_M_goOver_41 (n := 42) rfl (i := 3) rfl rfl ?_
            refine fv_callV_v C (ml_M_125 D dA) im_M_perform se_M_perform hM.1 rfl (ct_M_perform hBs hM (by omega) hLG1 hE0 hA (go_wf hok i n e) y2 y3) d_M_goOver_42 (n := 45) rfl rfl rfl rfl (Nat.le_of_ble_eq_true rfl) (Nat.le_of_ble_eq_true rfl) (Nat.le_of_ble_eq_true rfl) (Nat.le_refl _) (Nat.le_refl _) (fun h1 hp => ?_)
            obtain ⟨⟨F8, hM, hA, k8⟩, f1⟩ := hp
            rw [← y1] at hM hA
            have hF := hF.tr f1 (U := MS m0) (fun x hx => hx) (fun x hx => hx)
            have hK := hK.tr k8 (lo := 10) (hi := 13) (by decide) (by decide) (by decide) (by decide)
            refine fv_iincN C d_M_goOver_45 (n := 48) rfl rfl (by decide) (L' := [_, _, _, _]) rfl ?_
            refine fv_goto C d_M_goOver_48 (tgt := 12) rfl ?_
            exact ih (e + 1) _ _ (by omega) hM hA hK hF
  refine fv_aload_n C d_M_goOver_0 (n := 1) rfl (i := 0) rfl rfl ?_
  refine fv_iconst C d_M_goOver_1 (n := 2) rfl kI_0 ?_
  refine mc_pbl C (fl_M_106 D dA) d_M_goOver_2 (n := 5) rfl hM hBs (fun h1 hM f1 => ?_)
  have hF := hF.tr f1 (U := MS m0) (fun x hx => hx) (fun x hx => hx)
  refine fv_aload_n C d_M_goOver_5 (n := 6) rfl (i := 0) rfl rfl ?_
  refine fv_iconst C d_M_goOver_6 (n := 7) rfl kI_0 ?_
  refine mc_pbh C false rfl (fl_M_118 D dA) d_M_goOver_7 (n := 10) rfl hM hBs (fun h1 hM f1 => ?_)
  have hF := hF.tr f1 (U := MS m0) (fun x hx => hx) (fun x hx => hx)
  refine fv_iconst C d_M_goOver_10 (n := 11) rfl kI_0 ?_
  refine fv_istore_n C d_M_goOver_11 (n := 12) rfl (i := 3) rfl (by decide) (L' := [_, _, _, _]) rfl ?_
  exact loop log.length 0 _ F (by omega) (by rw [List.take_zero, fe_bk_nil]; exact hM) (by rw [List.take_zero, fe_bk_nil]; exact fun j o hj => absurd hj (by simp)) (KE.rf _ _ _) hF
end MD2
