/-! Event -/
theorem nf_no (own : String) (idx : Nat) (h : (fk_NF.all fun w => !(decide (w.1 = own) && decide (w.2.1 = idx))) = true) : ∀ host C0 nm ds : String, (own, idx, C0, nm, ds, host) ∉ fk_NF := by
  intro host C0 nm ds hm
  have := List.all_eq_true.mp h _ hm
  simp at this
def ev_by (x i : Int32) : Int32 := (x.toUInt32 >>> ((nI 24 - nI 8 * i).toUInt32 &&& Int32.toUInt32 31)).toInt32 &&& nI 255
/-- byte j of an event -/
def ev_bt (e : bo_E) (j : Nat) : Int32 := if j = 0 then nI e.1 else if j = 1 then nI e.2.1 else if j < 6 then ev_by (nI e.2.2.1) (nI (j - 2)) else if j < 10 then ev_by e.2.2.2.1 (nI (j - 6)) else if j = 10 then nI e.2.2.2.2.1 else if j < 15 then ev_by e.2.2.2.2.2.1 (nI (j - 11)) else ev_by e.2.2.2.2.2.2 (nI (j - 15))
def ev_cell (e : bo_E) : va_E := .inr (2, [.int (nI e.1), .int (nI e.2.1), .int (nI e.2.2.1), .int e.2.2.2.1, .int (nI e.2.2.2.2.1), .int e.2.2.2.2.2.1, .int e.2.2.2.2.2.2])
section EVW
variable {l : Launch} {D : va_G} {dA : Nat → ClassId} {Bs sz : Nat} {h : fv_H} {a : Nat}
theorem ct_E_init {q so ins num s : Nat} {id pr v : Int32} (hq : h q = some (.inr (2, [.int 0, .int 0, .int 0, .int 0, .int 0, .int 0, .int 0]))) (hBs : Bs ≤ q) : fv_T l (fk D dA) Bs WA m_E_init [.ref q, .int (nI so), .int (nI ins), .int (nI num), .int id, .int (nI s), .int pr, .int v] sz h 0 0 (fp_v sz (fun h' => h' = va_up h q (some (ev_cell (so, ins, num, id, s, pr, v))))) := by
  refine fv_of (L := [_, _, _, _, _, _, _, _]) (by decide +kernel) rfl (Nat.le_of_ble_eq_true rfl) rfl ?_
  intro X hX C
  subst hX
  refine fv_aload_n C d_E_init_0 (n := 1) rfl (i := 0) rfl rfl ?_
  refine fv_objInit C nl_E_1 n_oi n_oc d_E_init_1 (n := 4) rfl rfl (Nat.le_of_ble_eq_true rfl) (Nat.le_of_ble_eq_true rfl) ?_
  refine fv_aload_n C d_E_init_4 (n := 5) rfl (i := 0) rfl rfl ?_
  refine fv_iload_n C d_E_init_5 (n := 6) rfl (i := 1) rfl rfl ?_
  refine fv_put C (fl_E_7 D dA) (Or.inr ⟨rfl, rfl, _, rfl, nf_no _ _ (by decide +kernel)⟩) d_E_init_6 (n := 9) rfl hq hBs rfl rfl (Nat.le_of_ble_eq_true rfl) ?_
  refine fv_aload_n C d_E_init_9 (n := 10) rfl (i := 0) rfl rfl ?_
  refine fv_iload_n C d_E_init_10 (n := 11) rfl (i := 2) rfl rfl ?_
  refine fv_put C (fl_E_13 D dA) (Or.inr ⟨rfl, rfl, _, rfl, nf_no _ _ (by decide +kernel)⟩) d_E_init_11 (n := 14) rfl (va_up_self _ _ _) hBs rfl rfl (Nat.le_of_ble_eq_true rfl) ?_
  rw [bx_uu]
  refine fv_aload_n C d_E_init_14 (n := 15) rfl (i := 0) rfl rfl ?_
  refine fv_iload_n C d_E_init_15 (n := 16) rfl (i := 3) rfl rfl ?_
  refine fv_put C (fl_E_16 D dA) (Or.inr ⟨rfl, rfl, _, rfl, nf_no _ _ (by decide +kernel)⟩) d_E_init_16 (n := 19) rfl (va_up_self _ _ _) hBs rfl rfl (Nat.le_of_ble_eq_true rfl) ?_
  rw [bx_uu]
  refine fv_aload_n C d_E_init_19 (n := 20) rfl (i := 0) rfl rfl ?_
  refine fv_iload C d_E_init_20 (n := 22) rfl rfl ?_
  refine fv_put C (fl_E_19 D dA) (Or.inr ⟨rfl, rfl, _, rfl, nf_no _ _ (by decide +kernel)⟩) d_E_init_22 (n := 25) rfl (va_up_self _ _ _) hBs rfl rfl (Nat.le_of_ble_eq_true rfl) ?_
  rw [bx_uu]
  refine fv_aload_n C d_E_init_25 (n := 26) rfl (i := 0) rfl rfl ?_
  refine fv_iload C d_E_init_26 (n := 28) rfl rfl ?_
  refine fv_put C (fl_E_22 D dA) (Or.inr ⟨rfl, rfl, _, rfl, nf_no _ _ (by decide +kernel)⟩) d_E_init_28 (n := 31) rfl (va_up_self _ _ _) hBs rfl rfl (Nat.le_of_ble_eq_true rfl) ?_
  rw [bx_uu]
  refine fv_aload_n C d_E_init_31 (n := 32) rfl (i := 0) rfl rfl ?_
  refine fv_iload C d_E_init_32 (n := 34) rfl rfl ?_
  refine fv_put C (fl_E_25 D dA) (Or.inr ⟨rfl, rfl, _, rfl, nf_no _ _ (by decide +kernel)⟩) d_E_init_34 (n := 37) rfl (va_up_self _ _ _) hBs rfl rfl (Nat.le_of_ble_eq_true rfl) ?_
  rw [bx_uu]
  refine fv_aload_n C d_E_init_37 (n := 38) rfl (i := 0) rfl rfl ?_
  refine fv_iload C d_E_init_38 (n := 40) rfl rfl ?_
  refine fv_put C (fl_E_28 D dA) (Or.inr ⟨rfl, rfl, _, rfl, nf_no _ _ (by decide +kernel)⟩) d_E_init_40 (n := 43) rfl (va_up_self _ _ _) hBs rfl rfl (Nat.le_of_ble_eq_true rfl) ?_
  rw [bx_uu]
  refine fv_vret C rfl d_E_init_43 (Nat.le_refl _) (Nat.le_refl _) ?_
  exact ⟨rfl, rfl, rfl⟩
theorem ct_E_byteOf {x i : Int32} : fv_T l (fk D dA) Bs WA m_E_byteOf [.int x, .int i] sz h 0 0 (fp_r (.int (ev_by x i)) sz h) := by
  refine fv_of (L := [_, _]) (by decide +kernel) rfl (Nat.le_of_ble_eq_true rfl) rfl ?_
  intro X hX C
  subst hX
  refine fv_iload_n C d_E_byteOf_0 (n := 1) rfl (i := 0) rfl rfl ?_
  refine fv_bipush C d_E_byteOf_1 (n := 3) rfl kB_24 ?_
  refine fv_bipush C d_E_byteOf_3 (n := 5) rfl kB_8 ?_
  refine fv_iload_n C d_E_byteOf_5 (n := 6) rfl (i := 1) rfl rfl ?_
  refine fv_imul C d_E_byteOf_6 (n := 7) rfl ?_
  refine fv_isub C d_E_byteOf_7 (n := 8) rfl ?_
  refine fv_iushr C d_E_byteOf_8 (n := 9) rfl rfl ?_
  refine fv_sipush C d_E_byteOf_9 (n := 12) rfl kS_255 ?_
  refine fv_iand C d_E_byteOf_12 (n := 13) rfl ?_
  refine fv_iret C rfl d_E_byteOf_13 (Nat.le_refl _) (Nat.le_refl _) ?_
  exact ⟨rfl, rfl, rfl⟩
theorem ct_E_byteAt {ev : bo_E} {j : Nat} (hj : j < 19) (hE : EV h a ev) : fv_T l (fk D dA) Bs WA m_E_byteAt [.ref a, .int (nI j)] sz h 0 0 (fp_r (.int (ev_bt ev j)) sz h) := by
  refine fv_of (L := [_, _]) (by decide +kernel) rfl (Nat.le_of_ble_eq_true rfl) rfl ?_
  intro X hX C
  subst hX
  refine fv_iload_n C d_E_byteAt_0 (n := 1) rfl (i := 1) rfl rfl ?_
  refine fv_ifN_ne C (by omega) d_E_byteAt_1 (tgt := 9) rfl (n := 4) rfl (fun hc1 => ?_) (fun hc1 => ?_)
  · refine fv_iload_n C d_E_byteAt_9 (n := 10) rfl (i := 1) rfl rfl ?_
    refine fv_iconst C d_E_byteAt_10 (n := 11) rfl kI_1 ?_
    refine fv_icmpN_ne C (by omega) (by omega) d_E_byteAt_11 (tgt := 19) rfl (n := 14) rfl (fun hc11 => ?_) (fun hc11 => ?_)
    · refine fv_iload_n C d_E_byteAt_19 (n := 20) rfl (i := 1) rfl rfl ?_
      refine fv_bipush C d_E_byteAt_20 (n := 22) rfl kB_6 ?_
      refine fv_icmpN_ge C (by omega) (by omega) d_E_byteAt_22 (tgt := 36) rfl (n := 25) rfl (fun hc22 => ?_) (fun hc22 => ?_)
      · refine fv_iload_n C d_E_byteAt_36 (n := 37) rfl (i := 1) rfl rfl ?_
        refine fv_bipush C d_E_byteAt_37 (n := 39) rfl kB_10 ?_
        refine fv_icmpN_ge C (by omega) (by omega) d_E_byteAt_39 (tgt := 54) rfl (n := 42) rfl (fun hc39 => ?_) (fun hc39 => ?_)
        · refine fv_iload_n C d_E_byteAt_54 (n := 55) rfl (i := 1) rfl rfl ?_
          refine fv_bipush C d_E_byteAt_55 (n := 57) rfl kB_10 ?_
          refine fv_icmpN_ne C (by omega) (by omega) d_E_byteAt_57 (tgt := 65) rfl (n := 60) rfl (fun hc57 => ?_) (fun hc57 => ?_)
          · refine fv_iload_n C d_E_byteAt_65 (n := 66) rfl (i := 1) rfl rfl ?_
            refine fv_bipush C d_E_byteAt_66 (n := 68) rfl kB_15 ?_
            refine fv_icmpN_ge C (by omega) (by omega) d_E_byteAt_68 (tgt := 85) rfl (n := 71) rfl (fun hc68 => ?_) (fun hc68 => ?_)
            · refine fv_aload_n C d_E_byteAt_85 (n := 86) rfl (i := 0) rfl rfl ?_
              refine fv_get C (fl_E_28 D dA) d_E_byteAt_86 (n := 89) rfl hE rfl ?_
              refine fv_iload_n C d_E_byteAt_89 (n := 90) rfl (i := 1) rfl rfl ?_
              refine fv_bipush C d_E_byteAt_90 (n := 92) rfl kB_15 ?_
              refine fv_isubN C (by omega) d_E_byteAt_92 (n := 93) rfl ?_
              refine fv_callS_r C (ml_E_31 D dA) sm_E_byteOf ct_E_byteOf d_E_byteAt_93 (n := 96) rfl rfl rfl rfl (Nat.le_of_ble_eq_true rfl) (Nat.le_of_ble_eq_true rfl) (Nat.le_of_ble_eq_true rfl) (Nat.le_refl _) (Nat.le_refl _) ?_
              refine fv_iret C rfl d_E_byteAt_96 (Nat.le_refl _) (Nat.le_refl _) ?_
              refine ⟨?_, rfl, rfl⟩
              unfold ev_bt
              repeat first | rw [if_neg (by omega)] | rw [if_pos (by omega)]
            · refine fv_aload_n C d_E_byteAt_71 (n := 72) rfl (i := 0) rfl rfl ?_
              refine fv_get C (fl_E_25 D dA) d_E_byteAt_72 (n := 75) rfl hE rfl ?_
              refine fv_iload_n C d_E_byteAt_75 (n := 76) rfl (i := 1) rfl rfl ?_
              refine fv_bipush C d_E_byteAt_76 (n := 78) rfl kB_11 ?_
              refine fv_isubN C (by omega) d_E_byteAt_78 (n := 79) rfl ?_
              refine fv_callS_r C (ml_E_31 D dA) sm_E_byteOf ct_E_byteOf d_E_byteAt_79 (n := 82) rfl rfl rfl rfl (Nat.le_of_ble_eq_true rfl) (Nat.le_of_ble_eq_true rfl) (Nat.le_of_ble_eq_true rfl) (Nat.le_refl _) (Nat.le_refl _) ?_
              refine fv_goto C d_E_byteAt_82 (tgt := 96) rfl ?_
              refine fv_iret C rfl d_E_byteAt_96 (Nat.le_refl _) (Nat.le_refl _) ?_
              refine ⟨?_, rfl, rfl⟩
              unfold ev_bt
              repeat first | rw [if_neg (by omega)] | rw [if_pos (by omega)]
          · refine fv_aload_n C d_E_byteAt_60 (n := 61) rfl (i := 0) rfl rfl ?_
            refine fv_get C (fl_E_22 D dA) d_E_byteAt_61 (n := 64) rfl hE rfl ?_
            refine fv_iret C rfl d_E_byteAt_64 (Nat.le_refl _) (Nat.le_refl _) ?_
            refine ⟨?_, rfl, rfl⟩
            unfold ev_bt
            repeat first | rw [if_neg (by omega)] | rw [if_pos (by omega)]
        · refine fv_aload_n C d_E_byteAt_42 (n := 43) rfl (i := 0) rfl rfl ?_
          refine fv_get C (fl_E_19 D dA) d_E_byteAt_43 (n := 46) rfl hE rfl ?_
          refine fv_iload_n C d_E_byteAt_46 (n := 47) rfl (i := 1) rfl rfl ?_
          refine fv_bipush C d_E_byteAt_47 (n := 49) rfl kB_6 ?_
          refine fv_isubN C (by omega) d_E_byteAt_49 (n := 50) rfl ?_
          refine fv_callS_r C (ml_E_31 D dA) sm_E_byteOf ct_E_byteOf d_E_byteAt_50 (n := 53) rfl rfl rfl rfl (Nat.le_of_ble_eq_true rfl) (Nat.le_of_ble_eq_true rfl) (Nat.le_of_ble_eq_true rfl) (Nat.le_refl _) (Nat.le_refl _) ?_
          refine fv_iret C rfl d_E_byteAt_53 (Nat.le_refl _) (Nat.le_refl _) ?_
          refine ⟨?_, rfl, rfl⟩
          unfold ev_bt
          repeat first | rw [if_neg (by omega)] | rw [if_pos (by omega)]
      · refine fv_aload_n C d_E_byteAt_25 (n := 26) rfl (i := 0) rfl rfl ?_
        refine fv_get C (fl_E_16 D dA) d_E_byteAt_26 (n := 29) rfl hE rfl ?_
        refine fv_iload_n C d_E_byteAt_29 (n := 30) rfl (i := 1) rfl rfl ?_
        refine fv_iconst C d_E_byteAt_30 (n := 31) rfl kI_2 ?_
        refine fv_isubN C (by omega) d_E_byteAt_31 (n := 32) rfl ?_
        refine fv_callS_r C (ml_E_31 D dA) sm_E_byteOf ct_E_byteOf d_E_byteAt_32 (n := 35) rfl rfl rfl rfl (Nat.le_of_ble_eq_true rfl) (Nat.le_of_ble_eq_true rfl) (Nat.le_of_ble_eq_true rfl) (Nat.le_refl _) (Nat.le_refl _) ?_
        refine fv_iret C rfl d_E_byteAt_35 (Nat.le_refl _) (Nat.le_refl _) ?_
        refine ⟨?_, rfl, rfl⟩
        unfold ev_bt
        repeat first | rw [if_neg (by omega)] | rw [if_pos (by omega)]
    · refine fv_aload_n C d_E_byteAt_14 (n := 15) rfl (i := 0) rfl rfl ?_
      refine fv_get C (fl_E_13 D dA) d_E_byteAt_15 (n := 18) rfl hE rfl ?_
      refine fv_iret C rfl d_E_byteAt_18 (Nat.le_refl _) (Nat.le_refl _) ?_
      refine ⟨?_, rfl, rfl⟩
      unfold ev_bt
      repeat first | rw [if_neg (by omega)] | rw [if_pos (by omega)]
  · refine fv_aload_n C d_E_byteAt_4 (n := 5) rfl (i := 0) rfl rfl ?_
    refine fv_get C (fl_E_7 D dA) d_E_byteAt_5 (n := 8) rfl hE rfl ?_
    refine fv_iret C rfl d_E_byteAt_8 (Nat.le_refl _) (Nat.le_refl _) ?_
    refine ⟨?_, rfl, rfl⟩
    unfold ev_bt
    repeat first | rw [if_neg (by omega)] | rw [if_pos (by omega)]
end EVW
