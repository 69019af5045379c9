/-! Receiver -/
def VCr (dA : Nat → ClassId) (h : fv_H) (a : Nat) (pub : Nat) (nx : Nat) (hg : Nat) (kp : Nat → Bool) (ak : Nat) : Prop := h (a) = some (.inr (5, [.ref pub, .ref (a + 1), .int (nI nx), .int (nI hg), .ref (a + 2), .int (nI ak)])) ∧ h (a + 1) = some (.inl (dA 7, 4, .inr (.inr (.inr (.inr (fun j => if j < 4 then some (a + 3 + 7 * j) else none)))))) ∧ h (a + 2) = some (.inl (dA 1, 8, .inl (fun j => fv_b (kp j))))
section VCrS
variable {D : va_G} {dA : Nat → ClassId} {Bs : Nat} {X : fv_X} {M : fv_M} {mc ms nL : Nat} {Q : State → Prop} {pc n : Nat} {L L' : List (Option Value)} {st : List Value} {sz : Nat} {h : fv_H} {cells slots : Nat} {a : Nat} {pub : Nat} {nx : Nat} {hg : Nat} {kp : Nat → Bool} {ak : Nat}
theorem VCr.fs {h' : fv_H} {S : Nat → Prop} (hO : VCr dA h a pub nx hg kp ak) (hf : fs h h' S) (hd : ¬ S (a) ∧ ¬ S (a + 1) ∧ ¬ S (a + 2)) : VCr dA h' a pub nx hg kp ak := by
  exact ⟨(hf _ hd.1).trans hO.1, (hf _ hd.2.1).trans hO.2.1, (hf _ hd.2.2).trans hO.2.2⟩
theorem vc_pnx (C : fv_C (fk D dA) WA X M mc ms) {idx : Nat} {v : Nat} (F : fv_FL (fk D dA) WA M.1.cls idx 5 2 .int false) (hd : decode M.2.1 pc = .ok (.putfield idx, 3)) (hn : pc + 3 = n) (hO : VCr dA h a pub nx hg kp ak) (hBs : Bs ≤ a) (kk : ∀ h' : fv_H, VCr dA h' a pub v hg kp ak → fs h h' (fun z => z = a) → fv_V (fk D dA) Bs X nL Q n L st sz h' cells slots) : fv_V (fk D dA) Bs X nL Q pc L (.int (nI v) :: .ref (a) :: st) sz h cells slots := by
  refine fv_put C F (Or.inl rfl) hd hn hO.1 (by omega) rfl rfl (Nat.le_of_ble_eq_true rfl) ?_
  refine kk _ ⟨?_, ?_, ?_⟩ (fun z hz => va_up_ne _ _ hz)
  · exact va_up_self _ _ _
  · rw [va_up_ne _ _ (by omega)]; exact hO.2.1
  · rw [va_up_ne _ _ (by omega)]; exact hO.2.2
theorem vc_phg (C : fv_C (fk D dA) WA X M mc ms) {idx : Nat} {v : Nat} (F : fv_FL (fk D dA) WA M.1.cls idx 5 3 .int false) (hd : decode M.2.1 pc = .ok (.putfield idx, 3)) (hn : pc + 3 = n) (hO : VCr dA h a pub nx hg kp ak) (hBs : Bs ≤ a) (kk : ∀ h' : fv_H, VCr dA h' a pub nx v kp ak → fs h h' (fun z => z = a) → fv_V (fk D dA) Bs X nL Q n L st sz h' cells slots) : fv_V (fk D dA) Bs X nL Q pc L (.int (nI v) :: .ref (a) :: st) sz h cells slots := by
  refine fv_put C F (Or.inl rfl) hd hn hO.1 (by omega) rfl rfl (Nat.le_of_ble_eq_true rfl) ?_
  refine kk _ ⟨?_, ?_, ?_⟩ (fun z hz => va_up_ne _ _ hz)
  · exact va_up_self _ _ _
  · rw [va_up_ne _ _ (by omega)]; exact hO.2.1
  · rw [va_up_ne _ _ (by omega)]; exact hO.2.2
theorem vc_pak (C : fv_C (fk D dA) WA X M mc ms) {idx : Nat} {v : Nat} (F : fv_FL (fk D dA) WA M.1.cls idx 5 5 .int false) (hd : decode M.2.1 pc = .ok (.putfield idx, 3)) (hn : pc + 3 = n) (hO : VCr dA h a pub nx hg kp ak) (hBs : Bs ≤ a) (kk : ∀ h' : fv_H, VCr dA h' a pub nx hg kp v → fs h h' (fun z => z = a) → fv_V (fk D dA) Bs X nL Q n L st sz h' cells slots) : fv_V (fk D dA) Bs X nL Q pc L (.int (nI v) :: .ref (a) :: st) sz h cells slots := by
  refine fv_put C F (Or.inl rfl) hd hn hO.1 (by omega) rfl rfl (Nat.le_of_ble_eq_true rfl) ?_
  refine kk _ ⟨?_, ?_, ?_⟩ (fun z hz => va_up_ne _ _ hz)
  · exact va_up_self _ _ _
  · rw [va_up_ne _ _ (by omega)]; exact hO.2.1
  · rw [va_up_ne _ _ (by omega)]; exact hO.2.2
theorem vc_skp (C : fv_C (fk D dA) WA X M mc ms) {j : Nat} {x : Int32} {bb : Bool} (hx : x = fv_b bb) (hd : decode M.2.1 pc = .ok (.bastore, 1)) (hn : pc + 1 = n) (hO : VCr dA h a pub nx hg kp ak) (hBs : Bs ≤ a) (hj : j < 8) (kk : ∀ h' : fv_H, VCr dA h' a pub nx hg (va_up kp j bb) ak → fs h h' (fun z => z = a + 2) → fv_V (fk D dA) Bs X nL Q n L st sz h' cells slots) : fv_V (fk D dA) Bs X nL Q pc L (.int x :: .int (nI j) :: .ref (a + 2) :: st) sz h cells slots := by
  refine fv_zastN C hx (t0 := 1) rfl hd hn hO.2.2 (by omega) hj (by decide) ?_
  refine kk _ ⟨?_, ?_, ?_⟩ (fun z hz => va_up_ne _ _ hz)
  · rw [va_up_ne _ _ (by omega)]; exact hO.1
  · rw [va_up_ne _ _ (by omega)]; exact hO.2.1
  · exact va_up_self _ _ _
end VCrS
def VC (dA : Nat → ClassId) (h : fv_H) (ar pub aE : Nat) (log : List bo_E) (R : rc_T) (fx : Nat → Int32) : Prop := ∃ kp : Nat → Bool, VCr dA h (ar + 3) pub R.1 R.2.1 kp R.2.2.1 ∧ (∀ p, R.1 ≤ p → p < R.1 + 8 → kp (p % 8) = rc_kp R p) ∧ (∀ i, i < 4 → TS dA h ar aE log i (rc_ap R i) (rc_hl R i) (rc_nd R i)) ∧ RD dA h ar (rc_rw R) fx
theorem VC.fs {dA : Nat → ClassId} {h h' : fv_H} {ar pub aE : Nat} {log : List bo_E} {R : rc_T} {fx : Nat → Int32} {S : Nat → Prop} (q : VC dA h ar pub aE log R fx) (hf : fs h h' S) (hd : ∀ x, ar ≤ x → x < ar + 34 → ¬ S x) : VC dA h' ar pub aE log R fx := by
  obtain ⟨kp, h1, h2, h3, h4⟩ := q
  exact ⟨kp, h1.fs hf ⟨hd _ (by omega) (by omega), hd _ (by omega) (by omega), hd _ (by omega) (by omega)⟩, h2, fun i hi => (h3 i hi).fs hf (fun x h5 h6 => hd x (by omega) (by omega)), h4.fs hf ⟨hd _ (by omega) (by omega), hd _ (by omega) (by omega), hd _ (by omega) (by omega)⟩⟩
/-- an event is taken by its track -/
theorem VC.take {dA : Nat → ClassId} {h h' : fv_H} {ar pub aE : Nat} {log : List bo_E} {R : rc_T} {fx : Nat → Int32} {i : Nat} {t : tr_T} (hi : i < 4) (q : VC dA h ar pub aE log R fx) (hp : TRP dA h (ar + 6 + 7 * i) i ar aE log (rc_nd R i) fx t h') : VC dA h' ar pub aE log (rc_set R i t) fx := by
  obtain ⟨kp, h1, h2, h3, h4⟩ := q
  obtain ⟨hs, sv, q1, q2, q3, q4, q5, q6⟩ := hp
  refine ⟨kp, h1.fs q6 ⟨?_, ?_, ?_⟩, h2, fun j hj => ?_, q4⟩
  · unfold SX; omega
  · unfold SX; omega
  · unfold SX; omega
  · by_cases hji : j = i
    · subst hji
      have e1 : rc_ap (rc_set R j t) j = t.1 := va_up_self _ _ _
      have e2 : rc_hl (rc_set R j t) j = t.2.1 := va_up_self _ _ _
      rw [e1, e2]
      exact ⟨hs, sv, q1, q2, q3, q5⟩
    · have e1 : rc_ap (rc_set R i t) j = rc_ap R j := va_up_ne _ _ hji
      have e2 : rc_hl (rc_set R i t) j = rc_hl R j := va_up_ne _ _ hji
      rw [e1, e2]
      exact (h3 j hj).fs q6 (fun x h5 h6 => by unfold SX; omega)
section VCW
variable {l : Launch} {D : va_G} {dA : Nat → ClassId} {Bs sz : Nat} {h : fv_H} {ar pub aE sc : Nat} {log : List bo_E} {ends : List Nat} {R : rc_T} {fx : Nat → Int32}
theorem ct_V_passThrough {last : Nat} (hlast : last ≤ 400) (hok : fe_ok log) (hsm : ev_sm log) (hBs : Bs ≤ ar) (hpub : pub + 61 ≤ ar) (haE : ar + 34 ≤ aE) (hE : EVS h aE log) (hEn : fe_ends log ends) (hP : PB dA h pub aE log ends sc) (hV : VC dA h ar pub aE log R fx) (hJ : rc_J log ends R) : fv_T l (fk D dA) Bs WA m_V_passThrough [.ref (ar + 3), .int (nI last)] sz h 0 0 (fp_v sz (fun h' => VC dA h' ar pub aE log (rc_pt log ends last (ends.length + 1 - R.1) R) fx ∧ fs h h' (fun x => ar ≤ x ∧ x < ar + 34))) := by
  have hcl := fe_ends_len hEn
  have hmo := fe_ends_mono hEn
  have m3 := hEn.2.2.2
  refine fv_of (L := [_, _, _, _, _]) (by decide +kernel) rfl (Nat.le_of_ble_eq_true rfl) rfl ?_
  intro X hX C
  subst hX
  obtain ⟨RR, hRR⟩ : ∃ RR, RR = rc_pt log ends last (ends.length + 1 - R.1) R := ⟨_, rfl⟩
  rw [← hRR]
  have outer : ∀ (k : Nat) (R : rc_T) (h1 : fv_H), ends.length + 1 - R.1 = k → fs h h1 (fun x => ar ≤ x ∧ x < ar + 34) → VC dA h1 ar pub aE log R fx → rc_J log ends R → RR = rc_pt log ends last k R → fv_V (fk D dA) Bs X 5 (fv_MQ (fk D dA) Bs X (fp_v sz (fun h' => VC dA h' ar pub aE log RR fx ∧ fs h h' (fun x => ar ≤ x ∧ x < ar + 34))) 0 0) 0 [some (.ref (ar + 3)), some (.int (nI last)), none, none, none] [] sz h1 0 0 := by
    intro k
    induction k with
    | zero =>
      intro R h1 hk hF hV hJ hRR
      have hP1 := hP.fs hF ⟨by omega, by omega, by omega, by omega, by omega⟩
      have hV0 := hV
      obtain ⟨kp, hO, hkp, hTS, hRD⟩ := hV
      obtain ⟨evs, en, hPb, hev, hen⟩ := hP1
      have j1 := hJ.1
      have j2 := hJ.2.1
      refine fv_aload_n C d_V_passThrough_0 (n := 1) rfl (i := 0) rfl rfl ?_
      refine fv_get C (fl_V_17 D dA) d_V_passThrough_1 (n := 4) rfl hO.1 rfl ?_
      refine fv_aload_n C d_V_passThrough_4 (n := 5) rfl (i := 0) rfl rfl ?_
      refine fv_get C (fl_V_31 D dA) d_V_passThrough_5 (n := 8) rfl hO.1 rfl ?_
      refine fv_get C (fl_V_61 D dA) d_V_passThrough_8 (n := 11) rfl hPb.1 rfl ?_
      refine fv_icmpN_gt C (by omega) (by omega) d_V_passThrough_11 (tgt := 129) rfl (n := 14) rfl (fun hc11 => ?_) (fun hc11 => ?_)
      · refine fv_vret C rfl d_V_passThrough_129 (Nat.le_refl _) (Nat.le_refl _) ?_
        rw [hRR]
        exact ⟨rfl, rfl, hV0, hF⟩
      · exact absurd hc11 (by omega)
    | succ k ih =>
      intro R h1 hk hF hV hJ hRR
      have hP1 := hP.fs hF ⟨by omega, by omega, by omega, by omega, by omega⟩
      have hP0 := hP1
      have hV0 := hV
      obtain ⟨kp, hO, hkp, hTS, hRD⟩ := hV
      obtain ⟨evs, en, hPb, hev, hen⟩ := hP1
      have j1 := hJ.1
      have j2 := hJ.2.1
      have hkn := hkp R.1 (Nat.le_refl _) (by omega)
      have body : RR = rc_pt log ends last k (rc_pass log ends R) → fv_V (fk D dA) Bs X 5 (fv_MQ (fk D dA) Bs X (fp_v sz (fun h' => VC dA h' ar pub aE log RR fx ∧ fs h h' (fun x => ar ≤ x ∧ x < ar + 34))) 0 0) 37 [some (.ref (ar + 3)), some (.int (nI last)), none, none, none] [] sz h1 0 0 := by
        intro hRR
        have m1 := hmo (R.1 - 1) (by omega)
        have m2 := hmo R.1 (by omega)
        have m4 := hEn.1 (R.1 - 1) (by omega)
        rw [Nat.sub_add_cancel j1] at m4
        have inner : ∀ (m e : Nat) (h2 : fv_H), e + m = fe_E ends R.1 → fe_E ends (R.1 - 1) ≤ e → fs h h2 (fun x => ar ≤ x ∧ x < ar + 34) → VC dA h2 ar pub aE log (((log.take e).drop (fe_E ends (R.1 - 1))).foldl (rc_take log) (rc_uk R R.1)) fx → rc_W log (((log.take e).drop (fe_E ends (R.1 - 1))).foldl (rc_take log) (rc_uk R R.1)) → fv_V (fk D dA) Bs X 5 (fv_MQ (fk D dA) Bs X (fp_v sz (fun h' => VC dA h' ar pub aE log RR fx ∧ fs h h' (fun x => ar ≤ x ∧ x < ar + 34))) 0 0) 74 [some (.ref (ar + 3)), some (.int (nI last)), some (.int (nI (fe_E ends R.1))), some (.int (nI e)), none] [] sz h2 0 0 := by
          intro m
          induction m with
          | zero =>
            intro e h2 he hes hF hV hW
            have he2 : e = fe_E ends R.1 := by omega
            subst he2
            obtain ⟨f1, f2, f3, f4, f5⟩ := rc_fold_rest (log := log) ((log.take (fe_E ends R.1)).drop (fe_E ends (R.1 - 1))) (rc_uk R R.1)
            obtain ⟨kp, hO, hkp, hTS, hRD⟩ := hV
            rw [f1] at hO
            have hO : VCr dA h2 (ar + 3) pub R.1 _ kp _ := hO
            have hJp := rc_pass_J hok hJ (by omega)
            refine fv_iload_n C d_V_passThrough_74 (n := 75) rfl (i := 3) rfl rfl ?_
            refine fv_iload_n C d_V_passThrough_75 (n := 76) rfl (i := 2) rfl rfl ?_
            refine fv_icmpN_ge C (by omega) (by omega) d_V_passThrough_76 (tgt := 116) rfl (n := 79) rfl (fun hc76 => ?_) (fun hc76 => ?_)
            · refine fv_aload_n C d_V_passThrough_116 (n := 117) rfl (i := 0) rfl rfl ?_
              refine fv_dup C d_V_passThrough_117 (n := 118) rfl rfl ?_
              refine fv_get C (fl_V_17 D dA) d_V_passThrough_118 (n := 121) rfl hO.1 rfl ?_
              refine fv_iconst C d_V_passThrough_121 (n := 122) rfl kI_1 ?_
              first | refine fv_iaddN C d_V_passThrough_122 (n := 123) rfl ?_ | refine fv_iadd C d_V_passThrough_122 (n := 123) rfl ?_
              refine vc_pnx C (fl_V_17 D dA) d_V_passThrough_123 (n := 126) rfl hO (by omega) (fun h3 hO hF3 => ?_)
              refine fv_goto C d_V_passThrough_126 (tgt := 0) rfl ?_
              refine fv_drop 3 (L' := [_, _, _, _, _]) rfl ?_
              refine fv_drop 2 (L' := [_, _, _, _, _]) rfl ?_
              refine ih (rc_pass log ends R) h3 (by rw [rc_pass_nx]; omega) (hF.tr hF3 (fun x hx => hx) (fun x hx => by omega)) ?_ hJp hRR
              refine ⟨kp, hO, fun p hp1 hp2 => ?_, fun i hi => (hTS i hi).fs hF3 (fun x h5 h6 => by omega), hRD.fs hF3 ⟨by omega, by omega, by omega⟩⟩
              rw [rc_pass_nx] at hp1 hp2
              have e9 : rc_kp (rc_pass log ends R) p = rc_kp (rc_uk R R.1) p := congrFun f4 p
              rw [e9]
              by_cases h9 : p < R.1 + 8
              · rw [← congrFun f4 p]; exact hkp p (by rw [f1]; show R.1 ≤ p; omega) (by rw [f1]; exact h9)
              · have h10 : p = R.1 + 8 := by omega
                have h11 := hkp R.1 (by rw [f1]; exact Nat.le_refl _) (by rw [f1]; show R.1 < R.1 + 8; omega)
                rw [f4] at h11
                rw [h10, Nat.add_mod_right, h11]
                have h12 : rc_kp (rc_uk R R.1) R.1 = false := va_up_self _ _ _
                rw [h12]
                cases h13 : rc_kp (rc_uk R R.1) (R.1 + 8) with
                | false => rfl
                | true =>
                  have h14 := (rc_uk_J hJ R.1).2.2.2.1 _ h13
                  have h15 : R.1 + 8 ≤ R.1 + 6 := h14.2.1
                  omega
            · exact absurd hc76 (by omega)
          | succ m ihm =>
            intro e h2 he hes hF hV hW
            obtain ⟨ev, hevn⟩ : ∃ ev, log[e]? = some ev := ⟨_, List.getElem?_eq_getElem (by omega)⟩
            have hsn := rc_evs_snoc hes hevn
            have hP2 := hP.fs hF ⟨by omega, by omega, by omega, by omega, by omega⟩
            obtain ⟨evs, en, hPb, hev, hen⟩ := hP2
            have hae := hev e (by omega)
            have hE2 : EVS h2 aE log := hE.fs hF (fun x hx => by omega)
            have hEe := hE2 e ev hevn
            obtain ⟨hi4, hnl⟩ := rc_ev_in hok hevn
            have hV2 := hV
            obtain ⟨kp, hO, hkp, hTS, hRD⟩ := hV
            obtain ⟨hs, sv, hTK, hsv, hBL, hpm⟩ := hTS ev.2.1 hi4
            have hTO := hTK.choose_spec.1
            have hI := hW ev.2.1 hi4
            refine fv_iload_n C d_V_passThrough_74 (n := 75) rfl (i := 3) rfl rfl ?_
            refine fv_iload_n C d_V_passThrough_75 (n := 76) rfl (i := 2) rfl rfl ?_
            refine fv_icmpN_ge C (by omega) (by omega) d_V_passThrough_76 (tgt := 116) rfl (n := 79) rfl (fun hc76 => ?_) (fun hc76 => ?_)
            · exact absurd hc76 (by omega)
            · refine fv_aload_n C d_V_passThrough_79 (n := 80) rfl (i := 0) rfl rfl ?_
              refine fv_get C (fl_V_31 D dA) d_V_passThrough_80 (n := 83) rfl hO.1 rfl ?_
              refine fv_get C (fl_V_71 D dA) d_V_passThrough_83 (n := 86) rfl hPb.1 rfl ?_
              refine fv_iload_n C d_V_passThrough_86 (n := 87) rfl (i := 3) rfl rfl ?_
              refine fv_aaldN C (t0 := 3) rfl d_V_passThrough_87 (n := 88) rfl hPb.2.2.1 (by omega) (by decide) (show va_rf (evs e) = .ref (aE + e) by rw [hae]; rfl) ?_
              refine fv_astore C d_V_passThrough_88 (n := 90) rfl (by decide) (L' := [_, _, _, _, _]) rfl ?_
              refine fv_aload C d_V_passThrough_90 (n := 92) rfl rfl ?_
              refine fv_ifnull C d_V_passThrough_92 (n := 95) rfl ?_
              refine fv_aload_n C d_V_passThrough_95 (n := 96) rfl (i := 0) rfl rfl ?_
              refine fv_get C (fl_V_11 D dA) d_V_passThrough_96 (n := 99) rfl hO.1 rfl ?_
              refine fv_aload C d_V_passThrough_99 (n := 101) rfl rfl ?_
              refine fv_get C (fl_V_75 D dA) d_V_passThrough_101 (n := 104) rfl hEe rfl ?_
              refine fv_aaldN C (t0 := 7) rfl d_V_passThrough_104 (n := 105) rfl hO.2.1 (by omega) (by decide) (show va_rf (if ev.2.1 < 4 then some (ar + 3 + 3 + 7 * ev.2.1) else none) = .ref (ar + 6 + 7 * ev.2.1) by rw [if_pos hi4]; rfl) ?_
              refine fv_aload C d_V_passThrough_105 (n := 107) rfl rfl ?_
              refine fv_callV_v C (ml_V_80 D dA) im_T_take se_T_take hTO.1 rfl (ct_T_take hok hsm hi4 (by omega) hBs (by omega) (by omega) hE2 hevn rfl hTK hsv hBL hRD hI hpm) d_V_passThrough_107 (n := 110) rfl rfl rfl rfl (Nat.le_of_ble_eq_true rfl) (Nat.le_of_ble_eq_true rfl) (Nat.le_of_ble_eq_true rfl) (Nat.le_refl _) (Nat.le_refl _) (fun h3 hp3 => ?_)
              have hV3 := hV2.take hi4 hp3
              have hF3 : fs h2 h3 (SX (ar + 6 + 7 * ev.2.1) ar) := by obtain ⟨_, _, -, -, -, -, -, q6⟩ := hp3; exact q6
              refine fv_iincN C d_V_passThrough_110 (n := 113) rfl rfl (by decide) (L' := [_, _, _, _, _]) rfl ?_
              refine fv_goto C d_V_passThrough_113 (tgt := 74) rfl ?_
              refine fv_drop 4 (L' := [_, _, _, _, _]) rfl ?_
              refine ihm (e + 1) h3 (by omega) (by omega) (hF.tr hF3 (fun x hx => hx) (fun x hx => by unfold SX at hx; omega)) ?_ ?_
              · rw [hsn, List.foldl_append]; exact hV3
              · rw [hsn, List.foldl_append]; exact rc_take_W hW hi4 hnl
        refine fv_aload_n C d_V_passThrough_37 (n := 38) rfl (i := 0) rfl rfl ?_
        refine fv_get C (fl_V_24 D dA) d_V_passThrough_38 (n := 41) rfl hO.1 rfl ?_
        refine fv_aload_n C d_V_passThrough_41 (n := 42) rfl (i := 0) rfl rfl ?_
        refine fv_get C (fl_V_17 D dA) d_V_passThrough_42 (n := 45) rfl hO.1 rfl ?_
        refine fv_bipush C d_V_passThrough_45 (n := 47) rfl kB_7 ?_
        refine fv_iandN C 3 (by omega) (by decide +kernel) d_V_passThrough_47 (n := 48) rfl ?_
        refine fv_iconst C d_V_passThrough_48 (n := 49) rfl kI_0 ?_
        refine vc_skp C (bb := false) (by decide +kernel) d_V_passThrough_49 (n := 50) rfl hO (by omega) (by omega) (fun h2 hO hF2 => ?_)
        have hP2 := hP0.fs hF2 ⟨by omega, by omega, by omega, by omega, by omega⟩
        have hP2b := hP2
        obtain ⟨evs, en, hPb, hev, hen⟩ := hP2
        refine fv_aload_n C d_V_passThrough_50 (n := 51) rfl (i := 0) rfl rfl ?_
        refine fv_get C (fl_V_31 D dA) d_V_passThrough_51 (n := 54) rfl hO.1 rfl ?_
        refine fv_aload_n C d_V_passThrough_54 (n := 55) rfl (i := 0) rfl rfl ?_
        refine fv_get C (fl_V_17 D dA) d_V_passThrough_55 (n := 58) rfl hO.1 rfl ?_
        refine fv_callV_r C (ml_V_64 D dA) im_P_endOf se_P_endOf hPb.1 rfl (ct_P_endOf (by omega) hEn hP2b) d_V_passThrough_58 (n := 61) rfl rfl rfl rfl (Nat.le_of_ble_eq_true rfl) (Nat.le_of_ble_eq_true rfl) (Nat.le_of_ble_eq_true rfl) (Nat.le_refl _) (Nat.le_refl _) ?_
        refine fv_istore_n C d_V_passThrough_61 (n := 62) rfl (i := 2) rfl (by decide) (L' := [_, _, _, _, _]) rfl ?_
        refine fv_aload_n C d_V_passThrough_62 (n := 63) rfl (i := 0) rfl rfl ?_
        refine fv_get C (fl_V_31 D dA) d_V_passThrough_63 (n := 66) rfl hO.1 rfl ?_
        refine fv_aload_n C d_V_passThrough_66 (n := 67) rfl (i := 0) rfl rfl ?_
        refine fv_get C (fl_V_17 D dA) d_V_passThrough_67 (n := 70) rfl hO.1 rfl ?_
        refine fv_callV_r C (ml_V_68 D dA) im_P_startOf se_P_startOf hPb.1 rfl (ct_P_startOf j1 (by omega) hEn hP2b) d_V_passThrough_70 (n := 73) rfl rfl rfl rfl (Nat.le_of_ble_eq_true rfl) (Nat.le_of_ble_eq_true rfl) (Nat.le_of_ble_eq_true rfl) (Nat.le_refl _) (Nat.le_refl _) ?_
        refine fv_istore_n C d_V_passThrough_73 (n := 74) rfl (i := 3) rfl (by decide) (L' := [_, _, _, _, _]) rfl ?_
        refine inner (fe_E ends R.1 - fe_E ends (R.1 - 1)) (fe_E ends (R.1 - 1)) h2 (by omega) (Nat.le_refl _) (hF.tr hF2 (fun x hx => hx) (fun x hx => by omega)) ?_ ?_
        · rw [rc_evs_nil, List.foldl_nil]
          refine ⟨_, hO, fun p hp1 hp2 => ?_, fun i hi => (hTS i hi).fs hF2 (fun x h5 h6 => by omega), hRD.fs hF2 ⟨by omega, by omega, by omega⟩⟩
          have hp1 : R.1 ≤ p := hp1
          have hp2 : p < R.1 + 8 := hp2
          by_cases h9 : p = R.1
          · subst h9
            have e9 : rc_kp (rc_uk R R.1) R.1 = false := va_up_self _ _ _
            rw [e9]
            exact va_up_self _ _ _
          · have e9 : rc_kp (rc_uk R R.1) p = rc_kp R p := va_up_ne _ _ h9
            rw [e9, va_up_ne _ _ (by omega)]
            exact hkp p hp1 hp2
        · rw [rc_evs_nil, List.foldl_nil]; exact hJ.2.2.2.2.1
      refine fv_aload_n C d_V_passThrough_0 (n := 1) rfl (i := 0) rfl rfl ?_
      refine fv_get C (fl_V_17 D dA) d_V_passThrough_1 (n := 4) rfl hO.1 rfl ?_
      refine fv_aload_n C d_V_passThrough_4 (n := 5) rfl (i := 0) rfl rfl ?_
      refine fv_get C (fl_V_31 D dA) d_V_passThrough_5 (n := 8) rfl hO.1 rfl ?_
      refine fv_get C (fl_V_61 D dA) d_V_passThrough_8 (n := 11) rfl hPb.1 rfl ?_
      refine fv_icmpN_gt C (by omega) (by omega) d_V_passThrough_11 (tgt := 129) rfl (n := 14) rfl (fun hc11 => ?_) (fun hc11 => ?_)
      · exact absurd hc11 (by omega)
      · refine fv_aload_n C d_V_passThrough_14 (n := 15) rfl (i := 0) rfl rfl ?_
        refine fv_get C (fl_V_17 D dA) d_V_passThrough_15 (n := 18) rfl hO.1 rfl ?_
        refine fv_iload_n C d_V_passThrough_18 (n := 19) rfl (i := 1) rfl rfl ?_
        refine fv_icmpN_le C (by omega) (by omega) d_V_passThrough_19 (tgt := 37) rfl (n := 22) rfl (fun hc19 => ?_) (fun hc19 => ?_)
        · exact body (by rw [hRR, rc_pt, if_pos ⟨by omega, by first | exact Or.inl hc19 | exact Or.inr hc34⟩])
        · refine fv_aload_n C d_V_passThrough_22 (n := 23) rfl (i := 0) rfl rfl ?_
          refine fv_get C (fl_V_24 D dA) d_V_passThrough_23 (n := 26) rfl hO.1 rfl ?_
          refine fv_aload_n C d_V_passThrough_26 (n := 27) rfl (i := 0) rfl rfl ?_
          refine fv_get C (fl_V_17 D dA) d_V_passThrough_27 (n := 30) rfl hO.1 rfl ?_
          refine fv_bipush C d_V_passThrough_30 (n := 32) rfl kB_7 ?_
          refine fv_iandN C 3 (by omega) (by decide +kernel) d_V_passThrough_32 (n := 33) rfl ?_
          refine fv_zaldN C (t0 := 1) rfl d_V_passThrough_33 (n := 34) rfl hO.2.2 (by omega) (by decide) ?_
          rw [show R.1 % 2 ^ 3 = R.1 % 8 from rfl, hkn]
          refine fv_ifB_eq C d_V_passThrough_34 (tgt := 129) rfl (n := 37) rfl (fun hc34 => ?_) (fun hc34 => ?_)
          · refine fv_vret C rfl d_V_passThrough_129 (Nat.le_refl _) (Nat.le_refl _) ?_
            have hst : ¬ (R.1 ≤ ends.length ∧ (R.1 ≤ last ∨ rc_kp R R.1 = true)) := fun q => by rcases q.2 with q2 | q2; omega; rw [hc34] at q2; cases q2
            rw [rc_pt, if_neg hst] at hRR
            rw [hRR]
            exact ⟨rfl, rfl, hV0, hF⟩
          · exact body (by rw [hRR, rc_pt, if_pos ⟨by omega, by first | exact Or.inl hc19 | exact Or.inr hc34⟩])
  exact outer (ends.length + 1 - R.1) R h rfl (fs_rf _ _) hV hJ hRR
end VCW
