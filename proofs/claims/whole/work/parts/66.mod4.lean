/-! FeedDeskModel: take and the calls that use it; publish; packetByte -/
section MD4
variable {l : Launch} {D : va_G} {dA : Nat → ClassId} {Bs sz : Nat} {h : fv_H} {m0 : Nat} {S : sp_T}
theorem ct_M_take {so i s : Nat} {id pr v : Int32} (hBs : Bs ≤ m0) (hM0 : RM dA h m0 S) (hI : sp_I S) (hso : so ≤ 5) (hi : i < 4) : fv_T l (fk D dA) Bs WA m_M_take [.ref m0, .int (nI so), .int (nI i), .int id, .int (nI s), .int pr, .int v] sz h 0 0 (fp_i sz (fun r0 h' => r0 = sp_oa S so i id v ∧ RM dA h' m0 (sp_os S so i id s pr v) ∧ fs h h' (MS m0))) := by
  obtain ⟨F, bl, bh, hM, hR⟩ := hM0
  have hF : fs h h (MS m0) := fs_rf _ _
  have hl4 := hI.2.1.1
  have hen := hI.2.2.1
  have hel := fe_ends_len hen
  have hli := fe_li_len S.1 i
  have h8 : F 8 i = nI (sp_len S i) := hR.2.1 i hi
  have hwf : bo_wf (fe_bk S.1 i (sp_len S i)).1 := fe_bk_wf hI.1 i _ (Nat.le_refl _)
  have hlen : sp_len S i ≤ 400 := Nat.le_trans hli hl4
  refine fv_of (L := [_, _, _, _, _, _, _, _, _]) (by decide +kernel) rfl (Nat.le_of_ble_eq_true rfl) rfl ?_
  intro X hX C
  subst hX
  have tail : ∀ (h1 : fv_H) (F1 : Nat → Nat → Int32) (r : Int32) (b8 : Bool), MC dA h1 m0 S.1.length S.2.1.length (fe_bk S.1 i (sp_len S i)).1.length (fe_bk S.1 i (sp_len S i)).2 (sp_sh S).length F1 → KE 10 13 F F1 → fs h h1 (MS m0) → bo_ok (fe_bk S.1 i (sp_len S i)) so id v = b8 → fv_V (fk D dA) Bs X 9 (fv_MQ (fk D dA) Bs X (fp_i sz (fun r0 h' => r0 = sp_oa S so i id v ∧ RM dA h' m0 (sp_os S so i id s pr v) ∧ fs h h' (MS m0))) 0 0) 150 [some (.ref m0), some (.int (nI so)), some (.int (nI i)), some (.int id), some (.int (nI s)), some (.int pr), some (.int v), some (.int r), some (.int (fv_b b8))] [] sz h1 0 0 := by
    intro h1 F1 r b8 hM hK hF hb8
    have hR1 := hR.ke (hK.tr (KE.rf 10 15 F1) (by decide) (by decide) (by decide) (by decide))
    have h8 : F1 8 i = nI (sp_len S i) := hR1.2.1 i hi
    have h9 : F1 9 (S.2.1.length + 1) = nI (fe_E S.2.1 S.2.1.length) := hR1.2.2.1 _ (Nat.le_refl _)
    have hfe := hen.2.1
    have hfe5 := hen.2.2.1
    refine fv_iload C d_M_take_150 (n := 152) rfl rfl ?_
    refine fv_ifB_ne C d_M_take_152 (tgt := 158) rfl (n := 155) rfl (fun hc152 => ?_) (fun hc152 => ?_)
    · refine fv_aload_n C d_M_take_158 (n := 159) rfl (i := 0) rfl rfl ?_
      refine fv_get C (fl_M_122 D dA) d_M_take_159 (n := 162) rfl hM.1 rfl ?_
      refine fv_sipush C d_M_take_162 (n := 165) rfl kS_400 ?_
      refine fv_icmpN_eq C (by omega) (by omega) d_M_take_165 (tgt := 188) rfl (n := 168) rfl (fun hc165 => ?_) (fun hc165 => ?_)
      · refine fv_bipush C d_M_take_188 (n := 190) rfl kB_m4 ?_
        refine fv_iret C rfl d_M_take_190 (Nat.le_refl _) (Nat.le_refl _) ?_
        have hfull : fe_E S.2.1 S.2.1.length + 5 ≤ S.1.length ∨ 400 ≤ S.1.length := by omega
        exact ⟨_, rfl, rfl, by unfold sp_oa; rw [if_pos (hb8.trans hc152), if_pos hfull], ⟨F1, _, _, by unfold sp_os; rw [if_neg (fun q => q.2 hfull)]; exact ⟨hM, hR1⟩⟩, hF⟩
      · refine fv_aload_n C d_M_take_168 (n := 169) rfl (i := 0) rfl rfl ?_
        refine fv_get C (fl_M_122 D dA) d_M_take_169 (n := 172) rfl hM.1 rfl ?_
        refine fv_aload_n C d_M_take_172 (n := 173) rfl (i := 0) rfl rfl ?_
        refine fv_get C (fl_M_34 D dA) d_M_take_173 (n := 176) rfl hM.1 rfl ?_
        refine fv_aload_n C d_M_take_176 (n := 177) rfl (i := 0) rfl rfl ?_
        refine fv_get C (fl_M_148 D dA) d_M_take_177 (n := 180) rfl hM.1 rfl ?_
        refine fv_iconst C d_M_take_180 (n := 181) rfl kI_1 ?_
        first | refine fv_iaddN C d_M_take_181 (n := 182) rfl ?_ | refine fv_iadd C d_M_take_181 (n := 182) rfl ?_
        refine fv_ialdN C (t0 := 0) rfl d_M_take_182 (n := 183) rfl (mc_9 hM) (by omega) (by decide) ?_
        rw [h9]
        refine fv_isubN C (by omega) d_M_take_183 (n := 184) rfl ?_
        refine fv_iconst C d_M_take_184 (n := 185) rfl kI_5 ?_
        refine fv_icmpN_ne C (by omega) (by omega) d_M_take_185 (tgt := 191) rfl (n := 188) rfl (fun hc185 => ?_) (fun hc185 => ?_)
        · refine fv_aload_n C d_M_take_191 (n := 192) rfl (i := 0) rfl rfl ?_
          refine fv_get C (fl_M_7 D dA) d_M_take_192 (n := 195) rfl hM.1 rfl ?_
          refine fv_aload_n C d_M_take_195 (n := 196) rfl (i := 0) rfl rfl ?_
          refine fv_get C (fl_M_122 D dA) d_M_take_196 (n := 199) rfl hM.1 rfl ?_
          refine fv_iload_n C d_M_take_199 (n := 200) rfl (i := 1) rfl rfl ?_
          refine mc_ia C 1 (by decide) (by decide) rfl d_M_take_200 (n := 201) rfl hM hBs (by decide) (show _ < 400 by omega) (fun h1 Fa hM pFa qFa f1 => ?_)
          have hF := hF.tr f1 (U := MS m0) (fun x hx => hx) (fun x hx => hx)
          refine fv_aload_n C d_M_take_201 (n := 202) rfl (i := 0) rfl rfl ?_
          refine fv_get C (fl_M_13 D dA) d_M_take_202 (n := 205) rfl hM.1 rfl ?_
          refine fv_aload_n C d_M_take_205 (n := 206) rfl (i := 0) rfl rfl ?_
          refine fv_get C (fl_M_122 D dA) d_M_take_206 (n := 209) rfl hM.1 rfl ?_
          refine fv_iload_n C d_M_take_209 (n := 210) rfl (i := 2) rfl rfl ?_
          refine mc_ia C 2 (by decide) (by decide) rfl d_M_take_210 (n := 211) rfl hM hBs (by decide) (show _ < 400 by omega) (fun h1 Fb hM pFb qFb f1 => ?_)
          have hF := hF.tr f1 (U := MS m0) (fun x hx => hx) (fun x hx => hx)
          refine fv_aload_n C d_M_take_211 (n := 212) rfl (i := 0) rfl rfl ?_
          refine fv_get C (fl_M_31 D dA) d_M_take_212 (n := 215) rfl hM.1 rfl ?_
          refine fv_iload_n C d_M_take_215 (n := 216) rfl (i := 2) rfl rfl ?_
          refine fv_dup2 C d_M_take_216 (n := 217) rfl rfl rfl ?_
          refine fv_ialdN C (t0 := 0) rfl d_M_take_217 (n := 218) rfl (mc_8 hM) (by omega) (by decide) ?_
          rw [show Fb 8 i = nI (sp_len S i) by rw [qFb 8 (by decide), qFa 8 (by decide)]; exact h8]
          refine fv_iconst C d_M_take_218 (n := 219) rfl kI_1 ?_
          first | refine fv_iaddN C d_M_take_219 (n := 220) rfl ?_ | refine fv_iadd C d_M_take_219 (n := 220) rfl ?_
          refine mc_ia C 8 (by decide) (by decide) rfl d_M_take_220 (n := 221) rfl hM hBs (by decide) (show _ < 4 by omega) (fun h1 Fc hM pFc qFc f1 => ?_)
          have hF := hF.tr f1 (U := MS m0) (fun x hx => hx) (fun x hx => hx)
          have hc8 : Fc 8 i = nI (sp_len S i + 1) := by rw [pFc]; simp [upd]
          refine fv_aload_n C d_M_take_221 (n := 222) rfl (i := 0) rfl rfl ?_
          refine fv_get C (fl_M_16 D dA) d_M_take_222 (n := 225) rfl hM.1 rfl ?_
          refine fv_aload_n C d_M_take_225 (n := 226) rfl (i := 0) rfl rfl ?_
          refine fv_get C (fl_M_122 D dA) d_M_take_226 (n := 229) rfl hM.1 rfl ?_
          refine fv_aload_n C d_M_take_229 (n := 230) rfl (i := 0) rfl rfl ?_
          refine fv_get C (fl_M_31 D dA) d_M_take_230 (n := 233) rfl hM.1 rfl ?_
          refine fv_iload_n C d_M_take_233 (n := 234) rfl (i := 2) rfl rfl ?_
          refine fv_ialdN C (t0 := 0) rfl d_M_take_234 (n := 235) rfl (mc_8 hM) (by omega) (by decide) ?_
          rw [hc8]
          refine mc_ia C 3 (by decide) (by decide) rfl d_M_take_235 (n := 236) rfl hM hBs (by decide) (show _ < 400 by omega) (fun h1 Fd hM pFd qFd f1 => ?_)
          have hF := hF.tr f1 (U := MS m0) (fun x hx => hx) (fun x hx => hx)
          refine fv_aload_n C d_M_take_236 (n := 237) rfl (i := 0) rfl rfl ?_
          refine fv_get C (fl_M_19 D dA) d_M_take_237 (n := 240) rfl hM.1 rfl ?_
          refine fv_aload_n C d_M_take_240 (n := 241) rfl (i := 0) rfl rfl ?_
          refine fv_get C (fl_M_122 D dA) d_M_take_241 (n := 244) rfl hM.1 rfl ?_
          refine fv_iload_n C d_M_take_244 (n := 245) rfl (i := 3) rfl rfl ?_
          refine mc_ia C 4 (by decide) (by decide) rfl d_M_take_245 (n := 246) rfl hM hBs (by decide) (show _ < 400 by omega) (fun h1 Fe hM pFe qFe f1 => ?_)
          have hF := hF.tr f1 (U := MS m0) (fun x hx => hx) (fun x hx => hx)
          refine fv_aload_n C d_M_take_246 (n := 247) rfl (i := 0) rfl rfl ?_
          refine fv_get C (fl_M_22 D dA) d_M_take_247 (n := 250) rfl hM.1 rfl ?_
          refine fv_aload_n C d_M_take_250 (n := 251) rfl (i := 0) rfl rfl ?_
          refine fv_get C (fl_M_122 D dA) d_M_take_251 (n := 254) rfl hM.1 rfl ?_
          refine fv_iload C d_M_take_254 (n := 256) rfl rfl ?_
          refine mc_ia C 5 (by decide) (by decide) rfl d_M_take_256 (n := 257) rfl hM hBs (by decide) (show _ < 400 by omega) (fun h1 Ff hM pFf qFf f1 => ?_)
          have hF := hF.tr f1 (U := MS m0) (fun x hx => hx) (fun x hx => hx)
          refine fv_aload_n C d_M_take_257 (n := 258) rfl (i := 0) rfl rfl ?_
          refine fv_get C (fl_M_25 D dA) d_M_take_258 (n := 261) rfl hM.1 rfl ?_
          refine fv_aload_n C d_M_take_261 (n := 262) rfl (i := 0) rfl rfl ?_
          refine fv_get C (fl_M_122 D dA) d_M_take_262 (n := 265) rfl hM.1 rfl ?_
          refine fv_iload C d_M_take_265 (n := 267) rfl rfl ?_
          refine mc_ia C 6 (by decide) (by decide) rfl d_M_take_267 (n := 268) rfl hM hBs (by decide) (show _ < 400 by omega) (fun h1 Fg hM pFg qFg f1 => ?_)
          have hF := hF.tr f1 (U := MS m0) (fun x hx => hx) (fun x hx => hx)
          refine fv_aload_n C d_M_take_268 (n := 269) rfl (i := 0) rfl rfl ?_
          refine fv_get C (fl_M_28 D dA) d_M_take_269 (n := 272) rfl hM.1 rfl ?_
          refine fv_aload_n C d_M_take_272 (n := 273) rfl (i := 0) rfl rfl ?_
          refine fv_get C (fl_M_122 D dA) d_M_take_273 (n := 276) rfl hM.1 rfl ?_
          refine fv_iload C d_M_take_276 (n := 278) rfl rfl ?_
          refine mc_ia C 7 (by decide) (by decide) rfl d_M_take_278 (n := 279) rfl hM hBs (by decide) (show _ < 400 by omega) (fun h1 Fh hM pFh qFh f1 => ?_)
          have hF := hF.tr f1 (U := MS m0) (fun x hx => hx) (fun x hx => hx)
          refine fv_aload_n C d_M_take_279 (n := 280) rfl (i := 0) rfl rfl ?_
          refine fv_dup C d_M_take_280 (n := 281) rfl rfl ?_
          refine fv_get C (fl_M_122 D dA) d_M_take_281 (n := 284) rfl hM.1 rfl ?_
          refine fv_iconst C d_M_take_284 (n := 285) rfl kI_1 ?_
          first | refine fv_iaddN C d_M_take_285 (n := 286) rfl ?_ | refine fv_iadd C d_M_take_285 (n := 286) rfl ?_
          refine mc_pev C (fl_M_122 D dA) d_M_take_286 (n := 289) rfl hM hBs (fun h1 hM f1 => ?_)
          have hF := hF.tr f1 (U := MS m0) (fun x hx => hx) (fun x hx => hx)
          refine fv_aload_n C d_M_take_289 (n := 290) rfl (i := 0) rfl rfl ?_
          refine fv_get C (fl_M_31 D dA) d_M_take_290 (n := 293) rfl hM.1 rfl ?_
          refine fv_iload_n C d_M_take_293 (n := 294) rfl (i := 2) rfl rfl ?_
          refine fv_ialdN C (t0 := 0) rfl d_M_take_294 (n := 295) rfl (mc_8 hM) (by omega) (by decide) ?_
          rw [show Fh 8 i = nI (sp_len S i + 1) by rw [qFh 8 (by decide), qFg 8 (by decide), qFf 8 (by decide), qFe 8 (by decide), qFd 8 (by decide)]; exact hc8]
          refine fv_iret C rfl d_M_take_295 (Nat.le_refl _) (Nat.le_refl _) ?_
          have hnf : ¬ (fe_E S.2.1 S.2.1.length + 5 ≤ S.1.length ∨ 400 ≤ S.1.length) := by omega
          have hb : bo_ok (fe_bk S.1 i (sp_len S i)) so id v = true := hb8.trans hc152
          refine ⟨_, rfl, rfl, by unfold sp_oa; rw [if_pos hb, if_neg hnf], ⟨Fh, (fe_bk S.1 i (sp_len S i)).1.length, (fe_bk S.1 i (sp_len S i)).2, ?_, ?_⟩, hF⟩
          · unfold sp_os; rw [if_pos ⟨hb, hnf⟩]
            have e : (sp_log S (so, i, sp_len S i + 1, id, s, pr, v)).1.length = S.1.length + 1 := by unfold sp_log; simp
            rw [e]; exact hM
          · unfold sp_os; rw [if_pos ⟨hb, hnf⟩]
            refine MR.log hR1 hi (by rw [qFh 1 (by decide), qFg 1 (by decide), qFf 1 (by decide), qFe 1 (by decide), qFd 1 (by decide), qFc 1 (by decide), qFb 1 (by decide), pFa]) (by rw [qFh 2 (by decide), qFg 2 (by decide), qFf 2 (by decide), qFe 2 (by decide), qFd 2 (by decide), qFc 2 (by decide), pFb, qFa 2 (by decide)]) (by rw [qFh 3 (by decide), qFg 3 (by decide), qFf 3 (by decide), qFe 3 (by decide), pFd, qFc 3 (by decide), qFb 3 (by decide), qFa 3 (by decide)]) (by rw [qFh 4 (by decide), qFg 4 (by decide), qFf 4 (by decide), pFe, qFd 4 (by decide), qFc 4 (by decide), qFb 4 (by decide), qFa 4 (by decide)]) (by rw [qFh 5 (by decide), qFg 5 (by decide), pFf, qFe 5 (by decide), qFd 5 (by decide), qFc 5 (by decide), qFb 5 (by decide), qFa 5 (by decide)]) (by rw [qFh 6 (by decide), pFg, qFf 6 (by decide), qFe 6 (by decide), qFd 6 (by decide), qFc 6 (by decide), qFb 6 (by decide), qFa 6 (by decide)]) (by rw [pFh, qFg 7 (by decide), qFf 7 (by decide), qFe 7 (by decide), qFd 7 (by decide), qFc 7 (by decide), qFb 7 (by decide), qFa 7 (by decide)]) (by rw [qFh 8 (by decide), qFg 8 (by decide), qFf 8 (by decide), qFe 8 (by decide), qFd 8 (by decide), pFc, qFb 8 (by decide), qFa 8 (by decide)]) (fun k hk => ?_)
            rw [qFh k (by omega), qFg k (by omega), qFf k (by omega), qFe k (by omega), qFd k (by omega), qFc k (by omega), qFb k (by omega), qFa k (by omega)]
        · refine fv_bipush C d_M_take_188 (n := 190) rfl kB_m4 ?_
          refine fv_iret C rfl d_M_take_190 (Nat.le_refl _) (Nat.le_refl _) ?_
          have hfull : fe_E S.2.1 S.2.1.length + 5 ≤ S.1.length ∨ 400 ≤ S.1.length := by omega
          exact ⟨_, rfl, rfl, by unfold sp_oa; rw [if_pos (hb8.trans hc152), if_pos hfull], ⟨F1, _, _, by unfold sp_os; rw [if_neg (fun q => q.2 hfull)]; exact ⟨hM, hR1⟩⟩, hF⟩
    · refine fv_bipush C d_M_take_155 (n := 157) rfl kB_m3 ?_
      refine fv_iret C rfl d_M_take_157 (Nat.le_refl _) (Nat.le_refl _) ?_
      exact ⟨_, rfl, rfl, by unfold sp_oa; rw [if_neg (by rw [hb8, hc152]; decide)], ⟨F1, _, _, by unfold sp_os; rw [if_neg (fun q => absurd q.1 (by rw [hb8, hc152]; decide))]; exact ⟨hM, hR1⟩⟩, hF⟩
  refine fv_aload_n C d_M_take_0 (n := 1) rfl (i := 0) rfl rfl ?_
  refine fv_iload_n C d_M_take_1 (n := 2) rfl (i := 2) rfl rfl ?_
  refine fv_aload_n C d_M_take_2 (n := 3) rfl (i := 0) rfl rfl ?_
  refine fv_get C (fl_M_31 D dA) d_M_take_3 (n := 6) rfl hM.1 rfl ?_
  refine fv_iload_n C d_M_take_6 (n := 7) rfl (i := 2) rfl rfl ?_
  refine fv_ialdN C (t0 := 0) rfl d_M_take_7 (n := 8) rfl (mc_8 hM) (by omega) (by decide) ?_
  rw [h8]
  refine fv_callV_v C (ml_M_144 D dA) im_M_goOver se_M_goOver hM.1 rfl (ct_M_goOver hBs hM hR.1 hI.1 hI.2.1 hi hlen) d_M_take_8 (n := 11) rfl rfl rfl rfl (Nat.le_of_ble_eq_true rfl) (Nat.le_of_ble_eq_true rfl) (Nat.le_of_ble_eq_true rfl) (Nat.le_refl _) (Nat.le_refl _) (fun h1 hp => ?_)
  obtain ⟨⟨F1, hM, hA, hK⟩, f1⟩ := hp
  have hF := hF.tr f1 (U := MS m0) (fun x hx => hx) (fun x hx => hx)
  refine fv_aload_n C d_M_take_11 (n := 12) rfl (i := 0) rfl rfl ?_
  refine fv_iload_n C d_M_take_12 (n := 13) rfl (i := 3) rfl rfl ?_
  refine fv_callV_i C (ml_M_110 D dA) im_M_find se_M_find hM.1 rfl (ct_M_find hM rfl hwf.2.2.2 hA) d_M_take_13 (n := 16) rfl rfl rfl rfl (Nat.le_of_ble_eq_true rfl) (Nat.le_of_ble_eq_true rfl) (Nat.le_of_ble_eq_true rfl) (Nat.le_refl _) (Nat.le_refl _) (fun r0 h2 hp => ?_)
  obtain ⟨hh, hfi⟩ := hp
  rw [hh]
  refine fv_istore C d_M_take_16 (n := 18) rfl (by decide) (L' := [_, _, _, _, _, _, _, _, _]) rfl ?_
  have h24 := hwf.2.2.2
  generalize hB : fe_bk S.1 i (sp_len S i) = B at *
  have hN : (∀ o ∈ B.1, o.1 ≠ id) → bo_fi B.1 id = none := bo_fi_none.mpr
  rcases (show so = 0 ∨ so = 1 ∨ so = 2 ∨ so = 3 ∨ so = 4 ∨ so = 5 by omega) with rfl | rfl | rfl | rfl | rfl | rfl
  · rcases hfi with ⟨hfi, rfl⟩ | ⟨k, o, ho, ho1, hk, rfl⟩
    · have hNn := hN hfi
      refine fv_iload_n C d_M_take_18 (n := 19) rfl (i := 1) rfl rfl ?_
      refine fv_ifN_ne C (by omega) d_M_take_19 (tgt := 44) rfl (n := 22) rfl (fun hc19 => ?_) (fun hc19 => ?_)
      · exact absurd rfl hc19
      · refine fv_iload C d_M_take_22 (n := 24) rfl rfl ?_
        refine fv_if_ge C d_M_take_24 (tgt := 40) rfl (n := 27) rfl (fun hc24 => ?_) (fun hc24 => ?_)
        · exact absurd hc24 (by decide)
        · refine fv_aload_n C d_M_take_27 (n := 28) rfl (i := 0) rfl rfl ?_
          refine fv_get C (fl_M_106 D dA) d_M_take_28 (n := 31) rfl hM.1 rfl ?_
          refine fv_bipush C d_M_take_31 (n := 33) rfl kB_24 ?_
          refine fv_icmpN_ge C (by omega) (by omega) d_M_take_33 (tgt := 40) rfl (n := 36) rfl (fun hc33 => ?_) (fun hc33 => ?_)
          · have hk0 : ¬ B.1.length < 24 := by omega
            have hb : bo_ok B 0 id v = false := by unfold bo_ok; rw [if_pos rfl, hNn, decide_eq_false hk0]; rfl
            refine fv_iconst C d_M_take_40 (n := 41) rfl kI_0 ?_
            refine fv_goto C d_M_take_41 (tgt := 112) rfl ?_
            refine fv_istore C d_M_take_112 (n := 114) rfl (by decide) (L' := [_, _, _, _, _, _, _, _, _]) rfl ?_
            refine fv_iload_n C d_M_take_114 (n := 115) rfl (i := 1) rfl rfl ?_
            refine fv_iconst C d_M_take_115 (n := 116) rfl kI_3 ?_
            refine fv_icmpN_ne C (by omega) (by omega) d_M_take_116 (tgt := 124) rfl (n := 119) rfl (fun hc116 => ?_) (fun hc116 => ?_)
            · refine fv_iload_n C d_M_take_124 (n := 125) rfl (i := 1) rfl rfl ?_
              refine fv_iconst C d_M_take_125 (n := 126) rfl kI_4 ?_
              refine fv_icmpN_ne C (by omega) (by omega) d_M_take_126 (tgt := 150) rfl (n := 129) rfl (fun hc126 => ?_) (fun hc126 => ?_)
              · exact tail _ _ _ _ hM hK hF hb
              · exact absurd hc126 (by decide)
            · exact absurd hc116 (by decide)
          · have hk0 : B.1.length < 24 := by omega
            have hb : bo_ok B 0 id v = true := by unfold bo_ok; rw [if_pos rfl, hNn, decide_eq_true hk0]; rfl
            refine fv_iconst C d_M_take_36 (n := 37) rfl kI_1 ?_
            refine fv_goto C d_M_take_37 (tgt := 112) rfl ?_
            refine fv_istore C d_M_take_112 (n := 114) rfl (by decide) (L' := [_, _, _, _, _, _, _, _, _]) rfl ?_
            refine fv_iload_n C d_M_take_114 (n := 115) rfl (i := 1) rfl rfl ?_
            refine fv_iconst C d_M_take_115 (n := 116) rfl kI_3 ?_
            refine fv_icmpN_ne C (by omega) (by omega) d_M_take_116 (tgt := 124) rfl (n := 119) rfl (fun hc116 => ?_) (fun hc116 => ?_)
            · refine fv_iload_n C d_M_take_124 (n := 125) rfl (i := 1) rfl rfl ?_
              refine fv_iconst C d_M_take_125 (n := 126) rfl kI_4 ?_
              refine fv_icmpN_ne C (by omega) (by omega) d_M_take_126 (tgt := 150) rfl (n := 129) rfl (fun hc126 => ?_) (fun hc126 => ?_)
              · exact tail _ _ _ _ hM hK hF hb
              · exact absurd hc126 (by decide)
            · exact absurd hc116 (by decide)
    · have hS : bo_fi B.1 id = some o := by rw [← ho1]; exact bo_fi_of hwf.1 (List.mem_of_getElem? ho)
      have hsz := (hA k o ho).2.2.2
      refine fv_iload_n C d_M_take_18 (n := 19) rfl (i := 1) rfl rfl ?_
      refine fv_ifN_ne C (by omega) d_M_take_19 (tgt := 44) rfl (n := 22) rfl (fun hc19 => ?_) (fun hc19 => ?_)
      · exact absurd rfl hc19
      · refine fv_iload C d_M_take_22 (n := 24) rfl rfl ?_
        refine fv_ifN_ge C (by omega) d_M_take_24 (tgt := 40) rfl (n := 27) rfl ?_
        refine fv_iconst C d_M_take_40 (n := 41) rfl kI_0 ?_
        refine fv_goto C d_M_take_41 (tgt := 112) rfl ?_
        refine fv_istore C d_M_take_112 (n := 114) rfl (by decide) (L' := [_, _, _, _, _, _, _, _, _]) rfl ?_
        refine fv_iload_n C d_M_take_114 (n := 115) rfl (i := 1) rfl rfl ?_
        refine fv_iconst C d_M_take_115 (n := 116) rfl kI_3 ?_
        refine fv_icmpN_ne C (by omega) (by omega) d_M_take_116 (tgt := 124) rfl (n := 119) rfl (fun hc116 => ?_) (fun hc116 => ?_)
        · refine fv_iload_n C d_M_take_124 (n := 125) rfl (i := 1) rfl rfl ?_
          refine fv_iconst C d_M_take_125 (n := 126) rfl kI_4 ?_
          refine fv_icmpN_ne C (by omega) (by omega) d_M_take_126 (tgt := 150) rfl (n := 129) rfl (fun hc126 => ?_) (fun hc126 => ?_)
          · exact tail _ _ _ _ hM hK hF (by unfold bo_ok; rw [if_pos rfl, hS] <;> rfl)
          · exact absurd hc126 (by decide)
        · exact absurd hc116 (by decide)
  · rcases hfi with ⟨hfi, rfl⟩ | ⟨k, o, ho, ho1, hk, rfl⟩
    · have hNn := hN hfi
      refine fv_iload_n C d_M_take_18 (n := 19) rfl (i := 1) rfl rfl ?_
      refine fv_ifN_ne C (by omega) d_M_take_19 (tgt := 44) rfl (n := 22) rfl (fun hc19 => ?_) (fun hc19 => ?_)
      · refine fv_iload_n C d_M_take_44 (n := 45) rfl (i := 1) rfl rfl ?_
        refine fv_iconst C d_M_take_45 (n := 46) rfl kI_1 ?_
        refine fv_icmpN_ne C (by omega) (by omega) d_M_take_46 (tgt := 74) rfl (n := 49) rfl (fun hc46 => ?_) (fun hc46 => ?_)
        · exact absurd rfl hc46
        · refine fv_iload C d_M_take_49 (n := 51) rfl rfl ?_
          refine fv_if_lt C d_M_take_51 (tgt := 70) rfl (n := 54) rfl (fun hc51 => ?_) (fun hc51 => ?_)
          · refine fv_iconst C d_M_take_70 (n := 71) rfl kI_0 ?_
            refine fv_goto C d_M_take_71 (tgt := 112) rfl ?_
            refine fv_istore C d_M_take_112 (n := 114) rfl (by decide) (L' := [_, _, _, _, _, _, _, _, _]) rfl ?_
            refine fv_iload_n C d_M_take_114 (n := 115) rfl (i := 1) rfl rfl ?_
            refine fv_iconst C d_M_take_115 (n := 116) rfl kI_3 ?_
            refine fv_icmpN_ne C (by omega) (by omega) d_M_take_116 (tgt := 124) rfl (n := 119) rfl (fun hc116 => ?_) (fun hc116 => ?_)
            · refine fv_iload_n C d_M_take_124 (n := 125) rfl (i := 1) rfl rfl ?_
              refine fv_iconst C d_M_take_125 (n := 126) rfl kI_4 ?_
              refine fv_icmpN_ne C (by omega) (by omega) d_M_take_126 (tgt := 150) rfl (n := 129) rfl (fun hc126 => ?_) (fun hc126 => ?_)
              · exact tail _ _ _ _ hM hK hF (by unfold bo_ok; rw [hNn] <;> rfl)
              · exact absurd hc126 (by decide)
            · exact absurd hc116 (by decide)
          · exact absurd (by decide) hc51
      · exact absurd hc19 (by decide)
    · have hS : bo_fi B.1 id = some o := by rw [← ho1]; exact bo_fi_of hwf.1 (List.mem_of_getElem? ho)
      have hsz := (hA k o ho).2.2.2
      refine fv_iload_n C d_M_take_18 (n := 19) rfl (i := 1) rfl rfl ?_
      refine fv_ifN_ne C (by omega) d_M_take_19 (tgt := 44) rfl (n := 22) rfl (fun hc19 => ?_) (fun hc19 => ?_)
      · refine fv_iload_n C d_M_take_44 (n := 45) rfl (i := 1) rfl rfl ?_
        refine fv_iconst C d_M_take_45 (n := 46) rfl kI_1 ?_
        refine fv_icmpN_ne C (by omega) (by omega) d_M_take_46 (tgt := 74) rfl (n := 49) rfl (fun hc46 => ?_) (fun hc46 => ?_)
        · exact absurd rfl hc46
        · refine fv_iload C d_M_take_49 (n := 51) rfl rfl ?_
          refine fv_ifN_lt C (by omega) d_M_take_51 (tgt := 70) rfl (n := 54) rfl ?_
          refine fv_iload C d_M_take_54 (n := 56) rfl rfl ?_
          refine fv_aload_n C d_M_take_56 (n := 57) rfl (i := 0) rfl rfl ?_
          refine fv_get C (fl_M_46 D dA) d_M_take_57 (n := 60) rfl hM.1 rfl ?_
          refine fv_iload C d_M_take_60 (n := 62) rfl rfl ?_
          refine fv_ialdN C (t0 := 0) rfl d_M_take_62 (n := 63) rfl (mc_13 hM) (by omega) (by decide) ?_
          rw [hsz]
          refine fv_icmp_ge C d_M_take_63 (tgt := 70) rfl (n := 66) rfl (fun hc63 => ?_) (fun hc63 => ?_)
          · have hb : bo_ok B 1 id v = false := by unfold bo_ok; rw [hS]; exact decide_eq_false (Int32.not_lt.mpr hc63)
            refine fv_iconst C d_M_take_70 (n := 71) rfl kI_0 ?_
            refine fv_goto C d_M_take_71 (tgt := 112) rfl ?_
            refine fv_istore C d_M_take_112 (n := 114) rfl (by decide) (L' := [_, _, _, _, _, _, _, _, _]) rfl ?_
            refine fv_iload_n C d_M_take_114 (n := 115) rfl (i := 1) rfl rfl ?_
            refine fv_iconst C d_M_take_115 (n := 116) rfl kI_3 ?_
            refine fv_icmpN_ne C (by omega) (by omega) d_M_take_116 (tgt := 124) rfl (n := 119) rfl (fun hc116 => ?_) (fun hc116 => ?_)
            · refine fv_iload_n C d_M_take_124 (n := 125) rfl (i := 1) rfl rfl ?_
              refine fv_iconst C d_M_take_125 (n := 126) rfl kI_4 ?_
              refine fv_icmpN_ne C (by omega) (by omega) d_M_take_126 (tgt := 150) rfl (n := 129) rfl (fun hc126 => ?_) (fun hc126 => ?_)
              · exact tail _ _ _ _ hM hK hF hb
              · exact absurd hc126 (by decide)
            · exact absurd hc116 (by decide)
          · have hb : bo_ok B 1 id v = true := by unfold bo_ok; rw [hS]; exact decide_eq_true (Int32.not_le.mp hc63)
            refine fv_iconst C d_M_take_66 (n := 67) rfl kI_1 ?_
            refine fv_goto C d_M_take_67 (tgt := 112) rfl ?_
            refine fv_istore C d_M_take_112 (n := 114) rfl (by decide) (L' := [_, _, _, _, _, _, _, _, _]) rfl ?_
            refine fv_iload_n C d_M_take_114 (n := 115) rfl (i := 1) rfl rfl ?_
            refine fv_iconst C d_M_take_115 (n := 116) rfl kI_3 ?_
            refine fv_icmpN_ne C (by omega) (by omega) d_M_take_116 (tgt := 124) rfl (n := 119) rfl (fun hc116 => ?_) (fun hc116 => ?_)
            · refine fv_iload_n C d_M_take_124 (n := 125) rfl (i := 1) rfl rfl ?_
              refine fv_iconst C d_M_take_125 (n := 126) rfl kI_4 ?_
              refine fv_icmpN_ne C (by omega) (by omega) d_M_take_126 (tgt := 150) rfl (n := 129) rfl (fun hc126 => ?_) (fun hc126 => ?_)
              · exact tail _ _ _ _ hM hK hF hb
              · exact absurd hc126 (by decide)
            · exact absurd hc116 (by decide)
      · exact absurd hc19 (by decide)
  · rcases hfi with ⟨hfi, rfl⟩ | ⟨k, o, ho, ho1, hk, rfl⟩
    · have hNn := hN hfi
      refine fv_iload_n C d_M_take_18 (n := 19) rfl (i := 1) rfl rfl ?_
      refine fv_ifN_ne C (by omega) d_M_take_19 (tgt := 44) rfl (n := 22) rfl (fun hc19 => ?_) (fun hc19 => ?_)
      · refine fv_iload_n C d_M_take_44 (n := 45) rfl (i := 1) rfl rfl ?_
        refine fv_iconst C d_M_take_45 (n := 46) rfl kI_1 ?_
        refine fv_icmpN_ne C (by omega) (by omega) d_M_take_46 (tgt := 74) rfl (n := 49) rfl (fun hc46 => ?_) (fun hc46 => ?_)
        · refine fv_iload_n C d_M_take_74 (n := 75) rfl (i := 1) rfl rfl ?_
          refine fv_iconst C d_M_take_75 (n := 76) rfl kI_2 ?_
          refine fv_icmpN_ne C (by omega) (by omega) d_M_take_76 (tgt := 111) rfl (n := 79) rfl (fun hc76 => ?_) (fun hc76 => ?_)
          · exact absurd rfl hc76
          · refine fv_iload C d_M_take_79 (n := 81) rfl rfl ?_
            refine fv_if_lt C d_M_take_81 (tgt := 107) rfl (n := 84) rfl (fun hc81 => ?_) (fun hc81 => ?_)
            · refine fv_iconst C d_M_take_107 (n := 108) rfl kI_0 ?_
              refine fv_goto C d_M_take_108 (tgt := 112) rfl ?_
              refine fv_istore C d_M_take_112 (n := 114) rfl (by decide) (L' := [_, _, _, _, _, _, _, _, _]) rfl ?_
              refine fv_iload_n C d_M_take_114 (n := 115) rfl (i := 1) rfl rfl ?_
              refine fv_iconst C d_M_take_115 (n := 116) rfl kI_3 ?_
              refine fv_icmpN_ne C (by omega) (by omega) d_M_take_116 (tgt := 124) rfl (n := 119) rfl (fun hc116 => ?_) (fun hc116 => ?_)
              · refine fv_iload_n C d_M_take_124 (n := 125) rfl (i := 1) rfl rfl ?_
                refine fv_iconst C d_M_take_125 (n := 126) rfl kI_4 ?_
                refine fv_icmpN_ne C (by omega) (by omega) d_M_take_126 (tgt := 150) rfl (n := 129) rfl (fun hc126 => ?_) (fun hc126 => ?_)
                · exact tail _ _ _ _ hM hK hF (by unfold bo_ok; rw [hNn] <;> rfl)
                · exact absurd hc126 (by decide)
              · exact absurd hc116 (by decide)
            · exact absurd (by decide) hc81
        · exact absurd hc46 (by decide)
      · exact absurd hc19 (by decide)
    · have hS : bo_fi B.1 id = some o := by rw [← ho1]; exact bo_fi_of hwf.1 (List.mem_of_getElem? ho)
      have hsz := (hA k o ho).2.2.2
      refine fv_iload_n C d_M_take_18 (n := 19) rfl (i := 1) rfl rfl ?_
      refine fv_ifN_ne C (by omega) d_M_take_19 (tgt := 44) rfl (n := 22) rfl (fun hc19 => ?_) (fun hc19 => ?_)
      · refine fv_iload_n C d_M_take_44 (n := 45) rfl (i := 1) rfl rfl ?_
        refine fv_iconst C d_M_take_45 (n := 46) rfl kI_1 ?_
        refine fv_icmpN_ne C (by omega) (by omega) d_M_take_46 (tgt := 74) rfl (n := 49) rfl (fun hc46 => ?_) (fun hc46 => ?_)
        · refine fv_iload_n C d_M_take_74 (n := 75) rfl (i := 1) rfl rfl ?_
          refine fv_iconst C d_M_take_75 (n := 76) rfl kI_2 ?_
          refine fv_icmpN_ne C (by omega) (by omega) d_M_take_76 (tgt := 111) rfl (n := 79) rfl (fun hc76 => ?_) (fun hc76 => ?_)
          · exact absurd rfl hc76
          · refine fv_iload C d_M_take_79 (n := 81) rfl rfl ?_
            refine fv_ifN_lt C (by omega) d_M_take_81 (tgt := 107) rfl (n := 84) rfl ?_
            refine fv_aload_n C d_M_take_84 (n := 85) rfl (i := 0) rfl rfl ?_
            refine fv_get C (fl_M_118 D dA) d_M_take_85 (n := 88) rfl hM.1 rfl ?_
            refine fv_ifB_ne C d_M_take_88 (tgt := 107) rfl (n := 91) rfl (fun hc88 => ?_) (fun hc88 => ?_)
            · have hb : bo_ok B 2 id v = false := by unfold bo_ok; rw [hS]; show (!B.2 && _) = false; rw [hc88]; rfl
              refine fv_iconst C d_M_take_107 (n := 108) rfl kI_0 ?_
              refine fv_goto C d_M_take_108 (tgt := 112) rfl ?_
              refine fv_istore C d_M_take_112 (n := 114) rfl (by decide) (L' := [_, _, _, _, _, _, _, _, _]) rfl ?_
              refine fv_iload_n C d_M_take_114 (n := 115) rfl (i := 1) rfl rfl ?_
              refine fv_iconst C d_M_take_115 (n := 116) rfl kI_3 ?_
              refine fv_icmpN_ne C (by omega) (by omega) d_M_take_116 (tgt := 124) rfl (n := 119) rfl (fun hc116 => ?_) (fun hc116 => ?_)
              · refine fv_iload_n C d_M_take_124 (n := 125) rfl (i := 1) rfl rfl ?_
                refine fv_iconst C d_M_take_125 (n := 126) rfl kI_4 ?_
                refine fv_icmpN_ne C (by omega) (by omega) d_M_take_126 (tgt := 150) rfl (n := 129) rfl (fun hc126 => ?_) (fun hc126 => ?_)
                · exact tail _ _ _ _ hM hK hF hb
                · exact absurd hc126 (by decide)
              · exact absurd hc116 (by decide)
            · refine fv_iload C d_M_take_91 (n := 93) rfl rfl ?_
              refine fv_aload_n C d_M_take_93 (n := 94) rfl (i := 0) rfl rfl ?_
              refine fv_get C (fl_M_46 D dA) d_M_take_94 (n := 97) rfl hM.1 rfl ?_
              refine fv_iload C d_M_take_97 (n := 99) rfl rfl ?_
              refine fv_ialdN C (t0 := 0) rfl d_M_take_99 (n := 100) rfl (mc_13 hM) (by omega) (by decide) ?_
              rw [hsz]
              refine fv_icmp_gt C d_M_take_100 (tgt := 107) rfl (n := 103) rfl (fun hc100 => ?_) (fun hc100 => ?_)
              · have hb : bo_ok B 2 id v = false := by unfold bo_ok; rw [hS]; show (!B.2 && decide (v ≤ o.2.2.2)) = false; rw [decide_eq_false (Int32.not_le.mpr hc100)]; simp
                refine fv_iconst C d_M_take_107 (n := 108) rfl kI_0 ?_
                refine fv_goto C d_M_take_108 (tgt := 112) rfl ?_
                refine fv_istore C d_M_take_112 (n := 114) rfl (by decide) (L' := [_, _, _, _, _, _, _, _, _]) rfl ?_
                refine fv_iload_n C d_M_take_114 (n := 115) rfl (i := 1) rfl rfl ?_
                refine fv_iconst C d_M_take_115 (n := 116) rfl kI_3 ?_
                refine fv_icmpN_ne C (by omega) (by omega) d_M_take_116 (tgt := 124) rfl (n := 119) rfl (fun hc116 => ?_) (fun hc116 => ?_)
                · refine fv_iload_n C d_M_take_124 (n := 125) rfl (i := 1) rfl rfl ?_
                  refine fv_iconst C d_M_take_125 (n := 126) rfl kI_4 ?_
                  refine fv_icmpN_ne C (by omega) (by omega) d_M_take_126 (tgt := 150) rfl (n := 129) rfl (fun hc126 => ?_) (fun hc126 => ?_)
                  · exact tail _ _ _ _ hM hK hF hb
                  · exact absurd hc126 (by decide)
                · exact absurd hc116 (by decide)
              · have hb : bo_ok B 2 id v = true := by unfold bo_ok; rw [hS]; show (!B.2 && decide (v ≤ o.2.2.2)) = true; rw [hc88, decide_eq_true (Int32.not_lt.mp hc100)]; rfl
                refine fv_iconst C d_M_take_103 (n := 104) rfl kI_1 ?_
                refine fv_goto C d_M_take_104 (tgt := 112) rfl ?_
                refine fv_istore C d_M_take_112 (n := 114) rfl (by decide) (L' := [_, _, _, _, _, _, _, _, _]) rfl ?_
                refine fv_iload_n C d_M_take_114 (n := 115) rfl (i := 1) rfl rfl ?_
                refine fv_iconst C d_M_take_115 (n := 116) rfl kI_3 ?_
                refine fv_icmpN_ne C (by omega) (by omega) d_M_take_116 (tgt := 124) rfl (n := 119) rfl (fun hc116 => ?_) (fun hc116 => ?_)
                · refine fv_iload_n C d_M_take_124 (n := 125) rfl (i := 1) rfl rfl ?_
                  refine fv_iconst C d_M_take_125 (n := 126) rfl kI_4 ?_
                  refine fv_icmpN_ne C (by omega) (by omega) d_M_take_126 (tgt := 150) rfl (n := 129) rfl (fun hc126 => ?_) (fun hc126 => ?_)
                  · exact tail _ _ _ _ hM hK hF hb
                  · exact absurd hc126 (by decide)
                · exact absurd hc116 (by decide)
        · exact absurd hc46 (by decide)
      · exact absurd hc19 (by decide)
  · rcases hfi with ⟨hfi, rfl⟩ | ⟨k, o, ho, ho1, hk, rfl⟩
    · have hNn := hN hfi
      refine fv_iload_n C d_M_take_18 (n := 19) rfl (i := 1) rfl rfl ?_
      refine fv_ifN_ne C (by omega) d_M_take_19 (tgt := 44) rfl (n := 22) rfl (fun hc19 => ?_) (fun hc19 => ?_)
      · refine fv_iload_n C d_M_take_44 (n := 45) rfl (i := 1) rfl rfl ?_
        refine fv_iconst C d_M_take_45 (n := 46) rfl kI_1 ?_
        refine fv_icmpN_ne C (by omega) (by omega) d_M_take_46 (tgt := 74) rfl (n := 49) rfl (fun hc46 => ?_) (fun hc46 => ?_)
        · refine fv_iload_n C d_M_take_74 (n := 75) rfl (i := 1) rfl rfl ?_
          refine fv_iconst C d_M_take_75 (n := 76) rfl kI_2 ?_
          refine fv_icmpN_ne C (by omega) (by omega) d_M_take_76 (tgt := 111) rfl (n := 79) rfl (fun hc76 => ?_) (fun hc76 => ?_)
          · refine fv_iconst C d_M_take_111 (n := 112) rfl kI_1 ?_
            refine fv_istore C d_M_take_112 (n := 114) rfl (by decide) (L' := [_, _, _, _, _, _, _, _, _]) rfl ?_
            refine fv_iload_n C d_M_take_114 (n := 115) rfl (i := 1) rfl rfl ?_
            refine fv_iconst C d_M_take_115 (n := 116) rfl kI_3 ?_
            refine fv_icmpN_ne C (by omega) (by omega) d_M_take_116 (tgt := 124) rfl (n := 119) rfl (fun hc116 => ?_) (fun hc116 => ?_)
            · exact absurd rfl hc116
            · refine fv_iload C d_M_take_119 (n := 121) rfl rfl ?_
              refine fv_if_lt C d_M_take_121 (tgt := 147) rfl (n := 124) rfl (fun hc121 => ?_) (fun hc121 => ?_)
              · refine fv_iconst C d_M_take_147 (n := 148) rfl kI_0 ?_
                refine fv_istore C d_M_take_148 (n := 150) rfl (by decide) (L' := [_, _, _, _, _, _, _, _, _]) rfl ?_
                exact tail _ _ _ _ hM hK hF (by unfold bo_ok; rw [hNn] <;> rfl)
              · exact absurd (by decide) hc121
          · exact absurd hc76 (by decide)
        · exact absurd hc46 (by decide)
      · exact absurd hc19 (by decide)
    · have hS : bo_fi B.1 id = some o := by rw [← ho1]; exact bo_fi_of hwf.1 (List.mem_of_getElem? ho)
      have hsz := (hA k o ho).2.2.2
      refine fv_iload_n C d_M_take_18 (n := 19) rfl (i := 1) rfl rfl ?_
      refine fv_ifN_ne C (by omega) d_M_take_19 (tgt := 44) rfl (n := 22) rfl (fun hc19 => ?_) (fun hc19 => ?_)
      · refine fv_iload_n C d_M_take_44 (n := 45) rfl (i := 1) rfl rfl ?_
        refine fv_iconst C d_M_take_45 (n := 46) rfl kI_1 ?_
        refine fv_icmpN_ne C (by omega) (by omega) d_M_take_46 (tgt := 74) rfl (n := 49) rfl (fun hc46 => ?_) (fun hc46 => ?_)
        · refine fv_iload_n C d_M_take_74 (n := 75) rfl (i := 1) rfl rfl ?_
          refine fv_iconst C d_M_take_75 (n := 76) rfl kI_2 ?_
          refine fv_icmpN_ne C (by omega) (by omega) d_M_take_76 (tgt := 111) rfl (n := 79) rfl (fun hc76 => ?_) (fun hc76 => ?_)
          · refine fv_iconst C d_M_take_111 (n := 112) rfl kI_1 ?_
            refine fv_istore C d_M_take_112 (n := 114) rfl (by decide) (L' := [_, _, _, _, _, _, _, _, _]) rfl ?_
            refine fv_iload_n C d_M_take_114 (n := 115) rfl (i := 1) rfl rfl ?_
            refine fv_iconst C d_M_take_115 (n := 116) rfl kI_3 ?_
            refine fv_icmpN_ne C (by omega) (by omega) d_M_take_116 (tgt := 124) rfl (n := 119) rfl (fun hc116 => ?_) (fun hc116 => ?_)
            · exact absurd rfl hc116
            · refine fv_iload C d_M_take_119 (n := 121) rfl rfl ?_
              refine fv_ifN_lt C (by omega) d_M_take_121 (tgt := 147) rfl (n := 124) rfl ?_
              refine fv_iload_n C d_M_take_124 (n := 125) rfl (i := 1) rfl rfl ?_
              refine fv_iconst C d_M_take_125 (n := 126) rfl kI_4 ?_
              refine fv_icmpN_ne C (by omega) (by omega) d_M_take_126 (tgt := 150) rfl (n := 129) rfl (fun hc126 => ?_) (fun hc126 => ?_)
              · exact tail _ _ _ _ hM hK hF (by unfold bo_ok; rw [hS] <;> rfl)
              · exact absurd hc126 (by decide)
          · exact absurd hc76 (by decide)
        · exact absurd hc46 (by decide)
      · exact absurd hc19 (by decide)
  · skip
    refine fv_iload_n C d_M_take_18 (n := 19) rfl (i := 1) rfl rfl ?_
    refine fv_ifN_ne C (by omega) d_M_take_19 (tgt := 44) rfl (n := 22) rfl (fun hc19 => ?_) (fun hc19 => ?_)
    · refine fv_iload_n C d_M_take_44 (n := 45) rfl (i := 1) rfl rfl ?_
      refine fv_iconst C d_M_take_45 (n := 46) rfl kI_1 ?_
      refine fv_icmpN_ne C (by omega) (by omega) d_M_take_46 (tgt := 74) rfl (n := 49) rfl (fun hc46 => ?_) (fun hc46 => ?_)
      · refine fv_iload_n C d_M_take_74 (n := 75) rfl (i := 1) rfl rfl ?_
        refine fv_iconst C d_M_take_75 (n := 76) rfl kI_2 ?_
        refine fv_icmpN_ne C (by omega) (by omega) d_M_take_76 (tgt := 111) rfl (n := 79) rfl (fun hc76 => ?_) (fun hc76 => ?_)
        · refine fv_iconst C d_M_take_111 (n := 112) rfl kI_1 ?_
          refine fv_istore C d_M_take_112 (n := 114) rfl (by decide) (L' := [_, _, _, _, _, _, _, _, _]) rfl ?_
          refine fv_iload_n C d_M_take_114 (n := 115) rfl (i := 1) rfl rfl ?_
          refine fv_iconst C d_M_take_115 (n := 116) rfl kI_3 ?_
          refine fv_icmpN_ne C (by omega) (by omega) d_M_take_116 (tgt := 124) rfl (n := 119) rfl (fun hc116 => ?_) (fun hc116 => ?_)
          · refine fv_iload_n C d_M_take_124 (n := 125) rfl (i := 1) rfl rfl ?_
            refine fv_iconst C d_M_take_125 (n := 126) rfl kI_4 ?_
            refine fv_icmpN_ne C (by omega) (by omega) d_M_take_126 (tgt := 150) rfl (n := 129) rfl (fun hc126 => ?_) (fun hc126 => ?_)
            · exact absurd rfl hc126
            · refine fv_aload_n C d_M_take_129 (n := 130) rfl (i := 0) rfl rfl ?_
              refine fv_get C (fl_M_118 D dA) d_M_take_130 (n := 133) rfl hM.1 rfl ?_
              refine fv_iload C d_M_take_133 (n := 135) rfl rfl ?_
              refine fv_iconst C d_M_take_135 (n := 136) rfl kI_1 ?_
              refine fv_icmp_ne C d_M_take_136 (tgt := 143) rfl (n := 139) rfl (fun hc136 => ?_) (fun hc136 => ?_)
              · have hv : ¬ v = 1 := hc136
                refine fv_iconst C d_M_take_143 (n := 144) rfl kI_0 ?_
                refine fv_icmp_ne C d_M_take_144 (tgt := 150) rfl (n := 147) rfl (fun hc144 => ?_) (fun hc144 => ?_)
                · first | (have hb : bo_ok B 4 id v = true := by (unfold bo_ok; cases hz : B.2 <;> simp [hz] at hc144 ⊢ <;> simp [hv] <;> exact absurd rfl hc144)) | skip
                  exact tail _ _ _ _ hM hK hF hb
                · have hb : bo_ok B 4 id v = false := by (unfold bo_ok; cases hz : B.2 <;> simp [hz] at hc144 ⊢ <;> simp [hv] <;> exact absurd hc144 (by decide))
                  refine fv_iconst C d_M_take_147 (n := 148) rfl kI_0 ?_
                  refine fv_istore C d_M_take_148 (n := 150) rfl (by decide) (L' := [_, _, _, _, _, _, _, _, _]) rfl ?_
                  exact tail _ _ _ _ hM hK hF hb
              · have hv : v = 1 := hc136
                refine fv_iconst C d_M_take_139 (n := 140) rfl kI_1 ?_
                refine fv_goto C d_M_take_140 (tgt := 144) rfl ?_
                refine fv_icmp_ne C d_M_take_144 (tgt := 150) rfl (n := 147) rfl (fun hc144 => ?_) (fun hc144 => ?_)
                · first | (have hb : bo_ok B 4 id v = true := by (unfold bo_ok; cases hz : B.2 <;> simp [hz] at hc144 ⊢ <;> simp [hv] <;> exact absurd rfl hc144)) | skip
                  exact tail _ _ _ _ hM hK hF hb
                · have hb : bo_ok B 4 id v = false := by (unfold bo_ok; cases hz : B.2 <;> simp [hz] at hc144 ⊢ <;> simp [hv] <;> exact absurd hc144 (by decide))
                  refine fv_iconst C d_M_take_147 (n := 148) rfl kI_0 ?_
                  refine fv_istore C d_M_take_148 (n := 150) rfl (by decide) (L' := [_, _, _, _, _, _, _, _, _]) rfl ?_
                  exact tail _ _ _ _ hM hK hF hb
          · exact absurd hc116 (by decide)
        · exact absurd hc76 (by decide)
      · exact absurd hc46 (by decide)
    · exact absurd hc19 (by decide)
  · skip
    refine fv_iload_n C d_M_take_18 (n := 19) rfl (i := 1) rfl rfl ?_
    refine fv_ifN_ne C (by omega) d_M_take_19 (tgt := 44) rfl (n := 22) rfl (fun hc19 => ?_) (fun hc19 => ?_)
    · refine fv_iload_n C d_M_take_44 (n := 45) rfl (i := 1) rfl rfl ?_
      refine fv_iconst C d_M_take_45 (n := 46) rfl kI_1 ?_
      refine fv_icmpN_ne C (by omega) (by omega) d_M_take_46 (tgt := 74) rfl (n := 49) rfl (fun hc46 => ?_) (fun hc46 => ?_)
      · refine fv_iload_n C d_M_take_74 (n := 75) rfl (i := 1) rfl rfl ?_
        refine fv_iconst C d_M_take_75 (n := 76) rfl kI_2 ?_
        refine fv_icmpN_ne C (by omega) (by omega) d_M_take_76 (tgt := 111) rfl (n := 79) rfl (fun hc76 => ?_) (fun hc76 => ?_)
        · refine fv_iconst C d_M_take_111 (n := 112) rfl kI_1 ?_
          refine fv_istore C d_M_take_112 (n := 114) rfl (by decide) (L' := [_, _, _, _, _, _, _, _, _]) rfl ?_
          refine fv_iload_n C d_M_take_114 (n := 115) rfl (i := 1) rfl rfl ?_
          refine fv_iconst C d_M_take_115 (n := 116) rfl kI_3 ?_
          refine fv_icmpN_ne C (by omega) (by omega) d_M_take_116 (tgt := 124) rfl (n := 119) rfl (fun hc116 => ?_) (fun hc116 => ?_)
          · refine fv_iload_n C d_M_take_124 (n := 125) rfl (i := 1) rfl rfl ?_
            refine fv_iconst C d_M_take_125 (n := 126) rfl kI_4 ?_
            refine fv_icmpN_ne C (by omega) (by omega) d_M_take_126 (tgt := 150) rfl (n := 129) rfl (fun hc126 => ?_) (fun hc126 => ?_)
            · exact tail _ _ _ _ hM hK hF rfl
            · exact absurd hc126 (by decide)
          · exact absurd hc116 (by decide)
        · exact absurd hc76 (by decide)
      · exact absurd hc46 (by decide)
    · exact absurd hc19 (by decide)
end MD4
