/-! the law's loop -/
theorem RM.fs {dA : Nat → ClassId} {h h' : fv_H} {m0 : Nat} {S : sp_T} {Z : Nat → Prop} (q : RM dA h m0 S) (hf : fs h h' Z) (hd : ∀ x, m0 ≤ x → x ≤ m0 + 30 → ¬ Z x) : RM dA h' m0 S := by
  obtain ⟨F, bl, bh, hM, hR⟩ := q
  exact ⟨F, bl, bh, hM.fs hf hd, hR⟩
theorem sp_os_sh (S : sp_T) (so ins : Nat) (id : Int32) (s : Nat) (pr v : Int32) : sp_sh (sp_os S so ins id s pr v) = sp_sh S := by
  unfold sp_os
  split <;> rfl
section LW
variable {D : va_G} {dA : Nat → ClassId} {Bs : Nat} {X : fv_X} {Q : State → Prop} {b L b0 : Nat} {xs : Nat → Int32}
theorem law_loop (C : fv_C (fk D dA) WA X m_law 600000 7302250) (hL : L ≤ 3072) (hX : va_X b L xs X.2.2.2.2.1 X.2.2.2.2.1.heap) (hbl : b < X.2.2.2.2.1.heap.size) (hb : b < Bs) (hBs : Bs ≤ b0) (hend : ∀ (L9 : List (Option Value)) (sz : Nat) (h : fv_H) (cells slots : Nat), cells ≤ 600000 → slots ≤ 7302250 → fv_V (fk D dA) Bs X 4 Q 935 L9 [.int (nI 1)] sz h cells slots) : ∀ (n c : Nat) (h : fv_H) (S : sp_T) (cells slots : Nat), c + n = 513 → DK dA h b0 (b0 + 163) S → RM dA h (b0 + 132) S → sp_I S → (sp_sh S).length ≤ c → cells ≤ 170 + c → slots ≤ 20000 + 7 * c → fv_V (fk D dA) Bs X 4 Q 18 [some (.ref b), some (.ref b0), some (.ref (b0 + 132)), some (.int (nI (6 * c)))] [] (b0 + 163 + S.1.length) h cells slots := by
  intro n
  induction n with
  | zero =>
    intro c h S cells slots hc hD hM hI hsh hcl hsl
    refine fv_iload_n C d_law_18 (n := 19) rfl (i := 3) rfl rfl ?_
    refine fv_aload_n C d_law_19 (n := 20) rfl (i := 0) rfl rfl ?_
    refine fv_slen C hX hbl hb d_law_20 (n := 21) rfl ?_
    refine fv_bipush C d_law_21 (n := 23) rfl kB_6 ?_
    refine fv_isub C d_law_23 (n := 24) rfl ?_
    refine fv_icmp_gt C d_law_24 (tgt := 934) rfl (n := 27) rfl (fun hc24 => ?_) (fun hc24 => ?_)
    · rw [Int32.lt_iff_toInt_lt, pk_sub_toInt (by omega) (by omega), nI_toInt (by omega)] at hc24
      refine fv_iconst C d_law_934 (n := 935) rfl kI_1 ?_
      exact hend _ _ _ _ _ (by omega) (by omega)
    · exact absurd (by rw [Int32.lt_iff_toInt_lt, pk_sub_toInt (by omega) (by omega), nI_toInt (by omega)]; omega) hc24
  | succ n ih =>
    intro c h S cells slots hc hD hM hI hsh hcl hsl
    refine fv_iload_n C d_law_18 (n := 19) rfl (i := 3) rfl rfl ?_
    refine fv_aload_n C d_law_19 (n := 20) rfl (i := 0) rfl rfl ?_
    refine fv_slen C hX hbl hb d_law_20 (n := 21) rfl ?_
    refine fv_bipush C d_law_21 (n := 23) rfl kB_6 ?_
    refine fv_isub C d_law_23 (n := 24) rfl ?_
    refine fv_icmp_gt C d_law_24 (tgt := 934) rfl (n := 27) rfl (fun hc24 => ?_) (fun hc24 => ?_)
    · refine fv_iconst C d_law_934 (n := 935) rfl kI_1 ?_
      exact hend _ _ _ _ _ (by omega) (by omega)
    · rw [Int32.lt_iff_toInt_lt, pk_sub_toInt (by omega) (by omega), nI_toInt (by omega)] at hc24
      refine fv_aload_n C d_law_27 (n := 28) rfl (i := 0) rfl rfl ?_
      refine fv_iload_n C d_law_28 (n := 29) rfl (i := 3) rfl rfl ?_
      refine fv_sld C hX hbl hb d_law_29 (n := 30) rfl (by omega) (by omega) ?_
      refine fv_bipush C d_law_30 (n := 32) rfl kB_31 ?_
      refine fv_iand C d_law_32 (n := 33) rfl ?_
      generalize xs (6 * c) &&& nI 31 = w
      by_cases w0 : w = nI 0
      · subst w0
        refine fv_tableIn C d_law_33 (by decide +kernel) (by decide +kernel) (off := 103) (by decide +kernel) (tgt := 136) rfl ?_
        refine fv_aload_n C d_law_136 (n := 137) rfl (i := 1) rfl rfl ?_
        refine fv_aload_n C d_law_137 (n := 138) rfl (i := 0) rfl rfl ?_
        refine fv_iload_n C d_law_138 (n := 139) rfl (i := 3) rfl rfl ?_
        refine fv_iconst C d_law_139 (n := 140) rfl kI_1 ?_
        first | refine fv_iaddN C d_law_140 (n := 141) rfl ?_ | refine fv_iadd C d_law_140 (n := 141) rfl ?_
        refine fv_sld C hX hbl hb d_law_141 (n := 142) rfl (by omega) (by omega) ?_
        refine fv_aload_n C d_law_142 (n := 143) rfl (i := 0) rfl rfl ?_
        refine fv_iload_n C d_law_143 (n := 144) rfl (i := 3) rfl rfl ?_
        refine fv_iconst C d_law_144 (n := 145) rfl kI_2 ?_
        first | refine fv_iaddN C d_law_145 (n := 146) rfl ?_ | refine fv_iadd C d_law_145 (n := 146) rfl ?_
        refine fv_sld C hX hbl hb d_law_146 (n := 147) rfl (by omega) (by omega) ?_
        refine fv_aload_n C d_law_147 (n := 148) rfl (i := 0) rfl rfl ?_
        refine fv_iload_n C d_law_148 (n := 149) rfl (i := 3) rfl rfl ?_
        refine fv_iconst C d_law_149 (n := 150) rfl kI_3 ?_
        first | refine fv_iaddN C d_law_150 (n := 151) rfl ?_ | refine fv_iadd C d_law_150 (n := 151) rfl ?_
        refine fv_sld C hX hbl hb d_law_151 (n := 152) rfl (by omega) (by omega) ?_
        refine fv_aload_n C d_law_152 (n := 153) rfl (i := 0) rfl rfl ?_
        refine fv_iload_n C d_law_153 (n := 154) rfl (i := 3) rfl rfl ?_
        refine fv_iconst C d_law_154 (n := 155) rfl kI_4 ?_
        first | refine fv_iaddN C d_law_155 (n := 156) rfl ?_ | refine fv_iadd C d_law_155 (n := 156) rfl ?_
        refine fv_sld C hX hbl hb d_law_156 (n := 157) rfl (by omega) (by omega) ?_
        refine fv_aload_n C d_law_157 (n := 158) rfl (i := 0) rfl rfl ?_
        refine fv_iload_n C d_law_158 (n := 159) rfl (i := 3) rfl rfl ?_
        refine fv_iconst C d_law_159 (n := 160) rfl kI_5 ?_
        first | refine fv_iaddN C d_law_160 (n := 161) rfl ?_ | refine fv_iadd C d_law_160 (n := 161) rfl ?_
        refine fv_sld C hX hbl hb d_law_161 (n := 162) rfl (by omega) (by omega) ?_
        refine fv_callV C (ml_L_13 D dA) im_D_add se_D_add hD.1.1 rfl (ct_D_add rfl (by omega) hBs hD hI) d_law_162 (n := 165) rfl rfl rfl rfl (Nat.le_of_ble_eq_true rfl) (Nat.le_of_ble_eq_true rfl) (Nat.le_of_ble_eq_true rfl) (by omega) (by omega) (fun vv s1 h1 hp => ?_)
        obtain ⟨rfl, rfl, hD, hI2, f1⟩ := hp
        have hM := hM.fs f1 (fun x a1 a2 => by unfold SD; omega)
        obtain ⟨F, bl, bh, hMc, -⟩ := id hM
        refine fv_aload_n C d_law_165 (n := 166) rfl (i := 2) rfl rfl ?_
        refine fv_aload_n C d_law_166 (n := 167) rfl (i := 0) rfl rfl ?_
        refine fv_iload_n C d_law_167 (n := 168) rfl (i := 3) rfl rfl ?_
        refine fv_iconst C d_law_168 (n := 169) rfl kI_1 ?_
        first | refine fv_iaddN C d_law_169 (n := 170) rfl ?_ | refine fv_iadd C d_law_169 (n := 170) rfl ?_
        refine fv_sld C hX hbl hb d_law_170 (n := 171) rfl (by omega) (by omega) ?_
        refine fv_aload_n C d_law_171 (n := 172) rfl (i := 0) rfl rfl ?_
        refine fv_iload_n C d_law_172 (n := 173) rfl (i := 3) rfl rfl ?_
        refine fv_iconst C d_law_173 (n := 174) rfl kI_2 ?_
        first | refine fv_iaddN C d_law_174 (n := 175) rfl ?_ | refine fv_iadd C d_law_174 (n := 175) rfl ?_
        refine fv_sld C hX hbl hb d_law_175 (n := 176) rfl (by omega) (by omega) ?_
        refine fv_aload_n C d_law_176 (n := 177) rfl (i := 0) rfl rfl ?_
        refine fv_iload_n C d_law_177 (n := 178) rfl (i := 3) rfl rfl ?_
        refine fv_iconst C d_law_178 (n := 179) rfl kI_3 ?_
        first | refine fv_iaddN C d_law_179 (n := 180) rfl ?_ | refine fv_iadd C d_law_179 (n := 180) rfl ?_
        refine fv_sld C hX hbl hb d_law_180 (n := 181) rfl (by omega) (by omega) ?_
        refine fv_aload_n C d_law_181 (n := 182) rfl (i := 0) rfl rfl ?_
        refine fv_iload_n C d_law_182 (n := 183) rfl (i := 3) rfl rfl ?_
        refine fv_iconst C d_law_183 (n := 184) rfl kI_4 ?_
        first | refine fv_iaddN C d_law_184 (n := 185) rfl ?_ | refine fv_iadd C d_law_184 (n := 185) rfl ?_
        refine fv_sld C hX hbl hb d_law_185 (n := 186) rfl (by omega) (by omega) ?_
        refine fv_aload_n C d_law_186 (n := 187) rfl (i := 0) rfl rfl ?_
        refine fv_iload_n C d_law_187 (n := 188) rfl (i := 3) rfl rfl ?_
        refine fv_iconst C d_law_188 (n := 189) rfl kI_5 ?_
        first | refine fv_iaddN C d_law_189 (n := 190) rfl ?_ | refine fv_iadd C d_law_189 (n := 190) rfl ?_
        refine fv_sld C hX hbl hb d_law_190 (n := 191) rfl (by omega) (by omega) ?_
        refine fv_callV_i C (ml_L_17 D dA) im_M_add se_M_add hMc.1 rfl (ct_M_add (by omega) hM hI) d_law_191 (n := 194) rfl rfl rfl rfl (Nat.le_of_ble_eq_true rfl) (Nat.le_of_ble_eq_true rfl) (Nat.le_of_ble_eq_true rfl) (by omega) (by omega) (fun r0 h2 hp => ?_)
        obtain ⟨rfl, hM, f2⟩ := hp
        have hD := hD.fs f2 (fun x hx => by unfold MS; omega)
        have hI := hI2
        have hsh2 : (sp_sh (sp_addS S (xs (6 * c + 1)) (xs (6 * c + 2)) (xs (6 * c + 3)) (xs (6 * c + 4)) (xs (6 * c + 5)))).length ≤ c + 1 := by unfold sp_addS; split <;> (try rw [sp_os_sh]) <;> omega
        refine fv_icmp_eq C d_law_194 (tgt := 928) rfl (n := 197) rfl (fun hc194 => ?_) (fun hc194 => ?_)
        · refine fv_iinc C d_law_928 (n := 931) rfl rfl (show nI (6 * c) + Int32.ofInt 6 = nI (6 * (c + 1)) by rw [show Int32.ofInt 6 = nI 6 by decide +kernel, nI_add]; rfl) (by decide) (L' := [_, _, _, _]) rfl ?_
          refine fv_goto C d_law_931 (tgt := 18) rfl ?_
          exact ih (c + 1) _ _ _ _ (by omega) hD hM hI hsh2 (by omega) (by omega)
        · exact absurd rfl hc194
      by_cases w1 : w = nI 1
      · subst w1
        refine fv_tableIn C d_law_33 (by decide +kernel) (by decide +kernel) (off := 166) (by decide +kernel) (tgt := 199) rfl ?_
        refine fv_aload_n C d_law_199 (n := 200) rfl (i := 1) rfl rfl ?_
        refine fv_aload_n C d_law_200 (n := 201) rfl (i := 0) rfl rfl ?_
        refine fv_iload_n C d_law_201 (n := 202) rfl (i := 3) rfl rfl ?_
        refine fv_iconst C d_law_202 (n := 203) rfl kI_1 ?_
        first | refine fv_iaddN C d_law_203 (n := 204) rfl ?_ | refine fv_iadd C d_law_203 (n := 204) rfl ?_
        refine fv_sld C hX hbl hb d_law_204 (n := 205) rfl (by omega) (by omega) ?_
        refine fv_aload_n C d_law_205 (n := 206) rfl (i := 0) rfl rfl ?_
        refine fv_iload_n C d_law_206 (n := 207) rfl (i := 3) rfl rfl ?_
        refine fv_iconst C d_law_207 (n := 208) rfl kI_2 ?_
        first | refine fv_iaddN C d_law_208 (n := 209) rfl ?_ | refine fv_iadd C d_law_208 (n := 209) rfl ?_
        refine fv_sld C hX hbl hb d_law_209 (n := 210) rfl (by omega) (by omega) ?_
        refine fv_aload_n C d_law_210 (n := 211) rfl (i := 0) rfl rfl ?_
        refine fv_iload_n C d_law_211 (n := 212) rfl (i := 3) rfl rfl ?_
        refine fv_iconst C d_law_212 (n := 213) rfl kI_3 ?_
        first | refine fv_iaddN C d_law_213 (n := 214) rfl ?_ | refine fv_iadd C d_law_213 (n := 214) rfl ?_
        refine fv_sld C hX hbl hb d_law_214 (n := 215) rfl (by omega) (by omega) ?_
        refine fv_callV C (ml_L_18 D dA) im_D_change se_D_change hD.1.1 rfl (ct_D_change rfl (by omega) hBs hD hI) d_law_215 (n := 218) rfl rfl rfl rfl (Nat.le_of_ble_eq_true rfl) (Nat.le_of_ble_eq_true rfl) (Nat.le_of_ble_eq_true rfl) (by omega) (by omega) (fun vv s1 h1 hp => ?_)
        obtain ⟨rfl, rfl, hD, hI2, f1⟩ := hp
        have hM := hM.fs f1 (fun x a1 a2 => by unfold SD; omega)
        obtain ⟨F, bl, bh, hMc, -⟩ := id hM
        refine fv_aload_n C d_law_218 (n := 219) rfl (i := 2) rfl rfl ?_
        refine fv_aload_n C d_law_219 (n := 220) rfl (i := 0) rfl rfl ?_
        refine fv_iload_n C d_law_220 (n := 221) rfl (i := 3) rfl rfl ?_
        refine fv_iconst C d_law_221 (n := 222) rfl kI_1 ?_
        first | refine fv_iaddN C d_law_222 (n := 223) rfl ?_ | refine fv_iadd C d_law_222 (n := 223) rfl ?_
        refine fv_sld C hX hbl hb d_law_223 (n := 224) rfl (by omega) (by omega) ?_
        refine fv_aload_n C d_law_224 (n := 225) rfl (i := 0) rfl rfl ?_
        refine fv_iload_n C d_law_225 (n := 226) rfl (i := 3) rfl rfl ?_
        refine fv_iconst C d_law_226 (n := 227) rfl kI_2 ?_
        first | refine fv_iaddN C d_law_227 (n := 228) rfl ?_ | refine fv_iadd C d_law_227 (n := 228) rfl ?_
        refine fv_sld C hX hbl hb d_law_228 (n := 229) rfl (by omega) (by omega) ?_
        refine fv_aload_n C d_law_229 (n := 230) rfl (i := 0) rfl rfl ?_
        refine fv_iload_n C d_law_230 (n := 231) rfl (i := 3) rfl rfl ?_
        refine fv_iconst C d_law_231 (n := 232) rfl kI_3 ?_
        first | refine fv_iaddN C d_law_232 (n := 233) rfl ?_ | refine fv_iadd C d_law_232 (n := 233) rfl ?_
        refine fv_sld C hX hbl hb d_law_233 (n := 234) rfl (by omega) (by omega) ?_
        refine fv_callV_i C (ml_L_22 D dA) im_M_change se_M_change hMc.1 rfl (ct_M_change (by omega) hM hI) d_law_234 (n := 237) rfl rfl rfl rfl (Nat.le_of_ble_eq_true rfl) (Nat.le_of_ble_eq_true rfl) (Nat.le_of_ble_eq_true rfl) (by omega) (by omega) (fun r0 h2 hp => ?_)
        obtain ⟨rfl, hM, f2⟩ := hp
        have hD := hD.fs f2 (fun x hx => by unfold MS; omega)
        have hI := hI2
        have hsh2 : (sp_sh (sp_chgS S 1 (xs (6 * c + 1)) (xs (6 * c + 2)) (xs (6 * c + 3)))).length ≤ c + 1 := by unfold sp_chgS; split <;> (try rw [sp_os_sh]) <;> omega
        refine fv_icmp_eq C d_law_237 (tgt := 928) rfl (n := 240) rfl (fun hc237 => ?_) (fun hc237 => ?_)
        · refine fv_iinc C d_law_928 (n := 931) rfl rfl (show nI (6 * c) + Int32.ofInt 6 = nI (6 * (c + 1)) by rw [show Int32.ofInt 6 = nI 6 by decide +kernel, nI_add]; rfl) (by decide) (L' := [_, _, _, _]) rfl ?_
          refine fv_goto C d_law_931 (tgt := 18) rfl ?_
          exact ih (c + 1) _ _ _ _ (by omega) hD hM hI hsh2 (by omega) (by omega)
        · exact absurd rfl hc237
      by_cases w2 : w = nI 2
      · subst w2
        refine fv_tableIn C d_law_33 (by decide +kernel) (by decide +kernel) (off := 209) (by decide +kernel) (tgt := 242) rfl ?_
        refine fv_aload_n C d_law_242 (n := 243) rfl (i := 1) rfl rfl ?_
        refine fv_aload_n C d_law_243 (n := 244) rfl (i := 0) rfl rfl ?_
        refine fv_iload_n C d_law_244 (n := 245) rfl (i := 3) rfl rfl ?_
        refine fv_iconst C d_law_245 (n := 246) rfl kI_1 ?_
        first | refine fv_iaddN C d_law_246 (n := 247) rfl ?_ | refine fv_iadd C d_law_246 (n := 247) rfl ?_
        refine fv_sld C hX hbl hb d_law_247 (n := 248) rfl (by omega) (by omega) ?_
        refine fv_aload_n C d_law_248 (n := 249) rfl (i := 0) rfl rfl ?_
        refine fv_iload_n C d_law_249 (n := 250) rfl (i := 3) rfl rfl ?_
        refine fv_iconst C d_law_250 (n := 251) rfl kI_2 ?_
        first | refine fv_iaddN C d_law_251 (n := 252) rfl ?_ | refine fv_iadd C d_law_251 (n := 252) rfl ?_
        refine fv_sld C hX hbl hb d_law_252 (n := 253) rfl (by omega) (by omega) ?_
        refine fv_aload_n C d_law_253 (n := 254) rfl (i := 0) rfl rfl ?_
        refine fv_iload_n C d_law_254 (n := 255) rfl (i := 3) rfl rfl ?_
        refine fv_iconst C d_law_255 (n := 256) rfl kI_3 ?_
        first | refine fv_iaddN C d_law_256 (n := 257) rfl ?_ | refine fv_iadd C d_law_256 (n := 257) rfl ?_
        refine fv_sld C hX hbl hb d_law_257 (n := 258) rfl (by omega) (by omega) ?_
        refine fv_callV C (ml_L_23 D dA) im_D_execute se_D_execute hD.1.1 rfl (ct_D_execute rfl (by omega) hBs hD hI) d_law_258 (n := 261) rfl rfl rfl rfl (Nat.le_of_ble_eq_true rfl) (Nat.le_of_ble_eq_true rfl) (Nat.le_of_ble_eq_true rfl) (by omega) (by omega) (fun vv s1 h1 hp => ?_)
        obtain ⟨rfl, rfl, hD, hI2, f1⟩ := hp
        have hM := hM.fs f1 (fun x a1 a2 => by unfold SD; omega)
        obtain ⟨F, bl, bh, hMc, -⟩ := id hM
        refine fv_aload_n C d_law_261 (n := 262) rfl (i := 2) rfl rfl ?_
        refine fv_aload_n C d_law_262 (n := 263) rfl (i := 0) rfl rfl ?_
        refine fv_iload_n C d_law_263 (n := 264) rfl (i := 3) rfl rfl ?_
        refine fv_iconst C d_law_264 (n := 265) rfl kI_1 ?_
        first | refine fv_iaddN C d_law_265 (n := 266) rfl ?_ | refine fv_iadd C d_law_265 (n := 266) rfl ?_
        refine fv_sld C hX hbl hb d_law_266 (n := 267) rfl (by omega) (by omega) ?_
        refine fv_aload_n C d_law_267 (n := 268) rfl (i := 0) rfl rfl ?_
        refine fv_iload_n C d_law_268 (n := 269) rfl (i := 3) rfl rfl ?_
        refine fv_iconst C d_law_269 (n := 270) rfl kI_2 ?_
        first | refine fv_iaddN C d_law_270 (n := 271) rfl ?_ | refine fv_iadd C d_law_270 (n := 271) rfl ?_
        refine fv_sld C hX hbl hb d_law_271 (n := 272) rfl (by omega) (by omega) ?_
        refine fv_aload_n C d_law_272 (n := 273) rfl (i := 0) rfl rfl ?_
        refine fv_iload_n C d_law_273 (n := 274) rfl (i := 3) rfl rfl ?_
        refine fv_iconst C d_law_274 (n := 275) rfl kI_3 ?_
        first | refine fv_iaddN C d_law_275 (n := 276) rfl ?_ | refine fv_iadd C d_law_275 (n := 276) rfl ?_
        refine fv_sld C hX hbl hb d_law_276 (n := 277) rfl (by omega) (by omega) ?_
        refine fv_callV_i C (ml_L_26 D dA) im_M_execute se_M_execute hMc.1 rfl (ct_M_execute (by omega) hM hI) d_law_277 (n := 280) rfl rfl rfl rfl (Nat.le_of_ble_eq_true rfl) (Nat.le_of_ble_eq_true rfl) (Nat.le_of_ble_eq_true rfl) (by omega) (by omega) (fun r0 h2 hp => ?_)
        obtain ⟨rfl, hM, f2⟩ := hp
        have hD := hD.fs f2 (fun x hx => by unfold MS; omega)
        have hI := hI2
        have hsh2 : (sp_sh (sp_chgS S 2 (xs (6 * c + 1)) (xs (6 * c + 2)) (xs (6 * c + 3)))).length ≤ c + 1 := by unfold sp_chgS; split <;> (try rw [sp_os_sh]) <;> omega
        refine fv_icmp_eq C d_law_280 (tgt := 928) rfl (n := 283) rfl (fun hc280 => ?_) (fun hc280 => ?_)
        · refine fv_iinc C d_law_928 (n := 931) rfl rfl (show nI (6 * c) + Int32.ofInt 6 = nI (6 * (c + 1)) by rw [show Int32.ofInt 6 = nI 6 by decide +kernel, nI_add]; rfl) (by decide) (L' := [_, _, _, _]) rfl ?_
          refine fv_goto C d_law_931 (tgt := 18) rfl ?_
          exact ih (c + 1) _ _ _ _ (by omega) hD hM hI hsh2 (by omega) (by omega)
        · exact absurd rfl hc280
      by_cases w3 : w = nI 3
      · subst w3
        refine fv_tableIn C d_law_33 (by decide +kernel) (by decide +kernel) (off := 252) (by decide +kernel) (tgt := 285) rfl ?_
        refine fv_aload_n C d_law_285 (n := 286) rfl (i := 1) rfl rfl ?_
        refine fv_aload_n C d_law_286 (n := 287) rfl (i := 0) rfl rfl ?_
        refine fv_iload_n C d_law_287 (n := 288) rfl (i := 3) rfl rfl ?_
        refine fv_iconst C d_law_288 (n := 289) rfl kI_1 ?_
        first | refine fv_iaddN C d_law_289 (n := 290) rfl ?_ | refine fv_iadd C d_law_289 (n := 290) rfl ?_
        refine fv_sld C hX hbl hb d_law_290 (n := 291) rfl (by omega) (by omega) ?_
        refine fv_aload_n C d_law_291 (n := 292) rfl (i := 0) rfl rfl ?_
        refine fv_iload_n C d_law_292 (n := 293) rfl (i := 3) rfl rfl ?_
        refine fv_iconst C d_law_293 (n := 294) rfl kI_2 ?_
        first | refine fv_iaddN C d_law_294 (n := 295) rfl ?_ | refine fv_iadd C d_law_294 (n := 295) rfl ?_
        refine fv_sld C hX hbl hb d_law_295 (n := 296) rfl (by omega) (by omega) ?_
        refine fv_callV C (ml_L_27 D dA) im_D_cancel se_D_cancel hD.1.1 rfl (ct_D_cancel rfl (by omega) hBs hD hI) d_law_296 (n := 299) rfl rfl rfl rfl (Nat.le_of_ble_eq_true rfl) (Nat.le_of_ble_eq_true rfl) (Nat.le_of_ble_eq_true rfl) (by omega) (by omega) (fun vv s1 h1 hp => ?_)
        obtain ⟨rfl, rfl, hD, hI2, f1⟩ := hp
        have hM := hM.fs f1 (fun x a1 a2 => by unfold SD; omega)
        obtain ⟨F, bl, bh, hMc, -⟩ := id hM
        refine fv_aload_n C d_law_299 (n := 300) rfl (i := 2) rfl rfl ?_
        refine fv_aload_n C d_law_300 (n := 301) rfl (i := 0) rfl rfl ?_
        refine fv_iload_n C d_law_301 (n := 302) rfl (i := 3) rfl rfl ?_
        refine fv_iconst C d_law_302 (n := 303) rfl kI_1 ?_
        first | refine fv_iaddN C d_law_303 (n := 304) rfl ?_ | refine fv_iadd C d_law_303 (n := 304) rfl ?_
        refine fv_sld C hX hbl hb d_law_304 (n := 305) rfl (by omega) (by omega) ?_
        refine fv_aload_n C d_law_305 (n := 306) rfl (i := 0) rfl rfl ?_
        refine fv_iload_n C d_law_306 (n := 307) rfl (i := 3) rfl rfl ?_
        refine fv_iconst C d_law_307 (n := 308) rfl kI_2 ?_
        first | refine fv_iaddN C d_law_308 (n := 309) rfl ?_ | refine fv_iadd C d_law_308 (n := 309) rfl ?_
        refine fv_sld C hX hbl hb d_law_309 (n := 310) rfl (by omega) (by omega) ?_
        refine fv_callV_i C (ml_L_31 D dA) im_M_cancel se_M_cancel hMc.1 rfl (ct_M_cancel (by omega) hM hI) d_law_310 (n := 313) rfl rfl rfl rfl (Nat.le_of_ble_eq_true rfl) (Nat.le_of_ble_eq_true rfl) (Nat.le_of_ble_eq_true rfl) (by omega) (by omega) (fun r0 h2 hp => ?_)
        obtain ⟨rfl, hM, f2⟩ := hp
        have hD := hD.fs f2 (fun x hx => by unfold MS; omega)
        have hI := hI2
        have hsh2 : (sp_sh (sp_canS S (xs (6 * c + 1)) (xs (6 * c + 2)))).length ≤ c + 1 := by unfold sp_canS; split <;> (try rw [sp_os_sh]) <;> omega
        refine fv_icmp_eq C d_law_313 (tgt := 928) rfl (n := 316) rfl (fun hc313 => ?_) (fun hc313 => ?_)
        · refine fv_iinc C d_law_928 (n := 931) rfl rfl (show nI (6 * c) + Int32.ofInt 6 = nI (6 * (c + 1)) by rw [show Int32.ofInt 6 = nI 6 by decide +kernel, nI_add]; rfl) (by decide) (L' := [_, _, _, _]) rfl ?_
          refine fv_goto C d_law_931 (tgt := 18) rfl ?_
          exact ih (c + 1) _ _ _ _ (by omega) hD hM hI hsh2 (by omega) (by omega)
        · exact absurd rfl hc313
      by_cases w4 : w = nI 4
      · subst w4
        refine fv_tableIn C d_law_33 (by decide +kernel) (by decide +kernel) (off := 285) (by decide +kernel) (tgt := 318) rfl ?_
        by_cases hz : xs (6 * c + 2) = 0
        · obtain ⟨on, hon⟩ : ∃ on, on = false := ⟨_, rfl⟩
          refine fv_aload_n C d_law_318 (n := 319) rfl (i := 1) rfl rfl ?_
          refine fv_aload_n C d_law_319 (n := 320) rfl (i := 0) rfl rfl ?_
          refine fv_iload_n C d_law_320 (n := 321) rfl (i := 3) rfl rfl ?_
          refine fv_iconst C d_law_321 (n := 322) rfl kI_1 ?_
          first | refine fv_iaddN C d_law_322 (n := 323) rfl ?_ | refine fv_iadd C d_law_322 (n := 323) rfl ?_
          refine fv_sld C hX hbl hb d_law_323 (n := 324) rfl (by omega) (by omega) ?_
          refine fv_aload_n C d_law_324 (n := 325) rfl (i := 0) rfl rfl ?_
          refine fv_iload_n C d_law_325 (n := 326) rfl (i := 3) rfl rfl ?_
          refine fv_iconst C d_law_326 (n := 327) rfl kI_2 ?_
          first | refine fv_iaddN C d_law_327 (n := 328) rfl ?_ | refine fv_iadd C d_law_327 (n := 328) rfl ?_
          refine fv_sld C hX hbl hb d_law_328 (n := 329) rfl (by omega) (by omega) ?_
          refine fv_if_eq C d_law_329 (tgt := 336) rfl (n := 332) rfl (fun hc329 => ?_) (fun hc329 => ?_)
          · refine fv_iconst C d_law_336 (n := 337) rfl kI_0 ?_
            refine fv_eq (st' := [.int (fv_b on), .int (xs (6 * c + 1)), .ref b0]) (by rw [hon]; rfl) rfl ?_
            refine fv_callV C (ml_L_32 D dA) im_D_halt se_D_halt hD.1.1 rfl (ct_D_halt (on := on) rfl (by omega) hBs hD hI) d_law_337 (n := 340) rfl rfl rfl rfl (Nat.le_of_ble_eq_true rfl) (Nat.le_of_ble_eq_true rfl) (Nat.le_of_ble_eq_true rfl) (by omega) (by omega) (fun vv s1 h1 hp => ?_)
            obtain ⟨rfl, rfl, hD, hI2, f1⟩ := hp
            have hM := hM.fs f1 (fun x a1 a2 => by unfold SD; omega)
            obtain ⟨F, bl, bh, hMc, -⟩ := id hM
            refine fv_aload_n C d_law_340 (n := 341) rfl (i := 2) rfl rfl ?_
            refine fv_aload_n C d_law_341 (n := 342) rfl (i := 0) rfl rfl ?_
            refine fv_iload_n C d_law_342 (n := 343) rfl (i := 3) rfl rfl ?_
            refine fv_iconst C d_law_343 (n := 344) rfl kI_1 ?_
            first | refine fv_iaddN C d_law_344 (n := 345) rfl ?_ | refine fv_iadd C d_law_344 (n := 345) rfl ?_
            refine fv_sld C hX hbl hb d_law_345 (n := 346) rfl (by omega) (by omega) ?_
            refine fv_aload_n C d_law_346 (n := 347) rfl (i := 0) rfl rfl ?_
            refine fv_iload_n C d_law_347 (n := 348) rfl (i := 3) rfl rfl ?_
            refine fv_iconst C d_law_348 (n := 349) rfl kI_2 ?_
            first | refine fv_iaddN C d_law_349 (n := 350) rfl ?_ | refine fv_iadd C d_law_349 (n := 350) rfl ?_
            refine fv_sld C hX hbl hb d_law_350 (n := 351) rfl (by omega) (by omega) ?_
            refine fv_if_eq C d_law_351 (tgt := 358) rfl (n := 354) rfl (fun hc351 => ?_) (fun hc351 => ?_)
            · refine fv_iconst C d_law_358 (n := 359) rfl kI_0 ?_
              refine fv_eq (st' := [.int (fv_b on), .int (xs (6 * c + 1)), .ref (b0 + 132), .int (sp_hltA S (xs (6 * c + 1)) on)]) (by rw [hon]; rfl) rfl ?_
              refine fv_callV_i C (ml_L_36 D dA) im_M_halt se_M_halt hMc.1 rfl (ct_M_halt (on := on) (by omega) hM hI) d_law_359 (n := 362) rfl rfl rfl rfl (Nat.le_of_ble_eq_true rfl) (Nat.le_of_ble_eq_true rfl) (Nat.le_of_ble_eq_true rfl) (by omega) (by omega) (fun r0 h2 hp => ?_)
              obtain ⟨rfl, hM, f2⟩ := hp
              have hD := hD.fs f2 (fun x hx => by unfold MS; omega)
              have hI := hI2
              have hsh2 : (sp_sh (sp_hltS S (xs (6 * c + 1)) on)).length ≤ c + 1 := by unfold sp_hltS; split <;> (try rw [sp_os_sh]) <;> omega
              refine fv_icmp_eq C d_law_362 (tgt := 928) rfl (n := 365) rfl (fun hc362 => ?_) (fun hc362 => ?_)
              · refine fv_iinc C d_law_928 (n := 931) rfl rfl (show nI (6 * c) + Int32.ofInt 6 = nI (6 * (c + 1)) by rw [show Int32.ofInt 6 = nI 6 by decide +kernel, nI_add]; rfl) (by decide) (L' := [_, _, _, _]) rfl ?_
                refine fv_goto C d_law_931 (tgt := 18) rfl ?_
                exact ih (c + 1) _ _ _ _ (by omega) hD hM hI hsh2 (by omega) (by omega)
              · exact absurd rfl hc362
            · exact absurd hz hc351
          · exact absurd hz hc329
        · obtain ⟨on, hon⟩ : ∃ on, on = true := ⟨_, rfl⟩
          refine fv_aload_n C d_law_318 (n := 319) rfl (i := 1) rfl rfl ?_
          refine fv_aload_n C d_law_319 (n := 320) rfl (i := 0) rfl rfl ?_
          refine fv_iload_n C d_law_320 (n := 321) rfl (i := 3) rfl rfl ?_
          refine fv_iconst C d_law_321 (n := 322) rfl kI_1 ?_
          first | refine fv_iaddN C d_law_322 (n := 323) rfl ?_ | refine fv_iadd C d_law_322 (n := 323) rfl ?_
          refine fv_sld C hX hbl hb d_law_323 (n := 324) rfl (by omega) (by omega) ?_
          refine fv_aload_n C d_law_324 (n := 325) rfl (i := 0) rfl rfl ?_
          refine fv_iload_n C d_law_325 (n := 326) rfl (i := 3) rfl rfl ?_
          refine fv_iconst C d_law_326 (n := 327) rfl kI_2 ?_
          first | refine fv_iaddN C d_law_327 (n := 328) rfl ?_ | refine fv_iadd C d_law_327 (n := 328) rfl ?_
          refine fv_sld C hX hbl hb d_law_328 (n := 329) rfl (by omega) (by omega) ?_
          refine fv_if_eq C d_law_329 (tgt := 336) rfl (n := 332) rfl (fun hc329 => ?_) (fun hc329 => ?_)
          · exact absurd hc329 hz
          · refine fv_iconst C d_law_332 (n := 333) rfl kI_1 ?_
            refine fv_goto C d_law_333 (tgt := 337) rfl ?_
            refine fv_eq (st' := [.int (fv_b on), .int (xs (6 * c + 1)), .ref b0]) (by rw [hon]; rfl) rfl ?_
            refine fv_callV C (ml_L_32 D dA) im_D_halt se_D_halt hD.1.1 rfl (ct_D_halt (on := on) rfl (by omega) hBs hD hI) d_law_337 (n := 340) rfl rfl rfl rfl (Nat.le_of_ble_eq_true rfl) (Nat.le_of_ble_eq_true rfl) (Nat.le_of_ble_eq_true rfl) (by omega) (by omega) (fun vv s1 h1 hp => ?_)
            obtain ⟨rfl, rfl, hD, hI2, f1⟩ := hp
            have hM := hM.fs f1 (fun x a1 a2 => by unfold SD; omega)
            obtain ⟨F, bl, bh, hMc, -⟩ := id hM
            refine fv_aload_n C d_law_340 (n := 341) rfl (i := 2) rfl rfl ?_
            refine fv_aload_n C d_law_341 (n := 342) rfl (i := 0) rfl rfl ?_
            refine fv_iload_n C d_law_342 (n := 343) rfl (i := 3) rfl rfl ?_
            refine fv_iconst C d_law_343 (n := 344) rfl kI_1 ?_
            first | refine fv_iaddN C d_law_344 (n := 345) rfl ?_ | refine fv_iadd C d_law_344 (n := 345) rfl ?_
            refine fv_sld C hX hbl hb d_law_345 (n := 346) rfl (by omega) (by omega) ?_
            refine fv_aload_n C d_law_346 (n := 347) rfl (i := 0) rfl rfl ?_
            refine fv_iload_n C d_law_347 (n := 348) rfl (i := 3) rfl rfl ?_
            refine fv_iconst C d_law_348 (n := 349) rfl kI_2 ?_
            first | refine fv_iaddN C d_law_349 (n := 350) rfl ?_ | refine fv_iadd C d_law_349 (n := 350) rfl ?_
            refine fv_sld C hX hbl hb d_law_350 (n := 351) rfl (by omega) (by omega) ?_
            refine fv_if_eq C d_law_351 (tgt := 358) rfl (n := 354) rfl (fun hc351 => ?_) (fun hc351 => ?_)
            · exact absurd hc351 hz
            · refine fv_iconst C d_law_354 (n := 355) rfl kI_1 ?_
              refine fv_goto C d_law_355 (tgt := 359) rfl ?_
              refine fv_eq (st' := [.int (fv_b on), .int (xs (6 * c + 1)), .ref (b0 + 132), .int (sp_hltA S (xs (6 * c + 1)) on)]) (by rw [hon]; rfl) rfl ?_
              refine fv_callV_i C (ml_L_36 D dA) im_M_halt se_M_halt hMc.1 rfl (ct_M_halt (on := on) (by omega) hM hI) d_law_359 (n := 362) rfl rfl rfl rfl (Nat.le_of_ble_eq_true rfl) (Nat.le_of_ble_eq_true rfl) (Nat.le_of_ble_eq_true rfl) (by omega) (by omega) (fun r0 h2 hp => ?_)
              obtain ⟨rfl, hM, f2⟩ := hp
              have hD := hD.fs f2 (fun x hx => by unfold MS; omega)
              have hI := hI2
              have hsh2 : (sp_sh (sp_hltS S (xs (6 * c + 1)) on)).length ≤ c + 1 := by unfold sp_hltS; split <;> (try rw [sp_os_sh]) <;> omega
              refine fv_icmp_eq C d_law_362 (tgt := 928) rfl (n := 365) rfl (fun hc362 => ?_) (fun hc362 => ?_)
              · refine fv_iinc C d_law_928 (n := 931) rfl rfl (show nI (6 * c) + Int32.ofInt 6 = nI (6 * (c + 1)) by rw [show Int32.ofInt 6 = nI 6 by decide +kernel, nI_add]; rfl) (by decide) (L' := [_, _, _, _]) rfl ?_
                refine fv_goto C d_law_931 (tgt := 18) rfl ?_
                exact ih (c + 1) _ _ _ _ (by omega) hD hM hI hsh2 (by omega) (by omega)
              · exact absurd rfl hc362
      by_cases w5 : w = nI 5
      · subst w5
        refine fv_tableIn C d_law_33 (by decide +kernel) (by decide +kernel) (off := 334) (by decide +kernel) (tgt := 367) rfl ?_
        refine fv_aload_n C d_law_367 (n := 368) rfl (i := 1) rfl rfl ?_
        refine fv_aload_n C d_law_368 (n := 369) rfl (i := 0) rfl rfl ?_
        refine fv_iload_n C d_law_369 (n := 370) rfl (i := 3) rfl rfl ?_
        refine fv_iconst C d_law_370 (n := 371) rfl kI_1 ?_
        first | refine fv_iaddN C d_law_371 (n := 372) rfl ?_ | refine fv_iadd C d_law_371 (n := 372) rfl ?_
        refine fv_sld C hX hbl hb d_law_372 (n := 373) rfl (by omega) (by omega) ?_
        refine fv_callV C (ml_L_37 D dA) im_D_clear se_D_clear hD.1.1 rfl (ct_D_clear rfl (by omega) hBs hD hI) d_law_373 (n := 376) rfl rfl rfl rfl (Nat.le_of_ble_eq_true rfl) (Nat.le_of_ble_eq_true rfl) (Nat.le_of_ble_eq_true rfl) (by omega) (by omega) (fun vv s1 h1 hp => ?_)
        obtain ⟨rfl, rfl, hD, hI2, f1⟩ := hp
        have hM := hM.fs f1 (fun x a1 a2 => by unfold SD; omega)
        obtain ⟨F, bl, bh, hMc, -⟩ := id hM
        refine fv_aload_n C d_law_376 (n := 377) rfl (i := 2) rfl rfl ?_
        refine fv_aload_n C d_law_377 (n := 378) rfl (i := 0) rfl rfl ?_
        refine fv_iload_n C d_law_378 (n := 379) rfl (i := 3) rfl rfl ?_
        refine fv_iconst C d_law_379 (n := 380) rfl kI_1 ?_
        first | refine fv_iaddN C d_law_380 (n := 381) rfl ?_ | refine fv_iadd C d_law_380 (n := 381) rfl ?_
        refine fv_sld C hX hbl hb d_law_381 (n := 382) rfl (by omega) (by omega) ?_
        refine fv_callV_i C (ml_L_41 D dA) im_M_clear se_M_clear hMc.1 rfl (ct_M_clear (by omega) hM hI) d_law_382 (n := 385) rfl rfl rfl rfl (Nat.le_of_ble_eq_true rfl) (Nat.le_of_ble_eq_true rfl) (Nat.le_of_ble_eq_true rfl) (by omega) (by omega) (fun r0 h2 hp => ?_)
        obtain ⟨rfl, hM, f2⟩ := hp
        have hD := hD.fs f2 (fun x hx => by unfold MS; omega)
        have hI := hI2
        have hsh2 : (sp_sh (sp_clrS S (xs (6 * c + 1)))).length ≤ c + 1 := by unfold sp_clrS; split <;> (try rw [sp_os_sh]) <;> omega
        refine fv_icmp_eq C d_law_385 (tgt := 928) rfl (n := 388) rfl (fun hc385 => ?_) (fun hc385 => ?_)
        · refine fv_iinc C d_law_928 (n := 931) rfl rfl (show nI (6 * c) + Int32.ofInt 6 = nI (6 * (c + 1)) by rw [show Int32.ofInt 6 = nI 6 by decide +kernel, nI_add]; rfl) (by decide) (L' := [_, _, _, _]) rfl ?_
          refine fv_goto C d_law_931 (tgt := 18) rfl ?_
          exact ih (c + 1) _ _ _ _ (by omega) hD hM hI hsh2 (by omega) (by omega)
        · exact absurd rfl hc385
      by_cases w6 : w = nI 6
      · subst w6
        refine fv_tableIn C d_law_33 (by decide +kernel) (by decide +kernel) (off := 357) (by decide +kernel) (tgt := 390) rfl ?_
        refine fv_aload_n C d_law_390 (n := 391) rfl (i := 1) rfl rfl ?_
        refine fv_callV_i C (ml_L_42 D dA) im_D_publish se_D_publish hD.1.1 rfl (ct_D_publish (by omega) hBs hD hI) d_law_391 (n := 394) rfl rfl rfl rfl (Nat.le_of_ble_eq_true rfl) (Nat.le_of_ble_eq_true rfl) (Nat.le_of_ble_eq_true rfl) (by omega) (by omega) (fun r0 h1 hp => ?_)
        obtain ⟨rfl, hD, f1⟩ := hp
        have hM := hM.fs f1 (fun x a1 a2 => by unfold SD; omega)
        obtain ⟨F, bl, bh, hMc, -⟩ := id hM
        refine fv_aload_n C d_law_394 (n := 395) rfl (i := 2) rfl rfl ?_
        refine fv_callV_i C (ml_L_46 D dA) im_M_publish se_M_publish hMc.1 rfl (ct_M_publish (by omega) hM hI) d_law_395 (n := 398) rfl rfl rfl rfl (Nat.le_of_ble_eq_true rfl) (Nat.le_of_ble_eq_true rfl) (Nat.le_of_ble_eq_true rfl) (by omega) (by omega) (fun r0 h2 hp => ?_)
        obtain ⟨rfl, hM, f2⟩ := hp
        have hD := hD.fs f2 (fun x hx => by unfold MS; omega)
        refine fv_icmp_eq C d_law_398 (tgt := 928) rfl (n := 401) rfl (fun hc398 => ?_) (fun hc398 => ?_)
        · refine fv_iinc C d_law_928 (n := 931) rfl rfl (show nI (6 * c) + Int32.ofInt 6 = nI (6 * (c + 1)) by rw [show Int32.ofInt 6 = nI 6 by decide +kernel, nI_add]; rfl) (by decide) (L' := [_, _, _, _]) rfl ?_
          refine fv_goto C d_law_931 (tgt := 18) rfl ?_
          have e1 : (sp_pubS S).1 = S.1 := by
            unfold sp_pubS
            repeat' split
            all_goals rfl
          have hsh2 : (sp_sh (sp_pubS S)).length ≤ c + 1 := by
            unfold sp_pubS
            repeat' split
            all_goals exact Nat.le_succ_of_le hsh
          have h9 := ih (c + 1) _ _ cells slots (by omega) hD hM (sp_pub_I hI) hsh2 (by omega) (by omega)
          rw [e1] at h9
          exact h9
        · exact absurd rfl hc398
      by_cases w7 : w = nI 7
      · subst w7
        refine fv_tableIn C d_law_33 (by decide +kernel) (by decide +kernel) (off := 370) (by decide +kernel) (tgt := 403) rfl ?_
        refine fv_aload_n C d_law_403 (n := 404) rfl (i := 1) rfl rfl ?_
        refine fv_aload_n C d_law_404 (n := 405) rfl (i := 0) rfl rfl ?_
        refine fv_iload_n C d_law_405 (n := 406) rfl (i := 3) rfl rfl ?_
        refine fv_iconst C d_law_406 (n := 407) rfl kI_1 ?_
        first | refine fv_iaddN C d_law_407 (n := 408) rfl ?_ | refine fv_iadd C d_law_407 (n := 408) rfl ?_
        refine fv_sld C hX hbl hb d_law_408 (n := 409) rfl (by omega) (by omega) ?_
        refine fv_aload_n C d_law_409 (n := 410) rfl (i := 0) rfl rfl ?_
        refine fv_iload_n C d_law_410 (n := 411) rfl (i := 3) rfl rfl ?_
        refine fv_iconst C d_law_411 (n := 412) rfl kI_2 ?_
        first | refine fv_iaddN C d_law_412 (n := 413) rfl ?_ | refine fv_iadd C d_law_412 (n := 413) rfl ?_
        refine fv_sld C hX hbl hb d_law_413 (n := 414) rfl (by omega) (by omega) ?_
        refine fv_callV_r C (ml_L_47 D dA) im_D_packetByte se_D_packetByte hD.1.1 rfl (ct_D_packetByte (by omega) hBs hD hI) d_law_414 (n := 417) rfl rfl rfl rfl (Nat.le_of_ble_eq_true rfl) (Nat.le_of_ble_eq_true rfl) (Nat.le_of_ble_eq_true rfl) (by omega) (by omega) ?_
        obtain ⟨F, bl, bh, hMc, -⟩ := id hM
        refine fv_aload_n C d_law_417 (n := 418) rfl (i := 2) rfl rfl ?_
        refine fv_aload_n C d_law_418 (n := 419) rfl (i := 0) rfl rfl ?_
        refine fv_iload_n C d_law_419 (n := 420) rfl (i := 3) rfl rfl ?_
        refine fv_iconst C d_law_420 (n := 421) rfl kI_1 ?_
        first | refine fv_iaddN C d_law_421 (n := 422) rfl ?_ | refine fv_iadd C d_law_421 (n := 422) rfl ?_
        refine fv_sld C hX hbl hb d_law_422 (n := 423) rfl (by omega) (by omega) ?_
        refine fv_aload_n C d_law_423 (n := 424) rfl (i := 0) rfl rfl ?_
        refine fv_iload_n C d_law_424 (n := 425) rfl (i := 3) rfl rfl ?_
        refine fv_iconst C d_law_425 (n := 426) rfl kI_2 ?_
        first | refine fv_iaddN C d_law_426 (n := 427) rfl ?_ | refine fv_iadd C d_law_426 (n := 427) rfl ?_
        refine fv_sld C hX hbl hb d_law_427 (n := 428) rfl (by omega) (by omega) ?_
        refine fv_callV_r C (ml_L_50 D dA) im_M_packetByte se_M_packetByte hMc.1 rfl (ct_M_packetByte hM hI) d_law_428 (n := 431) rfl rfl rfl rfl (Nat.le_of_ble_eq_true rfl) (Nat.le_of_ble_eq_true rfl) (Nat.le_of_ble_eq_true rfl) (by omega) (by omega) ?_
        refine fv_icmp_eq C d_law_431 (tgt := 928) rfl (n := 434) rfl (fun hc431 => ?_) (fun hc431 => ?_)
        · refine fv_iinc C d_law_928 (n := 931) rfl rfl (show nI (6 * c) + Int32.ofInt 6 = nI (6 * (c + 1)) by rw [show Int32.ofInt 6 = nI 6 by decide +kernel, nI_add]; rfl) (by decide) (L' := [_, _, _, _]) rfl ?_
          refine fv_goto C d_law_931 (tgt := 18) rfl ?_
          exact ih (c + 1) _ _ _ _ (by omega) hD hM hI (by omega) (by omega) (by omega)
        · exact absurd rfl hc431
      by_cases w8 : w = nI 8
      · subst w8
        refine fv_tableIn C d_law_33 (by decide +kernel) (by decide +kernel) (off := 403) (by decide +kernel) (tgt := 436) rfl ?_
        refine fv_aload_n C d_law_436 (n := 437) rfl (i := 1) rfl rfl ?_
        refine fv_aload_n C d_law_437 (n := 438) rfl (i := 0) rfl rfl ?_
        refine fv_iload_n C d_law_438 (n := 439) rfl (i := 3) rfl rfl ?_
        refine fv_iconst C d_law_439 (n := 440) rfl kI_1 ?_
        first | refine fv_iaddN C d_law_440 (n := 441) rfl ?_ | refine fv_iadd C d_law_440 (n := 441) rfl ?_
        refine fv_sld C hX hbl hb d_law_441 (n := 442) rfl (by omega) (by omega) ?_
        refine fv_aload_n C d_law_442 (n := 443) rfl (i := 0) rfl rfl ?_
        refine fv_iload_n C d_law_443 (n := 444) rfl (i := 3) rfl rfl ?_
        refine fv_iconst C d_law_444 (n := 445) rfl kI_2 ?_
        first | refine fv_iaddN C d_law_445 (n := 446) rfl ?_ | refine fv_iadd C d_law_445 (n := 446) rfl ?_
        refine fv_sld C hX hbl hb d_law_446 (n := 447) rfl (by omega) (by omega) ?_
        refine fv_aload_n C d_law_447 (n := 448) rfl (i := 0) rfl rfl ?_
        refine fv_iload_n C d_law_448 (n := 449) rfl (i := 3) rfl rfl ?_
        refine fv_iconst C d_law_449 (n := 450) rfl kI_3 ?_
        first | refine fv_iaddN C d_law_450 (n := 451) rfl ?_ | refine fv_iadd C d_law_450 (n := 451) rfl ?_
        refine fv_sld C hX hbl hb d_law_451 (n := 452) rfl (by omega) (by omega) ?_
        refine fv_callV_i C (ml_L_51 D dA) im_D_line se_D_line hD.1.1 rfl (ct_D_line (by omega) hBs hD hI) d_law_452 (n := 455) rfl rfl rfl rfl (Nat.le_of_ble_eq_true rfl) (Nat.le_of_ble_eq_true rfl) (Nat.le_of_ble_eq_true rfl) (by omega) (by omega) (fun r0 h1 hp => ?_)
        obtain ⟨rfl, hD, f1⟩ := hp
        have hM := hM.fs f1 (fun x a1 a2 => by unfold SD; omega)
        obtain ⟨F, bl, bh, hMc, -⟩ := id hM
        refine fv_aload_n C d_law_455 (n := 456) rfl (i := 2) rfl rfl ?_
        refine fv_aload_n C d_law_456 (n := 457) rfl (i := 0) rfl rfl ?_
        refine fv_iload_n C d_law_457 (n := 458) rfl (i := 3) rfl rfl ?_
        refine fv_iconst C d_law_458 (n := 459) rfl kI_1 ?_
        first | refine fv_iaddN C d_law_459 (n := 460) rfl ?_ | refine fv_iadd C d_law_459 (n := 460) rfl ?_
        refine fv_sld C hX hbl hb d_law_460 (n := 461) rfl (by omega) (by omega) ?_
        refine fv_aload_n C d_law_461 (n := 462) rfl (i := 0) rfl rfl ?_
        refine fv_iload_n C d_law_462 (n := 463) rfl (i := 3) rfl rfl ?_
        refine fv_iconst C d_law_463 (n := 464) rfl kI_2 ?_
        first | refine fv_iaddN C d_law_464 (n := 465) rfl ?_ | refine fv_iadd C d_law_464 (n := 465) rfl ?_
        refine fv_sld C hX hbl hb d_law_465 (n := 466) rfl (by omega) (by omega) ?_
        refine fv_aload_n C d_law_466 (n := 467) rfl (i := 0) rfl rfl ?_
        refine fv_iload_n C d_law_467 (n := 468) rfl (i := 3) rfl rfl ?_
        refine fv_iconst C d_law_468 (n := 469) rfl kI_3 ?_
        first | refine fv_iaddN C d_law_469 (n := 470) rfl ?_ | refine fv_iadd C d_law_469 (n := 470) rfl ?_
        refine fv_sld C hX hbl hb d_law_470 (n := 471) rfl (by omega) (by omega) ?_
        refine fv_callV_i C (ml_L_54 D dA) im_M_line se_M_line hMc.1 rfl (ct_M_line (by omega) hM hI) d_law_471 (n := 474) rfl rfl rfl rfl (Nat.le_of_ble_eq_true rfl) (Nat.le_of_ble_eq_true rfl) (Nat.le_of_ble_eq_true rfl) (by omega) (by omega) (fun r0 h2 hp => ?_)
        obtain ⟨rfl, hM, f2⟩ := hp
        have hD := hD.fs f2 (fun x hx => by unfold MS; omega)
        refine fv_icmp_eq C d_law_474 (tgt := 928) rfl (n := 477) rfl (fun hc474 => ?_) (fun hc474 => ?_)
        · refine fv_iinc C d_law_928 (n := 931) rfl rfl (show nI (6 * c) + Int32.ofInt 6 = nI (6 * (c + 1)) by rw [show Int32.ofInt 6 = nI 6 by decide +kernel, nI_add]; rfl) (by decide) (L' := [_, _, _, _]) rfl ?_
          refine fv_goto C d_law_931 (tgt := 18) rfl ?_
          have e1 : (sp_lnS S (xs (6 * c + 1)) (xs (6 * c + 2)) (xs (6 * c + 3))).1 = S.1 := by
            unfold sp_lnS
            repeat' split
            all_goals rfl
          have hsh2 : (sp_sh (sp_lnS S (xs (6 * c + 1)) (xs (6 * c + 2)) (xs (6 * c + 3)))).length ≤ c + 1 := by
            unfold sp_lnS
            repeat' split
            all_goals exact Nat.le_succ_of_le hsh
          have h9 := ih (c + 1) _ _ cells slots (by omega) hD hM (sp_ln_I hI) hsh2 (by omega) (by omega)
          rw [e1] at h9
          exact h9
        · exact absurd rfl hc474
      by_cases w9 : w = nI 9
      · subst w9
        refine fv_tableIn C d_law_33 (by decide +kernel) (by decide +kernel) (off := 446) (by decide +kernel) (tgt := 479) rfl ?_
        refine fv_aload_n C d_law_479 (n := 480) rfl (i := 1) rfl rfl ?_
        refine fv_aload_n C d_law_480 (n := 481) rfl (i := 0) rfl rfl ?_
        refine fv_iload_n C d_law_481 (n := 482) rfl (i := 3) rfl rfl ?_
        refine fv_iconst C d_law_482 (n := 483) rfl kI_1 ?_
        first | refine fv_iaddN C d_law_483 (n := 484) rfl ?_ | refine fv_iadd C d_law_483 (n := 484) rfl ?_
        refine fv_sld C hX hbl hb d_law_484 (n := 485) rfl (by omega) (by omega) ?_
        refine fv_callV_i C (ml_L_55 D dA) im_D_askReplay se_D_askReplay hD.1.1 rfl (ct_D_askReplay (by omega) hBs hD hI) d_law_485 (n := 488) rfl rfl rfl rfl (Nat.le_of_ble_eq_true rfl) (Nat.le_of_ble_eq_true rfl) (Nat.le_of_ble_eq_true rfl) (by omega) (by omega) (fun r0 h1 hp => ?_)
        obtain ⟨rfl, hD, f1⟩ := hp
        have hM := hM.fs f1 (fun x a1 a2 => by unfold SD; omega)
        obtain ⟨F, bl, bh, hMc, -⟩ := id hM
        refine fv_aload_n C d_law_488 (n := 489) rfl (i := 2) rfl rfl ?_
        refine fv_aload_n C d_law_489 (n := 490) rfl (i := 0) rfl rfl ?_
        refine fv_iload_n C d_law_490 (n := 491) rfl (i := 3) rfl rfl ?_
        refine fv_iconst C d_law_491 (n := 492) rfl kI_1 ?_
        first | refine fv_iaddN C d_law_492 (n := 493) rfl ?_ | refine fv_iadd C d_law_492 (n := 493) rfl ?_
        refine fv_sld C hX hbl hb d_law_493 (n := 494) rfl (by omega) (by omega) ?_
        refine fv_callV_i C (ml_L_58 D dA) im_M_askReplay se_M_askReplay hMc.1 rfl (ct_M_askReplay (by omega) hM hI) d_law_494 (n := 497) rfl rfl rfl rfl (Nat.le_of_ble_eq_true rfl) (Nat.le_of_ble_eq_true rfl) (Nat.le_of_ble_eq_true rfl) (by omega) (by omega) (fun r0 h2 hp => ?_)
        obtain ⟨rfl, hM, f2⟩ := hp
        have hD := hD.fs f2 (fun x hx => by unfold MS; omega)
        refine fv_icmp_eq C d_law_497 (tgt := 928) rfl (n := 500) rfl (fun hc497 => ?_) (fun hc497 => ?_)
        · refine fv_iinc C d_law_928 (n := 931) rfl rfl (show nI (6 * c) + Int32.ofInt 6 = nI (6 * (c + 1)) by rw [show Int32.ofInt 6 = nI 6 by decide +kernel, nI_add]; rfl) (by decide) (L' := [_, _, _, _]) rfl ?_
          refine fv_goto C d_law_931 (tgt := 18) rfl ?_
          have e1 : (sp_akS S (xs (6 * c + 1))).1 = S.1 := by
            unfold sp_akS
            repeat' split
            all_goals rfl
          have hsh2 : (sp_sh (sp_akS S (xs (6 * c + 1)))).length ≤ c + 1 := by
            unfold sp_akS
            repeat' split
            all_goals exact Nat.le_succ_of_le hsh
          have h9 := ih (c + 1) _ _ cells slots (by omega) hD hM (sp_ak_I hI) hsh2 (by omega) (by omega)
          rw [e1] at h9
          exact h9
        · exact absurd rfl hc497
      by_cases w10 : w = nI 10
      · subst w10
        refine fv_tableIn C d_law_33 (by decide +kernel) (by decide +kernel) (off := 469) (by decide +kernel) (tgt := 502) rfl ?_
        refine fv_aload_n C d_law_502 (n := 503) rfl (i := 1) rfl rfl ?_
        refine fv_aload_n C d_law_503 (n := 504) rfl (i := 0) rfl rfl ?_
        refine fv_iload_n C d_law_504 (n := 505) rfl (i := 3) rfl rfl ?_
        refine fv_iconst C d_law_505 (n := 506) rfl kI_1 ?_
        first | refine fv_iaddN C d_law_506 (n := 507) rfl ?_ | refine fv_iadd C d_law_506 (n := 507) rfl ?_
        refine fv_sld C hX hbl hb d_law_507 (n := 508) rfl (by omega) (by omega) ?_
        refine fv_callV_i C (ml_L_59 D dA) im_D_serveReplay se_D_serveReplay hD.1.1 rfl (ct_D_serveReplay (by omega) hBs hD hI) d_law_508 (n := 511) rfl rfl rfl rfl (Nat.le_of_ble_eq_true rfl) (Nat.le_of_ble_eq_true rfl) (Nat.le_of_ble_eq_true rfl) (by omega) (by omega) (fun r0 h1 hp => ?_)
        obtain ⟨rfl, hD, f1⟩ := hp
        have hM := hM.fs f1 (fun x a1 a2 => by unfold SD; omega)
        obtain ⟨F, bl, bh, hMc, -⟩ := id hM
        refine fv_aload_n C d_law_511 (n := 512) rfl (i := 2) rfl rfl ?_
        refine fv_aload_n C d_law_512 (n := 513) rfl (i := 0) rfl rfl ?_
        refine fv_iload_n C d_law_513 (n := 514) rfl (i := 3) rfl rfl ?_
        refine fv_iconst C d_law_514 (n := 515) rfl kI_1 ?_
        first | refine fv_iaddN C d_law_515 (n := 516) rfl ?_ | refine fv_iadd C d_law_515 (n := 516) rfl ?_
        refine fv_sld C hX hbl hb d_law_516 (n := 517) rfl (by omega) (by omega) ?_
        refine fv_callV_i C (ml_L_62 D dA) im_M_serveReplay se_M_serveReplay hMc.1 rfl (ct_M_serveReplay (by omega) hM hI) d_law_517 (n := 520) rfl rfl rfl rfl (Nat.le_of_ble_eq_true rfl) (Nat.le_of_ble_eq_true rfl) (Nat.le_of_ble_eq_true rfl) (by omega) (by omega) (fun r0 h2 hp => ?_)
        obtain ⟨rfl, hM, f2⟩ := hp
        have hD := hD.fs f2 (fun x hx => by unfold MS; omega)
        refine fv_icmp_eq C d_law_520 (tgt := 928) rfl (n := 523) rfl (fun hc520 => ?_) (fun hc520 => ?_)
        · refine fv_iinc C d_law_928 (n := 931) rfl rfl (show nI (6 * c) + Int32.ofInt 6 = nI (6 * (c + 1)) by rw [show Int32.ofInt 6 = nI 6 by decide +kernel, nI_add]; rfl) (by decide) (L' := [_, _, _, _]) rfl ?_
          refine fv_goto C d_law_931 (tgt := 18) rfl ?_
          have e1 : (sp_svS S (xs (6 * c + 1))).1 = S.1 := by
            unfold sp_svS
            repeat' split
            all_goals rfl
          have hsh2 : (sp_sh (sp_svS S (xs (6 * c + 1)))).length ≤ c + 1 := by
            unfold sp_svS
            repeat' split
            all_goals exact Nat.le_succ_of_le hsh
          have h9 := ih (c + 1) _ _ cells slots (by omega) hD hM (sp_sv_I hI) hsh2 (by omega) (by omega)
          rw [e1] at h9
          exact h9
        · exact absurd rfl hc520
      by_cases w11 : w = nI 11
      · subst w11
        refine fv_tableIn C d_law_33 (by decide +kernel) (by decide +kernel) (off := 492) (by decide +kernel) (tgt := 525) rfl ?_
        refine fv_aload_n C d_law_525 (n := 526) rfl (i := 1) rfl rfl ?_
        refine fv_callV_i C (ml_L_63 D dA) im_D_snapshotTurn se_D_snapshotTurn hD.1.1 rfl (ct_D_snapshotTurn (by omega) (by omega) hBs hD hI) d_law_526 (n := 529) rfl rfl rfl rfl (Nat.le_of_ble_eq_true rfl) (Nat.le_of_ble_eq_true rfl) (Nat.le_of_ble_eq_true rfl) (by omega) (by omega) (fun r0 h1 hp => ?_)
        obtain ⟨rfl, hD, f1⟩ := hp
        have hM := hM.fs f1 (fun x a1 a2 => by unfold SD; omega)
        obtain ⟨F, bl, bh, hMc, -⟩ := id hM
        refine fv_aload_n C d_law_529 (n := 530) rfl (i := 2) rfl rfl ?_
        refine fv_callV_i C (ml_L_66 D dA) im_M_snapshotTurn se_M_snapshotTurn hMc.1 rfl (ct_M_snapshotTurn (by omega) (by omega) hM hI) d_law_530 (n := 533) rfl rfl rfl rfl (Nat.le_of_ble_eq_true rfl) (Nat.le_of_ble_eq_true rfl) (Nat.le_of_ble_eq_true rfl) (by omega) (by omega) (fun r0 h2 hp => ?_)
        obtain ⟨rfl, hM, f2⟩ := hp
        have hD := hD.fs f2 (fun x hx => by unfold MS; omega)
        refine fv_icmp_eq C d_law_533 (tgt := 928) rfl (n := 536) rfl (fun hc533 => ?_) (fun hc533 => ?_)
        · refine fv_iinc C d_law_928 (n := 931) rfl rfl (show nI (6 * c) + Int32.ofInt 6 = nI (6 * (c + 1)) by rw [show Int32.ofInt 6 = nI 6 by decide +kernel, nI_add]; rfl) (by decide) (L' := [_, _, _, _]) rfl ?_
          refine fv_goto C d_law_931 (tgt := 18) rfl ?_
          have e1 : (sp_snS S).1 = S.1 := rfl
          have hsh2 : (sp_sh (sp_snS S)).length ≤ c + 1 := by show (sp_sh S ++ [_]).length ≤ c + 1; rw [List.length_append]; exact Nat.succ_le_succ hsh
          have h9 := ih (c + 1) _ _ cells slots (by omega) hD hM (sp_sn_I hI) hsh2 (by omega) (by omega)
          rw [e1] at h9
          exact h9
        · exact absurd rfl hc533
      by_cases w12 : w = nI 12
      · subst w12
        refine fv_tableIn C d_law_33 (by decide +kernel) (by decide +kernel) (off := 505) (by decide +kernel) (tgt := 538) rfl ?_
        refine fv_aload_n C d_law_538 (n := 539) rfl (i := 1) rfl rfl ?_
        refine fv_aload_n C d_law_539 (n := 540) rfl (i := 0) rfl rfl ?_
        refine fv_iload_n C d_law_540 (n := 541) rfl (i := 3) rfl rfl ?_
        refine fv_iconst C d_law_541 (n := 542) rfl kI_1 ?_
        first | refine fv_iaddN C d_law_542 (n := 543) rfl ?_ | refine fv_iadd C d_law_542 (n := 543) rfl ?_
        refine fv_sld C hX hbl hb d_law_543 (n := 544) rfl (by omega) (by omega) ?_
        refine fv_aload_n C d_law_544 (n := 545) rfl (i := 0) rfl rfl ?_
        refine fv_iload_n C d_law_545 (n := 546) rfl (i := 3) rfl rfl ?_
        refine fv_iconst C d_law_546 (n := 547) rfl kI_2 ?_
        first | refine fv_iaddN C d_law_547 (n := 548) rfl ?_ | refine fv_iadd C d_law_547 (n := 548) rfl ?_
        refine fv_sld C hX hbl hb d_law_548 (n := 549) rfl (by omega) (by omega) ?_
        refine fv_aload_n C d_law_549 (n := 550) rfl (i := 0) rfl rfl ?_
        refine fv_iload_n C d_law_550 (n := 551) rfl (i := 3) rfl rfl ?_
        refine fv_iconst C d_law_551 (n := 552) rfl kI_3 ?_
        first | refine fv_iaddN C d_law_552 (n := 553) rfl ?_ | refine fv_iadd C d_law_552 (n := 553) rfl ?_
        refine fv_sld C hX hbl hb d_law_553 (n := 554) rfl (by omega) (by omega) ?_
        refine fv_callV_i C (ml_L_67 D dA) im_D_hearSnapshot se_D_hearSnapshot hD.1.1 rfl (ct_D_hearSnapshot (by omega) (by omega) hBs hD hI) d_law_554 (n := 557) rfl rfl rfl rfl (Nat.le_of_ble_eq_true rfl) (Nat.le_of_ble_eq_true rfl) (Nat.le_of_ble_eq_true rfl) (by omega) (by omega) (fun r0 h1 hp => ?_)
        obtain ⟨rfl, hD, f1⟩ := hp
        have hM := hM.fs f1 (fun x a1 a2 => by unfold SD; omega)
        obtain ⟨F, bl, bh, hMc, -⟩ := id hM
        refine fv_aload_n C d_law_557 (n := 558) rfl (i := 2) rfl rfl ?_
        refine fv_aload_n C d_law_558 (n := 559) rfl (i := 0) rfl rfl ?_
        refine fv_iload_n C d_law_559 (n := 560) rfl (i := 3) rfl rfl ?_
        refine fv_iconst C d_law_560 (n := 561) rfl kI_1 ?_
        first | refine fv_iaddN C d_law_561 (n := 562) rfl ?_ | refine fv_iadd C d_law_561 (n := 562) rfl ?_
        refine fv_sld C hX hbl hb d_law_562 (n := 563) rfl (by omega) (by omega) ?_
        refine fv_aload_n C d_law_563 (n := 564) rfl (i := 0) rfl rfl ?_
        refine fv_iload_n C d_law_564 (n := 565) rfl (i := 3) rfl rfl ?_
        refine fv_iconst C d_law_565 (n := 566) rfl kI_2 ?_
        first | refine fv_iaddN C d_law_566 (n := 567) rfl ?_ | refine fv_iadd C d_law_566 (n := 567) rfl ?_
        refine fv_sld C hX hbl hb d_law_567 (n := 568) rfl (by omega) (by omega) ?_
        refine fv_aload_n C d_law_568 (n := 569) rfl (i := 0) rfl rfl ?_
        refine fv_iload_n C d_law_569 (n := 570) rfl (i := 3) rfl rfl ?_
        refine fv_iconst C d_law_570 (n := 571) rfl kI_3 ?_
        first | refine fv_iaddN C d_law_571 (n := 572) rfl ?_ | refine fv_iadd C d_law_571 (n := 572) rfl ?_
        refine fv_sld C hX hbl hb d_law_572 (n := 573) rfl (by omega) (by omega) ?_
        refine fv_callV_i C (ml_L_70 D dA) im_M_hearSnapshot se_M_hearSnapshot hMc.1 rfl (ct_M_hearSnapshot (by omega) (by omega) hM hI) d_law_573 (n := 576) rfl rfl rfl rfl (Nat.le_of_ble_eq_true rfl) (Nat.le_of_ble_eq_true rfl) (Nat.le_of_ble_eq_true rfl) (by omega) (by omega) (fun r0 h2 hp => ?_)
        obtain ⟨rfl, hM, f2⟩ := hp
        have hD := hD.fs f2 (fun x hx => by unfold MS; omega)
        refine fv_icmp_eq C d_law_576 (tgt := 928) rfl (n := 579) rfl (fun hc576 => ?_) (fun hc576 => ?_)
        · refine fv_iinc C d_law_928 (n := 931) rfl rfl (show nI (6 * c) + Int32.ofInt 6 = nI (6 * (c + 1)) by rw [show Int32.ofInt 6 = nI 6 by decide +kernel, nI_add]; rfl) (by decide) (L' := [_, _, _, _]) rfl ?_
          refine fv_goto C d_law_931 (tgt := 18) rfl ?_
          have e1 : (sp_hsS S (xs (6 * c + 1)) (xs (6 * c + 2)) (xs (6 * c + 3))).1 = S.1 := by
            unfold sp_hsS
            repeat' split
            all_goals rfl
          have hsh2 : (sp_sh (sp_hsS S (xs (6 * c + 1)) (xs (6 * c + 2)) (xs (6 * c + 3)))).length ≤ c + 1 := by
            unfold sp_hsS
            repeat' split
            all_goals exact Nat.le_succ_of_le hsh
          have h9 := ih (c + 1) _ _ cells slots (by omega) hD hM (sp_hs_I hI (by omega)) hsh2 (by omega) (by omega)
          rw [e1] at h9
          exact h9
        · exact absurd rfl hc576
      by_cases w13 : w = nI 13
      · subst w13
        refine fv_tableIn C d_law_33 (by decide +kernel) (by decide +kernel) (off := 548) (by decide +kernel) (tgt := 581) rfl ?_
        refine fv_aload_n C d_law_581 (n := 582) rfl (i := 1) rfl rfl ?_
        refine fv_aload_n C d_law_582 (n := 583) rfl (i := 0) rfl rfl ?_
        refine fv_iload_n C d_law_583 (n := 584) rfl (i := 3) rfl rfl ?_
        refine fv_iconst C d_law_584 (n := 585) rfl kI_1 ?_
        first | refine fv_iaddN C d_law_585 (n := 586) rfl ?_ | refine fv_iadd C d_law_585 (n := 586) rfl ?_
        refine fv_sld C hX hbl hb d_law_586 (n := 587) rfl (by omega) (by omega) ?_
        refine fv_aload_n C d_law_587 (n := 588) rfl (i := 0) rfl rfl ?_
        refine fv_iload_n C d_law_588 (n := 589) rfl (i := 3) rfl rfl ?_
        refine fv_iconst C d_law_589 (n := 590) rfl kI_2 ?_
        first | refine fv_iaddN C d_law_590 (n := 591) rfl ?_ | refine fv_iadd C d_law_590 (n := 591) rfl ?_
        refine fv_sld C hX hbl hb d_law_591 (n := 592) rfl (by omega) (by omega) ?_
        refine fv_callV_r C (ml_L_71 D dA) im_D_sound se_D_sound hD.1.1 rfl (ct_D_sound (by omega) hBs hD hI) d_law_592 (n := 595) rfl rfl rfl rfl (Nat.le_of_ble_eq_true rfl) (Nat.le_of_ble_eq_true rfl) (Nat.le_of_ble_eq_true rfl) (by omega) (by omega) ?_
        obtain ⟨F, bl, bh, hMc, -⟩ := id hM
        refine fv_aload_n C d_law_595 (n := 596) rfl (i := 2) rfl rfl ?_
        refine fv_aload_n C d_law_596 (n := 597) rfl (i := 0) rfl rfl ?_
        refine fv_iload_n C d_law_597 (n := 598) rfl (i := 3) rfl rfl ?_
        refine fv_iconst C d_law_598 (n := 599) rfl kI_1 ?_
        first | refine fv_iaddN C d_law_599 (n := 600) rfl ?_ | refine fv_iadd C d_law_599 (n := 600) rfl ?_
        refine fv_sld C hX hbl hb d_law_600 (n := 601) rfl (by omega) (by omega) ?_
        refine fv_aload_n C d_law_601 (n := 602) rfl (i := 0) rfl rfl ?_
        refine fv_iload_n C d_law_602 (n := 603) rfl (i := 3) rfl rfl ?_
        refine fv_iconst C d_law_603 (n := 604) rfl kI_2 ?_
        first | refine fv_iaddN C d_law_604 (n := 605) rfl ?_ | refine fv_iadd C d_law_604 (n := 605) rfl ?_
        refine fv_sld C hX hbl hb d_law_605 (n := 606) rfl (by omega) (by omega) ?_
        refine fv_callV_r C (ml_L_74 D dA) im_M_sound se_M_sound hMc.1 rfl (ct_M_sound hM hI) d_law_606 (n := 609) rfl rfl rfl rfl (Nat.le_of_ble_eq_true rfl) (Nat.le_of_ble_eq_true rfl) (Nat.le_of_ble_eq_true rfl) (by omega) (by omega) ?_
        refine fv_icmp_eq C d_law_609 (tgt := 928) rfl (n := 612) rfl (fun hc609 => ?_) (fun hc609 => ?_)
        · refine fv_iinc C d_law_928 (n := 931) rfl rfl (show nI (6 * c) + Int32.ofInt 6 = nI (6 * (c + 1)) by rw [show Int32.ofInt 6 = nI 6 by decide +kernel, nI_add]; rfl) (by decide) (L' := [_, _, _, _]) rfl ?_
          refine fv_goto C d_law_931 (tgt := 18) rfl ?_
          exact ih (c + 1) _ _ _ _ (by omega) hD hM hI (by omega) (by omega) (by omega)
        · exact absurd rfl hc609
      by_cases w14 : w = nI 14
      · subst w14
        refine fv_tableIn C d_law_33 (by decide +kernel) (by decide +kernel) (off := 581) (by decide +kernel) (tgt := 614) rfl ?_
        refine fv_aload_n C d_law_614 (n := 615) rfl (i := 1) rfl rfl ?_
        refine fv_aload_n C d_law_615 (n := 616) rfl (i := 0) rfl rfl ?_
        refine fv_iload_n C d_law_616 (n := 617) rfl (i := 3) rfl rfl ?_
        refine fv_iconst C d_law_617 (n := 618) rfl kI_1 ?_
        first | refine fv_iaddN C d_law_618 (n := 619) rfl ?_ | refine fv_iadd C d_law_618 (n := 619) rfl ?_
        refine fv_sld C hX hbl hb d_law_619 (n := 620) rfl (by omega) (by omega) ?_
        refine fv_aload_n C d_law_620 (n := 621) rfl (i := 0) rfl rfl ?_
        refine fv_iload_n C d_law_621 (n := 622) rfl (i := 3) rfl rfl ?_
        refine fv_iconst C d_law_622 (n := 623) rfl kI_2 ?_
        first | refine fv_iaddN C d_law_623 (n := 624) rfl ?_ | refine fv_iadd C d_law_623 (n := 624) rfl ?_
        refine fv_sld C hX hbl hb d_law_624 (n := 625) rfl (by omega) (by omega) ?_
        refine fv_callV_r C (ml_L_75 D dA) im_D_at se_D_at hD.1.1 rfl (ct_D_at (by omega) hBs hD hI) d_law_625 (n := 628) rfl rfl rfl rfl (Nat.le_of_ble_eq_true rfl) (Nat.le_of_ble_eq_true rfl) (Nat.le_of_ble_eq_true rfl) (by omega) (by omega) ?_
        obtain ⟨F, bl, bh, hMc, -⟩ := id hM
        refine fv_aload_n C d_law_628 (n := 629) rfl (i := 2) rfl rfl ?_
        refine fv_aload_n C d_law_629 (n := 630) rfl (i := 0) rfl rfl ?_
        refine fv_iload_n C d_law_630 (n := 631) rfl (i := 3) rfl rfl ?_
        refine fv_iconst C d_law_631 (n := 632) rfl kI_1 ?_
        first | refine fv_iaddN C d_law_632 (n := 633) rfl ?_ | refine fv_iadd C d_law_632 (n := 633) rfl ?_
        refine fv_sld C hX hbl hb d_law_633 (n := 634) rfl (by omega) (by omega) ?_
        refine fv_aload_n C d_law_634 (n := 635) rfl (i := 0) rfl rfl ?_
        refine fv_iload_n C d_law_635 (n := 636) rfl (i := 3) rfl rfl ?_
        refine fv_iconst C d_law_636 (n := 637) rfl kI_2 ?_
        first | refine fv_iaddN C d_law_637 (n := 638) rfl ?_ | refine fv_iadd C d_law_637 (n := 638) rfl ?_
        refine fv_sld C hX hbl hb d_law_638 (n := 639) rfl (by omega) (by omega) ?_
        refine fv_callV_r C (ml_L_78 D dA) im_M_at se_M_at hMc.1 rfl (ct_M_at hM hI) d_law_639 (n := 642) rfl rfl rfl rfl (Nat.le_of_ble_eq_true rfl) (Nat.le_of_ble_eq_true rfl) (Nat.le_of_ble_eq_true rfl) (by omega) (by omega) ?_
        refine fv_icmp_eq C d_law_642 (tgt := 928) rfl (n := 645) rfl (fun hc642 => ?_) (fun hc642 => ?_)
        · refine fv_iinc C d_law_928 (n := 931) rfl rfl (show nI (6 * c) + Int32.ofInt 6 = nI (6 * (c + 1)) by rw [show Int32.ofInt 6 = nI 6 by decide +kernel, nI_add]; rfl) (by decide) (L' := [_, _, _, _]) rfl ?_
          refine fv_goto C d_law_931 (tgt := 18) rfl ?_
          exact ih (c + 1) _ _ _ _ (by omega) hD hM hI (by omega) (by omega) (by omega)
        · exact absurd rfl hc642
      by_cases w15 : w = nI 15
      · subst w15
        refine fv_tableIn C d_law_33 (by decide +kernel) (by decide +kernel) (off := 614) (by decide +kernel) (tgt := 647) rfl ?_
        refine fv_aload_n C d_law_647 (n := 648) rfl (i := 1) rfl rfl ?_
        refine fv_aload_n C d_law_648 (n := 649) rfl (i := 0) rfl rfl ?_
        refine fv_iload_n C d_law_649 (n := 650) rfl (i := 3) rfl rfl ?_
        refine fv_iconst C d_law_650 (n := 651) rfl kI_1 ?_
        first | refine fv_iaddN C d_law_651 (n := 652) rfl ?_ | refine fv_iadd C d_law_651 (n := 652) rfl ?_
        refine fv_sld C hX hbl hb d_law_652 (n := 653) rfl (by omega) (by omega) ?_
        refine fv_aload_n C d_law_653 (n := 654) rfl (i := 0) rfl rfl ?_
        refine fv_iload_n C d_law_654 (n := 655) rfl (i := 3) rfl rfl ?_
        refine fv_iconst C d_law_655 (n := 656) rfl kI_2 ?_
        first | refine fv_iaddN C d_law_656 (n := 657) rfl ?_ | refine fv_iadd C d_law_656 (n := 657) rfl ?_
        refine fv_sld C hX hbl hb d_law_657 (n := 658) rfl (by omega) (by omega) ?_
        refine fv_callV_r C (ml_L_79 D dA) im_D_receiver se_D_receiver hD.1.1 rfl (ct_D_receiver (by omega) hBs hD hI) d_law_658 (n := 661) rfl rfl rfl rfl (Nat.le_of_ble_eq_true rfl) (Nat.le_of_ble_eq_true rfl) (Nat.le_of_ble_eq_true rfl) (by omega) (by omega) ?_
        obtain ⟨F, bl, bh, hMc, -⟩ := id hM
        refine fv_aload_n C d_law_661 (n := 662) rfl (i := 2) rfl rfl ?_
        refine fv_aload_n C d_law_662 (n := 663) rfl (i := 0) rfl rfl ?_
        refine fv_iload_n C d_law_663 (n := 664) rfl (i := 3) rfl rfl ?_
        refine fv_iconst C d_law_664 (n := 665) rfl kI_1 ?_
        first | refine fv_iaddN C d_law_665 (n := 666) rfl ?_ | refine fv_iadd C d_law_665 (n := 666) rfl ?_
        refine fv_sld C hX hbl hb d_law_666 (n := 667) rfl (by omega) (by omega) ?_
        refine fv_aload_n C d_law_667 (n := 668) rfl (i := 0) rfl rfl ?_
        refine fv_iload_n C d_law_668 (n := 669) rfl (i := 3) rfl rfl ?_
        refine fv_iconst C d_law_669 (n := 670) rfl kI_2 ?_
        first | refine fv_iaddN C d_law_670 (n := 671) rfl ?_ | refine fv_iadd C d_law_670 (n := 671) rfl ?_
        refine fv_sld C hX hbl hb d_law_671 (n := 672) rfl (by omega) (by omega) ?_
        refine fv_callV_r C (ml_L_82 D dA) im_M_receiver se_M_receiver hMc.1 rfl (ct_M_receiver hM hI) d_law_672 (n := 675) rfl rfl rfl rfl (Nat.le_of_ble_eq_true rfl) (Nat.le_of_ble_eq_true rfl) (Nat.le_of_ble_eq_true rfl) (by omega) (by omega) ?_
        refine fv_icmp_eq C d_law_675 (tgt := 928) rfl (n := 678) rfl (fun hc675 => ?_) (fun hc675 => ?_)
        · refine fv_iinc C d_law_928 (n := 931) rfl rfl (show nI (6 * c) + Int32.ofInt 6 = nI (6 * (c + 1)) by rw [show Int32.ofInt 6 = nI 6 by decide +kernel, nI_add]; rfl) (by decide) (L' := [_, _, _, _]) rfl ?_
          refine fv_goto C d_law_931 (tgt := 18) rfl ?_
          exact ih (c + 1) _ _ _ _ (by omega) hD hM hI (by omega) (by omega) (by omega)
        · exact absurd rfl hc675
      by_cases w16 : w = nI 16
      · subst w16
        refine fv_tableIn C d_law_33 (by decide +kernel) (by decide +kernel) (off := 647) (by decide +kernel) (tgt := 680) rfl ?_
        refine fv_aload_n C d_law_680 (n := 681) rfl (i := 1) rfl rfl ?_
        refine fv_aload_n C d_law_681 (n := 682) rfl (i := 0) rfl rfl ?_
        refine fv_iload_n C d_law_682 (n := 683) rfl (i := 3) rfl rfl ?_
        refine fv_iconst C d_law_683 (n := 684) rfl kI_1 ?_
        first | refine fv_iaddN C d_law_684 (n := 685) rfl ?_ | refine fv_iadd C d_law_684 (n := 685) rfl ?_
        refine fv_sld C hX hbl hb d_law_685 (n := 686) rfl (by omega) (by omega) ?_
        refine fv_aload_n C d_law_686 (n := 687) rfl (i := 0) rfl rfl ?_
        refine fv_iload_n C d_law_687 (n := 688) rfl (i := 3) rfl rfl ?_
        refine fv_iconst C d_law_688 (n := 689) rfl kI_2 ?_
        first | refine fv_iaddN C d_law_689 (n := 690) rfl ?_ | refine fv_iadd C d_law_689 (n := 690) rfl ?_
        refine fv_sld C hX hbl hb d_law_690 (n := 691) rfl (by omega) (by omega) ?_
        refine fv_aload_n C d_law_691 (n := 692) rfl (i := 0) rfl rfl ?_
        refine fv_iload_n C d_law_692 (n := 693) rfl (i := 3) rfl rfl ?_
        refine fv_iconst C d_law_693 (n := 694) rfl kI_3 ?_
        first | refine fv_iaddN C d_law_694 (n := 695) rfl ?_ | refine fv_iadd C d_law_694 (n := 695) rfl ?_
        refine fv_sld C hX hbl hb d_law_695 (n := 696) rfl (by omega) (by omega) ?_
        refine fv_aload_n C d_law_696 (n := 697) rfl (i := 0) rfl rfl ?_
        refine fv_iload_n C d_law_697 (n := 698) rfl (i := 3) rfl rfl ?_
        refine fv_iconst C d_law_698 (n := 699) rfl kI_4 ?_
        first | refine fv_iaddN C d_law_699 (n := 700) rfl ?_ | refine fv_iadd C d_law_699 (n := 700) rfl ?_
        refine fv_sld C hX hbl hb d_law_700 (n := 701) rfl (by omega) (by omega) ?_
        refine fv_aload_n C d_law_701 (n := 702) rfl (i := 0) rfl rfl ?_
        refine fv_iload_n C d_law_702 (n := 703) rfl (i := 3) rfl rfl ?_
        refine fv_iconst C d_law_703 (n := 704) rfl kI_5 ?_
        first | refine fv_iaddN C d_law_704 (n := 705) rfl ?_ | refine fv_iadd C d_law_704 (n := 705) rfl ?_
        refine fv_sld C hX hbl hb d_law_705 (n := 706) rfl (by omega) (by omega) ?_
        refine fv_callV_r C (ml_L_83 D dA) im_D_best se_D_best hD.1.1 rfl (ct_D_best (by omega) hBs hD hI) d_law_706 (n := 709) rfl rfl rfl rfl (Nat.le_of_ble_eq_true rfl) (Nat.le_of_ble_eq_true rfl) (Nat.le_of_ble_eq_true rfl) (by omega) (by omega) ?_
        obtain ⟨F, bl, bh, hMc, -⟩ := id hM
        refine fv_aload_n C d_law_709 (n := 710) rfl (i := 2) rfl rfl ?_
        refine fv_aload_n C d_law_710 (n := 711) rfl (i := 0) rfl rfl ?_
        refine fv_iload_n C d_law_711 (n := 712) rfl (i := 3) rfl rfl ?_
        refine fv_iconst C d_law_712 (n := 713) rfl kI_1 ?_
        first | refine fv_iaddN C d_law_713 (n := 714) rfl ?_ | refine fv_iadd C d_law_713 (n := 714) rfl ?_
        refine fv_sld C hX hbl hb d_law_714 (n := 715) rfl (by omega) (by omega) ?_
        refine fv_aload_n C d_law_715 (n := 716) rfl (i := 0) rfl rfl ?_
        refine fv_iload_n C d_law_716 (n := 717) rfl (i := 3) rfl rfl ?_
        refine fv_iconst C d_law_717 (n := 718) rfl kI_2 ?_
        first | refine fv_iaddN C d_law_718 (n := 719) rfl ?_ | refine fv_iadd C d_law_718 (n := 719) rfl ?_
        refine fv_sld C hX hbl hb d_law_719 (n := 720) rfl (by omega) (by omega) ?_
        refine fv_aload_n C d_law_720 (n := 721) rfl (i := 0) rfl rfl ?_
        refine fv_iload_n C d_law_721 (n := 722) rfl (i := 3) rfl rfl ?_
        refine fv_iconst C d_law_722 (n := 723) rfl kI_3 ?_
        first | refine fv_iaddN C d_law_723 (n := 724) rfl ?_ | refine fv_iadd C d_law_723 (n := 724) rfl ?_
        refine fv_sld C hX hbl hb d_law_724 (n := 725) rfl (by omega) (by omega) ?_
        refine fv_aload_n C d_law_725 (n := 726) rfl (i := 0) rfl rfl ?_
        refine fv_iload_n C d_law_726 (n := 727) rfl (i := 3) rfl rfl ?_
        refine fv_iconst C d_law_727 (n := 728) rfl kI_4 ?_
        first | refine fv_iaddN C d_law_728 (n := 729) rfl ?_ | refine fv_iadd C d_law_728 (n := 729) rfl ?_
        refine fv_sld C hX hbl hb d_law_729 (n := 730) rfl (by omega) (by omega) ?_
        refine fv_aload_n C d_law_730 (n := 731) rfl (i := 0) rfl rfl ?_
        refine fv_iload_n C d_law_731 (n := 732) rfl (i := 3) rfl rfl ?_
        refine fv_iconst C d_law_732 (n := 733) rfl kI_5 ?_
        first | refine fv_iaddN C d_law_733 (n := 734) rfl ?_ | refine fv_iadd C d_law_733 (n := 734) rfl ?_
        refine fv_sld C hX hbl hb d_law_734 (n := 735) rfl (by omega) (by omega) ?_
        refine fv_callV_i C (ml_L_86 D dA) im_M_best se_M_best hMc.1 rfl (ct_M_best (by omega) hM hI) d_law_735 (n := 738) rfl rfl rfl rfl (Nat.le_of_ble_eq_true rfl) (Nat.le_of_ble_eq_true rfl) (Nat.le_of_ble_eq_true rfl) (by omega) (by omega) (fun r0 h2 hp => ?_)
        obtain ⟨rfl, hM, f2⟩ := hp
        have hD := hD.fs f2 (fun x hx => by unfold MS; omega)
        refine fv_icmp_eq C d_law_738 (tgt := 928) rfl (n := 741) rfl (fun hc738 => ?_) (fun hc738 => ?_)
        · refine fv_iinc C d_law_928 (n := 931) rfl rfl (show nI (6 * c) + Int32.ofInt 6 = nI (6 * (c + 1)) by rw [show Int32.ofInt 6 = nI 6 by decide +kernel, nI_add]; rfl) (by decide) (L' := [_, _, _, _]) rfl ?_
          refine fv_goto C d_law_931 (tgt := 18) rfl ?_
          exact ih (c + 1) _ _ _ _ (by omega) hD hM hI (by omega) (by omega) (by omega)
        · exact absurd rfl hc738
      by_cases w17 : w = nI 17
      · subst w17
        refine fv_tableIn C d_law_33 (by decide +kernel) (by decide +kernel) (off := 710) (by decide +kernel) (tgt := 743) rfl ?_
        refine fv_aload_n C d_law_743 (n := 744) rfl (i := 1) rfl rfl ?_
        refine fv_aload_n C d_law_744 (n := 745) rfl (i := 0) rfl rfl ?_
        refine fv_iload_n C d_law_745 (n := 746) rfl (i := 3) rfl rfl ?_
        refine fv_iconst C d_law_746 (n := 747) rfl kI_1 ?_
        first | refine fv_iaddN C d_law_747 (n := 748) rfl ?_ | refine fv_iadd C d_law_747 (n := 748) rfl ?_
        refine fv_sld C hX hbl hb d_law_748 (n := 749) rfl (by omega) (by omega) ?_
        refine fv_aload_n C d_law_749 (n := 750) rfl (i := 0) rfl rfl ?_
        refine fv_iload_n C d_law_750 (n := 751) rfl (i := 3) rfl rfl ?_
        refine fv_iconst C d_law_751 (n := 752) rfl kI_2 ?_
        first | refine fv_iaddN C d_law_752 (n := 753) rfl ?_ | refine fv_iadd C d_law_752 (n := 753) rfl ?_
        refine fv_sld C hX hbl hb d_law_753 (n := 754) rfl (by omega) (by omega) ?_
        refine fv_aload_n C d_law_754 (n := 755) rfl (i := 0) rfl rfl ?_
        refine fv_iload_n C d_law_755 (n := 756) rfl (i := 3) rfl rfl ?_
        refine fv_iconst C d_law_756 (n := 757) rfl kI_3 ?_
        first | refine fv_iaddN C d_law_757 (n := 758) rfl ?_ | refine fv_iadd C d_law_757 (n := 758) rfl ?_
        refine fv_sld C hX hbl hb d_law_758 (n := 759) rfl (by omega) (by omega) ?_
        refine fv_aload_n C d_law_759 (n := 760) rfl (i := 0) rfl rfl ?_
        refine fv_iload_n C d_law_760 (n := 761) rfl (i := 3) rfl rfl ?_
        refine fv_iconst C d_law_761 (n := 762) rfl kI_4 ?_
        first | refine fv_iaddN C d_law_762 (n := 763) rfl ?_ | refine fv_iadd C d_law_762 (n := 763) rfl ?_
        refine fv_sld C hX hbl hb d_law_763 (n := 764) rfl (by omega) (by omega) ?_
        refine fv_callV_r C (ml_L_87 D dA) im_D_order se_D_order hD.1.1 rfl (ct_D_order (by omega) hBs hD hI) d_law_764 (n := 767) rfl rfl rfl rfl (Nat.le_of_ble_eq_true rfl) (Nat.le_of_ble_eq_true rfl) (Nat.le_of_ble_eq_true rfl) (by omega) (by omega) ?_
        obtain ⟨F, bl, bh, hMc, -⟩ := id hM
        refine fv_aload_n C d_law_767 (n := 768) rfl (i := 2) rfl rfl ?_
        refine fv_aload_n C d_law_768 (n := 769) rfl (i := 0) rfl rfl ?_
        refine fv_iload_n C d_law_769 (n := 770) rfl (i := 3) rfl rfl ?_
        refine fv_iconst C d_law_770 (n := 771) rfl kI_1 ?_
        first | refine fv_iaddN C d_law_771 (n := 772) rfl ?_ | refine fv_iadd C d_law_771 (n := 772) rfl ?_
        refine fv_sld C hX hbl hb d_law_772 (n := 773) rfl (by omega) (by omega) ?_
        refine fv_aload_n C d_law_773 (n := 774) rfl (i := 0) rfl rfl ?_
        refine fv_iload_n C d_law_774 (n := 775) rfl (i := 3) rfl rfl ?_
        refine fv_iconst C d_law_775 (n := 776) rfl kI_2 ?_
        first | refine fv_iaddN C d_law_776 (n := 777) rfl ?_ | refine fv_iadd C d_law_776 (n := 777) rfl ?_
        refine fv_sld C hX hbl hb d_law_777 (n := 778) rfl (by omega) (by omega) ?_
        refine fv_aload_n C d_law_778 (n := 779) rfl (i := 0) rfl rfl ?_
        refine fv_iload_n C d_law_779 (n := 780) rfl (i := 3) rfl rfl ?_
        refine fv_iconst C d_law_780 (n := 781) rfl kI_3 ?_
        first | refine fv_iaddN C d_law_781 (n := 782) rfl ?_ | refine fv_iadd C d_law_781 (n := 782) rfl ?_
        refine fv_sld C hX hbl hb d_law_782 (n := 783) rfl (by omega) (by omega) ?_
        refine fv_aload_n C d_law_783 (n := 784) rfl (i := 0) rfl rfl ?_
        refine fv_iload_n C d_law_784 (n := 785) rfl (i := 3) rfl rfl ?_
        refine fv_iconst C d_law_785 (n := 786) rfl kI_4 ?_
        first | refine fv_iaddN C d_law_786 (n := 787) rfl ?_ | refine fv_iadd C d_law_786 (n := 787) rfl ?_
        refine fv_sld C hX hbl hb d_law_787 (n := 788) rfl (by omega) (by omega) ?_
        refine fv_callV_i C (ml_L_91 D dA) im_M_order se_M_order hMc.1 rfl (ct_M_order (by omega) hM hI) d_law_788 (n := 791) rfl rfl rfl rfl (Nat.le_of_ble_eq_true rfl) (Nat.le_of_ble_eq_true rfl) (Nat.le_of_ble_eq_true rfl) (by omega) (by omega) (fun r0 h2 hp => ?_)
        obtain ⟨rfl, hM, f2⟩ := hp
        have hD := hD.fs f2 (fun x hx => by unfold MS; omega)
        refine fv_icmp_eq C d_law_791 (tgt := 928) rfl (n := 794) rfl (fun hc791 => ?_) (fun hc791 => ?_)
        · refine fv_iinc C d_law_928 (n := 931) rfl rfl (show nI (6 * c) + Int32.ofInt 6 = nI (6 * (c + 1)) by rw [show Int32.ofInt 6 = nI 6 by decide +kernel, nI_add]; rfl) (by decide) (L' := [_, _, _, _]) rfl ?_
          refine fv_goto C d_law_931 (tgt := 18) rfl ?_
          exact ih (c + 1) _ _ _ _ (by omega) hD hM hI (by omega) (by omega) (by omega)
        · exact absurd rfl hc791
      by_cases w18 : w = nI 18
      · subst w18
        refine fv_tableIn C d_law_33 (by decide +kernel) (by decide +kernel) (off := 763) (by decide +kernel) (tgt := 796) rfl ?_
        refine fv_aload_n C d_law_796 (n := 797) rfl (i := 1) rfl rfl ?_
        refine fv_aload_n C d_law_797 (n := 798) rfl (i := 0) rfl rfl ?_
        refine fv_iload_n C d_law_798 (n := 799) rfl (i := 3) rfl rfl ?_
        refine fv_iconst C d_law_799 (n := 800) rfl kI_1 ?_
        first | refine fv_iaddN C d_law_800 (n := 801) rfl ?_ | refine fv_iadd C d_law_800 (n := 801) rfl ?_
        refine fv_sld C hX hbl hb d_law_801 (n := 802) rfl (by omega) (by omega) ?_
        refine fv_aload_n C d_law_802 (n := 803) rfl (i := 0) rfl rfl ?_
        refine fv_iload_n C d_law_803 (n := 804) rfl (i := 3) rfl rfl ?_
        refine fv_iconst C d_law_804 (n := 805) rfl kI_2 ?_
        first | refine fv_iaddN C d_law_805 (n := 806) rfl ?_ | refine fv_iadd C d_law_805 (n := 806) rfl ?_
        refine fv_sld C hX hbl hb d_law_806 (n := 807) rfl (by omega) (by omega) ?_
        refine fv_callV_r C (ml_L_92 D dA) im_D_halted se_D_halted hD.1.1 rfl (ct_D_halted (by omega) hBs hD hI) d_law_807 (n := 810) rfl rfl rfl rfl (Nat.le_of_ble_eq_true rfl) (Nat.le_of_ble_eq_true rfl) (Nat.le_of_ble_eq_true rfl) (by omega) (by omega) ?_
        obtain ⟨F, bl, bh, hMc, -⟩ := id hM
        refine fv_aload_n C d_law_810 (n := 811) rfl (i := 2) rfl rfl ?_
        refine fv_aload_n C d_law_811 (n := 812) rfl (i := 0) rfl rfl ?_
        refine fv_iload_n C d_law_812 (n := 813) rfl (i := 3) rfl rfl ?_
        refine fv_iconst C d_law_813 (n := 814) rfl kI_1 ?_
        first | refine fv_iaddN C d_law_814 (n := 815) rfl ?_ | refine fv_iadd C d_law_814 (n := 815) rfl ?_
        refine fv_sld C hX hbl hb d_law_815 (n := 816) rfl (by omega) (by omega) ?_
        refine fv_aload_n C d_law_816 (n := 817) rfl (i := 0) rfl rfl ?_
        refine fv_iload_n C d_law_817 (n := 818) rfl (i := 3) rfl rfl ?_
        refine fv_iconst C d_law_818 (n := 819) rfl kI_2 ?_
        first | refine fv_iaddN C d_law_819 (n := 820) rfl ?_ | refine fv_iadd C d_law_819 (n := 820) rfl ?_
        refine fv_sld C hX hbl hb d_law_820 (n := 821) rfl (by omega) (by omega) ?_
        refine fv_callV_i C (ml_L_95 D dA) im_M_halted se_M_halted hMc.1 rfl (ct_M_halted (by omega) hM hI) d_law_821 (n := 824) rfl rfl rfl rfl (Nat.le_of_ble_eq_true rfl) (Nat.le_of_ble_eq_true rfl) (Nat.le_of_ble_eq_true rfl) (by omega) (by omega) (fun r0 h2 hp => ?_)
        obtain ⟨rfl, hM, f2⟩ := hp
        have hD := hD.fs f2 (fun x hx => by unfold MS; omega)
        refine fv_icmp_eq C d_law_824 (tgt := 928) rfl (n := 827) rfl (fun hc824 => ?_) (fun hc824 => ?_)
        · refine fv_iinc C d_law_928 (n := 931) rfl rfl (show nI (6 * c) + Int32.ofInt 6 = nI (6 * (c + 1)) by rw [show Int32.ofInt 6 = nI 6 by decide +kernel, nI_add]; rfl) (by decide) (L' := [_, _, _, _]) rfl ?_
          refine fv_goto C d_law_931 (tgt := 18) rfl ?_
          exact ih (c + 1) _ _ _ _ (by omega) hD hM hI (by omega) (by omega) (by omega)
        · exact absurd rfl hc824
      by_cases w19 : w = nI 19
      · subst w19
        refine fv_tableIn C d_law_33 (by decide +kernel) (by decide +kernel) (off := 796) (by decide +kernel) (tgt := 829) rfl ?_
        refine fv_aload_n C d_law_829 (n := 830) rfl (i := 1) rfl rfl ?_
        refine fv_aload_n C d_law_830 (n := 831) rfl (i := 0) rfl rfl ?_
        refine fv_iload_n C d_law_831 (n := 832) rfl (i := 3) rfl rfl ?_
        refine fv_iconst C d_law_832 (n := 833) rfl kI_1 ?_
        first | refine fv_iaddN C d_law_833 (n := 834) rfl ?_ | refine fv_iadd C d_law_833 (n := 834) rfl ?_
        refine fv_sld C hX hbl hb d_law_834 (n := 835) rfl (by omega) (by omega) ?_
        refine fv_callV_r C (ml_L_96 D dA) im_D_dirty se_D_dirty hD.1.1 rfl (ct_D_dirty (by omega) hBs hD hI) d_law_835 (n := 838) rfl rfl rfl rfl (Nat.le_of_ble_eq_true rfl) (Nat.le_of_ble_eq_true rfl) (Nat.le_of_ble_eq_true rfl) (by omega) (by omega) ?_
        obtain ⟨F, bl, bh, hMc, -⟩ := id hM
        refine fv_aload_n C d_law_838 (n := 839) rfl (i := 2) rfl rfl ?_
        refine fv_aload_n C d_law_839 (n := 840) rfl (i := 0) rfl rfl ?_
        refine fv_iload_n C d_law_840 (n := 841) rfl (i := 3) rfl rfl ?_
        refine fv_iconst C d_law_841 (n := 842) rfl kI_1 ?_
        first | refine fv_iaddN C d_law_842 (n := 843) rfl ?_ | refine fv_iadd C d_law_842 (n := 843) rfl ?_
        refine fv_sld C hX hbl hb d_law_843 (n := 844) rfl (by omega) (by omega) ?_
        refine fv_callV_r C (ml_L_99 D dA) im_M_dirty se_M_dirty hMc.1 rfl (ct_M_dirty hM hI) d_law_844 (n := 847) rfl rfl rfl rfl (Nat.le_of_ble_eq_true rfl) (Nat.le_of_ble_eq_true rfl) (Nat.le_of_ble_eq_true rfl) (by omega) (by omega) ?_
        refine fv_icmp_eq C d_law_847 (tgt := 928) rfl (n := 850) rfl (fun hc847 => ?_) (fun hc847 => ?_)
        · refine fv_iinc C d_law_928 (n := 931) rfl rfl (show nI (6 * c) + Int32.ofInt 6 = nI (6 * (c + 1)) by rw [show Int32.ofInt 6 = nI 6 by decide +kernel, nI_add]; rfl) (by decide) (L' := [_, _, _, _]) rfl ?_
          refine fv_goto C d_law_931 (tgt := 18) rfl ?_
          exact ih (c + 1) _ _ _ _ (by omega) hD hM hI (by omega) (by omega) (by omega)
        · exact absurd rfl hc847
      by_cases w20 : w = nI 20
      · subst w20
        refine fv_tableIn C d_law_33 (by decide +kernel) (by decide +kernel) (off := 819) (by decide +kernel) (tgt := 852) rfl ?_
        refine fv_aload_n C d_law_852 (n := 853) rfl (i := 1) rfl rfl ?_
        refine fv_aload_n C d_law_853 (n := 854) rfl (i := 0) rfl rfl ?_
        refine fv_iload_n C d_law_854 (n := 855) rfl (i := 3) rfl rfl ?_
        refine fv_iconst C d_law_855 (n := 856) rfl kI_1 ?_
        first | refine fv_iaddN C d_law_856 (n := 857) rfl ?_ | refine fv_iadd C d_law_856 (n := 857) rfl ?_
        refine fv_sld C hX hbl hb d_law_857 (n := 858) rfl (by omega) (by omega) ?_
        refine fv_callV_i C (ml_L_100 D dA) im_D_read se_D_read hD.1.1 rfl (ct_D_read (by omega) hBs hD hI) d_law_858 (n := 861) rfl rfl rfl rfl (Nat.le_of_ble_eq_true rfl) (Nat.le_of_ble_eq_true rfl) (Nat.le_of_ble_eq_true rfl) (by omega) (by omega) (fun r0 h1 hp => ?_)
        obtain ⟨rfl, hD, f1⟩ := hp
        have hM := hM.fs f1 (fun x a1 a2 => by unfold SD; omega)
        obtain ⟨F, bl, bh, hMc, -⟩ := id hM
        refine fv_aload_n C d_law_861 (n := 862) rfl (i := 2) rfl rfl ?_
        refine fv_aload_n C d_law_862 (n := 863) rfl (i := 0) rfl rfl ?_
        refine fv_iload_n C d_law_863 (n := 864) rfl (i := 3) rfl rfl ?_
        refine fv_iconst C d_law_864 (n := 865) rfl kI_1 ?_
        first | refine fv_iaddN C d_law_865 (n := 866) rfl ?_ | refine fv_iadd C d_law_865 (n := 866) rfl ?_
        refine fv_sld C hX hbl hb d_law_866 (n := 867) rfl (by omega) (by omega) ?_
        refine fv_callV_i C (ml_L_103 D dA) im_M_read se_M_read hMc.1 rfl (ct_M_read (by omega) hM hI) d_law_867 (n := 870) rfl rfl rfl rfl (Nat.le_of_ble_eq_true rfl) (Nat.le_of_ble_eq_true rfl) (Nat.le_of_ble_eq_true rfl) (by omega) (by omega) (fun r0 h2 hp => ?_)
        obtain ⟨rfl, hM, f2⟩ := hp
        have hD := hD.fs f2 (fun x hx => by unfold MS; omega)
        refine fv_icmp_eq C d_law_870 (tgt := 928) rfl (n := 873) rfl (fun hc870 => ?_) (fun hc870 => ?_)
        · refine fv_iinc C d_law_928 (n := 931) rfl rfl (show nI (6 * c) + Int32.ofInt 6 = nI (6 * (c + 1)) by rw [show Int32.ofInt 6 = nI 6 by decide +kernel, nI_add]; rfl) (by decide) (L' := [_, _, _, _]) rfl ?_
          refine fv_goto C d_law_931 (tgt := 18) rfl ?_
          have e1 : (sp_rdS S (xs (6 * c + 1))).1 = S.1 := by
            unfold sp_rdS
            repeat' split
            all_goals rfl
          have hsh2 : (sp_sh (sp_rdS S (xs (6 * c + 1)))).length ≤ c + 1 := by
            unfold sp_rdS
            repeat' split
            all_goals exact Nat.le_succ_of_le hsh
          have h9 := ih (c + 1) _ _ cells slots (by omega) hD hM (sp_rd_I hI) hsh2 (by omega) (by omega)
          rw [e1] at h9
          exact h9
        · exact absurd rfl hc870
      by_cases w21 : w = nI 21
      · subst w21
        refine fv_tableIn C d_law_33 (by decide +kernel) (by decide +kernel) (off := 842) (by decide +kernel) (tgt := 875) rfl ?_
        refine fv_aload_n C d_law_875 (n := 876) rfl (i := 1) rfl rfl ?_
        refine fv_aload_n C d_law_876 (n := 877) rfl (i := 0) rfl rfl ?_
        refine fv_iload_n C d_law_877 (n := 878) rfl (i := 3) rfl rfl ?_
        refine fv_iconst C d_law_878 (n := 879) rfl kI_1 ?_
        first | refine fv_iaddN C d_law_879 (n := 880) rfl ?_ | refine fv_iadd C d_law_879 (n := 880) rfl ?_
        refine fv_sld C hX hbl hb d_law_880 (n := 881) rfl (by omega) (by omega) ?_
        refine fv_aload_n C d_law_881 (n := 882) rfl (i := 0) rfl rfl ?_
        refine fv_iload_n C d_law_882 (n := 883) rfl (i := 3) rfl rfl ?_
        refine fv_iconst C d_law_883 (n := 884) rfl kI_2 ?_
        first | refine fv_iaddN C d_law_884 (n := 885) rfl ?_ | refine fv_iadd C d_law_884 (n := 885) rfl ?_
        refine fv_sld C hX hbl hb d_law_885 (n := 886) rfl (by omega) (by omega) ?_
        refine fv_aload_n C d_law_886 (n := 887) rfl (i := 0) rfl rfl ?_
        refine fv_iload_n C d_law_887 (n := 888) rfl (i := 3) rfl rfl ?_
        refine fv_iconst C d_law_888 (n := 889) rfl kI_3 ?_
        first | refine fv_iaddN C d_law_889 (n := 890) rfl ?_ | refine fv_iadd C d_law_889 (n := 890) rfl ?_
        refine fv_sld C hX hbl hb d_law_890 (n := 891) rfl (by omega) (by omega) ?_
        refine fv_aload_n C d_law_891 (n := 892) rfl (i := 0) rfl rfl ?_
        refine fv_iload_n C d_law_892 (n := 893) rfl (i := 3) rfl rfl ?_
        refine fv_iconst C d_law_893 (n := 894) rfl kI_4 ?_
        first | refine fv_iaddN C d_law_894 (n := 895) rfl ?_ | refine fv_iadd C d_law_894 (n := 895) rfl ?_
        refine fv_sld C hX hbl hb d_law_895 (n := 896) rfl (by omega) (by omega) ?_
        refine fv_callV_r C (ml_L_104 D dA) im_D_view se_D_view hD.1.1 rfl (ct_D_view (by omega) hBs hD hI) d_law_896 (n := 899) rfl rfl rfl rfl (Nat.le_of_ble_eq_true rfl) (Nat.le_of_ble_eq_true rfl) (Nat.le_of_ble_eq_true rfl) (by omega) (by omega) ?_
        obtain ⟨F, bl, bh, hMc, -⟩ := id hM
        refine fv_aload_n C d_law_899 (n := 900) rfl (i := 2) rfl rfl ?_
        refine fv_aload_n C d_law_900 (n := 901) rfl (i := 0) rfl rfl ?_
        refine fv_iload_n C d_law_901 (n := 902) rfl (i := 3) rfl rfl ?_
        refine fv_iconst C d_law_902 (n := 903) rfl kI_1 ?_
        first | refine fv_iaddN C d_law_903 (n := 904) rfl ?_ | refine fv_iadd C d_law_903 (n := 904) rfl ?_
        refine fv_sld C hX hbl hb d_law_904 (n := 905) rfl (by omega) (by omega) ?_
        refine fv_aload_n C d_law_905 (n := 906) rfl (i := 0) rfl rfl ?_
        refine fv_iload_n C d_law_906 (n := 907) rfl (i := 3) rfl rfl ?_
        refine fv_iconst C d_law_907 (n := 908) rfl kI_2 ?_
        first | refine fv_iaddN C d_law_908 (n := 909) rfl ?_ | refine fv_iadd C d_law_908 (n := 909) rfl ?_
        refine fv_sld C hX hbl hb d_law_909 (n := 910) rfl (by omega) (by omega) ?_
        refine fv_aload_n C d_law_910 (n := 911) rfl (i := 0) rfl rfl ?_
        refine fv_iload_n C d_law_911 (n := 912) rfl (i := 3) rfl rfl ?_
        refine fv_iconst C d_law_912 (n := 913) rfl kI_3 ?_
        first | refine fv_iaddN C d_law_913 (n := 914) rfl ?_ | refine fv_iadd C d_law_913 (n := 914) rfl ?_
        refine fv_sld C hX hbl hb d_law_914 (n := 915) rfl (by omega) (by omega) ?_
        refine fv_aload_n C d_law_915 (n := 916) rfl (i := 0) rfl rfl ?_
        refine fv_iload_n C d_law_916 (n := 917) rfl (i := 3) rfl rfl ?_
        refine fv_iconst C d_law_917 (n := 918) rfl kI_4 ?_
        first | refine fv_iaddN C d_law_918 (n := 919) rfl ?_ | refine fv_iadd C d_law_918 (n := 919) rfl ?_
        refine fv_sld C hX hbl hb d_law_919 (n := 920) rfl (by omega) (by omega) ?_
        refine fv_callV_r C (ml_L_107 D dA) im_M_view se_M_view hMc.1 rfl (ct_M_view hM hI) d_law_920 (n := 923) rfl rfl rfl rfl (Nat.le_of_ble_eq_true rfl) (Nat.le_of_ble_eq_true rfl) (Nat.le_of_ble_eq_true rfl) (by omega) (by omega) ?_
        refine fv_icmp_eq C d_law_923 (tgt := 928) rfl (n := 926) rfl (fun hc923 => ?_) (fun hc923 => ?_)
        · refine fv_iinc C d_law_928 (n := 931) rfl rfl (show nI (6 * c) + Int32.ofInt 6 = nI (6 * (c + 1)) by rw [show Int32.ofInt 6 = nI 6 by decide +kernel, nI_add]; rfl) (by decide) (L' := [_, _, _, _]) rfl ?_
          refine fv_goto C d_law_931 (tgt := 18) rfl ?_
          exact ih (c + 1) _ _ _ _ (by omega) hD hM hI (by omega) (by omega) (by omega)
        · exact absurd rfl hc923
      have hout : w.toInt < 0 ∨ 21 < w.toInt := by
        refine Decidable.byContradiction fun hz => ?_
        obtain ⟨z, -, hz2, rfl⟩ := iv_of (x := w) (a := 0) (b := 21) (by decide) (by decide) (decide_eq_true ⟨by rw [Int32.le_iff_toInt_le, nI_toInt (by decide)]; omega, by rw [Int32.le_iff_toInt_le, nI_toInt (by decide)]; omega⟩)
        rcases (show z = 0 ∨ z = 1 ∨ z = 2 ∨ z = 3 ∨ z = 4 ∨ z = 5 ∨ z = 6 ∨ z = 7 ∨ z = 8 ∨ z = 9 ∨ z = 10 ∨ z = 11 ∨ z = 12 ∨ z = 13 ∨ z = 14 ∨ z = 15 ∨ z = 16 ∨ z = 17 ∨ z = 18 ∨ z = 19 ∨ z = 20 ∨ z = 21 by omega) with rfl | rfl | rfl | rfl | rfl | rfl | rfl | rfl | rfl | rfl | rfl | rfl | rfl | rfl | rfl | rfl | rfl | rfl | rfl | rfl | rfl | rfl
        · exact w0 rfl
        · exact w1 rfl
        · exact w2 rfl
        · exact w3 rfl
        · exact w4 rfl
        · exact w5 rfl
        · exact w6 rfl
        · exact w7 rfl
        · exact w8 rfl
        · exact w9 rfl
        · exact w10 rfl
        · exact w11 rfl
        · exact w12 rfl
        · exact w13 rfl
        · exact w14 rfl
        · exact w15 rfl
        · exact w16 rfl
        · exact w17 rfl
        · exact w18 rfl
        · exact w19 rfl
        · exact w20 rfl
        · exact w21 rfl
      refine fv_tableOut C d_law_33 hout (tgt := 928) rfl ?_
      refine fv_iinc C d_law_928 (n := 931) rfl rfl (show nI (6 * c) + Int32.ofInt 6 = nI (6 * (c + 1)) by rw [show Int32.ofInt 6 = nI 6 by decide +kernel, nI_add]; rfl) (by decide) (L' := [_, _, _, _]) rfl ?_
      refine fv_goto C d_law_931 (tgt := 18) rfl ?_
      exact ih (c + 1) _ _ _ _ (by omega) hD hM hI (by omega) (by omega) (by omega)
end LW
