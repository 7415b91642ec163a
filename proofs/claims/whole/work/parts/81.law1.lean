/-! The law: its cases (by program, wip/whole/gen/l1.py) -/
section LAW
variable {X : OX} {A : Nat → Prop} {Q : State → Prop} {ce sl : Nat} {b L : Nat} {xs : Nat → Int32} {Y1 Y2 : YY} {n s c t i : Nat} {u w : UU}
set_option maxRecDepth 100000 in
set_option maxHeartbeats 4000000 in
theorem la_pair (h : LX X A b L xs (vC Y1 n s c) (vM Y2 n s c)) (h1 : 1 ≤ n) (hn : n ≤ 6) (h0 : 0 < c) (hc : c ≤ 4) (hs0 : 0 < s) (hs : s ≤ 24) (hsc : s * c < 2 ^ 31) (hce : ce ≤ room_1.cells ∧ sl ≤ room_1.slots) (hi : i + 6 ≤ L) (hS : Sim n s c t u w) (ht : t + 64 < 2 ^ 26) (k : ∀ u' w', Sim n s c (t + 64) u' w' → jw X A Q (P2 (vC Y1 n s c) (vM Y2 n s c) u' w') ce sl [(0, .ref b), (1, .ref (pv_ad (vC Y1 n s c) 0 0)), (2, .ref (pv_ad (vM Y2 n s c) 0 0)), (3, .int (nI i))] 775 []) : jw X A Q (P2 (vC Y1 n s c) (vM Y2 n s c) u w) ce sl [(0, .ref b), (1, .ref (pv_ad (vC Y1 n s c) 0 0)), (2, .ref (pv_ad (vM Y2 n s c) 0 0)), (3, .int (nI i))] 152 [] := by
  have hX := h.1
  have hx := h.2.1
  have hL := h.2.2.2.1
  obtain ⟨z, hzz⟩ : ∃ z : Nat, z = if (xs (i + 3)) = 0 then 0 else 1 := ⟨_, rfl⟩
  have hz : z ≤ 1 := by rw [hzz]; split <;> omega
  have hE := S_pair hn hS (xs (i + 1)) (xs (i + 2)) z hz
  refine jw_aload_n (pc := 152) hX d_L_law_152 rfl ?_
  refine jw_aload_n (pc := 153) hX d_L_law_153 rfl ?_
  refine jw_iload_n (pc := 154) hX d_L_law_154 rfl ?_
  refine jw_iconst (pc := 155) (v := nI 1) hX d_L_law_155 (by decide) ?_
  refine jw_addn (pc := 156) hX d_L_law_156 ?_
  refine jw_sld (pc := 157) hX hx h.2.2.1 (by omega) hL d_L_law_157 ?_
  refine jw_aload_n (pc := 158) hX d_L_law_158 rfl ?_
  refine jw_iload_n (pc := 159) hX d_L_law_159 rfl ?_
  refine jw_iconst (pc := 160) (v := nI 2) hX d_L_law_160 (by decide) ?_
  refine jw_addn (pc := 161) hX d_L_law_161 ?_
  refine jw_sld (pc := 162) hX hx h.2.2.1 (by omega) hL d_L_law_162 ?_
  refine jw_aload_n (pc := 163) hX d_L_law_163 rfl ?_
  refine jw_iload_n (pc := 164) hX d_L_law_164 rfl ?_
  refine jw_iconst (pc := 165) (v := nI 3) hX d_L_law_165 (by decide) ?_
  refine jw_addn (pc := 166) hX d_L_law_166 ?_
  refine jw_sld (pc := 167) hX hx h.2.2.1 (by omega) hL d_L_law_167 ?_
  have K168 : jw X A Q (P2 (vC Y1 n s c) (vM Y2 n s c) u w) ce sl [(0, .ref b), (1, .ref (pv_ad (vC Y1 n s c) 0 0)), (2, .ref (pv_ad (vM Y2 n s c) 0 0)), (3, .int (nI i))] 176 (.int (nI z) :: .int (xs (i + 2)) :: .int (xs (i + 1)) :: .ref (pv_ad (vC Y1 n s c) 0 0) :: []) := by
    refine jw_c1 (pc := 176) h (c_S_pair _ Y1 n s c h.2.2.2.2.2.2.2.1 u (xs (i + 1)) (xs (i + 2)) z hn hz (sim_wf hS).1) mz_S_pair kw_229 (by decide +kernel) hce rfl (Nat.le_of_ble_eq_true rfl) d_L_law_176 rfl ?_
    refine jw_aload_n (pc := 179) hX d_L_law_179 rfl ?_
    refine jw_aload_n (pc := 180) hX d_L_law_180 rfl ?_
    refine jw_iload_n (pc := 181) hX d_L_law_181 rfl ?_
    refine jw_iconst (pc := 182) (v := nI 1) hX d_L_law_182 (by decide) ?_
    refine jw_addn (pc := 183) hX d_L_law_183 ?_
    refine jw_sld (pc := 184) hX hx h.2.2.1 (by omega) hL d_L_law_184 ?_
    refine jw_aload_n (pc := 185) hX d_L_law_185 rfl ?_
    refine jw_iload_n (pc := 186) hX d_L_law_186 rfl ?_
    refine jw_iconst (pc := 187) (v := nI 2) hX d_L_law_187 (by decide) ?_
    refine jw_addn (pc := 188) hX d_L_law_188 ?_
    refine jw_sld (pc := 189) hX hx h.2.2.1 (by omega) hL d_L_law_189 ?_
    refine jw_aload_n (pc := 190) hX d_L_law_190 rfl ?_
    refine jw_iload_n (pc := 191) hX d_L_law_191 rfl ?_
    refine jw_iconst (pc := 192) (v := nI 3) hX d_L_law_192 (by decide) ?_
    refine jw_addn (pc := 193) hX d_L_law_193 ?_
    refine jw_sld (pc := 194) hX hx h.2.2.1 (by omega) hL d_L_law_194 ?_
    have K195 : jw X A Q (P2 (vC Y1 n s c) (vM Y2 n s c) (kc_pair n u (xs (i + 1)) (xs (i + 2)) z).2 w) ce sl [(0, .ref b), (1, .ref (pv_ad (vC Y1 n s c) 0 0)), (2, .ref (pv_ad (vM Y2 n s c) 0 0)), (3, .int (nI i))] 203 (.int (nI z) :: .int (xs (i + 2)) :: .int (xs (i + 1)) :: .ref (pv_ad (vM Y2 n s c) 0 0) :: .int (nI (kc_pair n u (xs (i + 1)) (xs (i + 2)) z).1) :: []) := by
      refine jw_c2 (pc := 203) h (c_M_pair _ Y2 n s c h.2.2.2.2.2.2.2.2 w (xs (i + 1)) (xs (i + 2)) z hn hz (sim_wm hS)) mz_M_pair kw_605 (by decide +kernel) hce rfl (Nat.le_of_ble_eq_true rfl) d_L_law_203 rfl ?_
      exact jw_ic_eq (pc := 206) (tgt := 775) hX d_L_law_206 (by decide) (fun _ => k _ _ (Sim_le hE.2 (by omega))) (fun q => absurd (by rw [hE.1]) q)
    refine jw_if_eq (pc := 195) (tgt := 202) hX d_L_law_195 (by decide) (fun q => ?_) (fun q => ?_)
    · refine jw_iconst (pc := 202) (v := nI z) hX d_L_law_202 (by rw [hzz, if_pos q]; decide) ?_
      exact K195
    · refine jw_iconst (pc := 198) (v := nI z) hX d_L_law_198 (by rw [hzz, if_neg q]; decide) ?_
      refine jw_goto (pc := 199) (tgt := 203) hX d_L_law_199 (by decide) ?_
      exact K195
  refine jw_if_eq (pc := 168) (tgt := 175) hX d_L_law_168 (by decide) (fun q => ?_) (fun q => ?_)
  · refine jw_iconst (pc := 175) (v := nI z) hX d_L_law_175 (by rw [hzz, if_pos q]; decide) ?_
    exact K168
  · refine jw_iconst (pc := 171) (v := nI z) hX d_L_law_171 (by rw [hzz, if_neg q]; decide) ?_
    refine jw_goto (pc := 172) (tgt := 176) hX d_L_law_172 (by decide) ?_
    exact K168
set_option maxRecDepth 100000 in
set_option maxHeartbeats 4000000 in
theorem la_plan (h : LX X A b L xs (vC Y1 n s c) (vM Y2 n s c)) (h1 : 1 ≤ n) (hn : n ≤ 6) (h0 : 0 < c) (hc : c ≤ 4) (hs0 : 0 < s) (hs : s ≤ 24) (hsc : s * c < 2 ^ 31) (hce : ce ≤ room_1.cells ∧ sl ≤ room_1.slots) (hi : i + 6 ≤ L) (hS : Sim n s c t u w) (ht : t + 64 < 2 ^ 26) (k : ∀ u' w', Sim n s c (t + 64) u' w' → jw X A Q (P2 (vC Y1 n s c) (vM Y2 n s c) u' w') ce sl [(0, .ref b), (1, .ref (pv_ad (vC Y1 n s c) 0 0)), (2, .ref (pv_ad (vM Y2 n s c) 0 0)), (3, .int (nI i))] 775 []) : jw X A Q (P2 (vC Y1 n s c) (vM Y2 n s c) u w) ce sl [(0, .ref b), (1, .ref (pv_ad (vC Y1 n s c) 0 0)), (2, .ref (pv_ad (vM Y2 n s c) 0 0)), (3, .int (nI i))] 211 [] := by
  have hX := h.1
  have hx := h.2.1
  have hL := h.2.2.2.1
  obtain ⟨fa, sa, p1, p2, p3⟩ := S_plan h1 hn h0 hc hs hS
  have hE : _ ∧ _ := ⟨p2, p3⟩
  refine jw_aload_n (pc := 211) hX d_L_law_211 rfl ?_
  refine jw_c1 (pc := 212) h (c_S_plan _ Y1 n s c h.2.2.2.2.2.2.2.1 u hn h1 (by omega) hsc h0 hc (sim_wf hS)) mz_S_plan kw_237 (by decide +kernel) hce rfl (Nat.le_of_ble_eq_true rfl) d_L_law_212 rfl ?_
  refine jw_aload_n (pc := 215) hX d_L_law_215 rfl ?_
  refine jw_c2 (pc := 216) h (c_M_plan _ Y2 n s c h.2.2.2.2.2.2.2.2 w hn hs h0 hc (sim_wm hS).1 (sim_r99 hS) fa sa p1) mz_M_plan kw_613 (by decide +kernel) hce rfl (Nat.le_of_ble_eq_true rfl) d_L_law_216 rfl ?_
  exact jw_ic_eq (pc := 219) (tgt := 775) hX d_L_law_219 (by decide) (fun _ => k _ _ (Sim_le hE.2 (by omega))) (fun q => absurd hE.1 q)
set_option maxRecDepth 100000 in
set_option maxHeartbeats 4000000 in
theorem la_start (h : LX X A b L xs (vC Y1 n s c) (vM Y2 n s c)) (h1 : 1 ≤ n) (hn : n ≤ 6) (h0 : 0 < c) (hc : c ≤ 4) (hs0 : 0 < s) (hs : s ≤ 24) (hsc : s * c < 2 ^ 31) (hce : ce ≤ room_1.cells ∧ sl ≤ room_1.slots) (hi : i + 6 ≤ L) (hS : Sim n s c t u w) (ht : t + 64 < 2 ^ 26) (k : ∀ u' w', Sim n s c (t + 64) u' w' → jw X A Q (P2 (vC Y1 n s c) (vM Y2 n s c) u' w') ce sl [(0, .ref b), (1, .ref (pv_ad (vC Y1 n s c) 0 0)), (2, .ref (pv_ad (vM Y2 n s c) 0 0)), (3, .int (nI i))] 775 []) : jw X A Q (P2 (vC Y1 n s c) (vM Y2 n s c) u w) ce sl [(0, .ref b), (1, .ref (pv_ad (vC Y1 n s c) 0 0)), (2, .ref (pv_ad (vM Y2 n s c) 0 0)), (3, .int (nI i))] 224 [] := by
  have hX := h.1
  have hx := h.2.1
  have hL := h.2.2.2.1
  have hE := S_start hn hS (xs (i + 1))
  refine jw_aload_n (pc := 224) hX d_L_law_224 rfl ?_
  refine jw_aload_n (pc := 225) hX d_L_law_225 rfl ?_
  refine jw_iload_n (pc := 226) hX d_L_law_226 rfl ?_
  refine jw_iconst (pc := 227) (v := nI 1) hX d_L_law_227 (by decide) ?_
  refine jw_addn (pc := 228) hX d_L_law_228 ?_
  refine jw_sld (pc := 229) hX hx h.2.2.1 (by omega) hL d_L_law_229 ?_
  refine jw_c1 (pc := 230) h (c_S_start _ Y1 n s c h.2.2.2.2.2.2.2.1 u (xs (i + 1)) hn (sim_wf hS).2.1) mz_S_start kw_308 (by decide +kernel) hce rfl (Nat.le_of_ble_eq_true rfl) d_L_law_230 rfl ?_
  refine jw_aload_n (pc := 233) hX d_L_law_233 rfl ?_
  refine jw_aload_n (pc := 234) hX d_L_law_234 rfl ?_
  refine jw_iload_n (pc := 235) hX d_L_law_235 rfl ?_
  refine jw_iconst (pc := 236) (v := nI 1) hX d_L_law_236 (by decide) ?_
  refine jw_addn (pc := 237) hX d_L_law_237 ?_
  refine jw_sld (pc := 238) hX hx h.2.2.1 (by omega) hL d_L_law_238 ?_
  refine jw_c2 (pc := 239) h (c_M_start _ Y2 n s c h.2.2.2.2.2.2.2.2 w (xs (i + 1)) hn (sim_wm hS)) mz_M_start kw_643 (by decide +kernel) hce rfl (Nat.le_of_ble_eq_true rfl) d_L_law_239 rfl ?_
  exact jw_ic_eq (pc := 242) (tgt := 775) hX d_L_law_242 (by decide) (fun _ => k _ _ (Sim_le hE.2 (by omega))) (fun q => absurd (by rw [hE.1]) q)
set_option maxRecDepth 100000 in
set_option maxHeartbeats 4000000 in
theorem la_stop (h : LX X A b L xs (vC Y1 n s c) (vM Y2 n s c)) (h1 : 1 ≤ n) (hn : n ≤ 6) (h0 : 0 < c) (hc : c ≤ 4) (hs0 : 0 < s) (hs : s ≤ 24) (hsc : s * c < 2 ^ 31) (hce : ce ≤ room_1.cells ∧ sl ≤ room_1.slots) (hi : i + 6 ≤ L) (hS : Sim n s c t u w) (ht : t + 64 < 2 ^ 26) (k : ∀ u' w', Sim n s c (t + 64) u' w' → jw X A Q (P2 (vC Y1 n s c) (vM Y2 n s c) u' w') ce sl [(0, .ref b), (1, .ref (pv_ad (vC Y1 n s c) 0 0)), (2, .ref (pv_ad (vM Y2 n s c) 0 0)), (3, .int (nI i))] 775 []) : jw X A Q (P2 (vC Y1 n s c) (vM Y2 n s c) u w) ce sl [(0, .ref b), (1, .ref (pv_ad (vC Y1 n s c) 0 0)), (2, .ref (pv_ad (vM Y2 n s c) 0 0)), (3, .int (nI i))] 247 [] := by
  have hX := h.1
  have hx := h.2.1
  have hL := h.2.2.2.1
  have hE := S_stop h1 hn hS (xs (i + 1))
  refine jw_aload_n (pc := 247) hX d_L_law_247 rfl ?_
  refine jw_aload_n (pc := 248) hX d_L_law_248 rfl ?_
  refine jw_iload_n (pc := 249) hX d_L_law_249 rfl ?_
  refine jw_iconst (pc := 250) (v := nI 1) hX d_L_law_250 (by decide) ?_
  refine jw_addn (pc := 251) hX d_L_law_251 ?_
  refine jw_sld (pc := 252) hX hx h.2.2.1 (by omega) hL d_L_law_252 ?_
  refine jw_c1 (pc := 253) h (c_S_stop _ Y1 n s c h.2.2.2.2.2.2.2.1 u (xs (i + 1)) hn (sim_wf hS).2.1) mz_S_stop kw_312 (by decide +kernel) hce rfl (Nat.le_of_ble_eq_true rfl) d_L_law_253 rfl ?_
  refine jw_aload_n (pc := 256) hX d_L_law_256 rfl ?_
  refine jw_aload_n (pc := 257) hX d_L_law_257 rfl ?_
  refine jw_iload_n (pc := 258) hX d_L_law_258 rfl ?_
  refine jw_iconst (pc := 259) (v := nI 1) hX d_L_law_259 (by decide) ?_
  refine jw_addn (pc := 260) hX d_L_law_260 ?_
  refine jw_sld (pc := 261) hX hx h.2.2.1 (by omega) hL d_L_law_261 ?_
  refine jw_c2 (pc := 262) h (c_M_stop _ Y2 n s c h.2.2.2.2.2.2.2.2 w (xs (i + 1)) hn (sim_wm hS)) mz_M_stop kw_647 (by decide +kernel) hce rfl (Nat.le_of_ble_eq_true rfl) d_L_law_262 rfl ?_
  exact jw_ic_eq (pc := 265) (tgt := 775) hX d_L_law_265 (by decide) (fun _ => k _ _ (Sim_le hE.2 (by omega))) (fun q => absurd (by rw [hE.1]) q)
set_option maxRecDepth 100000 in
set_option maxHeartbeats 4000000 in
theorem la_drift (h : LX X A b L xs (vC Y1 n s c) (vM Y2 n s c)) (h1 : 1 ≤ n) (hn : n ≤ 6) (h0 : 0 < c) (hc : c ≤ 4) (hs0 : 0 < s) (hs : s ≤ 24) (hsc : s * c < 2 ^ 31) (hce : ce ≤ room_1.cells ∧ sl ≤ room_1.slots) (hi : i + 6 ≤ L) (hS : Sim n s c t u w) (ht : t + 64 < 2 ^ 26) (k : ∀ u' w', Sim n s c (t + 64) u' w' → jw X A Q (P2 (vC Y1 n s c) (vM Y2 n s c) u' w') ce sl [(0, .ref b), (1, .ref (pv_ad (vC Y1 n s c) 0 0)), (2, .ref (pv_ad (vM Y2 n s c) 0 0)), (3, .int (nI i))] 775 []) : jw X A Q (P2 (vC Y1 n s c) (vM Y2 n s c) u w) ce sl [(0, .ref b), (1, .ref (pv_ad (vC Y1 n s c) 0 0)), (2, .ref (pv_ad (vM Y2 n s c) 0 0)), (3, .int (nI i))] 270 [] := by
  have hX := h.1
  have hx := h.2.1
  have hL := h.2.2.2.1
  have hE := S_drift h1 hn hS (xs (i + 1)) (xs (i + 2))
  refine jw_aload_n (pc := 270) hX d_L_law_270 rfl ?_
  refine jw_aload_n (pc := 271) hX d_L_law_271 rfl ?_
  refine jw_iload_n (pc := 272) hX d_L_law_272 rfl ?_
  refine jw_iconst (pc := 273) (v := nI 1) hX d_L_law_273 (by decide) ?_
  refine jw_addn (pc := 274) hX d_L_law_274 ?_
  refine jw_sld (pc := 275) hX hx h.2.2.1 (by omega) hL d_L_law_275 ?_
  refine jw_aload_n (pc := 276) hX d_L_law_276 rfl ?_
  refine jw_iload_n (pc := 277) hX d_L_law_277 rfl ?_
  refine jw_iconst (pc := 278) (v := nI 2) hX d_L_law_278 (by decide) ?_
  refine jw_addn (pc := 279) hX d_L_law_279 ?_
  refine jw_sld (pc := 280) hX hx h.2.2.1 (by omega) hL d_L_law_280 ?_
  refine jw_c1 (pc := 281) h (c_S_drift _ Y1 n s c h.2.2.2.2.2.2.2.1 u (xs (i + 1)) (xs (i + 2)) hn) mz_S_drift kw_325 (by decide +kernel) hce rfl (Nat.le_of_ble_eq_true rfl) d_L_law_281 rfl ?_
  refine jw_aload_n (pc := 284) hX d_L_law_284 rfl ?_
  refine jw_aload_n (pc := 285) hX d_L_law_285 rfl ?_
  refine jw_iload_n (pc := 286) hX d_L_law_286 rfl ?_
  refine jw_iconst (pc := 287) (v := nI 1) hX d_L_law_287 (by decide) ?_
  refine jw_addn (pc := 288) hX d_L_law_288 ?_
  refine jw_sld (pc := 289) hX hx h.2.2.1 (by omega) hL d_L_law_289 ?_
  refine jw_aload_n (pc := 290) hX d_L_law_290 rfl ?_
  refine jw_iload_n (pc := 291) hX d_L_law_291 rfl ?_
  refine jw_iconst (pc := 292) (v := nI 2) hX d_L_law_292 (by decide) ?_
  refine jw_addn (pc := 293) hX d_L_law_293 ?_
  refine jw_sld (pc := 294) hX hx h.2.2.1 (by omega) hL d_L_law_294 ?_
  refine jw_c2 (pc := 295) h (c_M_drift _ Y2 n s c h.2.2.2.2.2.2.2.2 w (xs (i + 1)) (xs (i + 2)) hn) mz_M_drift kw_651 (by decide +kernel) hce rfl (Nat.le_of_ble_eq_true rfl) d_L_law_295 rfl ?_
  exact jw_ic_eq (pc := 298) (tgt := 775) hX d_L_law_298 (by decide) (fun _ => k _ _ (Sim_le hE.2 (by omega))) (fun q => absurd (by rw [hE.1]) q)
set_option maxRecDepth 100000 in
set_option maxHeartbeats 4000000 in
theorem la_radio (h : LX X A b L xs (vC Y1 n s c) (vM Y2 n s c)) (h1 : 1 ≤ n) (hn : n ≤ 6) (h0 : 0 < c) (hc : c ≤ 4) (hs0 : 0 < s) (hs : s ≤ 24) (hsc : s * c < 2 ^ 31) (hce : ce ≤ room_1.cells ∧ sl ≤ room_1.slots) (hi : i + 6 ≤ L) (hS : Sim n s c t u w) (ht : t + 64 < 2 ^ 26) (k : ∀ u' w', Sim n s c (t + 64) u' w' → jw X A Q (P2 (vC Y1 n s c) (vM Y2 n s c) u' w') ce sl [(0, .ref b), (1, .ref (pv_ad (vC Y1 n s c) 0 0)), (2, .ref (pv_ad (vM Y2 n s c) 0 0)), (3, .int (nI i))] 775 []) : jw X A Q (P2 (vC Y1 n s c) (vM Y2 n s c) u w) ce sl [(0, .ref b), (1, .ref (pv_ad (vC Y1 n s c) 0 0)), (2, .ref (pv_ad (vM Y2 n s c) 0 0)), (3, .int (nI i))] 303 [] := by
  have hX := h.1
  have hx := h.2.1
  have hL := h.2.2.2.1
  have hE := S_radio hc hS (xs (i + 1)) (((xs (i + 2)).toInt64 <<< ((nI 32).toInt64 &&& 63)) ||| ((xs (i + 3)).toInt64 &&& 4294967295)) (((xs (i + 4)).toInt64 <<< ((nI 32).toInt64 &&& 63)) ||| ((xs (i + 5)).toInt64 &&& 4294967295))
  refine jw_aload_n (pc := 303) hX d_L_law_303 rfl ?_
  refine jw_aload_n (pc := 304) hX d_L_law_304 rfl ?_
  refine jw_iload_n (pc := 305) hX d_L_law_305 rfl ?_
  refine jw_iconst (pc := 306) (v := nI 1) hX d_L_law_306 (by decide) ?_
  refine jw_addn (pc := 307) hX d_L_law_307 ?_
  refine jw_sld (pc := 308) hX hx h.2.2.1 (by omega) hL d_L_law_308 ?_
  refine jw_aload_n (pc := 309) hX d_L_law_309 rfl ?_
  refine jw_iload_n (pc := 310) hX d_L_law_310 rfl ?_
  refine jw_iconst (pc := 311) (v := nI 2) hX d_L_law_311 (by decide) ?_
  refine jw_addn (pc := 312) hX d_L_law_312 ?_
  refine jw_sld (pc := 313) hX hx h.2.2.1 (by omega) hL d_L_law_313 ?_
  refine jw_i2l (pc := 314) hX d_L_law_314 ?_
  refine jw_bipush (pc := 315) (v := nI 32) hX d_L_law_315 (by decide) ?_
  refine jw_lshl (pc := 317) hX d_L_law_317 ?_
  refine jw_aload_n (pc := 318) hX d_L_law_318 rfl ?_
  refine jw_iload_n (pc := 319) hX d_L_law_319 rfl ?_
  refine jw_iconst (pc := 320) (v := nI 3) hX d_L_law_320 (by decide) ?_
  refine jw_addn (pc := 321) hX d_L_law_321 ?_
  refine jw_sld (pc := 322) hX hx h.2.2.1 (by omega) hL d_L_law_322 ?_
  refine jw_i2l (pc := 323) hX d_L_law_323 ?_
  refine jw_ldc2 (pc := 324) hX d_L_law_324 kw_757 ?_
  refine jw_land (pc := 327) hX d_L_law_327 ?_
  refine jw_lor (pc := 328) hX d_L_law_328 ?_
  refine jw_aload_n (pc := 329) hX d_L_law_329 rfl ?_
  refine jw_iload_n (pc := 330) hX d_L_law_330 rfl ?_
  refine jw_iconst (pc := 331) (v := nI 4) hX d_L_law_331 (by decide) ?_
  refine jw_addn (pc := 332) hX d_L_law_332 ?_
  refine jw_sld (pc := 333) hX hx h.2.2.1 (by omega) hL d_L_law_333 ?_
  refine jw_i2l (pc := 334) hX d_L_law_334 ?_
  refine jw_bipush (pc := 335) (v := nI 32) hX d_L_law_335 (by decide) ?_
  refine jw_lshl (pc := 337) hX d_L_law_337 ?_
  refine jw_aload_n (pc := 338) hX d_L_law_338 rfl ?_
  refine jw_iload_n (pc := 339) hX d_L_law_339 rfl ?_
  refine jw_iconst (pc := 340) (v := nI 5) hX d_L_law_340 (by decide) ?_
  refine jw_addn (pc := 341) hX d_L_law_341 ?_
  refine jw_sld (pc := 342) hX hx h.2.2.1 (by omega) hL d_L_law_342 ?_
  refine jw_i2l (pc := 343) hX d_L_law_343 ?_
  refine jw_ldc2 (pc := 344) hX d_L_law_344 kw_757 ?_
  refine jw_land (pc := 347) hX d_L_law_347 ?_
  refine jw_lor (pc := 348) hX d_L_law_348 ?_
  refine jw_c1 (pc := 349) h (c_S_radio _ Y1 n s c h.2.2.2.2.2.2.2.1 u (xs (i + 1)) (((xs (i + 2)).toInt64 <<< ((nI 32).toInt64 &&& 63)) ||| ((xs (i + 3)).toInt64 &&& 4294967295)) (((xs (i + 4)).toInt64 <<< ((nI 32).toInt64 &&& 63)) ||| ((xs (i + 5)).toInt64 &&& 4294967295)) hc) mz_S_radio kw_332 (by decide +kernel) hce rfl (Nat.le_of_ble_eq_true rfl) d_L_law_349 rfl ?_
  refine jw_aload_n (pc := 352) hX d_L_law_352 rfl ?_
  refine jw_aload_n (pc := 353) hX d_L_law_353 rfl ?_
  refine jw_iload_n (pc := 354) hX d_L_law_354 rfl ?_
  refine jw_iconst (pc := 355) (v := nI 1) hX d_L_law_355 (by decide) ?_
  refine jw_addn (pc := 356) hX d_L_law_356 ?_
  refine jw_sld (pc := 357) hX hx h.2.2.1 (by omega) hL d_L_law_357 ?_
  refine jw_aload_n (pc := 358) hX d_L_law_358 rfl ?_
  refine jw_iload_n (pc := 359) hX d_L_law_359 rfl ?_
  refine jw_iconst (pc := 360) (v := nI 2) hX d_L_law_360 (by decide) ?_
  refine jw_addn (pc := 361) hX d_L_law_361 ?_
  refine jw_sld (pc := 362) hX hx h.2.2.1 (by omega) hL d_L_law_362 ?_
  refine jw_i2l (pc := 363) hX d_L_law_363 ?_
  refine jw_bipush (pc := 364) (v := nI 32) hX d_L_law_364 (by decide) ?_
  refine jw_lshl (pc := 366) hX d_L_law_366 ?_
  refine jw_aload_n (pc := 367) hX d_L_law_367 rfl ?_
  refine jw_iload_n (pc := 368) hX d_L_law_368 rfl ?_
  refine jw_iconst (pc := 369) (v := nI 3) hX d_L_law_369 (by decide) ?_
  refine jw_addn (pc := 370) hX d_L_law_370 ?_
  refine jw_sld (pc := 371) hX hx h.2.2.1 (by omega) hL d_L_law_371 ?_
  refine jw_i2l (pc := 372) hX d_L_law_372 ?_
  refine jw_ldc2 (pc := 373) hX d_L_law_373 kw_757 ?_
  refine jw_land (pc := 376) hX d_L_law_376 ?_
  refine jw_lor (pc := 377) hX d_L_law_377 ?_
  refine jw_aload_n (pc := 378) hX d_L_law_378 rfl ?_
  refine jw_iload_n (pc := 379) hX d_L_law_379 rfl ?_
  refine jw_iconst (pc := 380) (v := nI 4) hX d_L_law_380 (by decide) ?_
  refine jw_addn (pc := 381) hX d_L_law_381 ?_
  refine jw_sld (pc := 382) hX hx h.2.2.1 (by omega) hL d_L_law_382 ?_
  refine jw_i2l (pc := 383) hX d_L_law_383 ?_
  refine jw_bipush (pc := 384) (v := nI 32) hX d_L_law_384 (by decide) ?_
  refine jw_lshl (pc := 386) hX d_L_law_386 ?_
  refine jw_aload_n (pc := 387) hX d_L_law_387 rfl ?_
  refine jw_iload_n (pc := 388) hX d_L_law_388 rfl ?_
  refine jw_iconst (pc := 389) (v := nI 5) hX d_L_law_389 (by decide) ?_
  refine jw_addn (pc := 390) hX d_L_law_390 ?_
  refine jw_sld (pc := 391) hX hx h.2.2.1 (by omega) hL d_L_law_391 ?_
  refine jw_i2l (pc := 392) hX d_L_law_392 ?_
  refine jw_ldc2 (pc := 393) hX d_L_law_393 kw_757 ?_
  refine jw_land (pc := 396) hX d_L_law_396 ?_
  refine jw_lor (pc := 397) hX d_L_law_397 ?_
  refine jw_c2 (pc := 398) h (c_M_radio _ Y2 n s c h.2.2.2.2.2.2.2.2 w (xs (i + 1)) (((xs (i + 2)).toInt64 <<< ((nI 32).toInt64 &&& 63)) ||| ((xs (i + 3)).toInt64 &&& 4294967295)) (((xs (i + 4)).toInt64 <<< ((nI 32).toInt64 &&& 63)) ||| ((xs (i + 5)).toInt64 &&& 4294967295)) hc) mz_M_radio kw_655 (by decide +kernel) hce rfl (Nat.le_of_ble_eq_true rfl) d_L_law_398 rfl ?_
  exact jw_ic_eq (pc := 401) (tgt := 775) hX d_L_law_401 (by decide) (fun _ => k _ _ (Sim_le hE.2 (by omega))) (fun q => absurd (by rw [hE.1]) q)
set_option maxRecDepth 100000 in
set_option maxHeartbeats 4000000 in
theorem la_sample (h : LX X A b L xs (vC Y1 n s c) (vM Y2 n s c)) (h1 : 1 ≤ n) (hn : n ≤ 6) (h0 : 0 < c) (hc : c ≤ 4) (hs0 : 0 < s) (hs : s ≤ 24) (hsc : s * c < 2 ^ 31) (hce : ce ≤ room_1.cells ∧ sl ≤ room_1.slots) (hi : i + 6 ≤ L) (hS : Sim n s c t u w) (ht : t + 64 < 2 ^ 26) (k : ∀ u' w', Sim n s c (t + 64) u' w' → jw X A Q (P2 (vC Y1 n s c) (vM Y2 n s c) u' w') ce sl [(0, .ref b), (1, .ref (pv_ad (vC Y1 n s c) 0 0)), (2, .ref (pv_ad (vM Y2 n s c) 0 0)), (3, .int (nI i))] 775 []) : jw X A Q (P2 (vC Y1 n s c) (vM Y2 n s c) u w) ce sl [(0, .ref b), (1, .ref (pv_ad (vC Y1 n s c) 0 0)), (2, .ref (pv_ad (vM Y2 n s c) 0 0)), (3, .int (nI i))] 406 [] := by
  have hX := h.1
  have hx := h.2.1
  have hL := h.2.2.2.1
  have hE := S_sample h1 hn hS (xs (i + 1)) (xs (i + 2))
  refine jw_aload_n (pc := 406) hX d_L_law_406 rfl ?_
  refine jw_aload_n (pc := 407) hX d_L_law_407 rfl ?_
  refine jw_iload_n (pc := 408) hX d_L_law_408 rfl ?_
  refine jw_iconst (pc := 409) (v := nI 1) hX d_L_law_409 (by decide) ?_
  refine jw_addn (pc := 410) hX d_L_law_410 ?_
  refine jw_sld (pc := 411) hX hx h.2.2.1 (by omega) hL d_L_law_411 ?_
  refine jw_aload_n (pc := 412) hX d_L_law_412 rfl ?_
  refine jw_iload_n (pc := 413) hX d_L_law_413 rfl ?_
  refine jw_iconst (pc := 414) (v := nI 2) hX d_L_law_414 (by decide) ?_
  refine jw_addn (pc := 415) hX d_L_law_415 ?_
  refine jw_sld (pc := 416) hX hx h.2.2.1 (by omega) hL d_L_law_416 ?_
  refine jw_c1 (pc := 417) h (c_S_sample _ Y1 n s c h.2.2.2.2.2.2.2.1 u (xs (i + 1)) (xs (i + 2)) hn (sim_wf hS).2.1 (sim_wf hS).2.2.2.2.2.1) mz_S_sample kw_340 (by decide +kernel) hce rfl (Nat.le_of_ble_eq_true rfl) d_L_law_417 rfl ?_
  refine jw_aload_n (pc := 420) hX d_L_law_420 rfl ?_
  refine jw_aload_n (pc := 421) hX d_L_law_421 rfl ?_
  refine jw_iload_n (pc := 422) hX d_L_law_422 rfl ?_
  refine jw_iconst (pc := 423) (v := nI 1) hX d_L_law_423 (by decide) ?_
  refine jw_addn (pc := 424) hX d_L_law_424 ?_
  refine jw_sld (pc := 425) hX hx h.2.2.1 (by omega) hL d_L_law_425 ?_
  refine jw_aload_n (pc := 426) hX d_L_law_426 rfl ?_
  refine jw_iload_n (pc := 427) hX d_L_law_427 rfl ?_
  refine jw_iconst (pc := 428) (v := nI 2) hX d_L_law_428 (by decide) ?_
  refine jw_addn (pc := 429) hX d_L_law_429 ?_
  refine jw_sld (pc := 430) hX hx h.2.2.1 (by omega) hL d_L_law_430 ?_
  refine jw_c2 (pc := 431) h (c_M_sample _ Y2 n s c h.2.2.2.2.2.2.2.2 w (xs (i + 1)) (xs (i + 2)) hn (sim_wm hS)) mz_M_sample kw_659 (by decide +kernel) hce rfl (Nat.le_of_ble_eq_true rfl) d_L_law_431 rfl ?_
  exact jw_ic_eq (pc := 434) (tgt := 775) hX d_L_law_434 (by decide) (fun _ => k _ _ (Sim_le hE.2 (by omega))) (fun q => absurd hE.1 q)
set_option maxRecDepth 100000 in
set_option maxHeartbeats 4000000 in
theorem la_control (h : LX X A b L xs (vC Y1 n s c) (vM Y2 n s c)) (h1 : 1 ≤ n) (hn : n ≤ 6) (h0 : 0 < c) (hc : c ≤ 4) (hs0 : 0 < s) (hs : s ≤ 24) (hsc : s * c < 2 ^ 31) (hce : ce ≤ room_1.cells ∧ sl ≤ room_1.slots) (hi : i + 6 ≤ L) (hS : Sim n s c t u w) (ht : t + 64 < 2 ^ 26) (k : ∀ u' w', Sim n s c (t + 64) u' w' → jw X A Q (P2 (vC Y1 n s c) (vM Y2 n s c) u' w') ce sl [(0, .ref b), (1, .ref (pv_ad (vC Y1 n s c) 0 0)), (2, .ref (pv_ad (vM Y2 n s c) 0 0)), (3, .int (nI i))] 775 []) : jw X A Q (P2 (vC Y1 n s c) (vM Y2 n s c) u w) ce sl [(0, .ref b), (1, .ref (pv_ad (vC Y1 n s c) 0 0)), (2, .ref (pv_ad (vM Y2 n s c) 0 0)), (3, .int (nI i))] 439 [] := by
  have hX := h.1
  have hx := h.2.1
  have hL := h.2.2.2.1
  have hE := S_control h1 hn hS (xs (i + 1)) (xs (i + 2)) (xs (i + 3)) (xs (i + 4))
  refine jw_aload_n (pc := 439) hX d_L_law_439 rfl ?_
  refine jw_aload_n (pc := 440) hX d_L_law_440 rfl ?_
  refine jw_iload_n (pc := 441) hX d_L_law_441 rfl ?_
  refine jw_iconst (pc := 442) (v := nI 1) hX d_L_law_442 (by decide) ?_
  refine jw_addn (pc := 443) hX d_L_law_443 ?_
  refine jw_sld (pc := 444) hX hx h.2.2.1 (by omega) hL d_L_law_444 ?_
  refine jw_aload_n (pc := 445) hX d_L_law_445 rfl ?_
  refine jw_iload_n (pc := 446) hX d_L_law_446 rfl ?_
  refine jw_iconst (pc := 447) (v := nI 2) hX d_L_law_447 (by decide) ?_
  refine jw_addn (pc := 448) hX d_L_law_448 ?_
  refine jw_sld (pc := 449) hX hx h.2.2.1 (by omega) hL d_L_law_449 ?_
  refine jw_aload_n (pc := 450) hX d_L_law_450 rfl ?_
  refine jw_iload_n (pc := 451) hX d_L_law_451 rfl ?_
  refine jw_iconst (pc := 452) (v := nI 3) hX d_L_law_452 (by decide) ?_
  refine jw_addn (pc := 453) hX d_L_law_453 ?_
  refine jw_sld (pc := 454) hX hx h.2.2.1 (by omega) hL d_L_law_454 ?_
  refine jw_aload_n (pc := 455) hX d_L_law_455 rfl ?_
  refine jw_iload_n (pc := 456) hX d_L_law_456 rfl ?_
  refine jw_iconst (pc := 457) (v := nI 4) hX d_L_law_457 (by decide) ?_
  refine jw_addn (pc := 458) hX d_L_law_458 ?_
  refine jw_sld (pc := 459) hX hx h.2.2.1 (by omega) hL d_L_law_459 ?_
  refine jw_c1 (pc := 460) h (c_S_control _ Y1 n s c h.2.2.2.2.2.2.2.1 u (xs (i + 1)) (xs (i + 2)) (xs (i + 3)) (xs (i + 4)) hn) mz_S_control kw_348 (by decide +kernel) hce rfl (Nat.le_of_ble_eq_true rfl) d_L_law_460 rfl ?_
  refine jw_aload_n (pc := 463) hX d_L_law_463 rfl ?_
  refine jw_aload_n (pc := 464) hX d_L_law_464 rfl ?_
  refine jw_iload_n (pc := 465) hX d_L_law_465 rfl ?_
  refine jw_iconst (pc := 466) (v := nI 1) hX d_L_law_466 (by decide) ?_
  refine jw_addn (pc := 467) hX d_L_law_467 ?_
  refine jw_sld (pc := 468) hX hx h.2.2.1 (by omega) hL d_L_law_468 ?_
  refine jw_aload_n (pc := 469) hX d_L_law_469 rfl ?_
  refine jw_iload_n (pc := 470) hX d_L_law_470 rfl ?_
  refine jw_iconst (pc := 471) (v := nI 2) hX d_L_law_471 (by decide) ?_
  refine jw_addn (pc := 472) hX d_L_law_472 ?_
  refine jw_sld (pc := 473) hX hx h.2.2.1 (by omega) hL d_L_law_473 ?_
  refine jw_aload_n (pc := 474) hX d_L_law_474 rfl ?_
  refine jw_iload_n (pc := 475) hX d_L_law_475 rfl ?_
  refine jw_iconst (pc := 476) (v := nI 3) hX d_L_law_476 (by decide) ?_
  refine jw_addn (pc := 477) hX d_L_law_477 ?_
  refine jw_sld (pc := 478) hX hx h.2.2.1 (by omega) hL d_L_law_478 ?_
  refine jw_aload_n (pc := 479) hX d_L_law_479 rfl ?_
  refine jw_iload_n (pc := 480) hX d_L_law_480 rfl ?_
  refine jw_iconst (pc := 481) (v := nI 4) hX d_L_law_481 (by decide) ?_
  refine jw_addn (pc := 482) hX d_L_law_482 ?_
  refine jw_sld (pc := 483) hX hx h.2.2.1 (by omega) hL d_L_law_483 ?_
  refine jw_c2 (pc := 484) h (c_M_control _ Y2 n s c h.2.2.2.2.2.2.2.2 w (xs (i + 1)) (xs (i + 2)) (xs (i + 3)) (xs (i + 4)) hn) mz_M_control kw_667 (by decide +kernel) hce rfl (Nat.le_of_ble_eq_true rfl) d_L_law_484 rfl ?_
  exact jw_ic_eq (pc := 487) (tgt := 775) hX d_L_law_487 (by decide) (fun _ => k _ _ (Sim_le hE.2 (by omega))) (fun q => absurd (by rw [hE.1]) q)
set_option maxRecDepth 100000 in
set_option maxHeartbeats 4000000 in
theorem la_run (h : LX X A b L xs (vC Y1 n s c) (vM Y2 n s c)) (h1 : 1 ≤ n) (hn : n ≤ 6) (h0 : 0 < c) (hc : c ≤ 4) (hs0 : 0 < s) (hs : s ≤ 24) (hsc : s * c < 2 ^ 31) (hce : ce ≤ room_1.cells ∧ sl ≤ room_1.slots) (hi : i + 6 ≤ L) (hS : Sim n s c t u w) (ht : t + 64 < 2 ^ 26) (k : ∀ u' w', Sim n s c (t + 64) u' w' → jw X A Q (P2 (vC Y1 n s c) (vM Y2 n s c) u' w') ce sl [(0, .ref b), (1, .ref (pv_ad (vC Y1 n s c) 0 0)), (2, .ref (pv_ad (vM Y2 n s c) 0 0)), (3, .int (nI i))] 775 []) : jw X A Q (P2 (vC Y1 n s c) (vM Y2 n s c) u w) ce sl [(0, .ref b), (1, .ref (pv_ad (vC Y1 n s c) 0 0)), (2, .ref (pv_ad (vM Y2 n s c) 0 0)), (3, .int (nI i))] 492 [] := by
  have hX := h.1
  have hx := h.2.1
  have hL := h.2.2.2.1
  obtain ⟨fa, q1, q2, q3, q4⟩ := S_run h1 hn h0 hc hs0 hs hS ht (xs (i + 1))
  have hE : _ ∧ _ := ⟨q3, q4⟩
  refine jw_aload_n (pc := 492) hX d_L_law_492 rfl ?_
  refine jw_aload_n (pc := 493) hX d_L_law_493 rfl ?_
  refine jw_iload_n (pc := 494) hX d_L_law_494 rfl ?_
  refine jw_iconst (pc := 495) (v := nI 1) hX d_L_law_495 (by decide) ?_
  refine jw_addn (pc := 496) hX d_L_law_496 ?_
  refine jw_sld (pc := 497) hX hx h.2.2.1 (by omega) hL d_L_law_497 ?_
  refine jw_c1 (pc := 498) h (c_S_run _ Y1 n s c h.2.2.2.2.2.2.2.1 u hn hc hs0 (by omega) fa (sim_wf hS) q1 (xs (i + 1)) (by have := (sim_tim hS).1; omega)) mz_S_run kw_352 (by decide +kernel) hce rfl (Nat.le_of_ble_eq_true rfl) d_L_law_498 rfl ?_
  refine jw_aload_n (pc := 501) hX d_L_law_501 rfl ?_
  refine jw_aload_n (pc := 502) hX d_L_law_502 rfl ?_
  refine jw_iload_n (pc := 503) hX d_L_law_503 rfl ?_
  refine jw_iconst (pc := 504) (v := nI 1) hX d_L_law_504 (by decide) ?_
  refine jw_addn (pc := 505) hX d_L_law_505 ?_
  refine jw_sld (pc := 506) hX hx h.2.2.1 (by omega) hL d_L_law_506 ?_
  refine jw_c2 (pc := 507) h (c_M_run _ Y2 n s c h.2.2.2.2.2.2.2.2 w h1 hn (sim_wm hS) h0 hc hs0 hs (paf n fa) q2 (xs (i + 1)) (by have := (sim_tim hS).2; omega)) mz_M_run kw_671 (by decide +kernel) hce rfl (Nat.le_of_ble_eq_true rfl) d_L_law_507 rfl ?_
  exact jw_ic_eq (pc := 510) (tgt := 775) hX d_L_law_510 (by decide) (fun _ => k _ _ hE.2) (fun q => absurd hE.1 q)
set_option maxRecDepth 100000 in
set_option maxHeartbeats 4000000 in
theorem la_rank (h : LX X A b L xs (vC Y1 n s c) (vM Y2 n s c)) (h1 : 1 ≤ n) (hn : n ≤ 6) (h0 : 0 < c) (hc : c ≤ 4) (hs0 : 0 < s) (hs : s ≤ 24) (hsc : s * c < 2 ^ 31) (hce : ce ≤ room_1.cells ∧ sl ≤ room_1.slots) (hi : i + 6 ≤ L) (hS : Sim n s c t u w) (ht : t + 64 < 2 ^ 26) (k : ∀ u' w', Sim n s c (t + 64) u' w' → jw X A Q (P2 (vC Y1 n s c) (vM Y2 n s c) u' w') ce sl [(0, .ref b), (1, .ref (pv_ad (vC Y1 n s c) 0 0)), (2, .ref (pv_ad (vM Y2 n s c) 0 0)), (3, .int (nI i))] 775 []) : jw X A Q (P2 (vC Y1 n s c) (vM Y2 n s c) u w) ce sl [(0, .ref b), (1, .ref (pv_ad (vC Y1 n s c) 0 0)), (2, .ref (pv_ad (vM Y2 n s c) 0 0)), (3, .int (nI i))] 515 [] := by
  have hX := h.1
  have hx := h.2.1
  have hL := h.2.2.2.1
  have hE := S_rank hn hS (xs (i + 1))
  refine jw_aload_n (pc := 515) hX d_L_law_515 rfl ?_
  refine jw_aload_n (pc := 516) hX d_L_law_516 rfl ?_
  refine jw_iload_n (pc := 517) hX d_L_law_517 rfl ?_
  refine jw_iconst (pc := 518) (v := nI 1) hX d_L_law_518 (by decide) ?_
  refine jw_addn (pc := 519) hX d_L_law_519 ?_
  refine jw_sld (pc := 520) hX hx h.2.2.1 (by omega) hL d_L_law_520 ?_
  refine jw_c1 (pc := 521) h (c_S_rank _ Y1 n s c h.2.2.2.2.2.2.2.1 u (xs (i + 1)) hn (sim_wf hS).2.2.2.2.2.2.2.2.2.2.2.1 (sim_wf hS).2.2.2.2.2.2.2.2.1) mz_S_rank kw_451 (by decide +kernel) hce rfl (Nat.le_of_ble_eq_true rfl) d_L_law_521 rfl ?_
  refine jw_aload_n (pc := 524) hX d_L_law_524 rfl ?_
  refine jw_aload_n (pc := 525) hX d_L_law_525 rfl ?_
  refine jw_iload_n (pc := 526) hX d_L_law_526 rfl ?_
  refine jw_iconst (pc := 527) (v := nI 1) hX d_L_law_527 (by decide) ?_
  refine jw_addn (pc := 528) hX d_L_law_528 ?_
  refine jw_sld (pc := 529) hX hx h.2.2.1 (by omega) hL d_L_law_529 ?_
  refine jw_c2 (pc := 530) h (c_M_rank _ Y2 n s c h.2.2.2.2.2.2.2.2 w (xs (i + 1)) hn (sim_wm hS)) mz_M_rank kw_717 (by decide +kernel) hce rfl (Nat.le_of_ble_eq_true rfl) d_L_law_530 rfl ?_
  exact jw_ic_eq (pc := 533) (tgt := 775) hX d_L_law_533 (by decide) (fun _ => k _ _ (Sim_le hS (by omega))) (fun q => absurd hE q)
set_option maxRecDepth 100000 in
set_option maxHeartbeats 4000000 in
theorem la_parent (h : LX X A b L xs (vC Y1 n s c) (vM Y2 n s c)) (h1 : 1 ≤ n) (hn : n ≤ 6) (h0 : 0 < c) (hc : c ≤ 4) (hs0 : 0 < s) (hs : s ≤ 24) (hsc : s * c < 2 ^ 31) (hce : ce ≤ room_1.cells ∧ sl ≤ room_1.slots) (hi : i + 6 ≤ L) (hS : Sim n s c t u w) (ht : t + 64 < 2 ^ 26) (k : ∀ u' w', Sim n s c (t + 64) u' w' → jw X A Q (P2 (vC Y1 n s c) (vM Y2 n s c) u' w') ce sl [(0, .ref b), (1, .ref (pv_ad (vC Y1 n s c) 0 0)), (2, .ref (pv_ad (vM Y2 n s c) 0 0)), (3, .int (nI i))] 775 []) : jw X A Q (P2 (vC Y1 n s c) (vM Y2 n s c) u w) ce sl [(0, .ref b), (1, .ref (pv_ad (vC Y1 n s c) 0 0)), (2, .ref (pv_ad (vM Y2 n s c) 0 0)), (3, .int (nI i))] 538 [] := by
  have hX := h.1
  have hx := h.2.1
  have hL := h.2.2.2.1
  have hE := S_parent hn hS (xs (i + 1)) (xs (i + 2))
  refine jw_aload_n (pc := 538) hX d_L_law_538 rfl ?_
  refine jw_aload_n (pc := 539) hX d_L_law_539 rfl ?_
  refine jw_iload_n (pc := 540) hX d_L_law_540 rfl ?_
  refine jw_iconst (pc := 541) (v := nI 1) hX d_L_law_541 (by decide) ?_
  refine jw_addn (pc := 542) hX d_L_law_542 ?_
  refine jw_sld (pc := 543) hX hx h.2.2.1 (by omega) hL d_L_law_543 ?_
  refine jw_aload_n (pc := 544) hX d_L_law_544 rfl ?_
  refine jw_iload_n (pc := 545) hX d_L_law_545 rfl ?_
  refine jw_iconst (pc := 546) (v := nI 2) hX d_L_law_546 (by decide) ?_
  refine jw_addn (pc := 547) hX d_L_law_547 ?_
  refine jw_sld (pc := 548) hX hx h.2.2.1 (by omega) hL d_L_law_548 ?_
  refine jw_c1 (pc := 549) h (c_S_parent _ Y1 n s c h.2.2.2.2.2.2.2.1 u (xs (i + 1)) (xs (i + 2)) hn (sim_wf hS).2.2.2.2.2.2.2.2.2.2.2.1 (sim_wf hS).2.2.2.2.2.2.2.2.1) mz_S_parent kw_455 (by decide +kernel) hce rfl (Nat.le_of_ble_eq_true rfl) d_L_law_549 rfl ?_
  refine jw_aload_n (pc := 552) hX d_L_law_552 rfl ?_
  refine jw_aload_n (pc := 553) hX d_L_law_553 rfl ?_
  refine jw_iload_n (pc := 554) hX d_L_law_554 rfl ?_
  refine jw_iconst (pc := 555) (v := nI 1) hX d_L_law_555 (by decide) ?_
  refine jw_addn (pc := 556) hX d_L_law_556 ?_
  refine jw_sld (pc := 557) hX hx h.2.2.1 (by omega) hL d_L_law_557 ?_
  refine jw_aload_n (pc := 558) hX d_L_law_558 rfl ?_
  refine jw_iload_n (pc := 559) hX d_L_law_559 rfl ?_
  refine jw_iconst (pc := 560) (v := nI 2) hX d_L_law_560 (by decide) ?_
  refine jw_addn (pc := 561) hX d_L_law_561 ?_
  refine jw_sld (pc := 562) hX hx h.2.2.1 (by omega) hL d_L_law_562 ?_
  refine jw_c2 (pc := 563) h (c_M_parent _ Y2 n s c h.2.2.2.2.2.2.2.2 w (xs (i + 1)) (xs (i + 2)) hn (sim_wm hS)) mz_M_parent kw_721 (by decide +kernel) hce rfl (Nat.le_of_ble_eq_true rfl) d_L_law_563 rfl ?_
  exact jw_ic_eq (pc := 566) (tgt := 775) hX d_L_law_566 (by decide) (fun _ => k _ _ (Sim_le hS (by omega))) (fun q => absurd hE q)
set_option maxRecDepth 100000 in
set_option maxHeartbeats 4000000 in
theorem la_cell (h : LX X A b L xs (vC Y1 n s c) (vM Y2 n s c)) (h1 : 1 ≤ n) (hn : n ≤ 6) (h0 : 0 < c) (hc : c ≤ 4) (hs0 : 0 < s) (hs : s ≤ 24) (hsc : s * c < 2 ^ 31) (hce : ce ≤ room_1.cells ∧ sl ≤ room_1.slots) (hi : i + 6 ≤ L) (hS : Sim n s c t u w) (ht : t + 64 < 2 ^ 26) (k : ∀ u' w', Sim n s c (t + 64) u' w' → jw X A Q (P2 (vC Y1 n s c) (vM Y2 n s c) u' w') ce sl [(0, .ref b), (1, .ref (pv_ad (vC Y1 n s c) 0 0)), (2, .ref (pv_ad (vM Y2 n s c) 0 0)), (3, .int (nI i))] 775 []) : jw X A Q (P2 (vC Y1 n s c) (vM Y2 n s c) u w) ce sl [(0, .ref b), (1, .ref (pv_ad (vC Y1 n s c) 0 0)), (2, .ref (pv_ad (vM Y2 n s c) 0 0)), (3, .int (nI i))] 571 [] := by
  have hX := h.1
  have hx := h.2.1
  have hL := h.2.2.2.1
  have hE := S_cell hs hc hS (xs (i + 1)) (xs (i + 2))
  refine jw_aload_n (pc := 571) hX d_L_law_571 rfl ?_
  refine jw_aload_n (pc := 572) hX d_L_law_572 rfl ?_
  refine jw_iload_n (pc := 573) hX d_L_law_573 rfl ?_
  refine jw_iconst (pc := 574) (v := nI 1) hX d_L_law_574 (by decide) ?_
  refine jw_addn (pc := 575) hX d_L_law_575 ?_
  refine jw_sld (pc := 576) hX hx h.2.2.1 (by omega) hL d_L_law_576 ?_
  refine jw_aload_n (pc := 577) hX d_L_law_577 rfl ?_
  refine jw_iload_n (pc := 578) hX d_L_law_578 rfl ?_
  refine jw_iconst (pc := 579) (v := nI 2) hX d_L_law_579 (by decide) ?_
  refine jw_addn (pc := 580) hX d_L_law_580 ?_
  refine jw_sld (pc := 581) hX hx h.2.2.1 (by omega) hL d_L_law_581 ?_
  refine jw_c1 (pc := 582) h (c_S_cell _ Y1 n s c h.2.2.2.2.2.2.2.1 u (xs (i + 1)) (xs (i + 2)) hs0 (by omega) hc (sim_wf hS).2.2.2.2.2.2.2.2.2.2.2.1 (sim_wf hS).2.2.2.2.2.2.2.2.1) mz_S_cell kw_459 (by decide +kernel) hce rfl (Nat.le_of_ble_eq_true rfl) d_L_law_582 rfl ?_
  refine jw_aload_n (pc := 585) hX d_L_law_585 rfl ?_
  refine jw_aload_n (pc := 586) hX d_L_law_586 rfl ?_
  refine jw_iload_n (pc := 587) hX d_L_law_587 rfl ?_
  refine jw_iconst (pc := 588) (v := nI 1) hX d_L_law_588 (by decide) ?_
  refine jw_addn (pc := 589) hX d_L_law_589 ?_
  refine jw_sld (pc := 590) hX hx h.2.2.1 (by omega) hL d_L_law_590 ?_
  refine jw_aload_n (pc := 591) hX d_L_law_591 rfl ?_
  refine jw_iload_n (pc := 592) hX d_L_law_592 rfl ?_
  refine jw_iconst (pc := 593) (v := nI 2) hX d_L_law_593 (by decide) ?_
  refine jw_addn (pc := 594) hX d_L_law_594 ?_
  refine jw_sld (pc := 595) hX hx h.2.2.1 (by omega) hL d_L_law_595 ?_
  refine jw_c2 (pc := 596) h (c_M_cell _ Y2 n s c h.2.2.2.2.2.2.2.2 w (xs (i + 1)) (xs (i + 2)) hs hc (sim_wm hS)) mz_M_cell kw_725 (by decide +kernel) hce rfl (Nat.le_of_ble_eq_true rfl) d_L_law_596 rfl ?_
  exact jw_ic_eq (pc := 599) (tgt := 775) hX d_L_law_599 (by decide) (fun _ => k _ _ (Sim_le hS (by omega))) (fun q => absurd hE q)
set_option maxRecDepth 100000 in
set_option maxHeartbeats 4000000 in
theorem la_current (h : LX X A b L xs (vC Y1 n s c) (vM Y2 n s c)) (h1 : 1 ≤ n) (hn : n ≤ 6) (h0 : 0 < c) (hc : c ≤ 4) (hs0 : 0 < s) (hs : s ≤ 24) (hsc : s * c < 2 ^ 31) (hce : ce ≤ room_1.cells ∧ sl ≤ room_1.slots) (hi : i + 6 ≤ L) (hS : Sim n s c t u w) (ht : t + 64 < 2 ^ 26) (k : ∀ u' w', Sim n s c (t + 64) u' w' → jw X A Q (P2 (vC Y1 n s c) (vM Y2 n s c) u' w') ce sl [(0, .ref b), (1, .ref (pv_ad (vC Y1 n s c) 0 0)), (2, .ref (pv_ad (vM Y2 n s c) 0 0)), (3, .int (nI i))] 775 []) : jw X A Q (P2 (vC Y1 n s c) (vM Y2 n s c) u w) ce sl [(0, .ref b), (1, .ref (pv_ad (vC Y1 n s c) 0 0)), (2, .ref (pv_ad (vM Y2 n s c) 0 0)), (3, .int (nI i))] 604 [] := by
  have hX := h.1
  have hx := h.2.1
  have hL := h.2.2.2.1
  have hE := S_current hn hS (xs (i + 1))
  refine jw_aload_n (pc := 604) hX d_L_law_604 rfl ?_
  refine jw_aload_n (pc := 605) hX d_L_law_605 rfl ?_
  refine jw_iload_n (pc := 606) hX d_L_law_606 rfl ?_
  refine jw_iconst (pc := 607) (v := nI 1) hX d_L_law_607 (by decide) ?_
  refine jw_addn (pc := 608) hX d_L_law_608 ?_
  refine jw_sld (pc := 609) hX hx h.2.2.1 (by omega) hL d_L_law_609 ?_
  refine jw_c1 (pc := 610) h (c_S_current _ Y1 n s c h.2.2.2.2.2.2.2.1 u (xs (i + 1)) hn (sim_wf hS).2.2.1) mz_S_current kw_463 (by decide +kernel) hce rfl (Nat.le_of_ble_eq_true rfl) d_L_law_610 rfl ?_
  refine jw_aload_n (pc := 613) hX d_L_law_613 rfl ?_
  refine jw_aload_n (pc := 614) hX d_L_law_614 rfl ?_
  refine jw_iload_n (pc := 615) hX d_L_law_615 rfl ?_
  refine jw_iconst (pc := 616) (v := nI 1) hX d_L_law_616 (by decide) ?_
  refine jw_addn (pc := 617) hX d_L_law_617 ?_
  refine jw_sld (pc := 618) hX hx h.2.2.1 (by omega) hL d_L_law_618 ?_
  refine jw_c2 (pc := 619) h (c_M_current _ Y2 n s c h.2.2.2.2.2.2.2.2 w (xs (i + 1)) hn (sim_wm hS)) mz_M_current kw_729 (by decide +kernel) hce rfl (Nat.le_of_ble_eq_true rfl) d_L_law_619 rfl ?_
  exact jw_ic_eq (pc := 622) (tgt := 775) hX d_L_law_622 (by decide) (fun _ => k _ _ (Sim_le hS (by omega))) (fun q => absurd (by rw [hE]) q)
set_option maxRecDepth 100000 in
set_option maxHeartbeats 4000000 in
theorem la_offset (h : LX X A b L xs (vC Y1 n s c) (vM Y2 n s c)) (h1 : 1 ≤ n) (hn : n ≤ 6) (h0 : 0 < c) (hc : c ≤ 4) (hs0 : 0 < s) (hs : s ≤ 24) (hsc : s * c < 2 ^ 31) (hce : ce ≤ room_1.cells ∧ sl ≤ room_1.slots) (hi : i + 6 ≤ L) (hS : Sim n s c t u w) (ht : t + 64 < 2 ^ 26) (k : ∀ u' w', Sim n s c (t + 64) u' w' → jw X A Q (P2 (vC Y1 n s c) (vM Y2 n s c) u' w') ce sl [(0, .ref b), (1, .ref (pv_ad (vC Y1 n s c) 0 0)), (2, .ref (pv_ad (vM Y2 n s c) 0 0)), (3, .int (nI i))] 775 []) : jw X A Q (P2 (vC Y1 n s c) (vM Y2 n s c) u w) ce sl [(0, .ref b), (1, .ref (pv_ad (vC Y1 n s c) 0 0)), (2, .ref (pv_ad (vM Y2 n s c) 0 0)), (3, .int (nI i))] 627 [] := by
  have hX := h.1
  have hx := h.2.1
  have hL := h.2.2.2.1
  have hE := S_offset hn hS (xs (i + 1))
  refine jw_aload_n (pc := 627) hX d_L_law_627 rfl ?_
  refine jw_aload_n (pc := 628) hX d_L_law_628 rfl ?_
  refine jw_iload_n (pc := 629) hX d_L_law_629 rfl ?_
  refine jw_iconst (pc := 630) (v := nI 1) hX d_L_law_630 (by decide) ?_
  refine jw_addn (pc := 631) hX d_L_law_631 ?_
  refine jw_sld (pc := 632) hX hx h.2.2.1 (by omega) hL d_L_law_632 ?_
  refine jw_c1 (pc := 633) h (c_S_offset _ Y1 n s c h.2.2.2.2.2.2.2.1 u (xs (i + 1)) hn) mz_S_offset kw_467 (by decide +kernel) hce rfl (Nat.le_of_ble_eq_true rfl) d_L_law_633 rfl ?_
  refine jw_aload_n (pc := 636) hX d_L_law_636 rfl ?_
  refine jw_aload_n (pc := 637) hX d_L_law_637 rfl ?_
  refine jw_iload_n (pc := 638) hX d_L_law_638 rfl ?_
  refine jw_iconst (pc := 639) (v := nI 1) hX d_L_law_639 (by decide) ?_
  refine jw_addn (pc := 640) hX d_L_law_640 ?_
  refine jw_sld (pc := 641) hX hx h.2.2.1 (by omega) hL d_L_law_641 ?_
  refine jw_c2 (pc := 642) h (c_M_offset _ Y2 n s c h.2.2.2.2.2.2.2.2 w (xs (i + 1)) hn) mz_M_offset kw_733 (by decide +kernel) hce rfl (Nat.le_of_ble_eq_true rfl) d_L_law_642 rfl ?_
  exact jw_ic_eq (pc := 645) (tgt := 775) hX d_L_law_645 (by decide) (fun _ => k _ _ (Sim_le hS (by omega))) (fun q => absurd hE q)
set_option maxRecDepth 100000 in
set_option maxHeartbeats 4000000 in
theorem la_count (h : LX X A b L xs (vC Y1 n s c) (vM Y2 n s c)) (h1 : 1 ≤ n) (hn : n ≤ 6) (h0 : 0 < c) (hc : c ≤ 4) (hs0 : 0 < s) (hs : s ≤ 24) (hsc : s * c < 2 ^ 31) (hce : ce ≤ room_1.cells ∧ sl ≤ room_1.slots) (hi : i + 6 ≤ L) (hS : Sim n s c t u w) (ht : t + 64 < 2 ^ 26) (k : ∀ u' w', Sim n s c (t + 64) u' w' → jw X A Q (P2 (vC Y1 n s c) (vM Y2 n s c) u' w') ce sl [(0, .ref b), (1, .ref (pv_ad (vC Y1 n s c) 0 0)), (2, .ref (pv_ad (vM Y2 n s c) 0 0)), (3, .int (nI i))] 775 []) : jw X A Q (P2 (vC Y1 n s c) (vM Y2 n s c) u w) ce sl [(0, .ref b), (1, .ref (pv_ad (vC Y1 n s c) 0 0)), (2, .ref (pv_ad (vM Y2 n s c) 0 0)), (3, .int (nI i))] 650 [] := by
  have hX := h.1
  have hx := h.2.1
  have hL := h.2.2.2.1
  have hE := S_count hn hS (xs (i + 1)) (xs (i + 2))
  refine jw_aload_n (pc := 650) hX d_L_law_650 rfl ?_
  refine jw_aload_n (pc := 651) hX d_L_law_651 rfl ?_
  refine jw_iload_n (pc := 652) hX d_L_law_652 rfl ?_
  refine jw_iconst (pc := 653) (v := nI 1) hX d_L_law_653 (by decide) ?_
  refine jw_addn (pc := 654) hX d_L_law_654 ?_
  refine jw_sld (pc := 655) hX hx h.2.2.1 (by omega) hL d_L_law_655 ?_
  refine jw_aload_n (pc := 656) hX d_L_law_656 rfl ?_
  refine jw_iload_n (pc := 657) hX d_L_law_657 rfl ?_
  refine jw_iconst (pc := 658) (v := nI 2) hX d_L_law_658 (by decide) ?_
  refine jw_addn (pc := 659) hX d_L_law_659 ?_
  refine jw_sld (pc := 660) hX hx h.2.2.1 (by omega) hL d_L_law_660 ?_
  refine jw_c1 (pc := 661) h (c_S_count _ Y1 n s c h.2.2.2.2.2.2.2.1 u (xs (i + 1)) (xs (i + 2)) hn) mz_S_count kw_471 (by decide +kernel) hce rfl (Nat.le_of_ble_eq_true rfl) d_L_law_661 rfl ?_
  refine jw_aload_n (pc := 664) hX d_L_law_664 rfl ?_
  refine jw_aload_n (pc := 665) hX d_L_law_665 rfl ?_
  refine jw_iload_n (pc := 666) hX d_L_law_666 rfl ?_
  refine jw_iconst (pc := 667) (v := nI 1) hX d_L_law_667 (by decide) ?_
  refine jw_addn (pc := 668) hX d_L_law_668 ?_
  refine jw_sld (pc := 669) hX hx h.2.2.1 (by omega) hL d_L_law_669 ?_
  refine jw_aload_n (pc := 670) hX d_L_law_670 rfl ?_
  refine jw_iload_n (pc := 671) hX d_L_law_671 rfl ?_
  refine jw_iconst (pc := 672) (v := nI 2) hX d_L_law_672 (by decide) ?_
  refine jw_addn (pc := 673) hX d_L_law_673 ?_
  refine jw_sld (pc := 674) hX hx h.2.2.1 (by omega) hL d_L_law_674 ?_
  refine jw_c2 (pc := 675) h (c_M_count _ Y2 n s c h.2.2.2.2.2.2.2.2 w (xs (i + 1)) (xs (i + 2)) hn) mz_M_count kw_737 (by decide +kernel) hce rfl (Nat.le_of_ble_eq_true rfl) d_L_law_675 rfl ?_
  exact jw_ic_eq (pc := 678) (tgt := 775) hX d_L_law_678 (by decide) (fun _ => k _ _ (Sim_le hS (by omega))) (fun q => absurd hE q)
set_option maxRecDepth 100000 in
set_option maxHeartbeats 4000000 in
theorem la_cached (h : LX X A b L xs (vC Y1 n s c) (vM Y2 n s c)) (h1 : 1 ≤ n) (hn : n ≤ 6) (h0 : 0 < c) (hc : c ≤ 4) (hs0 : 0 < s) (hs : s ≤ 24) (hsc : s * c < 2 ^ 31) (hce : ce ≤ room_1.cells ∧ sl ≤ room_1.slots) (hi : i + 6 ≤ L) (hS : Sim n s c t u w) (ht : t + 64 < 2 ^ 26) (k : ∀ u' w', Sim n s c (t + 64) u' w' → jw X A Q (P2 (vC Y1 n s c) (vM Y2 n s c) u' w') ce sl [(0, .ref b), (1, .ref (pv_ad (vC Y1 n s c) 0 0)), (2, .ref (pv_ad (vM Y2 n s c) 0 0)), (3, .int (nI i))] 775 []) : jw X A Q (P2 (vC Y1 n s c) (vM Y2 n s c) u w) ce sl [(0, .ref b), (1, .ref (pv_ad (vC Y1 n s c) 0 0)), (2, .ref (pv_ad (vM Y2 n s c) 0 0)), (3, .int (nI i))] 683 [] := by
  have hX := h.1
  have hx := h.2.1
  have hL := h.2.2.2.1
  have hE := S_cached hn hS (xs (i + 1)) (xs (i + 2))
  refine jw_aload_n (pc := 683) hX d_L_law_683 rfl ?_
  refine jw_aload_n (pc := 684) hX d_L_law_684 rfl ?_
  refine jw_iload_n (pc := 685) hX d_L_law_685 rfl ?_
  refine jw_iconst (pc := 686) (v := nI 1) hX d_L_law_686 (by decide) ?_
  refine jw_addn (pc := 687) hX d_L_law_687 ?_
  refine jw_sld (pc := 688) hX hx h.2.2.1 (by omega) hL d_L_law_688 ?_
  refine jw_aload_n (pc := 689) hX d_L_law_689 rfl ?_
  refine jw_iload_n (pc := 690) hX d_L_law_690 rfl ?_
  refine jw_iconst (pc := 691) (v := nI 2) hX d_L_law_691 (by decide) ?_
  refine jw_addn (pc := 692) hX d_L_law_692 ?_
  refine jw_sld (pc := 693) hX hx h.2.2.1 (by omega) hL d_L_law_693 ?_
  refine jw_c1 (pc := 694) h (c_S_cached _ Y1 n s c h.2.2.2.2.2.2.2.1 u (xs (i + 1)) (xs (i + 2)) hn (sim_wf hS).2.2.2.2.2.2.2.1) mz_S_cached kw_475 (by decide +kernel) hce rfl (Nat.le_of_ble_eq_true rfl) d_L_law_694 rfl ?_
  refine jw_aload_n (pc := 697) hX d_L_law_697 rfl ?_
  refine jw_aload_n (pc := 698) hX d_L_law_698 rfl ?_
  refine jw_iload_n (pc := 699) hX d_L_law_699 rfl ?_
  refine jw_iconst (pc := 700) (v := nI 1) hX d_L_law_700 (by decide) ?_
  refine jw_addn (pc := 701) hX d_L_law_701 ?_
  refine jw_sld (pc := 702) hX hx h.2.2.1 (by omega) hL d_L_law_702 ?_
  refine jw_aload_n (pc := 703) hX d_L_law_703 rfl ?_
  refine jw_iload_n (pc := 704) hX d_L_law_704 rfl ?_
  refine jw_iconst (pc := 705) (v := nI 2) hX d_L_law_705 (by decide) ?_
  refine jw_addn (pc := 706) hX d_L_law_706 ?_
  refine jw_sld (pc := 707) hX hx h.2.2.1 (by omega) hL d_L_law_707 ?_
  refine jw_c2 (pc := 708) h (c_M_cached _ Y2 n s c h.2.2.2.2.2.2.2.2 w (xs (i + 1)) (xs (i + 2)) hn (sim_wm hS)) mz_M_cached kw_741 (by decide +kernel) hce rfl (Nat.le_of_ble_eq_true rfl) d_L_law_708 rfl ?_
  exact jw_ic_eq (pc := 711) (tgt := 775) hX d_L_law_711 (by decide) (fun _ => k _ _ (Sim_le hS (by omega))) (fun q => absurd hE q)
set_option maxRecDepth 100000 in
set_option maxHeartbeats 4000000 in
theorem la_latest (h : LX X A b L xs (vC Y1 n s c) (vM Y2 n s c)) (h1 : 1 ≤ n) (hn : n ≤ 6) (h0 : 0 < c) (hc : c ≤ 4) (hs0 : 0 < s) (hs : s ≤ 24) (hsc : s * c < 2 ^ 31) (hce : ce ≤ room_1.cells ∧ sl ≤ room_1.slots) (hi : i + 6 ≤ L) (hS : Sim n s c t u w) (ht : t + 64 < 2 ^ 26) (k : ∀ u' w', Sim n s c (t + 64) u' w' → jw X A Q (P2 (vC Y1 n s c) (vM Y2 n s c) u' w') ce sl [(0, .ref b), (1, .ref (pv_ad (vC Y1 n s c) 0 0)), (2, .ref (pv_ad (vM Y2 n s c) 0 0)), (3, .int (nI i))] 775 []) : jw X A Q (P2 (vC Y1 n s c) (vM Y2 n s c) u w) ce sl [(0, .ref b), (1, .ref (pv_ad (vC Y1 n s c) 0 0)), (2, .ref (pv_ad (vM Y2 n s c) 0 0)), (3, .int (nI i))] 716 [] := by
  have hX := h.1
  have hx := h.2.1
  have hL := h.2.2.2.1
  have hE := S_latest h1 hn hS (xs (i + 1))
  refine jw_aload_n (pc := 716) hX d_L_law_716 rfl ?_
  refine jw_aload_n (pc := 717) hX d_L_law_717 rfl ?_
  refine jw_iload_n (pc := 718) hX d_L_law_718 rfl ?_
  refine jw_iconst (pc := 719) (v := nI 1) hX d_L_law_719 (by decide) ?_
  refine jw_addn (pc := 720) hX d_L_law_720 ?_
  refine jw_sld (pc := 721) hX hx h.2.2.1 (by omega) hL d_L_law_721 ?_
  refine jw_c1 (pc := 722) h (c_S_latest _ Y1 n s c h.2.2.2.2.2.2.2.1 u (xs (i + 1)) hn h1) mz_S_latest kw_479 (by decide +kernel) hce rfl (Nat.le_of_ble_eq_true rfl) d_L_law_722 rfl ?_
  refine jw_aload_n (pc := 725) hX d_L_law_725 rfl ?_
  refine jw_aload_n (pc := 726) hX d_L_law_726 rfl ?_
  refine jw_iload_n (pc := 727) hX d_L_law_727 rfl ?_
  refine jw_iconst (pc := 728) (v := nI 1) hX d_L_law_728 (by decide) ?_
  refine jw_addn (pc := 729) hX d_L_law_729 ?_
  refine jw_sld (pc := 730) hX hx h.2.2.1 (by omega) hL d_L_law_730 ?_
  refine jw_c2 (pc := 731) h (c_M_latest _ Y2 n s c h.2.2.2.2.2.2.2.2 w (xs (i + 1)) hn) mz_M_latest kw_745 (by decide +kernel) hce rfl (Nat.le_of_ble_eq_true rfl) d_L_law_731 rfl ?_
  exact jw_ic_eq (pc := 734) (tgt := 775) hX d_L_law_734 (by decide) (fun _ => k _ _ (Sim_le hS (by omega))) (fun q => absurd hE q)
set_option maxRecDepth 100000 in
set_option maxHeartbeats 4000000 in
theorem la_actuator (h : LX X A b L xs (vC Y1 n s c) (vM Y2 n s c)) (h1 : 1 ≤ n) (hn : n ≤ 6) (h0 : 0 < c) (hc : c ≤ 4) (hs0 : 0 < s) (hs : s ≤ 24) (hsc : s * c < 2 ^ 31) (hce : ce ≤ room_1.cells ∧ sl ≤ room_1.slots) (hi : i + 6 ≤ L) (hS : Sim n s c t u w) (ht : t + 64 < 2 ^ 26) (k : ∀ u' w', Sim n s c (t + 64) u' w' → jw X A Q (P2 (vC Y1 n s c) (vM Y2 n s c) u' w') ce sl [(0, .ref b), (1, .ref (pv_ad (vC Y1 n s c) 0 0)), (2, .ref (pv_ad (vM Y2 n s c) 0 0)), (3, .int (nI i))] 775 []) : jw X A Q (P2 (vC Y1 n s c) (vM Y2 n s c) u w) ce sl [(0, .ref b), (1, .ref (pv_ad (vC Y1 n s c) 0 0)), (2, .ref (pv_ad (vM Y2 n s c) 0 0)), (3, .int (nI i))] 739 [] := by
  have hX := h.1
  have hx := h.2.1
  have hL := h.2.2.2.1
  have hE := S_actuator h1 hn hS (xs (i + 1))
  refine jw_aload_n (pc := 739) hX d_L_law_739 rfl ?_
  refine jw_aload_n (pc := 740) hX d_L_law_740 rfl ?_
  refine jw_iload_n (pc := 741) hX d_L_law_741 rfl ?_
  refine jw_iconst (pc := 742) (v := nI 1) hX d_L_law_742 (by decide) ?_
  refine jw_addn (pc := 743) hX d_L_law_743 ?_
  refine jw_sld (pc := 744) hX hx h.2.2.1 (by omega) hL d_L_law_744 ?_
  refine jw_c1 (pc := 745) h (c_S_actuator _ Y1 n s c h.2.2.2.2.2.2.2.1 u (xs (i + 1)) hn) mz_S_actuator kw_483 (by decide +kernel) hce rfl (Nat.le_of_ble_eq_true rfl) d_L_law_745 rfl ?_
  refine jw_aload_n (pc := 748) hX d_L_law_748 rfl ?_
  refine jw_aload_n (pc := 749) hX d_L_law_749 rfl ?_
  refine jw_iload_n (pc := 750) hX d_L_law_750 rfl ?_
  refine jw_iconst (pc := 751) (v := nI 1) hX d_L_law_751 (by decide) ?_
  refine jw_addn (pc := 752) hX d_L_law_752 ?_
  refine jw_sld (pc := 753) hX hx h.2.2.1 (by omega) hL d_L_law_753 ?_
  refine jw_c2 (pc := 754) h (c_M_actuator _ Y2 n s c h.2.2.2.2.2.2.2.2 w (xs (i + 1)) hn) mz_M_actuator kw_749 (by decide +kernel) hce rfl (Nat.le_of_ble_eq_true rfl) d_L_law_754 rfl ?_
  exact jw_ic_eq (pc := 757) (tgt := 775) hX d_L_law_757 (by decide) (fun _ => k _ _ (Sim_le hS (by omega))) (fun q => absurd hE q)
set_option maxRecDepth 100000 in
set_option maxHeartbeats 4000000 in
theorem la_sent (h : LX X A b L xs (vC Y1 n s c) (vM Y2 n s c)) (h1 : 1 ≤ n) (hn : n ≤ 6) (h0 : 0 < c) (hc : c ≤ 4) (hs0 : 0 < s) (hs : s ≤ 24) (hsc : s * c < 2 ^ 31) (hce : ce ≤ room_1.cells ∧ sl ≤ room_1.slots) (hi : i + 6 ≤ L) (hS : Sim n s c t u w) (ht : t + 64 < 2 ^ 26) (k : ∀ u' w', Sim n s c (t + 64) u' w' → jw X A Q (P2 (vC Y1 n s c) (vM Y2 n s c) u' w') ce sl [(0, .ref b), (1, .ref (pv_ad (vC Y1 n s c) 0 0)), (2, .ref (pv_ad (vM Y2 n s c) 0 0)), (3, .int (nI i))] 775 []) : jw X A Q (P2 (vC Y1 n s c) (vM Y2 n s c) u w) ce sl [(0, .ref b), (1, .ref (pv_ad (vC Y1 n s c) 0 0)), (2, .ref (pv_ad (vM Y2 n s c) 0 0)), (3, .int (nI i))] 762 [] := by
  have hX := h.1
  have hx := h.2.1
  have hL := h.2.2.2.1
  have hE := S_sent hS
  refine jw_aload_n (pc := 762) hX d_L_law_762 rfl ?_
  refine jw_c1 (pc := 763) h (c_S_sent _ Y1 n s c h.2.2.2.2.2.2.2.1 u) mz_S_sent kw_487 (by decide +kernel) hce rfl (Nat.le_of_ble_eq_true rfl) d_L_law_763 rfl ?_
  refine jw_aload_n (pc := 766) hX d_L_law_766 rfl ?_
  refine jw_c2 (pc := 767) h (c_M_sent _ Y2 n s c h.2.2.2.2.2.2.2.2 w) mz_M_sent kw_753 (by decide +kernel) hce rfl (Nat.le_of_ble_eq_true rfl) d_L_law_767 rfl ?_
  exact jw_ic_eq (pc := 770) (tgt := 775) hX d_L_law_770 (by decide) (fun _ => k _ _ (Sim_le hS (by omega))) (fun q => absurd hE q)
end LAW
