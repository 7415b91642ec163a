/-! SlottedMeshModel: up, down (by program, wip/whole/gen/m3.py) -/
theorem ow_t {X : OX} {V : PV} {r : Option Value} {u' v' u : UU} {loc : List (Nat × Value)} {pc : Nat} {st : List Value} (h : u' = v') (k : ow X V r v' u loc pc st) : ow X V r u' u loc pc st := h ▸ k
theorem km_su_a {u : UU} {q b : Nat} (h : ¬ u.2.1 20 0 (6 * b + u.1 15 0 q) < u.2.1 16 0 q) : km_setUp u q b = (1, u) := by unfold km_setUp; rw [if_neg h]
theorem km_su_b {u : UU} {q b : Nat} (h : u.2.1 20 0 (6 * b + u.1 15 0 q) < u.2.1 16 0 q) (hb : b = 0) : km_setUp u q b = (1, km_cache (ui u 20 0 (6 * b + u.1 15 0 q) (u.2.1 16 0 q)) (u.1 15 0 q) (u.2.1 16 0 q) (u.2.1 17 0 q)) := by unfold km_setUp; rw [if_pos h, if_pos hb]
theorem km_su_c {u : UU} {q b : Nat} (h : u.2.1 20 0 (6 * b + u.1 15 0 q) < u.2.1 16 0 q) (hb : ¬ b = 0) (h4 : u.1 14 0 b < 4) : km_setUp u q b = (1, km_add (ui u 20 0 (6 * b + u.1 15 0 q) (u.2.1 16 0 q)) b (u.1 15 0 q) (u.2.1 16 0 q) (u.2.1 17 0 q)) := by unfold km_setUp; rw [if_pos h, if_neg hb, if_pos h4]
theorem km_su_d {u : UU} {q b : Nat} (h : u.2.1 20 0 (6 * b + u.1 15 0 q) < u.2.1 16 0 q) (hb : ¬ b = 0) (h4 : 4 ≤ u.1 14 0 b) : km_setUp u q b = (0, u) := by unfold km_setUp; rw [if_pos h, if_neg hb, if_neg (Nat.not_lt.mpr h4)]
set_option maxRecDepth 100000 in
set_option maxHeartbeats 4000000 in
theorem w_M_upF {X : OX} (Y : YY) (n s c : Nat) (hX : ox X (vM Y n s c) (rd 2) b_M_up 7 "SlottedMeshModel" gz none) (hV : pv_ok (vM Y n s c)) (w : UU) (a : Nat) (ha : a < 6) (hf : w.1 18 0 a ≤ 3) : ow X (vM Y n s c) none (km_failUp w a) w [(0, .ref (pv_ad (vM Y n s c) 0 0)), (1, .int (nI a))] 246 [] := by
  refine ow_aload_n (pc := 246) hX d_M_up_246 rfl ?_
  refine ow_gR (pc := 247) hX (kd_M Y n s c) 23 d_M_up_247 kw_524 rfl Nat.zero_lt_one ?_
  refine ow_iload_n (pc := 250) hX d_M_up_250 rfl ?_
  refine ow_dup2 (pc := 251) hX d_M_up_251 rfl rfl ?_
  refine ow_aN (pc := 252) hX rfl d_M_up_252 Nat.zero_lt_one (by show _ < 6; first | assumption | omega) ?_
  refine ow_iconst (pc := 253) (v := nI 1) hX d_M_up_253 (by decide) ?_
  refine ow_addn (pc := 254) hX d_M_up_254 ?_
  refine ow_sN (pc := 255) hX rfl d_M_up_255 Nat.zero_lt_one (by show _ < 6; first | assumption | omega) ?_
  refine ow_aload_n (pc := 256) hX d_M_up_256 rfl ?_
  refine ow_gR (pc := 257) hX (kd_M Y n s c) 23 d_M_up_257 kw_524 rfl Nat.zero_lt_one ?_
  refine ow_iload_n (pc := 260) hX d_M_up_260 rfl ?_
  refine ow_aN (pc := 261) hX rfl d_M_up_261 Nat.zero_lt_one (by show _ < 6; first | assumption | omega) ?_
  try simp only [un_1, un_2, ui_1, ui_2, ui_3, ul_1, ul_2, ul_3, ul_4, ur_1, ur_2, ur_3, ur_4, Nat.reduceEqDiff, false_and, and_false, true_and, and_true, and_self, reduceIte]
  refine ow_iconst (pc := 262) (v := nI 4) hX d_M_up_262 (by decide) ?_
  refine ow_nc_ne (pc := 263) (tgt := 280) hX d_M_up_263 (by decide) (by first | assumption | omega) (by first | assumption | omega) (fun h263 => ?_) (fun h263 => ?_)
  · skip
    exact ow_vret (pc := 280) hX d_M_up_280 rfl (by first | (unfold km_failUp; rw [if_pos h263]; done) | (unfold km_failUp; rw [if_neg h263]; done))
  · skip
    refine ow_aload_n (pc := 266) hX d_M_up_266 rfl ?_
    refine ow_gR (pc := 267) hX (kd_M Y n s c) 23 d_M_up_267 kw_524 rfl Nat.zero_lt_one ?_
    refine ow_iload_n (pc := 270) hX d_M_up_270 rfl ?_
    refine ow_iconst (pc := 271) (v := nI 0) hX d_M_up_271 (by decide) ?_
    refine ow_sN (pc := 272) hX rfl d_M_up_272 Nat.zero_lt_one (by show _ < 6; first | assumption | omega) ?_
    refine ow_aload_n (pc := 273) hX d_M_up_273 rfl ?_
    refine ow_gR (pc := 274) hX (kd_M Y n s c) 7 d_M_up_274 kw_508 rfl Nat.zero_lt_one ?_
    refine ow_iload_n (pc := 277) hX d_M_up_277 rfl ?_
    refine ow_iconst (pc := 278) (v := nI 0) hX d_M_up_278 (by decide) ?_
    refine ow_sZ (pc := 279) hX rfl d_M_up_279 Nat.zero_lt_one (by show _ < 6; first | assumption | omega) (by first | assumption | omega) ?_
    exact ow_vret (pc := 280) hX d_M_up_280 rfl (by first | (unfold km_failUp; rw [if_pos h263]; done) | (unfold km_failUp; rw [if_neg h263]; done))
set_option maxRecDepth 100000 in
set_option maxHeartbeats 4000000 in
theorem w_M_up0 {X : OX} (Y : YY) (n s c : Nat) (hX : ox X (vM Y n s c) (rd 2) b_M_up 7 "SlottedMeshModel" gz none) (hV : pv_ok (vM Y n s c)) (w : UU) (a b ch : Nat) (ha : a < 6) (hb : b < 6) (hch : ch < 4) (hw : wm n w) : ow X (vM Y n s c) none (km_up2 0 w a b ch) w [(0, .ref (pv_ad (vM Y n s c) 0 0)), (1, .int (nI a)), (2, .int (nI b)), (3, .int (nI ch)), (5, .int (nI 0))] 179 [] := by
  refine ow_iload (pc := 179) hX d_M_up_179 rfl ?_
  refine ow_nz_eq (pc := 181) (tgt := 246) hX d_M_up_181 (by decide) (by first | assumption | omega) (fun h181 => ?_) (fun h181 => ?_)
  · skip
    refine ow_t (v' := km_failUp w a) rfl ?_
    refine ow_loc (l2 := [(0, _), (1, _)]) (fun q hq => by simp only [List.mem_cons, List.not_mem_nil, or_false] at hq ⊢; rcases hq with rfl | rfl <;> simp) (w_M_upF Y n s c hX hV w a ha (hw.2.2.2.2.2.2.1 a))
  · skip
    exact absurd h181 (by decide)
set_option maxRecDepth 100000 in
set_option maxHeartbeats 4000000 in
theorem w_M_up1 {X : OX} (Y : YY) (n s c : Nat) (hX : ox X (vM Y n s c) (rd 2) b_M_up 7 "SlottedMeshModel" gz none) (hV : pv_ok (vM Y n s c)) (w : UU) (a b ch : Nat) (ha : a < 6) (hb : b < 6) (hch : ch < 4) (hw : wm n w) (hm : 1 ≤ w.1 14 0 a) : ow X (vM Y n s c) none (km_up2 1 w a b ch) w [(0, .ref (pv_ad (vM Y n s c) 0 0)), (1, .int (nI a)), (2, .int (nI b)), (3, .int (nI ch)), (5, .int (nI 1))] 179 [] := by
  refine ow_iload (pc := 179) hX d_M_up_179 rfl ?_
  refine ow_nz_eq (pc := 181) (tgt := 246) hX d_M_up_181 (by decide) (by first | assumption | omega | exact Nat.lt_of_le_of_lt (kbitm_le _ _) (by decide)) (fun h181 => ?_) (fun h181 => ?_)
  · skip
    exact absurd h181 (by decide)
  · skip
    refine ow_aload_n (pc := 184) hX d_M_up_184 rfl ?_
    refine ow_gR (pc := 185) hX (kd_M Y n s c) 11 d_M_up_185 kw_512 rfl Nat.zero_lt_one ?_
    refine ow_iload_n (pc := 188) hX d_M_up_188 rfl ?_
    refine ow_aL (pc := 189) hX rfl d_M_up_189 Nat.zero_lt_one (by show _ < 4; first | assumption | omega | exact Nat.lt_of_le_of_lt (kbitm_le _ _) (by decide)) ?_
    refine ow_aload_n (pc := 190) hX d_M_up_190 rfl ?_
    refine ow_gN (pc := 191) hX (kd_M Y n s c) 3 d_M_up_191 kw_504 rfl Nat.zero_lt_one ?_
    refine ow_callS (pc := 194) hX (c_M_bit _ Y n s c hV w _ _ (by have := hw.2.2.2.2.2.2.2.2.2.2; omega)) (cw_S hX mz_M_bit kw_683 ⟨rfl, rfl⟩ (by decide)) rfl (Nat.le_of_ble_eq_true rfl) d_M_up_194 rfl ?_
    refine ow_nz_eq (pc := 197) (tgt := 246) hX d_M_up_197 (by decide) (by first | assumption | omega | exact Nat.lt_of_le_of_lt (kbitm_le _ _) (by decide)) (fun h197 => ?_) (fun h197 => ?_)
    · skip
      refine ow_t (v' := km_failUp w a) (by unfold km_up2; rw [if_neg (by decide), if_pos h197]) ?_
      refine ow_loc (l2 := [(0, _), (1, _)]) (fun q hq => by simp only [List.mem_cons, List.not_mem_nil, or_false] at hq ⊢; rcases hq with rfl | rfl <;> simp) (w_M_upF Y n s c hX hV w a ha (hw.2.2.2.2.2.2.1 a))
    · skip
      refine ow_aload_n (pc := 200) hX d_M_up_200 rfl ?_
      refine ow_iload_n (pc := 201) hX d_M_up_201 rfl ?_
      refine ow_callV (pc := 202) hX (kd_M Y n s c) Nat.zero_lt_one (c_M_leave _ Y n s c hV w a (by omega) hm (hw.2.2.2.2.1 a)) (cw_V hX mz_M_leave kw_702 ⟨rfl, rfl⟩ (by decide)) rfl (Nat.le_of_ble_eq_true rfl) d_M_up_202 rfl ?_
      refine ow_aload_n (pc := 205) hX d_M_up_205 rfl ?_
      refine ow_gR (pc := 206) hX (kd_M Y n s c) 23 d_M_up_206 kw_524 rfl Nat.zero_lt_one ?_
      refine ow_iload_n (pc := 209) hX d_M_up_209 rfl ?_
      refine ow_iconst (pc := 210) (v := nI 0) hX d_M_up_210 (by decide) ?_
      refine ow_sN (pc := 211) hX rfl d_M_up_211 Nat.zero_lt_one (by show _ < 6; first | assumption | omega | exact Nat.lt_of_le_of_lt (kbitm_le _ _) (by decide)) ?_
      refine ow_aload_n (pc := 212) hX d_M_up_212 rfl ?_
      refine ow_gR (pc := 213) hX (kd_M Y n s c) 8 d_M_up_213 kw_509 rfl Nat.zero_lt_one ?_
      refine ow_iload_n (pc := 216) hX d_M_up_216 rfl ?_
      refine ow_aload_n (pc := 217) hX d_M_up_217 rfl ?_
      refine ow_gR (pc := 218) hX (kd_M Y n s c) 14 d_M_up_218 kw_515 rfl Nat.zero_lt_one ?_
      refine ow_iconst (pc := 221) (v := nI 2) hX d_M_up_221 (by decide) ?_
      refine ow_iload_n (pc := 222) hX d_M_up_222 rfl ?_
      refine ow_muln (pc := 223) hX d_M_up_223 ?_
      refine ow_aI (pc := 224) hX rfl d_M_up_224 Nat.zero_lt_one (by show _ < 12; first | assumption | omega | exact Nat.lt_of_le_of_lt (kbitm_le _ _) (by decide)) ?_
      try simp only [un_1, un_2, ui_1, ui_2, ui_3, ul_1, ul_2, ul_3, ul_4, ur_1, ur_2, ur_3, ur_4, Nat.reduceEqDiff, false_and, and_false, true_and, and_true, and_self, reduceIte]
      refine ow_iload_n (pc := 225) hX d_M_up_225 rfl ?_
      refine ow_ic_ne (pc := 226) (tgt := 238) hX d_M_up_226 (by decide) (fun h226 => ?_) (fun h226 => ?_)
      · skip
        refine ow_aload_n (pc := 238) hX d_M_up_238 rfl ?_
        refine ow_gR (pc := 239) hX (kd_M Y n s c) 8 d_M_up_239 kw_509 rfl Nat.zero_lt_one ?_
        refine ow_iload_n (pc := 242) hX d_M_up_242 rfl ?_
        refine ow_aI (pc := 243) hX rfl d_M_up_243 Nat.zero_lt_one (by show _ < 6; first | assumption | omega | exact Nat.lt_of_le_of_lt (kbitm_le _ _) (by decide)) ?_
        try simp only [un_1, un_2, ui_1, ui_2, ui_3, ul_1, ul_2, ul_3, ul_4, ur_1, ur_2, ur_3, ur_4, Nat.reduceEqDiff, false_and, and_false, true_and, and_true, and_self, reduceIte]
        refine ow_sI (pc := 244) hX rfl d_M_up_244 Nat.zero_lt_one (by show _ < 6; first | assumption | omega | exact Nat.lt_of_le_of_lt (kbitm_le _ _) (by decide)) ?_
        exact ow_vret (pc := 245) hX d_M_up_245 rfl (by unfold km_up2; rw [if_neg (by decide), if_neg h197]; unfold km_up3; first | (rw [if_pos h226]; done) | (rw [if_neg h226]; done))
      · skip
        refine ow_aload_n (pc := 229) hX d_M_up_229 rfl ?_
        refine ow_gR (pc := 230) hX (kd_M Y n s c) 8 d_M_up_230 kw_509 rfl Nat.zero_lt_one ?_
        refine ow_iload_n (pc := 233) hX d_M_up_233 rfl ?_
        refine ow_aI (pc := 234) hX rfl d_M_up_234 Nat.zero_lt_one (by show _ < 6; first | assumption | omega | exact Nat.lt_of_le_of_lt (kbitm_le _ _) (by decide)) ?_
        try simp only [un_1, un_2, ui_1, ui_2, ui_3, ul_1, ul_2, ul_3, ul_4, ur_1, ur_2, ur_3, ur_4, Nat.reduceEqDiff, false_and, and_false, true_and, and_true, and_self, reduceIte]
        refine ow_goto (pc := 235) (tgt := 244) hX d_M_up_235 (by decide) ?_
        refine ow_sI (pc := 244) hX rfl d_M_up_244 Nat.zero_lt_one (by show _ < 6; first | assumption | omega | exact Nat.lt_of_le_of_lt (kbitm_le _ _) (by decide)) ?_
        exact ow_vret (pc := 245) hX d_M_up_245 rfl (by unfold km_up2; rw [if_neg (by decide), if_neg h197]; unfold km_up3; first | (rw [if_pos h226]; done) | (rw [if_neg h226]; done))
set_option maxRecDepth 100000 in
set_option maxHeartbeats 4000000 in
theorem c_M_up (l : Launch) (Y : YY) (n s c : Nat) (hV : pv_ok (vM Y n s c)) (u : UU) (a b ch : Nat) (ha : a < 6) (hb : b < 6) (hch : ch < 4) (hn : n ≤ 6) (hu : wm n u) : Ct l (vM Y n s c) ⟨"SlottedMeshModel", "up", "(III)V"⟩ (wz ⟨"SlottedMeshModel", "up", "(III)V"⟩ b_M_up 7 none) (rd 2) [.ref (pv_ad (vM Y n s c) 0 0), .int (nI a), .int (nI b), .int (nI ch)] u none (km_up u a b ch) := by
  refine ct_mk hV (by decide +kernel) (Nat.le_of_ble_eq_true rfl) (fun X hX => ?_)
  have hX : ox X (vM Y n s c) (rd 2) b_M_up 7 "SlottedMeshModel" gz none := hX
  show ow X (vM Y n s c) none (km_up u a b ch) u [(0, .ref (pv_ad (vM Y n s c) 0 0)), (1, .int (nI a)), (2, .int (nI b)), (3, .int (nI ch))] 0 []
  refine ow_aload_n (pc := 0) hX d_M_up_0 rfl ?_
  refine ow_gR (pc := 1) hX (kd_M Y n s c) 7 d_M_up_1 kw_508 rfl Nat.zero_lt_one ?_
  refine ow_iload_n (pc := 4) hX d_M_up_4 rfl ?_
  refine ow_aZ (pc := 5) hX rfl d_M_up_5 Nat.zero_lt_one (by show _ < 6; first | assumption | omega | (have := hu.2.2.1 a; omega) | (have := hu.2.2.2.2.1 a; omega) | (have := hu.2.2.2.2.1 b; omega)) ?_
  refine ow_nz_eq (pc := 6) (tgt := 18) hX d_M_up_6 (by decide) (by first | assumption | omega | (have := hu.2.2.1 a; omega) | (have := hu.2.2.2.2.1 a; omega) | (have := hu.2.2.2.2.1 b; omega)) (fun h6 => ?_) (fun h6 => ?_)
  · skip
    exact ow_vret (pc := 18) hX d_M_up_18 rfl (by unfold km_up; first | (rw [if_pos h6]; done) | (rw [if_neg h6, if_pos h15]; done))
  · skip
    refine ow_aload_n (pc := 9) hX d_M_up_9 rfl ?_
    refine ow_gR (pc := 10) hX (kd_M Y n s c) 19 d_M_up_10 kw_520 rfl Nat.zero_lt_one ?_
    refine ow_iload_n (pc := 13) hX d_M_up_13 rfl ?_
    refine ow_aN (pc := 14) hX rfl d_M_up_14 Nat.zero_lt_one (by show _ < 12; first | assumption | omega | (have := hu.2.2.1 a; omega) | (have := hu.2.2.2.2.1 a; omega) | (have := hu.2.2.2.2.1 b; omega)) ?_
    refine ow_nz_ne (pc := 15) (tgt := 19) hX d_M_up_15 (by decide) (by first | assumption | omega | (have := hu.2.2.1 a; omega) | (have := hu.2.2.2.2.1 a; omega) | (have := hu.2.2.2.2.1 b; omega)) (fun h15 => ?_) (fun h15 => ?_)
    · skip
      refine ow_iconst (pc := 19) (v := nI 4) hX d_M_up_19 (by decide) ?_
      refine ow_iload_n (pc := 20) hX d_M_up_20 rfl ?_
      refine ow_muln (pc := 21) hX d_M_up_21 ?_
      refine ow_istore (pc := 22) (l2 := [(0, _), (1, _), (2, _), (3, _), (4, _)]) hX d_M_up_22 (by decide) rfl rfl ?_
      refine ow_aload_n (pc := 24) hX d_M_up_24 rfl ?_
      refine ow_dup (pc := 25) hX d_M_up_25 rfl ?_
      refine ow_gI (pc := 26) hX (kd_M Y n s c) 4 d_M_up_26 kw_505 rfl Nat.zero_lt_one ?_
      refine ow_iconst (pc := 29) (v := nI 1) hX d_M_up_29 (by decide) ?_
      refine ow_iadd (pc := 30) hX d_M_up_30 ?_
      refine ow_pI (pc := 31) hX (kd_M Y n s c) 4 d_M_up_31 kw_505 rfl Nat.zero_lt_one rfl (by decide +kernel) ?_
      refine ow_iconst (pc := 34) (v := nI 0) hX d_M_up_34 (by decide) ?_
      refine ow_istore (pc := 35) (l2 := [(0, _), (1, _), (2, _), (3, _), (4, _), (5, _)]) hX d_M_up_35 (by decide) rfl rfl ?_
      refine ow_aload_n (pc := 37) hX d_M_up_37 rfl ?_
      refine ow_iload_n (pc := 38) hX d_M_up_38 rfl ?_
      refine ow_iload_n (pc := 39) hX d_M_up_39 rfl ?_
      refine ow_iload_n (pc := 40) hX d_M_up_40 rfl ?_
      refine ow_callV (pc := 41) hX (kd_M Y n s c) Nat.zero_lt_one (c_M_hears _ Y n s c hV (ui u 0 0 4 (u.2.1 0 0 4 + nI 1)) a b ch ha hb hch hn hu) (cw_V hX mz_M_hears kw_698 ⟨rfl, rfl⟩ (by decide)) rfl (Nat.le_of_ble_eq_true rfl) d_M_up_41 rfl ?_
      have hu1 : wm n (ui u 0 0 4 (u.2.1 0 0 4 + nI 1)) := hu
      have hw2 : wm n (km_setUp (ui u 0 0 4 (u.2.1 0 0 4 + nI 1)) (4 * a) b).2 := (em_setUp hu1).1 hu1
      have hge : u.1 14 0 a ≤ (km_setUp (ui u 0 0 4 (u.2.1 0 0 4 + nI 1)) (4 * a) b).2.1 14 0 a := km_setUp_ge (u := (ui u 0 0 4 (u.2.1 0 0 4 + nI 1))) a
      have he := hu.2.2.2.2.2.1 (4 * a)
      rcases km_hears_01 (ui u 0 0 4 (u.2.1 0 0 4 + nI 1)) a b ch with hh | hh
      · skip
        refine ow_st (st2 := .int (nI 0) :: _) (by rw [hh]; rfl) ?_
        refine ow_nz_eq (pc := 44) (tgt := 179) hX d_M_up_44 (by decide) (by first | assumption | omega | (have := hu.2.2.1 a; omega) | (have := hu.2.2.2.2.1 a; omega) | (have := hu.2.2.2.2.1 b; omega)) (fun h44 => ?_) (fun h44 => ?_)
        · skip
          first | (refine ow_t (v' := km_up2 0 (ui u 0 0 4 (u.2.1 0 0 4 + nI 1)) a _ ch) (by unfold km_up; rw [if_neg h6, if_neg h15]; unfold km_up1; rw [if_pos hh]) ?_; refine ow_loc (l2 := [(0, _), (1, _), (2, _), (3, _), (5, _)]) (fun q hq => by simp only [List.mem_cons, List.not_mem_nil, or_false] at hq ⊢; rcases hq with rfl | rfl | rfl | rfl | rfl <;> simp) (w_M_up0 Y n s c hX hV (ui u 0 0 4 (u.2.1 0 0 4 + nI 1)) a _ ch ha hb hch hu1)) | (have hS := km_su_a (u := (ui u 0 0 4 (u.2.1 0 0 4 + nI 1))) h75; have hw3 := hw2; rw [hS] at hw3 hge; refine ow_t (v' := km_up2 1 _ a _ ch) (by unfold km_up; rw [if_neg h6, if_neg h15]; unfold km_up1; rw [if_neg (by rw [hh]; decide), hS] <;> rfl) ?_; refine ow_loc (l2 := [(0, _), (1, _), (2, _), (3, _), (5, _)]) (fun q hq => by simp only [List.mem_cons, List.not_mem_nil, or_false] at hq ⊢; rcases hq with rfl | rfl | rfl | rfl | rfl <;> simp) (w_M_up1 Y n s c hX hV _ a _ ch ha hb hch hw3 (Nat.le_trans (by omega) hge))) | (have hS := km_su_b (u := (ui u 0 0 4 (u.2.1 0 0 4 + nI 1))) h75 rfl; have hw3 := hw2; rw [hS] at hw3 hge; refine ow_t (v' := km_up2 1 _ a _ ch) (by unfold km_up; rw [if_neg h6, if_neg h15]; unfold km_up1; rw [if_neg (by rw [hh]; decide), hS] <;> rfl) ?_; refine ow_loc (l2 := [(0, _), (1, _), (2, _), (3, _), (5, _)]) (fun q hq => by simp only [List.mem_cons, List.not_mem_nil, or_false] at hq ⊢; rcases hq with rfl | rfl | rfl | rfl | rfl <;> simp) (w_M_up1 Y n s c hX hV _ a _ ch ha hb hch hw3 (Nat.le_trans (by omega) hge))) | (have hS := km_su_c (u := (ui u 0 0 4 (u.2.1 0 0 4 + nI 1))) h75 hb0 h101; have hw3 := hw2; rw [hS] at hw3 hge; refine ow_t (v' := km_up2 1 _ a _ ch) (by unfold km_up; rw [if_neg h6, if_neg h15]; unfold km_up1; rw [if_neg (by rw [hh]; decide), hS] <;> rfl) ?_; refine ow_loc (l2 := [(0, _), (1, _), (2, _), (3, _), (5, _)]) (fun q hq => by simp only [List.mem_cons, List.not_mem_nil, or_false] at hq ⊢; rcases hq with rfl | rfl | rfl | rfl | rfl <;> simp) (w_M_up1 Y n s c hX hV _ a _ ch ha hb hch hw3 (Nat.le_trans (by omega) hge))) | (have hS := km_su_d (u := (ui u 0 0 4 (u.2.1 0 0 4 + nI 1))) h75 hb0 h101; have hw3 := hw2; rw [hS] at hw3 hge; refine ow_t (v' := km_up2 0 _ a _ ch) (by unfold km_up; rw [if_neg h6, if_neg h15]; unfold km_up1; rw [if_neg (by rw [hh]; decide), hS] <;> rfl) ?_; refine ow_loc (l2 := [(0, _), (1, _), (2, _), (3, _), (5, _)]) (fun q hq => by simp only [List.mem_cons, List.not_mem_nil, or_false] at hq ⊢; rcases hq with rfl | rfl | rfl | rfl | rfl <;> simp) (w_M_up0 Y n s c hX hV _ a _ ch ha hb hch hw3))
        · skip
          exact absurd h44 (by decide)
      · skip
        refine ow_st (st2 := .int (nI 1) :: _) (by rw [hh]; rfl) ?_
        refine ow_nz_eq (pc := 44) (tgt := 179) hX d_M_up_44 (by decide) (by first | assumption | omega | (have := hu.2.2.1 a; omega) | (have := hu.2.2.2.2.1 a; omega) | (have := hu.2.2.2.2.1 b; omega)) (fun h44 => ?_) (fun h44 => ?_)
        · skip
          exact absurd h44 (by decide)
        · skip
          refine ow_bipush (pc := 47) (v := nI 6) hX d_M_up_47 (by decide) ?_
          refine ow_iload_n (pc := 49) hX d_M_up_49 rfl ?_
          refine ow_muln (pc := 50) hX d_M_up_50 ?_
          refine ow_aload_n (pc := 51) hX d_M_up_51 rfl ?_
          refine ow_gR (pc := 52) hX (kd_M Y n s c) 20 d_M_up_52 kw_521 rfl Nat.zero_lt_one ?_
          refine ow_iload (pc := 55) hX d_M_up_55 rfl ?_
          refine ow_aN (pc := 57) hX rfl d_M_up_57 Nat.zero_lt_one (by show _ < 48; first | assumption | omega | (have := hu.2.2.1 a; omega) | (have := hu.2.2.2.2.1 a; omega) | (have := hu.2.2.2.2.1 b; omega)) ?_
          try simp only [un_1, un_2, ui_1, ui_2, ui_3, ul_1, ul_2, ul_3, ul_4, ur_1, ur_2, ur_3, ur_4, Nat.reduceEqDiff, false_and, and_false, true_and, and_true, and_self, reduceIte]
          refine ow_addn (pc := 58) hX d_M_up_58 ?_
          refine ow_istore (pc := 59) (l2 := [(0, _), (1, _), (2, _), (3, _), (4, _), (5, _), (6, _)]) hX d_M_up_59 (by decide) rfl rfl ?_
          refine ow_aload_n (pc := 61) hX d_M_up_61 rfl ?_
          refine ow_gR (pc := 62) hX (kd_M Y n s c) 21 d_M_up_62 kw_522 rfl Nat.zero_lt_one ?_
          refine ow_iload (pc := 65) hX d_M_up_65 rfl ?_
          refine ow_aI (pc := 67) hX rfl d_M_up_67 Nat.zero_lt_one (by show _ < 48; first | assumption | omega | (have := hu.2.2.1 a; omega) | (have := hu.2.2.2.2.1 a; omega) | (have := hu.2.2.2.2.1 b; omega)) ?_
          try simp only [un_1, un_2, ui_1, ui_2, ui_3, ul_1, ul_2, ul_3, ul_4, ur_1, ur_2, ur_3, ur_4, Nat.reduceEqDiff, false_and, and_false, true_and, and_true, and_self, reduceIte]
          refine ow_aload_n (pc := 68) hX d_M_up_68 rfl ?_
          refine ow_gR (pc := 69) hX (kd_M Y n s c) 25 d_M_up_69 kw_526 rfl Nat.zero_lt_one ?_
          refine ow_iload (pc := 72) hX d_M_up_72 rfl ?_
          refine ow_aI (pc := 74) hX rfl d_M_up_74 Nat.zero_lt_one (by show _ < 72; first | assumption | omega | (have := hu.2.2.1 a; omega) | (have := hu.2.2.2.2.1 a; omega) | (have := hu.2.2.2.2.1 b; omega)) ?_
          try simp only [un_1, un_2, ui_1, ui_2, ui_3, ul_1, ul_2, ul_3, ul_4, ur_1, ur_2, ur_3, ur_4, Nat.reduceEqDiff, false_and, and_false, true_and, and_true, and_self, reduceIte]
          refine ow_ic_gt (pc := 75) (tgt := 82) hX d_M_up_75 (by decide) (fun h75 => ?_) (fun h75 => ?_)
          · skip
            refine ow_iconst (pc := 82) (v := nI 0) hX d_M_up_82 (by decide) ?_
            refine ow_istore (pc := 83) (l2 := [(0, _), (1, _), (2, _), (3, _), (4, _), (5, _), (6, _)]) hX d_M_up_83 (by decide) rfl rfl ?_
            refine ow_iload (pc := 85) hX d_M_up_85 rfl ?_
            refine ow_nz_ne (pc := 87) (tgt := 179) hX d_M_up_87 (by decide) (by first | assumption | omega | (have := hu.2.2.1 a; omega) | (have := hu.2.2.2.2.1 a; omega) | (have := hu.2.2.2.2.1 b; omega)) (fun h87 => ?_) (fun h87 => ?_)
            · skip
              exact absurd h87 (by decide)
            · skip
              by_cases hb0 : b = 0
              · skip
                subst hb0
                refine ow_iload_n (pc := 90) hX d_M_up_90 rfl ?_
                refine ow_nz_eq (pc := 91) (tgt := 104) hX d_M_up_91 (by decide) (by first | assumption | omega | (have := hu.2.2.1 a; omega) | (have := hu.2.2.2.2.1 a; omega) | (have := hu.2.2.2.2.1 b; omega)) (fun h91 => ?_) (fun h91 => ?_)
                · skip
                  refine ow_iconst (pc := 104) (v := nI 1) hX d_M_up_104 (by decide) ?_
                  refine ow_istore (pc := 105) (l2 := [(0, _), (1, _), (2, _), (3, _), (4, _), (5, _), (6, _)]) hX d_M_up_105 (by decide) rfl rfl ?_
                  refine ow_aload_n (pc := 107) hX d_M_up_107 rfl ?_
                  refine ow_gR (pc := 108) hX (kd_M Y n s c) 25 d_M_up_108 kw_526 rfl Nat.zero_lt_one ?_
                  refine ow_iload (pc := 111) hX d_M_up_111 rfl ?_
                  refine ow_aload_n (pc := 113) hX d_M_up_113 rfl ?_
                  refine ow_gR (pc := 114) hX (kd_M Y n s c) 21 d_M_up_114 kw_522 rfl Nat.zero_lt_one ?_
                  refine ow_iload (pc := 117) hX d_M_up_117 rfl ?_
                  refine ow_aI (pc := 119) hX rfl d_M_up_119 Nat.zero_lt_one (by show _ < 48; first | assumption | omega | (have := hu.2.2.1 a; omega) | (have := hu.2.2.2.2.1 a; omega) | (have := hu.2.2.2.2.1 b; omega)) ?_
                  try simp only [un_1, un_2, ui_1, ui_2, ui_3, ul_1, ul_2, ul_3, ul_4, ur_1, ur_2, ur_3, ur_4, Nat.reduceEqDiff, false_and, and_false, true_and, and_true, and_self, reduceIte]
                  refine ow_sI (pc := 120) hX rfl d_M_up_120 Nat.zero_lt_one (by show _ < 72; first | assumption | omega | (have := hu.2.2.1 a; omega) | (have := hu.2.2.2.2.1 a; omega) | (have := hu.2.2.2.2.1 b; omega)) ?_
                  refine ow_iload_n (pc := 121) hX d_M_up_121 rfl ?_
                  refine ow_nz_ne (pc := 122) (tgt := 153) hX d_M_up_122 (by decide) (by first | assumption | omega | (have := hu.2.2.1 a; omega) | (have := hu.2.2.2.2.1 a; omega) | (have := hu.2.2.2.2.1 b; omega)) (fun h122 => ?_) (fun h122 => ?_)
                  · skip
                    exact absurd h122 (by decide)
                  · skip
                    refine ow_aload_n (pc := 125) hX d_M_up_125 rfl ?_
                    refine ow_aload_n (pc := 126) hX d_M_up_126 rfl ?_
                    refine ow_gR (pc := 127) hX (kd_M Y n s c) 20 d_M_up_127 kw_521 rfl Nat.zero_lt_one ?_
                    refine ow_iload (pc := 130) hX d_M_up_130 rfl ?_
                    refine ow_aN (pc := 132) hX rfl d_M_up_132 Nat.zero_lt_one (by show _ < 48; first | assumption | omega | (have := hu.2.2.1 a; omega) | (have := hu.2.2.2.2.1 a; omega) | (have := hu.2.2.2.2.1 b; omega)) ?_
                    try simp only [un_1, un_2, ui_1, ui_2, ui_3, ul_1, ul_2, ul_3, ul_4, ur_1, ur_2, ur_3, ur_4, Nat.reduceEqDiff, false_and, and_false, true_and, and_true, and_self, reduceIte]
                    refine ow_aload_n (pc := 133) hX d_M_up_133 rfl ?_
                    refine ow_gR (pc := 134) hX (kd_M Y n s c) 21 d_M_up_134 kw_522 rfl Nat.zero_lt_one ?_
                    refine ow_iload (pc := 137) hX d_M_up_137 rfl ?_
                    refine ow_aI (pc := 139) hX rfl d_M_up_139 Nat.zero_lt_one (by show _ < 48; first | assumption | omega | (have := hu.2.2.1 a; omega) | (have := hu.2.2.2.2.1 a; omega) | (have := hu.2.2.2.2.1 b; omega)) ?_
                    try simp only [un_1, un_2, ui_1, ui_2, ui_3, ul_1, ul_2, ul_3, ul_4, ur_1, ur_2, ur_3, ur_4, Nat.reduceEqDiff, false_and, and_false, true_and, and_true, and_self, reduceIte]
                    refine ow_aload_n (pc := 140) hX d_M_up_140 rfl ?_
                    refine ow_gR (pc := 141) hX (kd_M Y n s c) 22 d_M_up_141 kw_523 rfl Nat.zero_lt_one ?_
                    refine ow_iload (pc := 144) hX d_M_up_144 rfl ?_
                    refine ow_aI (pc := 146) hX rfl d_M_up_146 Nat.zero_lt_one (by show _ < 48; first | assumption | omega | (have := hu.2.2.1 a; omega) | (have := hu.2.2.2.2.1 a; omega) | (have := hu.2.2.2.2.1 b; omega)) ?_
                    try simp only [un_1, un_2, ui_1, ui_2, ui_3, ul_1, ul_2, ul_3, ul_4, ur_1, ur_2, ur_3, ur_4, Nat.reduceEqDiff, false_and, and_false, true_and, and_true, and_self, reduceIte]
                    refine ow_callV (pc := 147) hX (kd_M Y n s c) Nat.zero_lt_one (c_M_cache _ Y n s c hV _ _ _ _ he hn hu) (cw_V hX mz_M_cache kw_710 ⟨rfl, rfl⟩ (by decide)) rfl (Nat.le_of_ble_eq_true rfl) d_M_up_147 rfl ?_
                    refine ow_goto (pc := 150) (tgt := 179) hX d_M_up_150 (by decide) ?_
                    first | (refine ow_t (v' := km_up2 0 (ui u 0 0 4 (u.2.1 0 0 4 + nI 1)) a _ ch) (by unfold km_up; rw [if_neg h6, if_neg h15]; unfold km_up1; rw [if_pos hh]) ?_; refine ow_loc (l2 := [(0, _), (1, _), (2, _), (3, _), (5, _)]) (fun q hq => by simp only [List.mem_cons, List.not_mem_nil, or_false] at hq ⊢; rcases hq with rfl | rfl | rfl | rfl | rfl <;> simp) (w_M_up0 Y n s c hX hV (ui u 0 0 4 (u.2.1 0 0 4 + nI 1)) a _ ch ha hb hch hu1)) | (have hS := km_su_a (u := (ui u 0 0 4 (u.2.1 0 0 4 + nI 1))) h75; have hw3 := hw2; rw [hS] at hw3 hge; refine ow_t (v' := km_up2 1 _ a _ ch) (by unfold km_up; rw [if_neg h6, if_neg h15]; unfold km_up1; rw [if_neg (by rw [hh]; decide), hS] <;> rfl) ?_; refine ow_loc (l2 := [(0, _), (1, _), (2, _), (3, _), (5, _)]) (fun q hq => by simp only [List.mem_cons, List.not_mem_nil, or_false] at hq ⊢; rcases hq with rfl | rfl | rfl | rfl | rfl <;> simp) (w_M_up1 Y n s c hX hV _ a _ ch ha hb hch hw3 (Nat.le_trans (by omega) hge))) | (have hS := km_su_b (u := (ui u 0 0 4 (u.2.1 0 0 4 + nI 1))) h75 rfl; have hw3 := hw2; rw [hS] at hw3 hge; refine ow_t (v' := km_up2 1 _ a _ ch) (by unfold km_up; rw [if_neg h6, if_neg h15]; unfold km_up1; rw [if_neg (by rw [hh]; decide), hS] <;> rfl) ?_; refine ow_loc (l2 := [(0, _), (1, _), (2, _), (3, _), (5, _)]) (fun q hq => by simp only [List.mem_cons, List.not_mem_nil, or_false] at hq ⊢; rcases hq with rfl | rfl | rfl | rfl | rfl <;> simp) (w_M_up1 Y n s c hX hV _ a _ ch ha hb hch hw3 (Nat.le_trans (by omega) hge))) | (have hS := km_su_c (u := (ui u 0 0 4 (u.2.1 0 0 4 + nI 1))) h75 hb0 h101; have hw3 := hw2; rw [hS] at hw3 hge; refine ow_t (v' := km_up2 1 _ a _ ch) (by unfold km_up; rw [if_neg h6, if_neg h15]; unfold km_up1; rw [if_neg (by rw [hh]; decide), hS] <;> rfl) ?_; refine ow_loc (l2 := [(0, _), (1, _), (2, _), (3, _), (5, _)]) (fun q hq => by simp only [List.mem_cons, List.not_mem_nil, or_false] at hq ⊢; rcases hq with rfl | rfl | rfl | rfl | rfl <;> simp) (w_M_up1 Y n s c hX hV _ a _ ch ha hb hch hw3 (Nat.le_trans (by omega) hge))) | (have hS := km_su_d (u := (ui u 0 0 4 (u.2.1 0 0 4 + nI 1))) h75 hb0 h101; have hw3 := hw2; rw [hS] at hw3 hge; refine ow_t (v' := km_up2 0 _ a _ ch) (by unfold km_up; rw [if_neg h6, if_neg h15]; unfold km_up1; rw [if_neg (by rw [hh]; decide), hS] <;> rfl) ?_; refine ow_loc (l2 := [(0, _), (1, _), (2, _), (3, _), (5, _)]) (fun q hq => by simp only [List.mem_cons, List.not_mem_nil, or_false] at hq ⊢; rcases hq with rfl | rfl | rfl | rfl | rfl <;> simp) (w_M_up0 Y n s c hX hV _ a _ ch ha hb hch hw3))
                · skip
                  exact absurd h91 (by decide)
              · skip
                refine ow_iload_n (pc := 90) hX d_M_up_90 rfl ?_
                refine ow_nz_eq (pc := 91) (tgt := 104) hX d_M_up_91 (by decide) (by first | assumption | omega | (have := hu.2.2.1 a; omega) | (have := hu.2.2.2.2.1 a; omega) | (have := hu.2.2.2.2.1 b; omega)) (fun h91 => ?_) (fun h91 => ?_)
                · skip
                  exact absurd h91 hb0
                · skip
                  refine ow_aload_n (pc := 94) hX d_M_up_94 rfl ?_
                  refine ow_gR (pc := 95) hX (kd_M Y n s c) 19 d_M_up_95 kw_520 rfl Nat.zero_lt_one ?_
                  refine ow_iload_n (pc := 98) hX d_M_up_98 rfl ?_
                  refine ow_aN (pc := 99) hX rfl d_M_up_99 Nat.zero_lt_one (by show _ < 12; first | assumption | omega | (have := hu.2.2.1 a; omega) | (have := hu.2.2.2.2.1 a; omega) | (have := hu.2.2.2.2.1 b; omega)) ?_
                  try simp only [un_1, un_2, ui_1, ui_2, ui_3, ul_1, ul_2, ul_3, ul_4, ur_1, ur_2, ur_3, ur_4, Nat.reduceEqDiff, false_and, and_false, true_and, and_true, and_self, reduceIte]
                  refine ow_iconst (pc := 100) (v := nI 4) hX d_M_up_100 (by decide) ?_
                  refine ow_nc_ge (pc := 101) (tgt := 179) hX d_M_up_101 (by decide) (by first | assumption | omega | (have := hu.2.2.1 a; omega) | (have := hu.2.2.2.2.1 a; omega) | (have := hu.2.2.2.2.1 b; omega)) (by first | assumption | omega | (have := hu.2.2.1 a; omega) | (have := hu.2.2.2.2.1 a; omega) | (have := hu.2.2.2.2.1 b; omega)) (fun h101 => ?_) (fun h101 => ?_)
                  · skip
                    first | (refine ow_t (v' := km_up2 0 (ui u 0 0 4 (u.2.1 0 0 4 + nI 1)) a _ ch) (by unfold km_up; rw [if_neg h6, if_neg h15]; unfold km_up1; rw [if_pos hh]) ?_; refine ow_loc (l2 := [(0, _), (1, _), (2, _), (3, _), (5, _)]) (fun q hq => by simp only [List.mem_cons, List.not_mem_nil, or_false] at hq ⊢; rcases hq with rfl | rfl | rfl | rfl | rfl <;> simp) (w_M_up0 Y n s c hX hV (ui u 0 0 4 (u.2.1 0 0 4 + nI 1)) a _ ch ha hb hch hu1)) | (have hS := km_su_a (u := (ui u 0 0 4 (u.2.1 0 0 4 + nI 1))) h75; have hw3 := hw2; rw [hS] at hw3 hge; refine ow_t (v' := km_up2 1 _ a _ ch) (by unfold km_up; rw [if_neg h6, if_neg h15]; unfold km_up1; rw [if_neg (by rw [hh]; decide), hS] <;> rfl) ?_; refine ow_loc (l2 := [(0, _), (1, _), (2, _), (3, _), (5, _)]) (fun q hq => by simp only [List.mem_cons, List.not_mem_nil, or_false] at hq ⊢; rcases hq with rfl | rfl | rfl | rfl | rfl <;> simp) (w_M_up1 Y n s c hX hV _ a _ ch ha hb hch hw3 (Nat.le_trans (by omega) hge))) | (have hS := km_su_b (u := (ui u 0 0 4 (u.2.1 0 0 4 + nI 1))) h75 rfl; have hw3 := hw2; rw [hS] at hw3 hge; refine ow_t (v' := km_up2 1 _ a _ ch) (by unfold km_up; rw [if_neg h6, if_neg h15]; unfold km_up1; rw [if_neg (by rw [hh]; decide), hS] <;> rfl) ?_; refine ow_loc (l2 := [(0, _), (1, _), (2, _), (3, _), (5, _)]) (fun q hq => by simp only [List.mem_cons, List.not_mem_nil, or_false] at hq ⊢; rcases hq with rfl | rfl | rfl | rfl | rfl <;> simp) (w_M_up1 Y n s c hX hV _ a _ ch ha hb hch hw3 (Nat.le_trans (by omega) hge))) | (have hS := km_su_c (u := (ui u 0 0 4 (u.2.1 0 0 4 + nI 1))) h75 hb0 h101; have hw3 := hw2; rw [hS] at hw3 hge; refine ow_t (v' := km_up2 1 _ a _ ch) (by unfold km_up; rw [if_neg h6, if_neg h15]; unfold km_up1; rw [if_neg (by rw [hh]; decide), hS] <;> rfl) ?_; refine ow_loc (l2 := [(0, _), (1, _), (2, _), (3, _), (5, _)]) (fun q hq => by simp only [List.mem_cons, List.not_mem_nil, or_false] at hq ⊢; rcases hq with rfl | rfl | rfl | rfl | rfl <;> simp) (w_M_up1 Y n s c hX hV _ a _ ch ha hb hch hw3 (Nat.le_trans (by omega) hge))) | (have hS := km_su_d (u := (ui u 0 0 4 (u.2.1 0 0 4 + nI 1))) h75 hb0 h101; have hw3 := hw2; rw [hS] at hw3 hge; refine ow_t (v' := km_up2 0 _ a _ ch) (by unfold km_up; rw [if_neg h6, if_neg h15]; unfold km_up1; rw [if_neg (by rw [hh]; decide), hS] <;> rfl) ?_; refine ow_loc (l2 := [(0, _), (1, _), (2, _), (3, _), (5, _)]) (fun q hq => by simp only [List.mem_cons, List.not_mem_nil, or_false] at hq ⊢; rcases hq with rfl | rfl | rfl | rfl | rfl <;> simp) (w_M_up0 Y n s c hX hV _ a _ ch ha hb hch hw3))
                  · skip
                    refine ow_iconst (pc := 104) (v := nI 1) hX d_M_up_104 (by decide) ?_
                    refine ow_istore (pc := 105) (l2 := [(0, _), (1, _), (2, _), (3, _), (4, _), (5, _), (6, _)]) hX d_M_up_105 (by decide) rfl rfl ?_
                    refine ow_aload_n (pc := 107) hX d_M_up_107 rfl ?_
                    refine ow_gR (pc := 108) hX (kd_M Y n s c) 25 d_M_up_108 kw_526 rfl Nat.zero_lt_one ?_
                    refine ow_iload (pc := 111) hX d_M_up_111 rfl ?_
                    refine ow_aload_n (pc := 113) hX d_M_up_113 rfl ?_
                    refine ow_gR (pc := 114) hX (kd_M Y n s c) 21 d_M_up_114 kw_522 rfl Nat.zero_lt_one ?_
                    refine ow_iload (pc := 117) hX d_M_up_117 rfl ?_
                    refine ow_aI (pc := 119) hX rfl d_M_up_119 Nat.zero_lt_one (by show _ < 48; first | assumption | omega | (have := hu.2.2.1 a; omega) | (have := hu.2.2.2.2.1 a; omega) | (have := hu.2.2.2.2.1 b; omega)) ?_
                    try simp only [un_1, un_2, ui_1, ui_2, ui_3, ul_1, ul_2, ul_3, ul_4, ur_1, ur_2, ur_3, ur_4, Nat.reduceEqDiff, false_and, and_false, true_and, and_true, and_self, reduceIte]
                    refine ow_sI (pc := 120) hX rfl d_M_up_120 Nat.zero_lt_one (by show _ < 72; first | assumption | omega | (have := hu.2.2.1 a; omega) | (have := hu.2.2.2.2.1 a; omega) | (have := hu.2.2.2.2.1 b; omega)) ?_
                    refine ow_iload_n (pc := 121) hX d_M_up_121 rfl ?_
                    refine ow_nz_ne (pc := 122) (tgt := 153) hX d_M_up_122 (by decide) (by first | assumption | omega | (have := hu.2.2.1 a; omega) | (have := hu.2.2.2.2.1 a; omega) | (have := hu.2.2.2.2.1 b; omega)) (fun h122 => ?_) (fun h122 => ?_)
                    · skip
                      refine ow_aload_n (pc := 153) hX d_M_up_153 rfl ?_
                      refine ow_iload_n (pc := 154) hX d_M_up_154 rfl ?_
                      refine ow_aload_n (pc := 155) hX d_M_up_155 rfl ?_
                      refine ow_gR (pc := 156) hX (kd_M Y n s c) 20 d_M_up_156 kw_521 rfl Nat.zero_lt_one ?_
                      refine ow_iload (pc := 159) hX d_M_up_159 rfl ?_
                      refine ow_aN (pc := 161) hX rfl d_M_up_161 Nat.zero_lt_one (by show _ < 48; first | assumption | omega | (have := hu.2.2.1 a; omega) | (have := hu.2.2.2.2.1 a; omega) | (have := hu.2.2.2.2.1 b; omega)) ?_
                      try simp only [un_1, un_2, ui_1, ui_2, ui_3, ul_1, ul_2, ul_3, ul_4, ur_1, ur_2, ur_3, ur_4, Nat.reduceEqDiff, false_and, and_false, true_and, and_true, and_self, reduceIte]
                      refine ow_aload_n (pc := 162) hX d_M_up_162 rfl ?_
                      refine ow_gR (pc := 163) hX (kd_M Y n s c) 21 d_M_up_163 kw_522 rfl Nat.zero_lt_one ?_
                      refine ow_iload (pc := 166) hX d_M_up_166 rfl ?_
                      refine ow_aI (pc := 168) hX rfl d_M_up_168 Nat.zero_lt_one (by show _ < 48; first | assumption | omega | (have := hu.2.2.1 a; omega) | (have := hu.2.2.2.2.1 a; omega) | (have := hu.2.2.2.2.1 b; omega)) ?_
                      try simp only [un_1, un_2, ui_1, ui_2, ui_3, ul_1, ul_2, ul_3, ul_4, ur_1, ur_2, ur_3, ur_4, Nat.reduceEqDiff, false_and, and_false, true_and, and_true, and_self, reduceIte]
                      refine ow_aload_n (pc := 169) hX d_M_up_169 rfl ?_
                      refine ow_gR (pc := 170) hX (kd_M Y n s c) 22 d_M_up_170 kw_523 rfl Nat.zero_lt_one ?_
                      refine ow_iload (pc := 173) hX d_M_up_173 rfl ?_
                      refine ow_aI (pc := 175) hX rfl d_M_up_175 Nat.zero_lt_one (by show _ < 48; first | assumption | omega | (have := hu.2.2.1 a; omega) | (have := hu.2.2.2.2.1 a; omega) | (have := hu.2.2.2.2.1 b; omega)) ?_
                      try simp only [un_1, un_2, ui_1, ui_2, ui_3, ul_1, ul_2, ul_3, ul_4, ur_1, ur_2, ur_3, ur_4, Nat.reduceEqDiff, false_and, and_false, true_and, and_true, and_self, reduceIte]
                      refine ow_callV (pc := 176) hX (kd_M Y n s c) Nat.zero_lt_one (c_M_add _ Y n s c hV _ b _ _ _ (by omega) h101) (cw_V hX mz_M_add kw_663 ⟨rfl, rfl⟩ (by decide)) rfl (Nat.le_of_ble_eq_true rfl) d_M_up_176 rfl ?_
                      first | (refine ow_t (v' := km_up2 0 (ui u 0 0 4 (u.2.1 0 0 4 + nI 1)) a _ ch) (by unfold km_up; rw [if_neg h6, if_neg h15]; unfold km_up1; rw [if_pos hh]) ?_; refine ow_loc (l2 := [(0, _), (1, _), (2, _), (3, _), (5, _)]) (fun q hq => by simp only [List.mem_cons, List.not_mem_nil, or_false] at hq ⊢; rcases hq with rfl | rfl | rfl | rfl | rfl <;> simp) (w_M_up0 Y n s c hX hV (ui u 0 0 4 (u.2.1 0 0 4 + nI 1)) a _ ch ha hb hch hu1)) | (have hS := km_su_a (u := (ui u 0 0 4 (u.2.1 0 0 4 + nI 1))) h75; have hw3 := hw2; rw [hS] at hw3 hge; refine ow_t (v' := km_up2 1 _ a _ ch) (by unfold km_up; rw [if_neg h6, if_neg h15]; unfold km_up1; rw [if_neg (by rw [hh]; decide), hS] <;> rfl) ?_; refine ow_loc (l2 := [(0, _), (1, _), (2, _), (3, _), (5, _)]) (fun q hq => by simp only [List.mem_cons, List.not_mem_nil, or_false] at hq ⊢; rcases hq with rfl | rfl | rfl | rfl | rfl <;> simp) (w_M_up1 Y n s c hX hV _ a _ ch ha hb hch hw3 (Nat.le_trans (by omega) hge))) | (have hS := km_su_b (u := (ui u 0 0 4 (u.2.1 0 0 4 + nI 1))) h75 rfl; have hw3 := hw2; rw [hS] at hw3 hge; refine ow_t (v' := km_up2 1 _ a _ ch) (by unfold km_up; rw [if_neg h6, if_neg h15]; unfold km_up1; rw [if_neg (by rw [hh]; decide), hS] <;> rfl) ?_; refine ow_loc (l2 := [(0, _), (1, _), (2, _), (3, _), (5, _)]) (fun q hq => by simp only [List.mem_cons, List.not_mem_nil, or_false] at hq ⊢; rcases hq with rfl | rfl | rfl | rfl | rfl <;> simp) (w_M_up1 Y n s c hX hV _ a _ ch ha hb hch hw3 (Nat.le_trans (by omega) hge))) | (have hS := km_su_c (u := (ui u 0 0 4 (u.2.1 0 0 4 + nI 1))) h75 hb0 h101; have hw3 := hw2; rw [hS] at hw3 hge; refine ow_t (v' := km_up2 1 _ a _ ch) (by unfold km_up; rw [if_neg h6, if_neg h15]; unfold km_up1; rw [if_neg (by rw [hh]; decide), hS] <;> rfl) ?_; refine ow_loc (l2 := [(0, _), (1, _), (2, _), (3, _), (5, _)]) (fun q hq => by simp only [List.mem_cons, List.not_mem_nil, or_false] at hq ⊢; rcases hq with rfl | rfl | rfl | rfl | rfl <;> simp) (w_M_up1 Y n s c hX hV _ a _ ch ha hb hch hw3 (Nat.le_trans (by omega) hge))) | (have hS := km_su_d (u := (ui u 0 0 4 (u.2.1 0 0 4 + nI 1))) h75 hb0 h101; have hw3 := hw2; rw [hS] at hw3 hge; refine ow_t (v' := km_up2 0 _ a _ ch) (by unfold km_up; rw [if_neg h6, if_neg h15]; unfold km_up1; rw [if_neg (by rw [hh]; decide), hS] <;> rfl) ?_; refine ow_loc (l2 := [(0, _), (1, _), (2, _), (3, _), (5, _)]) (fun q hq => by simp only [List.mem_cons, List.not_mem_nil, or_false] at hq ⊢; rcases hq with rfl | rfl | rfl | rfl | rfl <;> simp) (w_M_up0 Y n s c hX hV _ a _ ch ha hb hch hw3))
                    · skip
                      exact absurd h122 hb0
          · skip
            refine ow_iconst (pc := 78) (v := nI 1) hX d_M_up_78 (by decide) ?_
            refine ow_goto (pc := 79) (tgt := 83) hX d_M_up_79 (by decide) ?_
            refine ow_istore (pc := 83) (l2 := [(0, _), (1, _), (2, _), (3, _), (4, _), (5, _), (6, _)]) hX d_M_up_83 (by decide) rfl rfl ?_
            refine ow_iload (pc := 85) hX d_M_up_85 rfl ?_
            refine ow_nz_ne (pc := 87) (tgt := 179) hX d_M_up_87 (by decide) (by first | assumption | omega | (have := hu.2.2.1 a; omega) | (have := hu.2.2.2.2.1 a; omega) | (have := hu.2.2.2.2.1 b; omega)) (fun h87 => ?_) (fun h87 => ?_)
            · skip
              first | (refine ow_t (v' := km_up2 0 (ui u 0 0 4 (u.2.1 0 0 4 + nI 1)) a _ ch) (by unfold km_up; rw [if_neg h6, if_neg h15]; unfold km_up1; rw [if_pos hh]) ?_; refine ow_loc (l2 := [(0, _), (1, _), (2, _), (3, _), (5, _)]) (fun q hq => by simp only [List.mem_cons, List.not_mem_nil, or_false] at hq ⊢; rcases hq with rfl | rfl | rfl | rfl | rfl <;> simp) (w_M_up0 Y n s c hX hV (ui u 0 0 4 (u.2.1 0 0 4 + nI 1)) a _ ch ha hb hch hu1)) | (have hS := km_su_a (u := (ui u 0 0 4 (u.2.1 0 0 4 + nI 1))) h75; have hw3 := hw2; rw [hS] at hw3 hge; refine ow_t (v' := km_up2 1 _ a _ ch) (by unfold km_up; rw [if_neg h6, if_neg h15]; unfold km_up1; rw [if_neg (by rw [hh]; decide), hS] <;> rfl) ?_; refine ow_loc (l2 := [(0, _), (1, _), (2, _), (3, _), (5, _)]) (fun q hq => by simp only [List.mem_cons, List.not_mem_nil, or_false] at hq ⊢; rcases hq with rfl | rfl | rfl | rfl | rfl <;> simp) (w_M_up1 Y n s c hX hV _ a _ ch ha hb hch hw3 (Nat.le_trans (by omega) hge))) | (have hS := km_su_b (u := (ui u 0 0 4 (u.2.1 0 0 4 + nI 1))) h75 rfl; have hw3 := hw2; rw [hS] at hw3 hge; refine ow_t (v' := km_up2 1 _ a _ ch) (by unfold km_up; rw [if_neg h6, if_neg h15]; unfold km_up1; rw [if_neg (by rw [hh]; decide), hS] <;> rfl) ?_; refine ow_loc (l2 := [(0, _), (1, _), (2, _), (3, _), (5, _)]) (fun q hq => by simp only [List.mem_cons, List.not_mem_nil, or_false] at hq ⊢; rcases hq with rfl | rfl | rfl | rfl | rfl <;> simp) (w_M_up1 Y n s c hX hV _ a _ ch ha hb hch hw3 (Nat.le_trans (by omega) hge))) | (have hS := km_su_c (u := (ui u 0 0 4 (u.2.1 0 0 4 + nI 1))) h75 hb0 h101; have hw3 := hw2; rw [hS] at hw3 hge; refine ow_t (v' := km_up2 1 _ a _ ch) (by unfold km_up; rw [if_neg h6, if_neg h15]; unfold km_up1; rw [if_neg (by rw [hh]; decide), hS] <;> rfl) ?_; refine ow_loc (l2 := [(0, _), (1, _), (2, _), (3, _), (5, _)]) (fun q hq => by simp only [List.mem_cons, List.not_mem_nil, or_false] at hq ⊢; rcases hq with rfl | rfl | rfl | rfl | rfl <;> simp) (w_M_up1 Y n s c hX hV _ a _ ch ha hb hch hw3 (Nat.le_trans (by omega) hge))) | (have hS := km_su_d (u := (ui u 0 0 4 (u.2.1 0 0 4 + nI 1))) h75 hb0 h101; have hw3 := hw2; rw [hS] at hw3 hge; refine ow_t (v' := km_up2 0 _ a _ ch) (by unfold km_up; rw [if_neg h6, if_neg h15]; unfold km_up1; rw [if_neg (by rw [hh]; decide), hS] <;> rfl) ?_; refine ow_loc (l2 := [(0, _), (1, _), (2, _), (3, _), (5, _)]) (fun q hq => by simp only [List.mem_cons, List.not_mem_nil, or_false] at hq ⊢; rcases hq with rfl | rfl | rfl | rfl | rfl <;> simp) (w_M_up0 Y n s c hX hV _ a _ ch ha hb hch hw3))
            · skip
              exact absurd h87 (by decide)
    · skip
      exact ow_vret (pc := 18) hX d_M_up_18 rfl (by unfold km_up; first | (rw [if_pos h6]; done) | (rw [if_neg h6, if_pos h15]; done))
