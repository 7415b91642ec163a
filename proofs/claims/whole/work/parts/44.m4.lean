/-! SlottedMeshModel: down, slot, run (by program, wip/whole/gen/m4.py) -/
theorem km_sd_a {u : UU} {q b : Nat} (h : ¬ u.2.1 20 0 (36 + 6 * b + u.1 15 0 q) < u.2.1 16 0 q) : km_setDn u q b = (1, u) := by unfold km_setDn; rw [if_neg h]
theorem km_sd_b {u : UU} {q b : Nat} (h : u.2.1 20 0 (36 + 6 * b + u.1 15 0 q) < u.2.1 16 0 q) (hb : u.1 15 0 q = b) : km_setDn u q b = (1, ui (ui u 20 0 (36 + 6 * b + u.1 15 0 q) (u.2.1 16 0 q)) 28 0 b (u.2.1 17 0 q)) := by unfold km_setDn; rw [if_pos h, if_pos hb]
theorem km_sd_c {u : UU} {q b : Nat} (h : u.2.1 20 0 (36 + 6 * b + u.1 15 0 q) < u.2.1 16 0 q) (hb : ¬ u.1 15 0 q = b) (h4 : u.1 14 0 (6 + b) < 4) : km_setDn u q b = (1, km_add (ui u 20 0 (36 + 6 * b + u.1 15 0 q) (u.2.1 16 0 q)) (6 + b) (u.1 15 0 q) (u.2.1 16 0 q) (u.2.1 17 0 q)) := by unfold km_setDn; rw [if_pos h, if_neg hb, if_pos h4]
theorem km_sd_d {u : UU} {q b : Nat} (h : u.2.1 20 0 (36 + 6 * b + u.1 15 0 q) < u.2.1 16 0 q) (hb : ¬ u.1 15 0 q = b) (h4 : 4 ≤ u.1 14 0 (6 + b)) : km_setDn u q b = (0, u) := by unfold km_setDn; rw [if_pos h, if_neg hb, if_neg (Nat.not_lt.mpr h4)]
set_option maxRecDepth 100000 in
set_option maxHeartbeats 4000000 in
theorem w_M_dnF {X : OX} (Y : YY) (n s c : Nat) (hX : ox X (vM Y n s c) (rd 2) b_M_down 8 "SlottedMeshModel" gz none) (hV : pv_ok (vM Y n s c)) (w : UU) (a : Nat) (ha : a < 6) (hf : w.1 19 0 a ≤ 5) (hm : 1 ≤ w.1 14 0 (6 + a)) (h4 : w.1 14 0 (6 + a) ≤ 4) : ow X (vM Y n s c) none (km_failDn w a) w [(0, .ref (pv_ad (vM Y n s c) 0 0)), (1, .int (nI a)), (4, .int (nI (6 + a)))] 260 [] := by
  refine ow_aload_n (pc := 260) hX d_M_down_260 rfl ?_
  refine ow_gR (pc := 261) hX (kd_M Y n s c) 24 d_M_down_261 kw_525 rfl Nat.zero_lt_one ?_
  refine ow_iload_n (pc := 264) hX d_M_down_264 rfl ?_
  refine ow_dup2 (pc := 265) hX d_M_down_265 rfl rfl ?_
  refine ow_aN (pc := 266) hX rfl d_M_down_266 Nat.zero_lt_one (by show _ < 6; first | assumption | omega) ?_
  refine ow_iconst (pc := 267) (v := nI 1) hX d_M_down_267 (by decide) ?_
  refine ow_addn (pc := 268) hX d_M_down_268 ?_
  refine ow_sN (pc := 269) hX rfl d_M_down_269 Nat.zero_lt_one (by show _ < 6; first | assumption | omega) ?_
  refine ow_aload_n (pc := 270) hX d_M_down_270 rfl ?_
  refine ow_gR (pc := 271) hX (kd_M Y n s c) 24 d_M_down_271 kw_525 rfl Nat.zero_lt_one ?_
  refine ow_iload_n (pc := 274) hX d_M_down_274 rfl ?_
  refine ow_aN (pc := 275) hX rfl d_M_down_275 Nat.zero_lt_one (by show _ < 6; first | assumption | omega) ?_
  try simp only [un_1, un_2, ui_1, ui_2, ui_3, ul_1, ul_2, ul_3, ul_4, ur_1, ur_2, ur_3, ur_4, Nat.reduceEqDiff, false_and, and_false, true_and, and_true, and_self, reduceIte]
  refine ow_bipush (pc := 276) (v := nI 6) hX d_M_down_276 (by decide) ?_
  refine ow_nc_ne (pc := 278) (tgt := 294) hX d_M_down_278 (by decide) (by first | assumption | omega) (by first | assumption | omega) (fun h278 => ?_) (fun h278 => ?_)
  · skip
    exact ow_vret (pc := 294) hX d_M_down_294 rfl (by first | (unfold km_failDn; rw [if_pos h278]; done) | (unfold km_failDn; rw [if_neg h278]; done))
  · skip
    refine ow_aload_n (pc := 281) hX d_M_down_281 rfl ?_
    refine ow_iload (pc := 282) hX d_M_down_282 rfl ?_
    refine ow_callV (pc := 284) hX (kd_M Y n s c) Nat.zero_lt_one (c_M_leave _ Y n s c hV _ (6 + a) (by omega) (by simpa [un_1] using hm) (by simpa [un_1] using h4)) (cw_V hX mz_M_leave kw_702 ⟨rfl, rfl⟩ (by decide)) rfl (Nat.le_of_ble_eq_true rfl) d_M_down_284 rfl ?_
    refine ow_aload_n (pc := 287) hX d_M_down_287 rfl ?_
    refine ow_gR (pc := 288) hX (kd_M Y n s c) 24 d_M_down_288 kw_525 rfl Nat.zero_lt_one ?_
    refine ow_iload_n (pc := 291) hX d_M_down_291 rfl ?_
    refine ow_iconst (pc := 292) (v := nI 0) hX d_M_down_292 (by decide) ?_
    refine ow_sN (pc := 293) hX rfl d_M_down_293 Nat.zero_lt_one (by show _ < 6; first | assumption | omega) ?_
    exact ow_vret (pc := 294) hX d_M_down_294 rfl (by first | (unfold km_failDn; rw [if_pos h278]; done) | (unfold km_failDn; rw [if_neg h278]; done))
set_option maxRecDepth 100000 in
set_option maxHeartbeats 4000000 in
theorem w_M_dn0 {X : OX} (Y : YY) (n s c : Nat) (hX : ox X (vM Y n s c) (rd 2) b_M_down 8 "SlottedMeshModel" gz none) (hV : pv_ok (vM Y n s c)) (w : UU) (a ch : Nat) (ha : a < 6) (hch : ch < 4) (hw : wm n w) (hm : 1 ≤ w.1 14 0 (6 + a)) : ow X (vM Y n s c) none (km_dn2 0 w a ch) w [(0, .ref (pv_ad (vM Y n s c) 0 0)), (1, .int (nI a)), (3, .int (nI ch)), (4, .int (nI (6 + a))), (6, .int (nI 0))] 225 [] := by
  refine ow_iload (pc := 225) hX d_M_down_225 rfl ?_
  refine ow_nz_eq (pc := 227) (tgt := 260) hX d_M_down_227 (by decide) (by first | assumption | omega) (fun h227 => ?_) (fun h227 => ?_)
  · skip
    refine ow_t (v' := km_failDn w a) rfl ?_
    refine ow_loc (l2 := [(0, _), (1, _), (4, _)]) (fun q hq => by simp only [List.mem_cons, List.not_mem_nil, or_false] at hq ⊢; rcases hq with rfl | rfl | rfl <;> simp) (w_M_dnF Y n s c hX hV w a ha (hw.2.2.2.2.2.2.2.1 a) hm (hw.2.2.2.2.1 _))
  · skip
    exact absurd h227 (by decide)
set_option maxRecDepth 100000 in
set_option maxHeartbeats 4000000 in
theorem w_M_dn1 {X : OX} (Y : YY) (n s c : Nat) (hX : ox X (vM Y n s c) (rd 2) b_M_down 8 "SlottedMeshModel" gz none) (hV : pv_ok (vM Y n s c)) (w : UU) (a ch : Nat) (ha : a < 6) (hch : ch < 4) (hw : wm n w) (hm : 1 ≤ w.1 14 0 (6 + a)) : ow X (vM Y n s c) none (km_dn2 1 w a ch) w [(0, .ref (pv_ad (vM Y n s c) 0 0)), (1, .int (nI a)), (3, .int (nI ch)), (4, .int (nI (6 + a))), (6, .int (nI 1))] 225 [] := by
  refine ow_iload (pc := 225) hX d_M_down_225 rfl ?_
  refine ow_nz_eq (pc := 227) (tgt := 260) hX d_M_down_227 (by decide) (by first | assumption | omega | exact Nat.lt_of_le_of_lt (kbitm_le _ _) (by decide)) (fun h227 => ?_) (fun h227 => ?_)
  · skip
    exact absurd h227 (by decide)
  · skip
    refine ow_aload_n (pc := 230) hX d_M_down_230 rfl ?_
    refine ow_gR (pc := 231) hX (kd_M Y n s c) 11 d_M_down_231 kw_512 rfl Nat.zero_lt_one ?_
    refine ow_iload_n (pc := 234) hX d_M_down_234 rfl ?_
    refine ow_aL (pc := 235) hX rfl d_M_down_235 Nat.zero_lt_one (by show _ < 4; first | assumption | omega | exact Nat.lt_of_le_of_lt (kbitm_le _ _) (by decide)) ?_
    refine ow_aload_n (pc := 236) hX d_M_down_236 rfl ?_
    refine ow_gN (pc := 237) hX (kd_M Y n s c) 3 d_M_down_237 kw_504 rfl Nat.zero_lt_one ?_
    refine ow_callS (pc := 240) hX (c_M_bit _ Y n s c hV w _ _ (by have := hw.2.2.2.2.2.2.2.2.2.2; omega)) (cw_S hX mz_M_bit kw_683 ⟨rfl, rfl⟩ (by decide)) rfl (Nat.le_of_ble_eq_true rfl) d_M_down_240 rfl ?_
    refine ow_nz_eq (pc := 243) (tgt := 260) hX d_M_down_243 (by decide) (by first | assumption | omega | exact Nat.lt_of_le_of_lt (kbitm_le _ _) (by decide)) (fun h243 => ?_) (fun h243 => ?_)
    · skip
      refine ow_t (v' := km_failDn w a) (by unfold km_dn2; rw [if_neg (by decide), if_pos h243]) ?_
      refine ow_loc (l2 := [(0, _), (1, _), (4, _)]) (fun q hq => by simp only [List.mem_cons, List.not_mem_nil, or_false] at hq ⊢; rcases hq with rfl | rfl | rfl <;> simp) (w_M_dnF Y n s c hX hV w a ha (hw.2.2.2.2.2.2.2.1 a) hm (hw.2.2.2.2.1 _))
    · skip
      refine ow_aload_n (pc := 246) hX d_M_down_246 rfl ?_
      refine ow_iload (pc := 247) hX d_M_down_247 rfl ?_
      refine ow_callV (pc := 249) hX (kd_M Y n s c) Nat.zero_lt_one (c_M_leave _ Y n s c hV w (6 + a) (by omega) hm (hw.2.2.2.2.1 _)) (cw_V hX mz_M_leave kw_702 ⟨rfl, rfl⟩ (by decide)) rfl (Nat.le_of_ble_eq_true rfl) d_M_down_249 rfl ?_
      refine ow_aload_n (pc := 252) hX d_M_down_252 rfl ?_
      refine ow_gR (pc := 253) hX (kd_M Y n s c) 24 d_M_down_253 kw_525 rfl Nat.zero_lt_one ?_
      refine ow_iload_n (pc := 256) hX d_M_down_256 rfl ?_
      refine ow_iconst (pc := 257) (v := nI 0) hX d_M_down_257 (by decide) ?_
      refine ow_sN (pc := 258) hX rfl d_M_down_258 Nat.zero_lt_one (by show _ < 6; first | assumption | omega | exact Nat.lt_of_le_of_lt (kbitm_le _ _) (by decide)) ?_
      exact ow_vret (pc := 259) hX d_M_down_259 rfl (by unfold km_dn2; rw [if_neg (by decide), if_neg h243])
set_option maxRecDepth 100000 in
set_option maxHeartbeats 4000000 in
theorem c_M_down (l : Launch) (Y : YY) (n s c : Nat) (hV : pv_ok (vM Y n s c)) (u : UU) (a b ch : Nat) (ha : a < 6) (hb : b < 6) (hch : ch < 4) (hn : n ≤ 6) (hu : wm n u) (pa : Nat → Option Nat) (hpa : ∀ i, i < 6 → u.2.1 9 0 (2 * i) = io (pa i)) (hp1 : ∀ i a, pa i = some a → a < 6) : Ct l (vM Y n s c) ⟨"SlottedMeshModel", "down", "(III)V"⟩ (wz ⟨"SlottedMeshModel", "down", "(III)V"⟩ b_M_down 8 none) (rd 2) [.ref (pv_ad (vM Y n s c) 0 0), .int (nI a), .int (nI b), .int (nI ch)] u none (km_down pa u a b ch) := by
  refine ct_mk hV (by decide +kernel) (Nat.le_of_ble_eq_true rfl) (fun X hX => ?_)
  have hX : ox X (vM Y n s c) (rd 2) b_M_down 8 "SlottedMeshModel" gz none := hX
  show ow X (vM Y n s c) none (km_down pa u a b ch) u [(0, .ref (pv_ad (vM Y n s c) 0 0)), (1, .int (nI a)), (2, .int (nI b)), (3, .int (nI ch))] 0 []
  have he := hu.2.2.2.2.2.1 (4 * (6 + a))
  refine ow_bipush (pc := 0) (v := nI 6) hX d_M_down_0 (by decide) ?_
  refine ow_iload_n (pc := 2) hX d_M_down_2 rfl ?_
  refine ow_addn (pc := 3) hX d_M_down_3 ?_
  refine ow_istore (pc := 4) (l2 := [(0, _), (1, _), (2, _), (3, _), (4, _)]) hX d_M_down_4 (by decide) rfl rfl ?_
  refine ow_iconst (pc := 6) (v := nI 4) hX d_M_down_6 (by decide) ?_
  refine ow_iload (pc := 7) hX d_M_down_7 rfl ?_
  refine ow_muln (pc := 9) hX d_M_down_9 ?_
  refine ow_istore (pc := 10) (l2 := [(0, _), (1, _), (2, _), (3, _), (4, _), (5, _)]) hX d_M_down_10 (by decide) rfl rfl ?_
  refine ow_aload_n (pc := 12) hX d_M_down_12 rfl ?_
  refine ow_gR (pc := 13) hX (kd_M Y n s c) 7 d_M_down_13 kw_508 rfl Nat.zero_lt_one ?_
  refine ow_iload_n (pc := 16) hX d_M_down_16 rfl ?_
  refine ow_aZ (pc := 17) hX rfl d_M_down_17 Nat.zero_lt_one (by show _ < 6; first | assumption | omega | (have := hu.2.2.1 a; omega) | (have := hu.2.2.2.2.1 (6 + a); omega) | (have := hu.2.2.2.2.1 (6 + b); omega) | exact Nat.lt_of_le_of_lt (kbel_le _ _ _ _) (by decide)) ?_
  refine ow_nz_eq (pc := 18) (tgt := 46) hX d_M_down_18 (by decide) (by first | assumption | omega | (have := hu.2.2.1 a; omega) | (have := hu.2.2.2.2.1 (6 + a); omega) | (have := hu.2.2.2.2.1 (6 + b); omega) | exact Nat.lt_of_le_of_lt (kbel_le _ _ _ _) (by decide)) (fun h18 => ?_) (fun h18 => ?_)
  · skip
    exact ow_vret (pc := 46) hX d_M_down_46 rfl (by unfold km_down; first | (rw [if_pos h18]; done) | (rw [if_neg h18, if_pos h28]; done) | (rw [if_neg h18, if_neg h28, if_pos h43]; done))
  · skip
    refine ow_aload_n (pc := 21) hX d_M_down_21 rfl ?_
    refine ow_gR (pc := 22) hX (kd_M Y n s c) 19 d_M_down_22 kw_520 rfl Nat.zero_lt_one ?_
    refine ow_iload (pc := 25) hX d_M_down_25 rfl ?_
    refine ow_aN (pc := 27) hX rfl d_M_down_27 Nat.zero_lt_one (by show _ < 12; first | assumption | omega | (have := hu.2.2.1 a; omega) | (have := hu.2.2.2.2.1 (6 + a); omega) | (have := hu.2.2.2.2.1 (6 + b); omega) | exact Nat.lt_of_le_of_lt (kbel_le _ _ _ _) (by decide)) ?_
    refine ow_nz_eq (pc := 28) (tgt := 46) hX d_M_down_28 (by decide) (by first | assumption | omega | (have := hu.2.2.1 a; omega) | (have := hu.2.2.2.2.1 (6 + a); omega) | (have := hu.2.2.2.2.1 (6 + b); omega) | exact Nat.lt_of_le_of_lt (kbel_le _ _ _ _) (by decide)) (fun h28 => ?_) (fun h28 => ?_)
    · skip
      exact ow_vret (pc := 46) hX d_M_down_46 rfl (by unfold km_down; first | (rw [if_pos h18]; done) | (rw [if_neg h18, if_pos h28]; done) | (rw [if_neg h18, if_neg h28, if_pos h43]; done))
    · skip
      refine ow_aload_n (pc := 31) hX d_M_down_31 rfl ?_
      refine ow_aload_n (pc := 32) hX d_M_down_32 rfl ?_
      refine ow_gR (pc := 33) hX (kd_M Y n s c) 20 d_M_down_33 kw_521 rfl Nat.zero_lt_one ?_
      refine ow_iload (pc := 36) hX d_M_down_36 rfl ?_
      refine ow_aN (pc := 38) hX rfl d_M_down_38 Nat.zero_lt_one (by show _ < 48; first | assumption | omega | (have := hu.2.2.1 a; omega) | (have := hu.2.2.2.2.1 (6 + a); omega) | (have := hu.2.2.2.2.1 (6 + b); omega) | exact Nat.lt_of_le_of_lt (kbel_le _ _ _ _) (by decide)) ?_
      refine ow_iload_n (pc := 39) hX d_M_down_39 rfl ?_
      refine ow_callV (pc := 40) hX (kd_M Y n s c) Nat.zero_lt_one (c_M_below _ Y n s c hV u (u.1 15 0 (4 * (6 + a))) b hb pa hpa hp1 (by omega)) (cw_V hX mz_M_below kw_694 ⟨rfl, rfl⟩ (by decide)) rfl (Nat.le_of_ble_eq_true rfl) d_M_down_40 rfl ?_
      refine ow_nz_ne (pc := 43) (tgt := 47) hX d_M_down_43 (by decide) (by first | assumption | omega | (have := hu.2.2.1 a; omega) | (have := hu.2.2.2.2.1 (6 + a); omega) | (have := hu.2.2.2.2.1 (6 + b); omega) | exact Nat.lt_of_le_of_lt (kbel_le _ _ _ _) (by decide)) (fun h43 => ?_) (fun h43 => ?_)
      · skip
        refine ow_aload_n (pc := 47) hX d_M_down_47 rfl ?_
        refine ow_dup (pc := 48) hX d_M_down_48 rfl ?_
        refine ow_gI (pc := 49) hX (kd_M Y n s c) 4 d_M_down_49 kw_505 rfl Nat.zero_lt_one ?_
        refine ow_iconst (pc := 52) (v := nI 1) hX d_M_down_52 (by decide) ?_
        refine ow_iadd (pc := 53) hX d_M_down_53 ?_
        refine ow_pI (pc := 54) hX (kd_M Y n s c) 4 d_M_down_54 kw_505 rfl Nat.zero_lt_one rfl (by decide +kernel) ?_
        refine ow_iconst (pc := 57) (v := nI 0) hX d_M_down_57 (by decide) ?_
        refine ow_istore (pc := 58) (l2 := [(0, _), (1, _), (2, _), (3, _), (4, _), (5, _), (6, _)]) hX d_M_down_58 (by decide) rfl rfl ?_
        refine ow_aload_n (pc := 60) hX d_M_down_60 rfl ?_
        refine ow_iload_n (pc := 61) hX d_M_down_61 rfl ?_
        refine ow_iload_n (pc := 62) hX d_M_down_62 rfl ?_
        refine ow_iload_n (pc := 63) hX d_M_down_63 rfl ?_
        refine ow_callV (pc := 64) hX (kd_M Y n s c) Nat.zero_lt_one (c_M_hears _ Y n s c hV (ui u 0 0 4 (u.2.1 0 0 4 + nI 1)) a b ch ha hb hch hn hu) (cw_V hX mz_M_hears kw_698 ⟨rfl, rfl⟩ (by decide)) rfl (Nat.le_of_ble_eq_true rfl) d_M_down_64 rfl ?_
        have hu1 : wm n (ui u 0 0 4 (u.2.1 0 0 4 + nI 1)) := hu
        have hu2 : wm n (ui (ui u 0 0 4 (u.2.1 0 0 4 + nI 1)) 4 0 b (u.2.1 4 0 a)) := hu
        have hw2 : wm n (km_setDn (ui (ui u 0 0 4 (u.2.1 0 0 4 + nI 1)) 4 0 b (u.2.1 4 0 a)) (4 * (6 + a)) b).2 := (em_setDn hu2).1 hu2
        have hge : u.1 14 0 (6 + a) ≤ (km_setDn (ui (ui u 0 0 4 (u.2.1 0 0 4 + nI 1)) 4 0 b (u.2.1 4 0 a)) (4 * (6 + a)) b).2.1 14 0 (6 + a) := km_setDn_ge (u := (ui (ui u 0 0 4 (u.2.1 0 0 4 + nI 1)) 4 0 b (u.2.1 4 0 a))) (6 + a)
        rcases km_hears_01 (ui u 0 0 4 (u.2.1 0 0 4 + nI 1)) a b ch with hh | hh
        · skip
          refine ow_st (st2 := .int (nI 0) :: _) (by rw [hh]; rfl) ?_
          refine ow_nz_eq (pc := 67) (tgt := 225) hX d_M_down_67 (by decide) (by first | assumption | omega | (have := hu.2.2.1 a; omega) | (have := hu.2.2.2.2.1 (6 + a); omega) | (have := hu.2.2.2.2.1 (6 + b); omega) | exact Nat.lt_of_le_of_lt (kbel_le _ _ _ _) (by decide)) (fun h67 => ?_) (fun h67 => ?_)
          · skip
            first | (refine ow_t (v' := km_dn2 0 (ui u 0 0 4 (u.2.1 0 0 4 + nI 1)) a ch) (by unfold km_down; rw [if_neg h18, if_neg h28, if_neg h43]; unfold km_dn1; rw [if_pos hh]) ?_; refine ow_loc (l2 := [(0, _), (1, _), (3, _), (4, _), (6, _)]) (fun q hq => by simp only [List.mem_cons, List.not_mem_nil, or_false] at hq ⊢; rcases hq with rfl | rfl | rfl | rfl | rfl <;> simp) (w_M_dn0 Y n s c hX hV (ui u 0 0 4 (u.2.1 0 0 4 + nI 1)) a ch ha hch hu1 (by show 1 ≤ u.1 14 0 (6 + a); omega))) | (have hS := km_sd_a (u := (ui (ui u 0 0 4 (u.2.1 0 0 4 + nI 1)) 4 0 b (u.2.1 4 0 a))) h113; have hw3 := hw2; rw [hS] at hw3 hge; refine ow_t (v' := km_dn2 1 _ a ch) (by unfold km_down; rw [if_neg h18, if_neg h28, if_neg h43]; unfold km_dn1; rw [if_neg (by rw [hh]; decide), show (ui u 0 0 4 (u.2.1 0 0 4 + nI 1)).2.1 4 0 a = u.2.1 4 0 a from rfl, hS] <;> rfl) ?_; refine ow_loc (l2 := [(0, _), (1, _), (3, _), (4, _), (6, _)]) (fun q hq => by simp only [List.mem_cons, List.not_mem_nil, or_false] at hq ⊢; rcases hq with rfl | rfl | rfl | rfl | rfl <;> simp) (w_M_dn1 Y n s c hX hV _ a ch ha hch hw3 (Nat.le_trans (by omega) hge))) | (have hS := km_sd_b (u := (ui (ui u 0 0 4 (u.2.1 0 0 4 + nI 1)) 4 0 b (u.2.1 4 0 a))) h113 hq; have hw3 := hw2; rw [hS] at hw3 hge; refine ow_t (v' := km_dn2 1 _ a ch) (by unfold km_down; rw [if_neg h18, if_neg h28, if_neg h43]; unfold km_dn1; rw [if_neg (by rw [hh]; decide), show (ui u 0 0 4 (u.2.1 0 0 4 + nI 1)).2.1 4 0 a = u.2.1 4 0 a from rfl, hS] <;> rfl) ?_; refine ow_loc (l2 := [(0, _), (1, _), (3, _), (4, _), (6, _)]) (fun q hq => by simp only [List.mem_cons, List.not_mem_nil, or_false] at hq ⊢; rcases hq with rfl | rfl | rfl | rfl | rfl <;> simp) (w_M_dn1 Y n s c hX hV _ a ch ha hch hw3 (Nat.le_trans (by omega) hge))) | (have hS := km_sd_c (u := (ui (ui u 0 0 4 (u.2.1 0 0 4 + nI 1)) 4 0 b (u.2.1 4 0 a))) h113 hq h149; have hw3 := hw2; rw [hS] at hw3 hge; refine ow_t (v' := km_dn2 1 _ a ch) (by unfold km_down; rw [if_neg h18, if_neg h28, if_neg h43]; unfold km_dn1; rw [if_neg (by rw [hh]; decide), show (ui u 0 0 4 (u.2.1 0 0 4 + nI 1)).2.1 4 0 a = u.2.1 4 0 a from rfl, hS] <;> rfl) ?_; refine ow_loc (l2 := [(0, _), (1, _), (3, _), (4, _), (6, _)]) (fun q hq => by simp only [List.mem_cons, List.not_mem_nil, or_false] at hq ⊢; rcases hq with rfl | rfl | rfl | rfl | rfl <;> simp) (w_M_dn1 Y n s c hX hV _ a ch ha hch hw3 (Nat.le_trans (by omega) hge))) | (have hS := km_sd_d (u := (ui (ui u 0 0 4 (u.2.1 0 0 4 + nI 1)) 4 0 b (u.2.1 4 0 a))) h113 hq h149; have hw3 := hw2; rw [hS] at hw3 hge; refine ow_t (v' := km_dn2 0 _ a ch) (by unfold km_down; rw [if_neg h18, if_neg h28, if_neg h43]; unfold km_dn1; rw [if_neg (by rw [hh]; decide), show (ui u 0 0 4 (u.2.1 0 0 4 + nI 1)).2.1 4 0 a = u.2.1 4 0 a from rfl, hS] <;> rfl) ?_; refine ow_loc (l2 := [(0, _), (1, _), (3, _), (4, _), (6, _)]) (fun q hq => by simp only [List.mem_cons, List.not_mem_nil, or_false] at hq ⊢; rcases hq with rfl | rfl | rfl | rfl | rfl <;> simp) (w_M_dn0 Y n s c hX hV _ a ch ha hch hw3 (Nat.le_trans (by omega) hge)))
          · skip
            exact absurd h67 (by decide)
        · skip
          refine ow_st (st2 := .int (nI 1) :: _) (by rw [hh]; rfl) ?_
          refine ow_nz_eq (pc := 67) (tgt := 225) hX d_M_down_67 (by decide) (by first | assumption | omega | (have := hu.2.2.1 a; omega) | (have := hu.2.2.2.2.1 (6 + a); omega) | (have := hu.2.2.2.2.1 (6 + b); omega) | exact Nat.lt_of_le_of_lt (kbel_le _ _ _ _) (by decide)) (fun h67 => ?_) (fun h67 => ?_)
          · skip
            exact absurd h67 (by decide)
          · skip
            refine ow_bipush (pc := 70) (v := nI 36) hX d_M_down_70 (by decide) ?_
            refine ow_bipush (pc := 72) (v := nI 6) hX d_M_down_72 (by decide) ?_
            refine ow_iload_n (pc := 74) hX d_M_down_74 rfl ?_
            refine ow_muln (pc := 75) hX d_M_down_75 ?_
            refine ow_addn (pc := 76) hX d_M_down_76 ?_
            refine ow_aload_n (pc := 77) hX d_M_down_77 rfl ?_
            refine ow_gR (pc := 78) hX (kd_M Y n s c) 20 d_M_down_78 kw_521 rfl Nat.zero_lt_one ?_
            refine ow_iload (pc := 81) hX d_M_down_81 rfl ?_
            refine ow_aN (pc := 83) hX rfl d_M_down_83 Nat.zero_lt_one (by show _ < 48; first | assumption | omega | (have := hu.2.2.1 a; omega) | (have := hu.2.2.2.2.1 (6 + a); omega) | (have := hu.2.2.2.2.1 (6 + b); omega) | exact Nat.lt_of_le_of_lt (kbel_le _ _ _ _) (by decide)) ?_
            try simp only [un_1, un_2, ui_1, ui_2, ui_3, ul_1, ul_2, ul_3, ul_4, ur_1, ur_2, ur_3, ur_4, Nat.reduceEqDiff, false_and, and_false, true_and, and_true, and_self, reduceIte]
            refine ow_addn (pc := 84) hX d_M_down_84 ?_
            refine ow_istore (pc := 85) (l2 := [(0, _), (1, _), (2, _), (3, _), (4, _), (5, _), (6, _), (7, _)]) hX d_M_down_85 (by decide) rfl rfl ?_
            refine ow_aload_n (pc := 87) hX d_M_down_87 rfl ?_
            refine ow_gR (pc := 88) hX (kd_M Y n s c) 8 d_M_down_88 kw_509 rfl Nat.zero_lt_one ?_
            refine ow_iload_n (pc := 91) hX d_M_down_91 rfl ?_
            refine ow_aload_n (pc := 92) hX d_M_down_92 rfl ?_
            refine ow_gR (pc := 93) hX (kd_M Y n s c) 8 d_M_down_93 kw_509 rfl Nat.zero_lt_one ?_
            refine ow_iload_n (pc := 96) hX d_M_down_96 rfl ?_
            refine ow_aI (pc := 97) hX rfl d_M_down_97 Nat.zero_lt_one (by show _ < 6; first | assumption | omega | (have := hu.2.2.1 a; omega) | (have := hu.2.2.2.2.1 (6 + a); omega) | (have := hu.2.2.2.2.1 (6 + b); omega) | exact Nat.lt_of_le_of_lt (kbel_le _ _ _ _) (by decide)) ?_
            try simp only [un_1, un_2, ui_1, ui_2, ui_3, ul_1, ul_2, ul_3, ul_4, ur_1, ur_2, ur_3, ur_4, Nat.reduceEqDiff, false_and, and_false, true_and, and_true, and_self, reduceIte]
            refine ow_sI (pc := 98) hX rfl d_M_down_98 Nat.zero_lt_one (by show _ < 6; first | assumption | omega | (have := hu.2.2.1 a; omega) | (have := hu.2.2.2.2.1 (6 + a); omega) | (have := hu.2.2.2.2.1 (6 + b); omega) | exact Nat.lt_of_le_of_lt (kbel_le _ _ _ _) (by decide)) ?_
            refine ow_aload_n (pc := 99) hX d_M_down_99 rfl ?_
            refine ow_gR (pc := 100) hX (kd_M Y n s c) 21 d_M_down_100 kw_522 rfl Nat.zero_lt_one ?_
            refine ow_iload (pc := 103) hX d_M_down_103 rfl ?_
            refine ow_aI (pc := 105) hX rfl d_M_down_105 Nat.zero_lt_one (by show _ < 48; first | assumption | omega | (have := hu.2.2.1 a; omega) | (have := hu.2.2.2.2.1 (6 + a); omega) | (have := hu.2.2.2.2.1 (6 + b); omega) | exact Nat.lt_of_le_of_lt (kbel_le _ _ _ _) (by decide)) ?_
            try simp only [un_1, un_2, ui_1, ui_2, ui_3, ul_1, ul_2, ul_3, ul_4, ur_1, ur_2, ur_3, ur_4, Nat.reduceEqDiff, false_and, and_false, true_and, and_true, and_self, reduceIte]
            refine ow_aload_n (pc := 106) hX d_M_down_106 rfl ?_
            refine ow_gR (pc := 107) hX (kd_M Y n s c) 25 d_M_down_107 kw_526 rfl Nat.zero_lt_one ?_
            refine ow_iload (pc := 110) hX d_M_down_110 rfl ?_
            refine ow_aI (pc := 112) hX rfl d_M_down_112 Nat.zero_lt_one (by show _ < 72; first | assumption | omega | (have := hu.2.2.1 a; omega) | (have := hu.2.2.2.2.1 (6 + a); omega) | (have := hu.2.2.2.2.1 (6 + b); omega) | exact Nat.lt_of_le_of_lt (kbel_le _ _ _ _) (by decide)) ?_
            try simp only [un_1, un_2, ui_1, ui_2, ui_3, ul_1, ul_2, ul_3, ul_4, ur_1, ur_2, ur_3, ur_4, Nat.reduceEqDiff, false_and, and_false, true_and, and_true, and_self, reduceIte]
            refine ow_ic_gt (pc := 113) (tgt := 120) hX d_M_down_113 (by decide) (fun h113 => ?_) (fun h113 => ?_)
            · skip
              refine ow_iconst (pc := 120) (v := nI 0) hX d_M_down_120 (by decide) ?_
              refine ow_istore (pc := 121) (l2 := [(0, _), (1, _), (2, _), (3, _), (4, _), (5, _), (6, _), (7, _)]) hX d_M_down_121 (by decide) rfl rfl ?_
              refine ow_iload (pc := 123) hX d_M_down_123 rfl ?_
              refine ow_nz_ne (pc := 125) (tgt := 225) hX d_M_down_125 (by decide) (by first | assumption | omega | (have := hu.2.2.1 a; omega) | (have := hu.2.2.2.2.1 (6 + a); omega) | (have := hu.2.2.2.2.1 (6 + b); omega) | exact Nat.lt_of_le_of_lt (kbel_le _ _ _ _) (by decide)) (fun h125 => ?_) (fun h125 => ?_)
              · skip
                exact absurd h125 (by decide)
              · skip
                by_cases hq : u.1 15 0 (4 * (6 + a)) = b
                · skip
                  refine ow_aload_n (pc := 128) hX d_M_down_128 rfl ?_
                  refine ow_gR (pc := 129) hX (kd_M Y n s c) 20 d_M_down_129 kw_521 rfl Nat.zero_lt_one ?_
                  refine ow_iload (pc := 132) hX d_M_down_132 rfl ?_
                  refine ow_aN (pc := 134) hX rfl d_M_down_134 Nat.zero_lt_one (by show _ < 48; first | assumption | omega | (have := hu.2.2.1 a; omega) | (have := hu.2.2.2.2.1 (6 + a); omega) | (have := hu.2.2.2.2.1 (6 + b); omega) | exact Nat.lt_of_le_of_lt (kbel_le _ _ _ _) (by decide)) ?_
                  try simp only [un_1, un_2, ui_1, ui_2, ui_3, ul_1, ul_2, ul_3, ul_4, ur_1, ur_2, ur_3, ur_4, Nat.reduceEqDiff, false_and, and_false, true_and, and_true, and_self, reduceIte]
                  refine ow_iload_n (pc := 135) hX d_M_down_135 rfl ?_
                  refine ow_nc_eq (pc := 136) (tgt := 152) hX d_M_down_136 (by decide) (by first | assumption | omega | (have := hu.2.2.1 a; omega) | (have := hu.2.2.2.2.1 (6 + a); omega) | (have := hu.2.2.2.2.1 (6 + b); omega) | exact Nat.lt_of_le_of_lt (kbel_le _ _ _ _) (by decide)) (by first | assumption | omega | (have := hu.2.2.1 a; omega) | (have := hu.2.2.2.2.1 (6 + a); omega) | (have := hu.2.2.2.2.1 (6 + b); omega) | exact Nat.lt_of_le_of_lt (kbel_le _ _ _ _) (by decide)) (fun h136 => ?_) (fun h136 => ?_)
                  · skip
                    refine ow_iconst (pc := 152) (v := nI 1) hX d_M_down_152 (by decide) ?_
                    refine ow_istore (pc := 153) (l2 := [(0, _), (1, _), (2, _), (3, _), (4, _), (5, _), (6, _), (7, _)]) hX d_M_down_153 (by decide) rfl rfl ?_
                    refine ow_aload_n (pc := 155) hX d_M_down_155 rfl ?_
                    refine ow_gR (pc := 156) hX (kd_M Y n s c) 25 d_M_down_156 kw_526 rfl Nat.zero_lt_one ?_
                    refine ow_iload (pc := 159) hX d_M_down_159 rfl ?_
                    refine ow_aload_n (pc := 161) hX d_M_down_161 rfl ?_
                    refine ow_gR (pc := 162) hX (kd_M Y n s c) 21 d_M_down_162 kw_522 rfl Nat.zero_lt_one ?_
                    refine ow_iload (pc := 165) hX d_M_down_165 rfl ?_
                    refine ow_aI (pc := 167) hX rfl d_M_down_167 Nat.zero_lt_one (by show _ < 48; first | assumption | omega | (have := hu.2.2.1 a; omega) | (have := hu.2.2.2.2.1 (6 + a); omega) | (have := hu.2.2.2.2.1 (6 + b); omega) | exact Nat.lt_of_le_of_lt (kbel_le _ _ _ _) (by decide)) ?_
                    try simp only [un_1, un_2, ui_1, ui_2, ui_3, ul_1, ul_2, ul_3, ul_4, ur_1, ur_2, ur_3, ur_4, Nat.reduceEqDiff, false_and, and_false, true_and, and_true, and_self, reduceIte]
                    refine ow_sI (pc := 168) hX rfl d_M_down_168 Nat.zero_lt_one (by show _ < 72; first | assumption | omega | (have := hu.2.2.1 a; omega) | (have := hu.2.2.2.2.1 (6 + a); omega) | (have := hu.2.2.2.2.1 (6 + b); omega) | exact Nat.lt_of_le_of_lt (kbel_le _ _ _ _) (by decide)) ?_
                    refine ow_aload_n (pc := 169) hX d_M_down_169 rfl ?_
                    refine ow_gR (pc := 170) hX (kd_M Y n s c) 20 d_M_down_170 kw_521 rfl Nat.zero_lt_one ?_
                    refine ow_iload (pc := 173) hX d_M_down_173 rfl ?_
                    refine ow_aN (pc := 175) hX rfl d_M_down_175 Nat.zero_lt_one (by show _ < 48; first | assumption | omega | (have := hu.2.2.1 a; omega) | (have := hu.2.2.2.2.1 (6 + a); omega) | (have := hu.2.2.2.2.1 (6 + b); omega) | exact Nat.lt_of_le_of_lt (kbel_le _ _ _ _) (by decide)) ?_
                    try simp only [un_1, un_2, ui_1, ui_2, ui_3, ul_1, ul_2, ul_3, ul_4, ur_1, ur_2, ur_3, ur_4, Nat.reduceEqDiff, false_and, and_false, true_and, and_true, and_self, reduceIte]
                    refine ow_iload_n (pc := 176) hX d_M_down_176 rfl ?_
                    refine ow_nc_ne (pc := 177) (tgt := 196) hX d_M_down_177 (by decide) (by first | assumption | omega | (have := hu.2.2.1 a; omega) | (have := hu.2.2.2.2.1 (6 + a); omega) | (have := hu.2.2.2.2.1 (6 + b); omega) | exact Nat.lt_of_le_of_lt (kbel_le _ _ _ _) (by decide)) (by first | assumption | omega | (have := hu.2.2.1 a; omega) | (have := hu.2.2.2.2.1 (6 + a); omega) | (have := hu.2.2.2.2.1 (6 + b); omega) | exact Nat.lt_of_le_of_lt (kbel_le _ _ _ _) (by decide)) (fun h177 => ?_) (fun h177 => ?_)
                    · skip
                      exact absurd hq h177
                    · skip
                      refine ow_aload_n (pc := 180) hX d_M_down_180 rfl ?_
                      refine ow_gR (pc := 181) hX (kd_M Y n s c) 33 d_M_down_181 kw_534 rfl Nat.zero_lt_one ?_
                      refine ow_iload_n (pc := 184) hX d_M_down_184 rfl ?_
                      refine ow_aload_n (pc := 185) hX d_M_down_185 rfl ?_
                      refine ow_gR (pc := 186) hX (kd_M Y n s c) 22 d_M_down_186 kw_523 rfl Nat.zero_lt_one ?_
                      refine ow_iload (pc := 189) hX d_M_down_189 rfl ?_
                      refine ow_aI (pc := 191) hX rfl d_M_down_191 Nat.zero_lt_one (by show _ < 48; first | assumption | omega | (have := hu.2.2.1 a; omega) | (have := hu.2.2.2.2.1 (6 + a); omega) | (have := hu.2.2.2.2.1 (6 + b); omega) | exact Nat.lt_of_le_of_lt (kbel_le _ _ _ _) (by decide)) ?_
                      try simp only [un_1, un_2, ui_1, ui_2, ui_3, ul_1, ul_2, ul_3, ul_4, ur_1, ur_2, ur_3, ur_4, Nat.reduceEqDiff, false_and, and_false, true_and, and_true, and_self, reduceIte]
                      refine ow_sI (pc := 192) hX rfl d_M_down_192 Nat.zero_lt_one (by show _ < 6; first | assumption | omega | (have := hu.2.2.1 a; omega) | (have := hu.2.2.2.2.1 (6 + a); omega) | (have := hu.2.2.2.2.1 (6 + b); omega) | exact Nat.lt_of_le_of_lt (kbel_le _ _ _ _) (by decide)) ?_
                      refine ow_goto (pc := 193) (tgt := 225) hX d_M_down_193 (by decide) ?_
                      first | (refine ow_t (v' := km_dn2 0 (ui u 0 0 4 (u.2.1 0 0 4 + nI 1)) a ch) (by unfold km_down; rw [if_neg h18, if_neg h28, if_neg h43]; unfold km_dn1; rw [if_pos hh]) ?_; refine ow_loc (l2 := [(0, _), (1, _), (3, _), (4, _), (6, _)]) (fun q hq => by simp only [List.mem_cons, List.not_mem_nil, or_false] at hq ⊢; rcases hq with rfl | rfl | rfl | rfl | rfl <;> simp) (w_M_dn0 Y n s c hX hV (ui u 0 0 4 (u.2.1 0 0 4 + nI 1)) a ch ha hch hu1 (by show 1 ≤ u.1 14 0 (6 + a); omega))) | (have hS := km_sd_a (u := (ui (ui u 0 0 4 (u.2.1 0 0 4 + nI 1)) 4 0 b (u.2.1 4 0 a))) h113; have hw3 := hw2; rw [hS] at hw3 hge; refine ow_t (v' := km_dn2 1 _ a ch) (by unfold km_down; rw [if_neg h18, if_neg h28, if_neg h43]; unfold km_dn1; rw [if_neg (by rw [hh]; decide), show (ui u 0 0 4 (u.2.1 0 0 4 + nI 1)).2.1 4 0 a = u.2.1 4 0 a from rfl, hS] <;> rfl) ?_; refine ow_loc (l2 := [(0, _), (1, _), (3, _), (4, _), (6, _)]) (fun q hq => by simp only [List.mem_cons, List.not_mem_nil, or_false] at hq ⊢; rcases hq with rfl | rfl | rfl | rfl | rfl <;> simp) (w_M_dn1 Y n s c hX hV _ a ch ha hch hw3 (Nat.le_trans (by omega) hge))) | (have hS := km_sd_b (u := (ui (ui u 0 0 4 (u.2.1 0 0 4 + nI 1)) 4 0 b (u.2.1 4 0 a))) h113 hq; have hw3 := hw2; rw [hS] at hw3 hge; refine ow_t (v' := km_dn2 1 _ a ch) (by unfold km_down; rw [if_neg h18, if_neg h28, if_neg h43]; unfold km_dn1; rw [if_neg (by rw [hh]; decide), show (ui u 0 0 4 (u.2.1 0 0 4 + nI 1)).2.1 4 0 a = u.2.1 4 0 a from rfl, hS] <;> rfl) ?_; refine ow_loc (l2 := [(0, _), (1, _), (3, _), (4, _), (6, _)]) (fun q hq => by simp only [List.mem_cons, List.not_mem_nil, or_false] at hq ⊢; rcases hq with rfl | rfl | rfl | rfl | rfl <;> simp) (w_M_dn1 Y n s c hX hV _ a ch ha hch hw3 (Nat.le_trans (by omega) hge))) | (have hS := km_sd_c (u := (ui (ui u 0 0 4 (u.2.1 0 0 4 + nI 1)) 4 0 b (u.2.1 4 0 a))) h113 hq h149; have hw3 := hw2; rw [hS] at hw3 hge; refine ow_t (v' := km_dn2 1 _ a ch) (by unfold km_down; rw [if_neg h18, if_neg h28, if_neg h43]; unfold km_dn1; rw [if_neg (by rw [hh]; decide), show (ui u 0 0 4 (u.2.1 0 0 4 + nI 1)).2.1 4 0 a = u.2.1 4 0 a from rfl, hS] <;> rfl) ?_; refine ow_loc (l2 := [(0, _), (1, _), (3, _), (4, _), (6, _)]) (fun q hq => by simp only [List.mem_cons, List.not_mem_nil, or_false] at hq ⊢; rcases hq with rfl | rfl | rfl | rfl | rfl <;> simp) (w_M_dn1 Y n s c hX hV _ a ch ha hch hw3 (Nat.le_trans (by omega) hge))) | (have hS := km_sd_d (u := (ui (ui u 0 0 4 (u.2.1 0 0 4 + nI 1)) 4 0 b (u.2.1 4 0 a))) h113 hq h149; have hw3 := hw2; rw [hS] at hw3 hge; refine ow_t (v' := km_dn2 0 _ a ch) (by unfold km_down; rw [if_neg h18, if_neg h28, if_neg h43]; unfold km_dn1; rw [if_neg (by rw [hh]; decide), show (ui u 0 0 4 (u.2.1 0 0 4 + nI 1)).2.1 4 0 a = u.2.1 4 0 a from rfl, hS] <;> rfl) ?_; refine ow_loc (l2 := [(0, _), (1, _), (3, _), (4, _), (6, _)]) (fun q hq => by simp only [List.mem_cons, List.not_mem_nil, or_false] at hq ⊢; rcases hq with rfl | rfl | rfl | rfl | rfl <;> simp) (w_M_dn0 Y n s c hX hV _ a ch ha hch hw3 (Nat.le_trans (by omega) hge)))
                  · skip
                    exact absurd hq h136
                · skip
                  refine ow_aload_n (pc := 128) hX d_M_down_128 rfl ?_
                  refine ow_gR (pc := 129) hX (kd_M Y n s c) 20 d_M_down_129 kw_521 rfl Nat.zero_lt_one ?_
                  refine ow_iload (pc := 132) hX d_M_down_132 rfl ?_
                  refine ow_aN (pc := 134) hX rfl d_M_down_134 Nat.zero_lt_one (by show _ < 48; first | assumption | omega | (have := hu.2.2.1 a; omega) | (have := hu.2.2.2.2.1 (6 + a); omega) | (have := hu.2.2.2.2.1 (6 + b); omega) | exact Nat.lt_of_le_of_lt (kbel_le _ _ _ _) (by decide)) ?_
                  try simp only [un_1, un_2, ui_1, ui_2, ui_3, ul_1, ul_2, ul_3, ul_4, ur_1, ur_2, ur_3, ur_4, Nat.reduceEqDiff, false_and, and_false, true_and, and_true, and_self, reduceIte]
                  refine ow_iload_n (pc := 135) hX d_M_down_135 rfl ?_
                  refine ow_nc_eq (pc := 136) (tgt := 152) hX d_M_down_136 (by decide) (by first | assumption | omega | (have := hu.2.2.1 a; omega) | (have := hu.2.2.2.2.1 (6 + a); omega) | (have := hu.2.2.2.2.1 (6 + b); omega) | exact Nat.lt_of_le_of_lt (kbel_le _ _ _ _) (by decide)) (by first | assumption | omega | (have := hu.2.2.1 a; omega) | (have := hu.2.2.2.2.1 (6 + a); omega) | (have := hu.2.2.2.2.1 (6 + b); omega) | exact Nat.lt_of_le_of_lt (kbel_le _ _ _ _) (by decide)) (fun h136 => ?_) (fun h136 => ?_)
                  · skip
                    exact absurd h136 hq
                  · skip
                    refine ow_aload_n (pc := 139) hX d_M_down_139 rfl ?_
                    refine ow_gR (pc := 140) hX (kd_M Y n s c) 19 d_M_down_140 kw_520 rfl Nat.zero_lt_one ?_
                    refine ow_bipush (pc := 143) (v := nI 6) hX d_M_down_143 (by decide) ?_
                    refine ow_iload_n (pc := 145) hX d_M_down_145 rfl ?_
                    refine ow_addn (pc := 146) hX d_M_down_146 ?_
                    refine ow_aN (pc := 147) hX rfl d_M_down_147 Nat.zero_lt_one (by show _ < 12; first | assumption | omega | (have := hu.2.2.1 a; omega) | (have := hu.2.2.2.2.1 (6 + a); omega) | (have := hu.2.2.2.2.1 (6 + b); omega) | exact Nat.lt_of_le_of_lt (kbel_le _ _ _ _) (by decide)) ?_
                    try simp only [un_1, un_2, ui_1, ui_2, ui_3, ul_1, ul_2, ul_3, ul_4, ur_1, ur_2, ur_3, ur_4, Nat.reduceEqDiff, false_and, and_false, true_and, and_true, and_self, reduceIte]
                    refine ow_iconst (pc := 148) (v := nI 4) hX d_M_down_148 (by decide) ?_
                    refine ow_nc_ge (pc := 149) (tgt := 225) hX d_M_down_149 (by decide) (by first | assumption | omega | (have := hu.2.2.1 a; omega) | (have := hu.2.2.2.2.1 (6 + a); omega) | (have := hu.2.2.2.2.1 (6 + b); omega) | exact Nat.lt_of_le_of_lt (kbel_le _ _ _ _) (by decide)) (by first | assumption | omega | (have := hu.2.2.1 a; omega) | (have := hu.2.2.2.2.1 (6 + a); omega) | (have := hu.2.2.2.2.1 (6 + b); omega) | exact Nat.lt_of_le_of_lt (kbel_le _ _ _ _) (by decide)) (fun h149 => ?_) (fun h149 => ?_)
                    · skip
                      first | (refine ow_t (v' := km_dn2 0 (ui u 0 0 4 (u.2.1 0 0 4 + nI 1)) a ch) (by unfold km_down; rw [if_neg h18, if_neg h28, if_neg h43]; unfold km_dn1; rw [if_pos hh]) ?_; refine ow_loc (l2 := [(0, _), (1, _), (3, _), (4, _), (6, _)]) (fun q hq => by simp only [List.mem_cons, List.not_mem_nil, or_false] at hq ⊢; rcases hq with rfl | rfl | rfl | rfl | rfl <;> simp) (w_M_dn0 Y n s c hX hV (ui u 0 0 4 (u.2.1 0 0 4 + nI 1)) a ch ha hch hu1 (by show 1 ≤ u.1 14 0 (6 + a); omega))) | (have hS := km_sd_a (u := (ui (ui u 0 0 4 (u.2.1 0 0 4 + nI 1)) 4 0 b (u.2.1 4 0 a))) h113; have hw3 := hw2; rw [hS] at hw3 hge; refine ow_t (v' := km_dn2 1 _ a ch) (by unfold km_down; rw [if_neg h18, if_neg h28, if_neg h43]; unfold km_dn1; rw [if_neg (by rw [hh]; decide), show (ui u 0 0 4 (u.2.1 0 0 4 + nI 1)).2.1 4 0 a = u.2.1 4 0 a from rfl, hS] <;> rfl) ?_; refine ow_loc (l2 := [(0, _), (1, _), (3, _), (4, _), (6, _)]) (fun q hq => by simp only [List.mem_cons, List.not_mem_nil, or_false] at hq ⊢; rcases hq with rfl | rfl | rfl | rfl | rfl <;> simp) (w_M_dn1 Y n s c hX hV _ a ch ha hch hw3 (Nat.le_trans (by omega) hge))) | (have hS := km_sd_b (u := (ui (ui u 0 0 4 (u.2.1 0 0 4 + nI 1)) 4 0 b (u.2.1 4 0 a))) h113 hq; have hw3 := hw2; rw [hS] at hw3 hge; refine ow_t (v' := km_dn2 1 _ a ch) (by unfold km_down; rw [if_neg h18, if_neg h28, if_neg h43]; unfold km_dn1; rw [if_neg (by rw [hh]; decide), show (ui u 0 0 4 (u.2.1 0 0 4 + nI 1)).2.1 4 0 a = u.2.1 4 0 a from rfl, hS] <;> rfl) ?_; refine ow_loc (l2 := [(0, _), (1, _), (3, _), (4, _), (6, _)]) (fun q hq => by simp only [List.mem_cons, List.not_mem_nil, or_false] at hq ⊢; rcases hq with rfl | rfl | rfl | rfl | rfl <;> simp) (w_M_dn1 Y n s c hX hV _ a ch ha hch hw3 (Nat.le_trans (by omega) hge))) | (have hS := km_sd_c (u := (ui (ui u 0 0 4 (u.2.1 0 0 4 + nI 1)) 4 0 b (u.2.1 4 0 a))) h113 hq h149; have hw3 := hw2; rw [hS] at hw3 hge; refine ow_t (v' := km_dn2 1 _ a ch) (by unfold km_down; rw [if_neg h18, if_neg h28, if_neg h43]; unfold km_dn1; rw [if_neg (by rw [hh]; decide), show (ui u 0 0 4 (u.2.1 0 0 4 + nI 1)).2.1 4 0 a = u.2.1 4 0 a from rfl, hS] <;> rfl) ?_; refine ow_loc (l2 := [(0, _), (1, _), (3, _), (4, _), (6, _)]) (fun q hq => by simp only [List.mem_cons, List.not_mem_nil, or_false] at hq ⊢; rcases hq with rfl | rfl | rfl | rfl | rfl <;> simp) (w_M_dn1 Y n s c hX hV _ a ch ha hch hw3 (Nat.le_trans (by omega) hge))) | (have hS := km_sd_d (u := (ui (ui u 0 0 4 (u.2.1 0 0 4 + nI 1)) 4 0 b (u.2.1 4 0 a))) h113 hq h149; have hw3 := hw2; rw [hS] at hw3 hge; refine ow_t (v' := km_dn2 0 _ a ch) (by unfold km_down; rw [if_neg h18, if_neg h28, if_neg h43]; unfold km_dn1; rw [if_neg (by rw [hh]; decide), show (ui u 0 0 4 (u.2.1 0 0 4 + nI 1)).2.1 4 0 a = u.2.1 4 0 a from rfl, hS] <;> rfl) ?_; refine ow_loc (l2 := [(0, _), (1, _), (3, _), (4, _), (6, _)]) (fun q hq => by simp only [List.mem_cons, List.not_mem_nil, or_false] at hq ⊢; rcases hq with rfl | rfl | rfl | rfl | rfl <;> simp) (w_M_dn0 Y n s c hX hV _ a ch ha hch hw3 (Nat.le_trans (by omega) hge)))
                    · skip
                      refine ow_iconst (pc := 152) (v := nI 1) hX d_M_down_152 (by decide) ?_
                      refine ow_istore (pc := 153) (l2 := [(0, _), (1, _), (2, _), (3, _), (4, _), (5, _), (6, _), (7, _)]) hX d_M_down_153 (by decide) rfl rfl ?_
                      refine ow_aload_n (pc := 155) hX d_M_down_155 rfl ?_
                      refine ow_gR (pc := 156) hX (kd_M Y n s c) 25 d_M_down_156 kw_526 rfl Nat.zero_lt_one ?_
                      refine ow_iload (pc := 159) hX d_M_down_159 rfl ?_
                      refine ow_aload_n (pc := 161) hX d_M_down_161 rfl ?_
                      refine ow_gR (pc := 162) hX (kd_M Y n s c) 21 d_M_down_162 kw_522 rfl Nat.zero_lt_one ?_
                      refine ow_iload (pc := 165) hX d_M_down_165 rfl ?_
                      refine ow_aI (pc := 167) hX rfl d_M_down_167 Nat.zero_lt_one (by show _ < 48; first | assumption | omega | (have := hu.2.2.1 a; omega) | (have := hu.2.2.2.2.1 (6 + a); omega) | (have := hu.2.2.2.2.1 (6 + b); omega) | exact Nat.lt_of_le_of_lt (kbel_le _ _ _ _) (by decide)) ?_
                      try simp only [un_1, un_2, ui_1, ui_2, ui_3, ul_1, ul_2, ul_3, ul_4, ur_1, ur_2, ur_3, ur_4, Nat.reduceEqDiff, false_and, and_false, true_and, and_true, and_self, reduceIte]
                      refine ow_sI (pc := 168) hX rfl d_M_down_168 Nat.zero_lt_one (by show _ < 72; first | assumption | omega | (have := hu.2.2.1 a; omega) | (have := hu.2.2.2.2.1 (6 + a); omega) | (have := hu.2.2.2.2.1 (6 + b); omega) | exact Nat.lt_of_le_of_lt (kbel_le _ _ _ _) (by decide)) ?_
                      refine ow_aload_n (pc := 169) hX d_M_down_169 rfl ?_
                      refine ow_gR (pc := 170) hX (kd_M Y n s c) 20 d_M_down_170 kw_521 rfl Nat.zero_lt_one ?_
                      refine ow_iload (pc := 173) hX d_M_down_173 rfl ?_
                      refine ow_aN (pc := 175) hX rfl d_M_down_175 Nat.zero_lt_one (by show _ < 48; first | assumption | omega | (have := hu.2.2.1 a; omega) | (have := hu.2.2.2.2.1 (6 + a); omega) | (have := hu.2.2.2.2.1 (6 + b); omega) | exact Nat.lt_of_le_of_lt (kbel_le _ _ _ _) (by decide)) ?_
                      try simp only [un_1, un_2, ui_1, ui_2, ui_3, ul_1, ul_2, ul_3, ul_4, ur_1, ur_2, ur_3, ur_4, Nat.reduceEqDiff, false_and, and_false, true_and, and_true, and_self, reduceIte]
                      refine ow_iload_n (pc := 176) hX d_M_down_176 rfl ?_
                      refine ow_nc_ne (pc := 177) (tgt := 196) hX d_M_down_177 (by decide) (by first | assumption | omega | (have := hu.2.2.1 a; omega) | (have := hu.2.2.2.2.1 (6 + a); omega) | (have := hu.2.2.2.2.1 (6 + b); omega) | exact Nat.lt_of_le_of_lt (kbel_le _ _ _ _) (by decide)) (by first | assumption | omega | (have := hu.2.2.1 a; omega) | (have := hu.2.2.2.2.1 (6 + a); omega) | (have := hu.2.2.2.2.1 (6 + b); omega) | exact Nat.lt_of_le_of_lt (kbel_le _ _ _ _) (by decide)) (fun h177 => ?_) (fun h177 => ?_)
                      · skip
                        refine ow_aload_n (pc := 196) hX d_M_down_196 rfl ?_
                        refine ow_bipush (pc := 197) (v := nI 6) hX d_M_down_197 (by decide) ?_
                        refine ow_iload_n (pc := 199) hX d_M_down_199 rfl ?_
                        refine ow_addn (pc := 200) hX d_M_down_200 ?_
                        refine ow_aload_n (pc := 201) hX d_M_down_201 rfl ?_
                        refine ow_gR (pc := 202) hX (kd_M Y n s c) 20 d_M_down_202 kw_521 rfl Nat.zero_lt_one ?_
                        refine ow_iload (pc := 205) hX d_M_down_205 rfl ?_
                        refine ow_aN (pc := 207) hX rfl d_M_down_207 Nat.zero_lt_one (by show _ < 48; first | assumption | omega | (have := hu.2.2.1 a; omega) | (have := hu.2.2.2.2.1 (6 + a); omega) | (have := hu.2.2.2.2.1 (6 + b); omega) | exact Nat.lt_of_le_of_lt (kbel_le _ _ _ _) (by decide)) ?_
                        try simp only [un_1, un_2, ui_1, ui_2, ui_3, ul_1, ul_2, ul_3, ul_4, ur_1, ur_2, ur_3, ur_4, Nat.reduceEqDiff, false_and, and_false, true_and, and_true, and_self, reduceIte]
                        refine ow_aload_n (pc := 208) hX d_M_down_208 rfl ?_
                        refine ow_gR (pc := 209) hX (kd_M Y n s c) 21 d_M_down_209 kw_522 rfl Nat.zero_lt_one ?_
                        refine ow_iload (pc := 212) hX d_M_down_212 rfl ?_
                        refine ow_aI (pc := 214) hX rfl d_M_down_214 Nat.zero_lt_one (by show _ < 48; first | assumption | omega | (have := hu.2.2.1 a; omega) | (have := hu.2.2.2.2.1 (6 + a); omega) | (have := hu.2.2.2.2.1 (6 + b); omega) | exact Nat.lt_of_le_of_lt (kbel_le _ _ _ _) (by decide)) ?_
                        try simp only [un_1, un_2, ui_1, ui_2, ui_3, ul_1, ul_2, ul_3, ul_4, ur_1, ur_2, ur_3, ur_4, Nat.reduceEqDiff, false_and, and_false, true_and, and_true, and_self, reduceIte]
                        refine ow_aload_n (pc := 215) hX d_M_down_215 rfl ?_
                        refine ow_gR (pc := 216) hX (kd_M Y n s c) 22 d_M_down_216 kw_523 rfl Nat.zero_lt_one ?_
                        refine ow_iload (pc := 219) hX d_M_down_219 rfl ?_
                        refine ow_aI (pc := 221) hX rfl d_M_down_221 Nat.zero_lt_one (by show _ < 48; first | assumption | omega | (have := hu.2.2.1 a; omega) | (have := hu.2.2.2.2.1 (6 + a); omega) | (have := hu.2.2.2.2.1 (6 + b); omega) | exact Nat.lt_of_le_of_lt (kbel_le _ _ _ _) (by decide)) ?_
                        try simp only [un_1, un_2, ui_1, ui_2, ui_3, ul_1, ul_2, ul_3, ul_4, ur_1, ur_2, ur_3, ur_4, Nat.reduceEqDiff, false_and, and_false, true_and, and_true, and_self, reduceIte]
                        refine ow_callV (pc := 222) hX (kd_M Y n s c) Nat.zero_lt_one (c_M_add _ Y n s c hV _ (6 + b) _ _ _ (by omega) h149) (cw_V hX mz_M_add kw_663 ⟨rfl, rfl⟩ (by decide)) rfl (Nat.le_of_ble_eq_true rfl) d_M_down_222 rfl ?_
                        first | (refine ow_t (v' := km_dn2 0 (ui u 0 0 4 (u.2.1 0 0 4 + nI 1)) a ch) (by unfold km_down; rw [if_neg h18, if_neg h28, if_neg h43]; unfold km_dn1; rw [if_pos hh]) ?_; refine ow_loc (l2 := [(0, _), (1, _), (3, _), (4, _), (6, _)]) (fun q hq => by simp only [List.mem_cons, List.not_mem_nil, or_false] at hq ⊢; rcases hq with rfl | rfl | rfl | rfl | rfl <;> simp) (w_M_dn0 Y n s c hX hV (ui u 0 0 4 (u.2.1 0 0 4 + nI 1)) a ch ha hch hu1 (by show 1 ≤ u.1 14 0 (6 + a); omega))) | (have hS := km_sd_a (u := (ui (ui u 0 0 4 (u.2.1 0 0 4 + nI 1)) 4 0 b (u.2.1 4 0 a))) h113; have hw3 := hw2; rw [hS] at hw3 hge; refine ow_t (v' := km_dn2 1 _ a ch) (by unfold km_down; rw [if_neg h18, if_neg h28, if_neg h43]; unfold km_dn1; rw [if_neg (by rw [hh]; decide), show (ui u 0 0 4 (u.2.1 0 0 4 + nI 1)).2.1 4 0 a = u.2.1 4 0 a from rfl, hS] <;> rfl) ?_; refine ow_loc (l2 := [(0, _), (1, _), (3, _), (4, _), (6, _)]) (fun q hq => by simp only [List.mem_cons, List.not_mem_nil, or_false] at hq ⊢; rcases hq with rfl | rfl | rfl | rfl | rfl <;> simp) (w_M_dn1 Y n s c hX hV _ a ch ha hch hw3 (Nat.le_trans (by omega) hge))) | (have hS := km_sd_b (u := (ui (ui u 0 0 4 (u.2.1 0 0 4 + nI 1)) 4 0 b (u.2.1 4 0 a))) h113 hq; have hw3 := hw2; rw [hS] at hw3 hge; refine ow_t (v' := km_dn2 1 _ a ch) (by unfold km_down; rw [if_neg h18, if_neg h28, if_neg h43]; unfold km_dn1; rw [if_neg (by rw [hh]; decide), show (ui u 0 0 4 (u.2.1 0 0 4 + nI 1)).2.1 4 0 a = u.2.1 4 0 a from rfl, hS] <;> rfl) ?_; refine ow_loc (l2 := [(0, _), (1, _), (3, _), (4, _), (6, _)]) (fun q hq => by simp only [List.mem_cons, List.not_mem_nil, or_false] at hq ⊢; rcases hq with rfl | rfl | rfl | rfl | rfl <;> simp) (w_M_dn1 Y n s c hX hV _ a ch ha hch hw3 (Nat.le_trans (by omega) hge))) | (have hS := km_sd_c (u := (ui (ui u 0 0 4 (u.2.1 0 0 4 + nI 1)) 4 0 b (u.2.1 4 0 a))) h113 hq h149; have hw3 := hw2; rw [hS] at hw3 hge; refine ow_t (v' := km_dn2 1 _ a ch) (by unfold km_down; rw [if_neg h18, if_neg h28, if_neg h43]; unfold km_dn1; rw [if_neg (by rw [hh]; decide), show (ui u 0 0 4 (u.2.1 0 0 4 + nI 1)).2.1 4 0 a = u.2.1 4 0 a from rfl, hS] <;> rfl) ?_; refine ow_loc (l2 := [(0, _), (1, _), (3, _), (4, _), (6, _)]) (fun q hq => by simp only [List.mem_cons, List.not_mem_nil, or_false] at hq ⊢; rcases hq with rfl | rfl | rfl | rfl | rfl <;> simp) (w_M_dn1 Y n s c hX hV _ a ch ha hch hw3 (Nat.le_trans (by omega) hge))) | (have hS := km_sd_d (u := (ui (ui u 0 0 4 (u.2.1 0 0 4 + nI 1)) 4 0 b (u.2.1 4 0 a))) h113 hq h149; have hw3 := hw2; rw [hS] at hw3 hge; refine ow_t (v' := km_dn2 0 _ a ch) (by unfold km_down; rw [if_neg h18, if_neg h28, if_neg h43]; unfold km_dn1; rw [if_neg (by rw [hh]; decide), show (ui u 0 0 4 (u.2.1 0 0 4 + nI 1)).2.1 4 0 a = u.2.1 4 0 a from rfl, hS] <;> rfl) ?_; refine ow_loc (l2 := [(0, _), (1, _), (3, _), (4, _), (6, _)]) (fun q hq => by simp only [List.mem_cons, List.not_mem_nil, or_false] at hq ⊢; rcases hq with rfl | rfl | rfl | rfl | rfl <;> simp) (w_M_dn0 Y n s c hX hV _ a ch ha hch hw3 (Nat.le_trans (by omega) hge)))
                      · skip
                        exact absurd h177 hq
            · skip
              refine ow_iconst (pc := 116) (v := nI 1) hX d_M_down_116 (by decide) ?_
              refine ow_goto (pc := 117) (tgt := 121) hX d_M_down_117 (by decide) ?_
              refine ow_istore (pc := 121) (l2 := [(0, _), (1, _), (2, _), (3, _), (4, _), (5, _), (6, _), (7, _)]) hX d_M_down_121 (by decide) rfl rfl ?_
              refine ow_iload (pc := 123) hX d_M_down_123 rfl ?_
              refine ow_nz_ne (pc := 125) (tgt := 225) hX d_M_down_125 (by decide) (by first | assumption | omega | (have := hu.2.2.1 a; omega) | (have := hu.2.2.2.2.1 (6 + a); omega) | (have := hu.2.2.2.2.1 (6 + b); omega) | exact Nat.lt_of_le_of_lt (kbel_le _ _ _ _) (by decide)) (fun h125 => ?_) (fun h125 => ?_)
              · skip
                first | (refine ow_t (v' := km_dn2 0 (ui u 0 0 4 (u.2.1 0 0 4 + nI 1)) a ch) (by unfold km_down; rw [if_neg h18, if_neg h28, if_neg h43]; unfold km_dn1; rw [if_pos hh]) ?_; refine ow_loc (l2 := [(0, _), (1, _), (3, _), (4, _), (6, _)]) (fun q hq => by simp only [List.mem_cons, List.not_mem_nil, or_false] at hq ⊢; rcases hq with rfl | rfl | rfl | rfl | rfl <;> simp) (w_M_dn0 Y n s c hX hV (ui u 0 0 4 (u.2.1 0 0 4 + nI 1)) a ch ha hch hu1 (by show 1 ≤ u.1 14 0 (6 + a); omega))) | (have hS := km_sd_a (u := (ui (ui u 0 0 4 (u.2.1 0 0 4 + nI 1)) 4 0 b (u.2.1 4 0 a))) h113; have hw3 := hw2; rw [hS] at hw3 hge; refine ow_t (v' := km_dn2 1 _ a ch) (by unfold km_down; rw [if_neg h18, if_neg h28, if_neg h43]; unfold km_dn1; rw [if_neg (by rw [hh]; decide), show (ui u 0 0 4 (u.2.1 0 0 4 + nI 1)).2.1 4 0 a = u.2.1 4 0 a from rfl, hS] <;> rfl) ?_; refine ow_loc (l2 := [(0, _), (1, _), (3, _), (4, _), (6, _)]) (fun q hq => by simp only [List.mem_cons, List.not_mem_nil, or_false] at hq ⊢; rcases hq with rfl | rfl | rfl | rfl | rfl <;> simp) (w_M_dn1 Y n s c hX hV _ a ch ha hch hw3 (Nat.le_trans (by omega) hge))) | (have hS := km_sd_b (u := (ui (ui u 0 0 4 (u.2.1 0 0 4 + nI 1)) 4 0 b (u.2.1 4 0 a))) h113 hq; have hw3 := hw2; rw [hS] at hw3 hge; refine ow_t (v' := km_dn2 1 _ a ch) (by unfold km_down; rw [if_neg h18, if_neg h28, if_neg h43]; unfold km_dn1; rw [if_neg (by rw [hh]; decide), show (ui u 0 0 4 (u.2.1 0 0 4 + nI 1)).2.1 4 0 a = u.2.1 4 0 a from rfl, hS] <;> rfl) ?_; refine ow_loc (l2 := [(0, _), (1, _), (3, _), (4, _), (6, _)]) (fun q hq => by simp only [List.mem_cons, List.not_mem_nil, or_false] at hq ⊢; rcases hq with rfl | rfl | rfl | rfl | rfl <;> simp) (w_M_dn1 Y n s c hX hV _ a ch ha hch hw3 (Nat.le_trans (by omega) hge))) | (have hS := km_sd_c (u := (ui (ui u 0 0 4 (u.2.1 0 0 4 + nI 1)) 4 0 b (u.2.1 4 0 a))) h113 hq h149; have hw3 := hw2; rw [hS] at hw3 hge; refine ow_t (v' := km_dn2 1 _ a ch) (by unfold km_down; rw [if_neg h18, if_neg h28, if_neg h43]; unfold km_dn1; rw [if_neg (by rw [hh]; decide), show (ui u 0 0 4 (u.2.1 0 0 4 + nI 1)).2.1 4 0 a = u.2.1 4 0 a from rfl, hS] <;> rfl) ?_; refine ow_loc (l2 := [(0, _), (1, _), (3, _), (4, _), (6, _)]) (fun q hq => by simp only [List.mem_cons, List.not_mem_nil, or_false] at hq ⊢; rcases hq with rfl | rfl | rfl | rfl | rfl <;> simp) (w_M_dn1 Y n s c hX hV _ a ch ha hch hw3 (Nat.le_trans (by omega) hge))) | (have hS := km_sd_d (u := (ui (ui u 0 0 4 (u.2.1 0 0 4 + nI 1)) 4 0 b (u.2.1 4 0 a))) h113 hq h149; have hw3 := hw2; rw [hS] at hw3 hge; refine ow_t (v' := km_dn2 0 _ a ch) (by unfold km_down; rw [if_neg h18, if_neg h28, if_neg h43]; unfold km_dn1; rw [if_neg (by rw [hh]; decide), show (ui u 0 0 4 (u.2.1 0 0 4 + nI 1)).2.1 4 0 a = u.2.1 4 0 a from rfl, hS] <;> rfl) ?_; refine ow_loc (l2 := [(0, _), (1, _), (3, _), (4, _), (6, _)]) (fun q hq => by simp only [List.mem_cons, List.not_mem_nil, or_false] at hq ⊢; rcases hq with rfl | rfl | rfl | rfl | rfl <;> simp) (w_M_dn0 Y n s c hX hV _ a ch ha hch hw3 (Nat.le_trans (by omega) hge)))
              · skip
                exact absurd h125 (by decide)
      · skip
        exact ow_vret (pc := 46) hX d_M_down_46 rfl (by unfold km_down; first | (rw [if_pos h18]; done) | (rw [if_neg h18, if_pos h28]; done) | (rw [if_neg h18, if_neg h28, if_pos h43]; done))
theorem km_dr1_a {a : Nat} {w : UU} (h : w.1 2 0 a = 0) : km_dr1 a w = ui w 4 0 a (w.2.1 4 0 a + nI 0) := by unfold km_dr1; rw [if_pos h]
theorem km_dr1_b {a : Nat} {w : UU} (h : ¬ w.1 2 0 a = 0) : km_dr1 a w = ui w 4 0 a (w.2.1 4 0 a + w.2.1 5 0 a) := by unfold km_dr1; rw [if_neg h]
set_option maxRecDepth 100000 in
set_option maxHeartbeats 4000000 in
theorem w_M_slotD {X : OX} (Y : YY) (n s c : Nat) (hX : ox X (vM Y n s c) (rd 3) b_M_slot 6 "SlottedMeshModel" gz none) (hV : pv_ok (vM Y n s c)) (u : UU) (h1 : 1 ≤ n) (hn : n ≤ 6) (hu : wm n u) (uu : UU) (K : ow X (vM Y n s c) none uu (fo (fun k w => km_dr1 (k + 1) w) u (n - 1)) [(0, .ref (pv_ad (vM Y n s c) 0 0))] 44 []) : ∀ j k, k + j = n - 1 → ow X (vM Y n s c) none uu (fo (fun k w => km_dr1 (k + 1) w) u k) [(0, .ref (pv_ad (vM Y n s c) 0 0)), (1, .int (nI (k + 1)))] 2 [] := by
  intro j
  induction j with
  | zero =>
    intro k hk
    have hw : wm n (fo (fun k w => km_dr1 (k + 1) w) u k) := (em_fo (fun _ _ _ => em_dr1) k u hu).1 hu
    refine ow_iload_n (pc := 2) hX d_M_slot_2 rfl ?_
    refine ow_aload_n (pc := 3) hX d_M_slot_3 rfl ?_
    refine ow_gK (pc := 4) hX (kd_M Y n s c) 0 d_M_slot_4 kw_501 rfl Nat.zero_lt_one ?_
    refine ow_nc_ge (pc := 7) (tgt := 44) hX d_M_slot_7 (by decide) (by first | assumption | omega | (have := hw.2.1 (k + 1); omega)) (by first | assumption | omega | (have := hw.2.1 (k + 1); omega)) (fun h7 => ?_) (fun h7 => ?_)
    · skip
      have e9 : k = n - 1 := by omega
      subst e9
      refine ow_loc (l2 := [(0, _)]) (fun q hq => by simp only [List.mem_cons, List.not_mem_nil, or_false] at hq ⊢; rcases hq with rfl <;> simp) (K)
    · skip
      exact absurd h7 (by omega)
  | succ j ih =>
    intro k hk
    have hw : wm n (fo (fun k w => km_dr1 (k + 1) w) u k) := (em_fo (fun _ _ _ => em_dr1) k u hu).1 hu
    refine ow_iload_n (pc := 2) hX d_M_slot_2 rfl ?_
    refine ow_aload_n (pc := 3) hX d_M_slot_3 rfl ?_
    refine ow_gK (pc := 4) hX (kd_M Y n s c) 0 d_M_slot_4 kw_501 rfl Nat.zero_lt_one ?_
    refine ow_nc_ge (pc := 7) (tgt := 44) hX d_M_slot_7 (by decide) (by first | assumption | omega | (have := hw.2.1 (k + 1); omega)) (by first | assumption | omega | (have := hw.2.1 (k + 1); omega)) (fun h7 => ?_) (fun h7 => ?_)
    · skip
      exact absurd h7 (by omega)
    · skip
      refine ow_aload_n (pc := 10) hX d_M_slot_10 rfl ?_
      refine ow_gR (pc := 11) hX (kd_M Y n s c) 8 d_M_slot_11 kw_509 rfl Nat.zero_lt_one ?_
      refine ow_iload_n (pc := 14) hX d_M_slot_14 rfl ?_
      refine ow_dup2 (pc := 15) hX d_M_slot_15 rfl rfl ?_
      refine ow_aI (pc := 16) hX rfl d_M_slot_16 Nat.zero_lt_one (by show _ < 6; first | assumption | omega | (have := hw.2.1 (k + 1); omega)) ?_
      refine ow_aload_n (pc := 17) hX d_M_slot_17 rfl ?_
      refine ow_gR (pc := 18) hX (kd_M Y n s c) 6 d_M_slot_18 kw_507 rfl Nat.zero_lt_one ?_
      refine ow_iload_n (pc := 21) hX d_M_slot_21 rfl ?_
      refine ow_aZ (pc := 22) hX rfl d_M_slot_22 Nat.zero_lt_one (by show _ < 6; first | assumption | omega | (have := hw.2.1 (k + 1); omega)) ?_
      refine ow_nz_eq (pc := 23) (tgt := 35) hX d_M_slot_23 (by decide) (by first | assumption | omega | (have := hw.2.1 (k + 1); omega)) (fun h23 => ?_) (fun h23 => ?_)
      · skip
        refine ow_iconst (pc := 35) (v := nI 0) hX d_M_slot_35 (by decide) ?_
        refine ow_iadd (pc := 36) hX d_M_slot_36 ?_
        refine ow_sI (pc := 37) hX rfl d_M_slot_37 Nat.zero_lt_one (by show _ < 6; first | assumption | omega | (have := hw.2.1 (k + 1); omega)) ?_
        refine ow_iinc (pc := 38) (l2 := [(0, _), (1, _)]) hX d_M_slot_38 rfl (ii_1 _) (by decide) rfl rfl ?_
        refine ow_goto (pc := 41) (tgt := 2) hX d_M_slot_41 (by decide) ?_
        have ih := ih (k + 1) (by omega)
        first | (rw [fo_s, km_dr1_a h23] at ih; exact ih) | (rw [fo_s, km_dr1_b h23] at ih; exact ih)
      · skip
        refine ow_aload_n (pc := 26) hX d_M_slot_26 rfl ?_
        refine ow_gR (pc := 27) hX (kd_M Y n s c) 9 d_M_slot_27 kw_510 rfl Nat.zero_lt_one ?_
        refine ow_iload_n (pc := 30) hX d_M_slot_30 rfl ?_
        refine ow_aI (pc := 31) hX rfl d_M_slot_31 Nat.zero_lt_one (by show _ < 6; first | assumption | omega | (have := hw.2.1 (k + 1); omega)) ?_
        refine ow_goto (pc := 32) (tgt := 36) hX d_M_slot_32 (by decide) ?_
        refine ow_iadd (pc := 36) hX d_M_slot_36 ?_
        refine ow_sI (pc := 37) hX rfl d_M_slot_37 Nat.zero_lt_one (by show _ < 6; first | assumption | omega | (have := hw.2.1 (k + 1); omega)) ?_
        refine ow_iinc (pc := 38) (l2 := [(0, _), (1, _)]) hX d_M_slot_38 rfl (ii_1 _) (by decide) rfl rfl ?_
        refine ow_goto (pc := 41) (tgt := 2) hX d_M_slot_41 (by decide) ?_
        have ih := ih (k + 1) (by omega)
        first | (rw [fo_s, km_dr1_a h23] at ih; exact ih) | (rw [fo_s, km_dr1_b h23] at ih; exact ih)
