/-! SlottedMesh: run (by program, wip/whole/gen/c9.py) -/
set_option maxRecDepth 100000 in
set_option maxHeartbeats 4000000 in
theorem c_S_hears (l : Launch) (Y : YY) (n s c : Nat) (hV : pv_ok (vC Y n s c)) (u : UU) (a b ch : Nat) (ha : a < n) (hb : b < n) (hch : ch < c) (hn : n ≤ 6) (hu : wf n u) : Ct l (vC Y n s c) ⟨"SlottedMesh", "hears", "(LSlottedMesh$Node;LSlottedMesh$Node;LSlottedMesh$Channel;)Z"⟩ (wz ⟨"SlottedMesh", "hears", "(LSlottedMesh$Node;LSlottedMesh$Node;LSlottedMesh$Channel;)Z"⟩ b_S_hears 4 (some .boolean)) (rd 3) [.ref (pv_ad (vC Y n s c) 0 0), .ref (pv_ad (vC Y n s c) 4 b), .ref (pv_ad (vC Y n s c) 4 a), .ref (pv_ad (vC Y n s c) 5 ch)] u (some (.int (nI (kc_hears u b a ch)))) (u) := by
  refine ct_mk hV (by decide +kernel) (Nat.le_of_ble_eq_true rfl) (fun X hX => ?_)
  have hX : ox X (vC Y n s c) (rd 3) b_S_hears 4 "SlottedMesh" gz (some .boolean) := hX
  show ow X (vC Y n s c) (some (.int (nI (kc_hears u b a ch)))) (u) u [(0, .ref (pv_ad (vC Y n s c) 0 0)), (1, .ref (pv_ad (vC Y n s c) 4 b)), (2, .ref (pv_ad (vC Y n s c) 4 a)), (3, .ref (pv_ad (vC Y n s c) 5 ch))] 0 []
  refine ow_aload_n (pc := 0) hX d_S_hears_0 rfl ?_
  refine ow_gN (pc := 1) hX (kd_N Y n s c) 7 d_S_hears_1 kw_77 rfl (by show _ < n; first | assumption | omega) ?_
  refine ow_nz_eq (pc := 4) (tgt := 42) hX d_S_hears_4 (by decide) (by first | assumption | omega | (have := hu.1 b a; omega) | (have := hu.2.2.1 b; omega) | (have := kbit_le (u.2.2.1 5 ch 0) (u.1 0 0 7); omega) | (have := kclose_le (u.2.1 4 b 8) (u.2.1 4 a 8); omega)) (fun h4 => ?_) (fun h4 => ?_)
  · skip
    refine ow_iconst (pc := 42) (v := nI 0) hX d_S_hears_42 (by decide) ?_
    exact ow_zret (pc := 43) hX d_S_hears_43 (nb_01 (by first | decide | assumption | omega | exact kbit_le _ _)) (by first | rfl | (unfold kc_hears; first | rw [if_pos h4] | rw [if_neg h4, if_pos h16] | rw [if_neg h4, if_neg h16, if_pos h24] | rw [if_neg h4, if_neg h16, if_neg h24, if_pos h35] | rw [if_neg h4, if_neg h16, if_neg h24, if_neg h35])) (by first | rfl | (unfold kc_hears; first | rw [if_pos h4] | rw [if_neg h4, if_pos h16] | rw [if_neg h4, if_neg h16, if_pos h24] | rw [if_neg h4, if_neg h16, if_neg h24, if_pos h35] | rw [if_neg h4, if_neg h16, if_neg h24, if_neg h35]))
  · skip
    refine ow_aload_n (pc := 7) hX d_S_hears_7 rfl ?_
    refine ow_gR (pc := 8) hX (kd_N Y n s c) 1 d_S_hears_8 kw_64 rfl (by show _ < n; first | assumption | omega) ?_
    refine ow_aload_n (pc := 11) hX d_S_hears_11 rfl ?_
    refine ow_gS (pc := 12) hX (kd_N Y n s c) 0 d_S_hears_12 kw_62 rfl (by show _ < n; first | assumption | omega) ?_
    refine ow_aZ (pc := 15) hX rfl d_S_hears_15 (by show _ < n; first | assumption | omega) (by show _ < n; first | assumption | omega) ?_
    refine ow_nz_eq (pc := 16) (tgt := 42) hX d_S_hears_16 (by decide) (by first | assumption | omega | (have := hu.1 b a; omega) | (have := hu.2.2.1 b; omega) | (have := kbit_le (u.2.2.1 5 ch 0) (u.1 0 0 7); omega) | (have := kclose_le (u.2.1 4 b 8) (u.2.1 4 a 8); omega)) (fun h16 => ?_) (fun h16 => ?_)
    · skip
      refine ow_iconst (pc := 42) (v := nI 0) hX d_S_hears_42 (by decide) ?_
      exact ow_zret (pc := 43) hX d_S_hears_43 (nb_01 (by first | decide | assumption | omega | exact kbit_le _ _)) (by first | rfl | (unfold kc_hears; first | rw [if_pos h4] | rw [if_neg h4, if_pos h16] | rw [if_neg h4, if_neg h16, if_pos h24] | rw [if_neg h4, if_neg h16, if_neg h24, if_pos h35] | rw [if_neg h4, if_neg h16, if_neg h24, if_neg h35])) (by first | rfl | (unfold kc_hears; first | rw [if_pos h4] | rw [if_neg h4, if_pos h16] | rw [if_neg h4, if_neg h16, if_pos h24] | rw [if_neg h4, if_neg h16, if_neg h24, if_pos h35] | rw [if_neg h4, if_neg h16, if_neg h24, if_neg h35]))
    · skip
      refine ow_aload_n (pc := 19) hX d_S_hears_19 rfl ?_
      refine ow_aload_n (pc := 20) hX d_S_hears_20 rfl ?_
      refine ow_callV (pc := 21) hX (kd_N Y n s c) (by show _ < n; first | assumption | omega) (c_N_clockIsCloseTo _ Y n s c hV u b a hb ha) (cw_V hX mz_N_clockIsCloseTo kw_387 ⟨rfl, rfl⟩ (by decide)) rfl (Nat.le_of_ble_eq_true rfl) d_S_hears_21 rfl ?_
      refine ow_nz_eq (pc := 24) (tgt := 42) hX d_S_hears_24 (by decide) (by first | assumption | omega | (have := hu.1 b a; omega) | (have := hu.2.2.1 b; omega) | (have := kbit_le (u.2.2.1 5 ch 0) (u.1 0 0 7); omega) | (have := kclose_le (u.2.1 4 b 8) (u.2.1 4 a 8); omega)) (fun h24 => ?_) (fun h24 => ?_)
      · skip
        refine ow_iconst (pc := 42) (v := nI 0) hX d_S_hears_42 (by decide) ?_
        exact ow_zret (pc := 43) hX d_S_hears_43 (nb_01 (by first | decide | assumption | omega | exact kbit_le _ _)) (by first | rfl | (unfold kc_hears; first | rw [if_pos h4] | rw [if_neg h4, if_pos h16] | rw [if_neg h4, if_neg h16, if_pos h24] | rw [if_neg h4, if_neg h16, if_neg h24, if_pos h35] | rw [if_neg h4, if_neg h16, if_neg h24, if_neg h35])) (by first | rfl | (unfold kc_hears; first | rw [if_pos h4] | rw [if_neg h4, if_pos h16] | rw [if_neg h4, if_neg h16, if_pos h24] | rw [if_neg h4, if_neg h16, if_neg h24, if_pos h35] | rw [if_neg h4, if_neg h16, if_neg h24, if_neg h35]))
      · skip
        refine ow_aload_n (pc := 27) hX d_S_hears_27 rfl ?_
        refine ow_aload_n (pc := 28) hX d_S_hears_28 rfl ?_
        refine ow_gN (pc := 29) hX (kd_S Y n s c) 7 d_S_hears_29 kw_208 rfl Nat.zero_lt_one ?_
        refine ow_callV (pc := 32) hX (kd_H Y n s c) (by show _ < c; first | assumption | omega) (c_H_carriesFrame _ Y n s c hV u ch _ hch (by have := hu.2.2.2.2.2.2.2.2.2.2.1; omega)) (cw_V hX mz_H_carriesFrame kw_375 ⟨rfl, rfl⟩ (by decide)) rfl (Nat.le_of_ble_eq_true rfl) d_S_hears_32 rfl ?_
        refine ow_nz_eq (pc := 35) (tgt := 42) hX d_S_hears_35 (by decide) (by first | assumption | omega | (have := hu.1 b a; omega) | (have := hu.2.2.1 b; omega) | (have := kbit_le (u.2.2.1 5 ch 0) (u.1 0 0 7); omega) | (have := kclose_le (u.2.1 4 b 8) (u.2.1 4 a 8); omega)) (fun h35 => ?_) (fun h35 => ?_)
        · skip
          refine ow_iconst (pc := 42) (v := nI 0) hX d_S_hears_42 (by decide) ?_
          exact ow_zret (pc := 43) hX d_S_hears_43 (nb_01 (by first | decide | assumption | omega | exact kbit_le _ _)) (by first | rfl | (unfold kc_hears; first | rw [if_pos h4] | rw [if_neg h4, if_pos h16] | rw [if_neg h4, if_neg h16, if_pos h24] | rw [if_neg h4, if_neg h16, if_neg h24, if_pos h35] | rw [if_neg h4, if_neg h16, if_neg h24, if_neg h35])) (by first | rfl | (unfold kc_hears; first | rw [if_pos h4] | rw [if_neg h4, if_pos h16] | rw [if_neg h4, if_neg h16, if_pos h24] | rw [if_neg h4, if_neg h16, if_neg h24, if_pos h35] | rw [if_neg h4, if_neg h16, if_neg h24, if_neg h35]))
        · skip
          refine ow_iconst (pc := 38) (v := nI 1) hX d_S_hears_38 (by decide) ?_
          refine ow_goto (pc := 39) (tgt := 43) hX d_S_hears_39 (by decide) ?_
          exact ow_zret (pc := 43) hX d_S_hears_43 (nb_01 (by first | decide | assumption | omega | exact kbit_le _ _)) (by first | rfl | (unfold kc_hears; first | rw [if_pos h4] | rw [if_neg h4, if_pos h16] | rw [if_neg h4, if_neg h16, if_pos h24] | rw [if_neg h4, if_neg h16, if_neg h24, if_pos h35] | rw [if_neg h4, if_neg h16, if_neg h24, if_neg h35])) (by first | rfl | (unfold kc_hears; first | rw [if_pos h4] | rw [if_neg h4, if_pos h16] | rw [if_neg h4, if_neg h16, if_pos h24] | rw [if_neg h4, if_neg h16, if_neg h24, if_pos h35] | rw [if_neg h4, if_neg h16, if_neg h24, if_neg h35]))
set_option maxRecDepth 100000 in
set_option maxHeartbeats 4000000 in
theorem c_S_cacheSample (l : Launch) (Y : YY) (n s c : Nat) (hV : pv_ok (vC Y n s c)) (u : UU) (e : Nat) (x v : Int32) (he : e < n) (hn : n ≤ 6) (hu : wf n u) : Ct l (vC Y n s c) ⟨"SlottedMesh", "cacheSample", "(III)V"⟩ (wz ⟨"SlottedMesh", "cacheSample", "(III)V"⟩ b_S_cacheSample 4 none) (rd 3) [.ref (pv_ad (vC Y n s c) 0 0), .int (nI e), .int x, .int v] u none (kc_cache u e x v) := by
  refine ct_mk hV (by decide +kernel) (Nat.le_of_ble_eq_true rfl) (fun X hX => ?_)
  have hX : ox X (vC Y n s c) (rd 3) b_S_cacheSample 4 "SlottedMesh" gz none := hX
  show ow X (vC Y n s c) none (kc_cache u e x v) u [(0, .ref (pv_ad (vC Y n s c) 0 0)), (1, .int (nI e)), (2, .int x), (3, .int v)] 0 []
  refine ow_aload_n (pc := 0) hX d_S_cacheSample_0 rfl ?_
  refine ow_gR (pc := 1) hX (kd_S Y n s c) 4 d_S_cacheSample_1 kw_205 rfl Nat.zero_lt_one ?_
  refine ow_iload_n (pc := 4) hX d_S_cacheSample_4 rfl ?_
  refine ow_aR (pc := 5) hX rfl d_S_cacheSample_5 Nat.zero_lt_one (by show _ < n; first | assumption | omega) ?_
  refine ow_iload_n (pc := 6) hX d_S_cacheSample_6 rfl ?_
  refine ow_callV (pc := 7) hX (kd_O Y n s c) (by show _ < n; first | assumption | omega) (c_O_keep _ Y n s c hV u e v he (hu.2.2.2.2.2.2.2.1 e)) (cw_V hX mz_O_keep kw_410 ⟨rfl, rfl⟩ (by decide)) rfl (Nat.le_of_ble_eq_true rfl) d_S_cacheSample_7 rfl ?_
  refine ow_aload_n (pc := 10) hX d_S_cacheSample_10 rfl ?_
  refine ow_gR (pc := 11) hX (kd_S Y n s c) 2 d_S_cacheSample_11 kw_203 rfl Nat.zero_lt_one ?_
  refine ow_iconst (pc := 14) (v := nI 0) hX d_S_cacheSample_14 (by decide) ?_
  refine ow_aR (pc := 15) hX rfl d_S_cacheSample_15 Nat.zero_lt_one (by show _ < n; first | assumption | omega) ?_
  refine ow_gO (pc := 16) hX (kd_N Y n s c) 3 d_S_cacheSample_16 kw_69 rfl (by show _ < n; first | assumption | omega) ?_
  refine ow_iload_n (pc := 19) hX d_S_cacheSample_19 rfl ?_
  refine ow_iload_n (pc := 20) hX d_S_cacheSample_20 rfl ?_
  refine ow_aload_n (pc := 21) hX d_S_cacheSample_21 rfl ?_
  refine ow_gR (pc := 22) hX (kd_S Y n s c) 4 d_S_cacheSample_22 kw_205 rfl Nat.zero_lt_one ?_
  refine ow_iload_n (pc := 25) hX d_S_cacheSample_25 rfl ?_
  refine ow_aR (pc := 26) hX rfl d_S_cacheSample_26 Nat.zero_lt_one (by show _ < n; first | assumption | omega) ?_
  refine ow_iload_n (pc := 27) hX d_S_cacheSample_27 rfl ?_
  refine ow_callV (pc := 28) hX (kd_O Y n s c) (by show _ < n; first | assumption | omega) (c_O_nextCommand _ Y n s c hV _ e v he) (cw_V hX mz_O_nextCommand kw_415 ⟨rfl, rfl⟩ (by decide)) rfl (Nat.le_of_ble_eq_true rfl) d_S_cacheSample_28 rfl ?_
  refine ow_callV (pc := 31) hX (kd_F Y n s c) (by show _ < 2 * n; first | assumption | omega) (c_F_append _ Y n s c hV (ui (kc_keep u e v) 6 e 5 (kc_sum (kc_keep u e v) e v)) (2 * 0 + 1) e x (kc_cmd (kc_keep u e v) e v) (by omega) (((ev_keep (n := n) (u := u) (i := e) (v := v)).1 hu).2.2.2.2.2.1 _)) (cw_V hX mz_F_append kw_344 ⟨rfl, rfl⟩ (by decide)) rfl (Nat.le_of_ble_eq_true rfl) d_S_cacheSample_31 rfl ?_
  refine ow_pop (pc := 34) hX d_S_cacheSample_34 rfl ?_
  exact ow_vret (pc := 35) hX d_S_cacheSample_35 rfl (by rfl)
set_option maxRecDepth 100000 in
set_option maxHeartbeats 4000000 in
theorem c_S_settleUp (l : Launch) (Y : YY) (n s c : Nat) (hV : pv_ok (vC Y n s c)) (u : UU) (r b : Nat) (hr : r < 2 * n) (hb : b < n) (hn : n ≤ 6) (hu : wf n u) : Ct l (vC Y n s c) ⟨"SlottedMesh", "settleUp", "(LSlottedMesh$FrameRow;LSlottedMesh$Node;)Z"⟩ (wz ⟨"SlottedMesh", "settleUp", "(LSlottedMesh$FrameRow;LSlottedMesh$Node;)Z"⟩ b_S_settleUp 5 (some .boolean)) (rd 4) [.ref (pv_ad (vC Y n s c) 0 0), .ref (pv_ad (vC Y n s c) 8 r), .ref (pv_ad (vC Y n s c) 4 b)] u (some (.int (nI (kc_settleUp u r b).1))) ((kc_settleUp u r b).2) := by
  refine ct_mk hV (by decide +kernel) (Nat.le_of_ble_eq_true rfl) (fun X hX => ?_)
  have hX : ox X (vC Y n s c) (rd 4) b_S_settleUp 5 "SlottedMesh" gz (some .boolean) := hX
  show ow X (vC Y n s c) (some (.int (nI (kc_settleUp u r b).1))) ((kc_settleUp u r b).2) u [(0, .ref (pv_ad (vC Y n s c) 0 0)), (1, .ref (pv_ad (vC Y n s c) 8 r)), (2, .ref (pv_ad (vC Y n s c) 4 b))] 0 []
  refine ow_aload_n (pc := 0) hX d_S_settleUp_0 rfl ?_
  refine ow_gR (pc := 1) hX (kd_F Y n s c) 0 d_S_settleUp_1 kw_43 rfl (by show _ < 2 * n; first | assumption | omega | (have := hu.2.2.2.2.2.2.1 r 0; omega) | (split <;> decide)) ?_
  refine ow_iconst (pc := 4) (v := nI 0) hX d_S_settleUp_4 (by decide) ?_
  refine ow_aN (pc := 5) hX rfl d_S_settleUp_5 (by show _ < 2 * n; first | assumption | omega | (have := hu.2.2.2.2.2.2.1 r 0; omega) | (split <;> decide)) (by show _ < 4; first | assumption | omega | (have := hu.2.2.2.2.2.2.1 r 0; omega) | (split <;> decide)) ?_
  refine ow_istore_n (pc := 6) (l2 := [(0, _), (1, _), (2, _), (3, _)]) hX d_S_settleUp_6 (by decide) rfl rfl ?_
  refine ow_aload_n (pc := 7) hX d_S_settleUp_7 rfl ?_
  refine ow_gR (pc := 8) hX (kd_F Y n s c) 1 d_S_settleUp_8 kw_45 rfl (by show _ < 2 * n; first | assumption | omega | (have := hu.2.2.2.2.2.2.1 r 0; omega) | (split <;> decide)) ?_
  refine ow_iconst (pc := 11) (v := nI 0) hX d_S_settleUp_11 (by decide) ?_
  refine ow_aI (pc := 12) hX rfl d_S_settleUp_12 (by show _ < 2 * n; first | assumption | omega | (have := hu.2.2.2.2.2.2.1 r 0; omega) | (split <;> decide)) (by show _ < 4; first | assumption | omega | (have := hu.2.2.2.2.2.2.1 r 0; omega) | (split <;> decide)) ?_
  refine ow_istore (pc := 13) (l2 := [(0, _), (1, _), (2, _), (3, _), (4, _)]) hX d_S_settleUp_13 (by decide) rfl rfl ?_
  refine ow_iload (pc := 15) hX d_S_settleUp_15 rfl ?_
  refine ow_aload_n (pc := 17) hX d_S_settleUp_17 rfl ?_
  refine ow_gR (pc := 18) hX (kd_N Y n s c) 4 d_S_settleUp_18 kw_71 rfl (by show _ < n; first | assumption | omega | (have := hu.2.2.2.2.2.2.1 r 0; omega) | (split <;> decide)) ?_
  refine ow_iload_n (pc := 21) hX d_S_settleUp_21 rfl ?_
  refine ow_aI (pc := 22) hX rfl d_S_settleUp_22 (by show _ < n; first | assumption | omega | (have := hu.2.2.2.2.2.2.1 r 0; omega) | (split <;> decide)) (by show _ < n; first | assumption | omega | (have := hu.2.2.2.2.2.2.1 r 0; omega) | (split <;> decide)) ?_
  refine ow_ic_gt (pc := 23) (tgt := 28) hX d_S_settleUp_23 (by decide) (fun h23 => ?_) (fun h23 => ?_)
  · skip
    refine ow_aload_n (pc := 28) hX d_S_settleUp_28 rfl ?_
    refine ow_gS (pc := 29) hX (kd_N Y n s c) 0 d_S_settleUp_29 kw_62 rfl (by show _ < n; first | assumption | omega | (have := hu.2.2.2.2.2.2.1 r 0; omega) | (split <;> decide)) ?_
    refine ow_nz_ne (pc := 32) (tgt := 51) hX d_S_settleUp_32 (by decide) (by first | assumption | omega | (have := hu.2.2.2.2.2.2.1 r 0; omega) | (split <;> decide)) (fun h32 => ?_) (fun h32 => ?_)
    · skip
      refine ow_aload_n (pc := 51) hX d_S_settleUp_51 rfl ?_
      refine ow_gE (pc := 52) hX (kd_N Y n s c) 2 d_S_settleUp_52 kw_67 rfl (by show _ < n; first | assumption | omega | (have := hu.2.2.2.2.2.2.1 r 0; omega) | (split <;> decide)) ?_
      refine ow_iload_n (pc := 55) hX d_S_settleUp_55 rfl ?_
      refine ow_iload (pc := 56) hX d_S_settleUp_56 rfl ?_
      refine ow_aload_n (pc := 58) hX d_S_settleUp_58 rfl ?_
      refine ow_gR (pc := 59) hX (kd_F Y n s c) 2 d_S_settleUp_59 kw_47 rfl (by show _ < 2 * n; first | assumption | omega | (have := hu.2.2.2.2.2.2.1 r 0; omega) | (split <;> decide)) ?_
      refine ow_iconst (pc := 62) (v := nI 0) hX d_S_settleUp_62 (by decide) ?_
      refine ow_aI (pc := 63) hX rfl d_S_settleUp_63 (by show _ < 2 * n; first | assumption | omega | (have := hu.2.2.2.2.2.2.1 r 0; omega) | (split <;> decide)) (by show _ < 4; first | assumption | omega | (have := hu.2.2.2.2.2.2.1 r 0; omega) | (split <;> decide)) ?_
      refine ow_callV (pc := 64) hX (kd_F Y n s c) (by show _ < 2 * n; first | assumption | omega | (have := hu.2.2.2.2.2.2.1 r 0; omega) | (split <;> decide)) (c_F_append _ Y n s c hV u (2 * b) (u.1 12 r 0) (u.2.1 13 r 0) (u.2.1 14 r 0) (by omega) (hu.2.2.2.2.2.1 _)) (cw_V hX mz_F_append kw_344 ⟨rfl, rfl⟩ (by decide)) rfl (Nat.le_of_ble_eq_true rfl) d_S_settleUp_64 rfl ?_
      by_cases hq : u.1 8 (2 * b) 3 < 4
      · skip
        refine ow_st (st2 := .int (nI 1) :: _) (by rw [if_pos hq]; rfl) ?_
        refine ow_nz_ne (pc := 67) (tgt := 72) hX d_S_settleUp_67 (by decide) (by first | assumption | omega | (have := hu.2.2.2.2.2.2.1 r 0; omega) | (split <;> decide)) (fun h67 => ?_) (fun h67 => ?_)
        · skip
          refine ow_aload_n (pc := 72) hX d_S_settleUp_72 rfl ?_
          refine ow_gR (pc := 73) hX (kd_N Y n s c) 4 d_S_settleUp_73 kw_71 rfl (by show _ < n; first | assumption | omega | (have := hu.2.2.2.2.2.2.1 r 0; omega) | (split <;> decide)) ?_
          refine ow_iload_n (pc := 76) hX d_S_settleUp_76 rfl ?_
          refine ow_iload (pc := 77) hX d_S_settleUp_77 rfl ?_
          refine ow_sI (pc := 79) hX rfl d_S_settleUp_79 (by show _ < n; first | assumption | omega | (have := hu.2.2.2.2.2.2.1 r 0; omega) | (split <;> decide)) (by show _ < n; first | assumption | omega | (have := hu.2.2.2.2.2.2.1 r 0; omega) | (split <;> decide)) ?_
          refine ow_iconst (pc := 80) (v := nI 1) hX d_S_settleUp_80 (by decide) ?_
          exact ow_zret (pc := 81) hX d_S_settleUp_81 (nb_01 (by first | decide | assumption | omega | exact kbit_le _ _)) (by first | rfl | (unfold kc_settleUp; first | rw [if_neg h23] | rw [if_pos h23, if_pos h32] | rw [if_pos h23, if_neg h32, if_pos hq] | rw [if_pos h23, if_neg h32, if_neg hq])) (by first | rfl | (unfold kc_settleUp; first | rw [if_neg h23] | rw [if_pos h23, if_pos h32] | rw [if_pos h23, if_neg h32, if_pos hq] | rw [if_pos h23, if_neg h32, if_neg hq]))
        · skip
          exact absurd h67 (by decide)
      · skip
        refine ow_st (st2 := .int (nI 0) :: _) (by rw [if_neg hq]; rfl) ?_
        refine ow_nz_ne (pc := 67) (tgt := 72) hX d_S_settleUp_67 (by decide) (by first | assumption | omega | (have := hu.2.2.2.2.2.2.1 r 0; omega) | (split <;> decide)) (fun h67 => ?_) (fun h67 => ?_)
        · skip
          exact absurd h67 (by decide)
        · skip
          have e9 : kc_append u (2 * b) (u.1 12 r 0) (u.2.1 13 r 0) (u.2.1 14 r 0) = u := by unfold kc_append; rw [if_neg hq]
          rw [e9]
          refine ow_iconst (pc := 70) (v := nI 0) hX d_S_settleUp_70 (by decide) ?_
          exact ow_zret (pc := 71) hX d_S_settleUp_71 (nb_01 (by first | decide | assumption | omega | exact kbit_le _ _)) (by first | rfl | (unfold kc_settleUp; first | rw [if_neg h23] | rw [if_pos h23, if_pos h32] | rw [if_pos h23, if_neg h32, if_pos hq] | rw [if_pos h23, if_neg h32, if_neg hq])) (by first | rfl | (unfold kc_settleUp; first | rw [if_neg h23] | rw [if_pos h23, if_pos h32] | rw [if_pos h23, if_neg h32, if_pos hq] | rw [if_pos h23, if_neg h32, if_neg hq]))
    · skip
      refine ow_aload_n (pc := 35) hX d_S_settleUp_35 rfl ?_
      refine ow_iload_n (pc := 36) hX d_S_settleUp_36 rfl ?_
      refine ow_iload (pc := 37) hX d_S_settleUp_37 rfl ?_
      refine ow_aload_n (pc := 39) hX d_S_settleUp_39 rfl ?_
      refine ow_gR (pc := 40) hX (kd_F Y n s c) 2 d_S_settleUp_40 kw_47 rfl (by show _ < 2 * n; first | assumption | omega | (have := hu.2.2.2.2.2.2.1 r 0; omega) | (split <;> decide)) ?_
      refine ow_iconst (pc := 43) (v := nI 0) hX d_S_settleUp_43 (by decide) ?_
      refine ow_aI (pc := 44) hX rfl d_S_settleUp_44 (by show _ < 2 * n; first | assumption | omega | (have := hu.2.2.2.2.2.2.1 r 0; omega) | (split <;> decide)) (by show _ < 4; first | assumption | omega | (have := hu.2.2.2.2.2.2.1 r 0; omega) | (split <;> decide)) ?_
      refine ow_callV (pc := 45) hX (kd_S Y n s c) Nat.zero_lt_one (c_S_cacheSample _ Y n s c hV u _ _ _ (hu.2.2.2.2.2.2.1 r 0) hn hu) (cw_V hX mz_S_cacheSample kw_406 ⟨rfl, rfl⟩ (by decide)) rfl (Nat.le_of_ble_eq_true rfl) d_S_settleUp_45 rfl ?_
      refine ow_goto (pc := 48) (tgt := 72) hX d_S_settleUp_48 (by decide) ?_
      refine ow_aload_n (pc := 72) hX d_S_settleUp_72 rfl ?_
      refine ow_gR (pc := 73) hX (kd_N Y n s c) 4 d_S_settleUp_73 kw_71 rfl (by show _ < n; first | assumption | omega | (have := hu.2.2.2.2.2.2.1 r 0; omega) | (split <;> decide)) ?_
      refine ow_iload_n (pc := 76) hX d_S_settleUp_76 rfl ?_
      refine ow_iload (pc := 77) hX d_S_settleUp_77 rfl ?_
      refine ow_sI (pc := 79) hX rfl d_S_settleUp_79 (by show _ < n; first | assumption | omega | (have := hu.2.2.2.2.2.2.1 r 0; omega) | (split <;> decide)) (by show _ < n; first | assumption | omega | (have := hu.2.2.2.2.2.2.1 r 0; omega) | (split <;> decide)) ?_
      refine ow_iconst (pc := 80) (v := nI 1) hX d_S_settleUp_80 (by decide) ?_
      exact ow_zret (pc := 81) hX d_S_settleUp_81 (nb_01 (by first | decide | assumption | omega | exact kbit_le _ _)) (by first | rfl | (unfold kc_settleUp; first | rw [if_neg h23] | rw [if_pos h23, if_pos h32] | rw [if_pos h23, if_neg h32, if_pos hq] | rw [if_pos h23, if_neg h32, if_neg hq])) (by first | rfl | (unfold kc_settleUp; first | rw [if_neg h23] | rw [if_pos h23, if_pos h32] | rw [if_pos h23, if_neg h32, if_pos hq] | rw [if_pos h23, if_neg h32, if_neg hq]))
  · skip
    refine ow_iconst (pc := 26) (v := nI 1) hX d_S_settleUp_26 (by decide) ?_
    exact ow_zret (pc := 27) hX d_S_settleUp_27 (nb_01 (by first | decide | assumption | omega | exact kbit_le _ _)) (by first | rfl | (unfold kc_settleUp; first | rw [if_neg h23] | rw [if_pos h23, if_pos h32] | rw [if_pos h23, if_neg h32, if_pos hq] | rw [if_pos h23, if_neg h32, if_neg hq])) (by first | rfl | (unfold kc_settleUp; first | rw [if_neg h23] | rw [if_pos h23, if_pos h32] | rw [if_pos h23, if_neg h32, if_pos hq] | rw [if_pos h23, if_neg h32, if_neg hq]))
set_option maxRecDepth 100000 in
set_option maxHeartbeats 4000000 in
theorem c_S_settleDown (l : Launch) (Y : YY) (n s c : Nat) (hV : pv_ok (vC Y n s c)) (u : UU) (r b : Nat) (hr : r < 2 * n) (hb : b < n) (hn : n ≤ 6) (hu : wf n u) : Ct l (vC Y n s c) ⟨"SlottedMesh", "settleDown", "(LSlottedMesh$FrameRow;LSlottedMesh$Node;)Z"⟩ (wz ⟨"SlottedMesh", "settleDown", "(LSlottedMesh$FrameRow;LSlottedMesh$Node;)Z"⟩ b_S_settleDown 4 (some .boolean)) (rd 1) [.ref (pv_ad (vC Y n s c) 8 r), .ref (pv_ad (vC Y n s c) 4 b)] u (some (.int (nI (kc_settleDown u r b).1))) ((kc_settleDown u r b).2) := by
  refine ct_mk hV (by decide +kernel) (Nat.le_of_ble_eq_true rfl) (fun X hX => ?_)
  have hX : ox X (vC Y n s c) (rd 1) b_S_settleDown 4 "SlottedMesh" gz (some .boolean) := hX
  show ow X (vC Y n s c) (some (.int (nI (kc_settleDown u r b).1))) ((kc_settleDown u r b).2) u [(0, .ref (pv_ad (vC Y n s c) 8 r)), (1, .ref (pv_ad (vC Y n s c) 4 b))] 0 []
  refine ow_aload_n (pc := 0) hX d_S_settleDown_0 rfl ?_
  refine ow_gR (pc := 1) hX (kd_F Y n s c) 0 d_S_settleDown_1 kw_43 rfl (by show _ < 2 * n; first | assumption | omega | (have := hu.2.2.2.2.2.2.1 r 0; omega) | (split <;> decide)) ?_
  refine ow_iconst (pc := 4) (v := nI 0) hX d_S_settleDown_4 (by decide) ?_
  refine ow_aN (pc := 5) hX rfl d_S_settleDown_5 (by show _ < 2 * n; first | assumption | omega | (have := hu.2.2.2.2.2.2.1 r 0; omega) | (split <;> decide)) (by show _ < 4; first | assumption | omega | (have := hu.2.2.2.2.2.2.1 r 0; omega) | (split <;> decide)) ?_
  refine ow_istore_n (pc := 6) (l2 := [(0, _), (1, _), (2, _)]) hX d_S_settleDown_6 (by decide) rfl rfl ?_
  refine ow_aload_n (pc := 7) hX d_S_settleDown_7 rfl ?_
  refine ow_gR (pc := 8) hX (kd_F Y n s c) 1 d_S_settleDown_8 kw_45 rfl (by show _ < 2 * n; first | assumption | omega | (have := hu.2.2.2.2.2.2.1 r 0; omega) | (split <;> decide)) ?_
  refine ow_iconst (pc := 11) (v := nI 0) hX d_S_settleDown_11 (by decide) ?_
  refine ow_aI (pc := 12) hX rfl d_S_settleDown_12 (by show _ < 2 * n; first | assumption | omega | (have := hu.2.2.2.2.2.2.1 r 0; omega) | (split <;> decide)) (by show _ < 4; first | assumption | omega | (have := hu.2.2.2.2.2.2.1 r 0; omega) | (split <;> decide)) ?_
  refine ow_istore_n (pc := 13) (l2 := [(0, _), (1, _), (2, _), (3, _)]) hX d_S_settleDown_13 (by decide) rfl rfl ?_
  refine ow_iload_n (pc := 14) hX d_S_settleDown_14 rfl ?_
  refine ow_aload_n (pc := 15) hX d_S_settleDown_15 rfl ?_
  refine ow_gR (pc := 16) hX (kd_N Y n s c) 5 d_S_settleDown_16 kw_73 rfl (by show _ < n; first | assumption | omega | (have := hu.2.2.2.2.2.2.1 r 0; omega) | (split <;> decide)) ?_
  refine ow_iload_n (pc := 19) hX d_S_settleDown_19 rfl ?_
  refine ow_aI (pc := 20) hX rfl d_S_settleDown_20 (by show _ < n; first | assumption | omega | (have := hu.2.2.2.2.2.2.1 r 0; omega) | (split <;> decide)) (by show _ < n; first | assumption | omega | (have := hu.2.2.2.2.2.2.1 r 0; omega) | (split <;> decide)) ?_
  refine ow_ic_gt (pc := 21) (tgt := 26) hX d_S_settleDown_21 (by decide) (fun h21 => ?_) (fun h21 => ?_)
  · skip
    refine ow_aload_n (pc := 26) hX d_S_settleDown_26 rfl ?_
    refine ow_gS (pc := 27) hX (kd_N Y n s c) 0 d_S_settleDown_27 kw_62 rfl (by show _ < n; first | assumption | omega | (have := hu.2.2.2.2.2.2.1 r 0; omega) | (split <;> decide)) ?_
    refine ow_iload_n (pc := 30) hX d_S_settleDown_30 rfl ?_
    refine ow_nc_ne (pc := 31) (tgt := 47) hX d_S_settleDown_31 (by decide) (by first | assumption | omega | (have := hu.2.2.2.2.2.2.1 r 0; omega) | (split <;> decide)) (by first | assumption | omega | (have := hu.2.2.2.2.2.2.1 r 0; omega) | (split <;> decide)) (fun h31 => ?_) (fun h31 => ?_)
    · skip
      refine ow_aload_n (pc := 47) hX d_S_settleDown_47 rfl ?_
      refine ow_gO (pc := 48) hX (kd_N Y n s c) 3 d_S_settleDown_48 kw_69 rfl (by show _ < n; first | assumption | omega | (have := hu.2.2.2.2.2.2.1 r 0; omega) | (split <;> decide)) ?_
      refine ow_iload_n (pc := 51) hX d_S_settleDown_51 rfl ?_
      refine ow_iload_n (pc := 52) hX d_S_settleDown_52 rfl ?_
      refine ow_aload_n (pc := 53) hX d_S_settleDown_53 rfl ?_
      refine ow_gR (pc := 54) hX (kd_F Y n s c) 2 d_S_settleDown_54 kw_47 rfl (by show _ < 2 * n; first | assumption | omega | (have := hu.2.2.2.2.2.2.1 r 0; omega) | (split <;> decide)) ?_
      refine ow_iconst (pc := 57) (v := nI 0) hX d_S_settleDown_57 (by decide) ?_
      refine ow_aI (pc := 58) hX rfl d_S_settleDown_58 (by show _ < 2 * n; first | assumption | omega | (have := hu.2.2.2.2.2.2.1 r 0; omega) | (split <;> decide)) (by show _ < 4; first | assumption | omega | (have := hu.2.2.2.2.2.2.1 r 0; omega) | (split <;> decide)) ?_
      refine ow_callV (pc := 59) hX (kd_F Y n s c) (by show _ < 2 * n; first | assumption | omega | (have := hu.2.2.2.2.2.2.1 r 0; omega) | (split <;> decide)) (c_F_append _ Y n s c hV u (2 * b + 1) (u.1 12 r 0) (u.2.1 13 r 0) (u.2.1 14 r 0) (by omega) (hu.2.2.2.2.2.1 _)) (cw_V hX mz_F_append kw_344 ⟨rfl, rfl⟩ (by decide)) rfl (Nat.le_of_ble_eq_true rfl) d_S_settleDown_59 rfl ?_
      by_cases hq : u.1 8 (2 * b + 1) 3 < 4
      · skip
        refine ow_st (st2 := .int (nI 1) :: _) (by rw [if_pos hq]; rfl) ?_
        refine ow_nz_ne (pc := 62) (tgt := 67) hX d_S_settleDown_62 (by decide) (by first | assumption | omega | (have := hu.2.2.2.2.2.2.1 r 0; omega) | (split <;> decide)) (fun h62 => ?_) (fun h62 => ?_)
        · skip
          refine ow_aload_n (pc := 67) hX d_S_settleDown_67 rfl ?_
          refine ow_gR (pc := 68) hX (kd_N Y n s c) 5 d_S_settleDown_68 kw_73 rfl (by show _ < n; first | assumption | omega | (have := hu.2.2.2.2.2.2.1 r 0; omega) | (split <;> decide)) ?_
          refine ow_iload_n (pc := 71) hX d_S_settleDown_71 rfl ?_
          refine ow_iload_n (pc := 72) hX d_S_settleDown_72 rfl ?_
          refine ow_sI (pc := 73) hX rfl d_S_settleDown_73 (by show _ < n; first | assumption | omega | (have := hu.2.2.2.2.2.2.1 r 0; omega) | (split <;> decide)) (by show _ < n; first | assumption | omega | (have := hu.2.2.2.2.2.2.1 r 0; omega) | (split <;> decide)) ?_
          refine ow_iconst (pc := 74) (v := nI 1) hX d_S_settleDown_74 (by decide) ?_
          exact ow_zret (pc := 75) hX d_S_settleDown_75 (nb_01 (by first | decide | assumption | omega | exact kbit_le _ _)) (by first | rfl | (unfold kc_settleDown; first | rw [if_neg h21] | rw [if_pos h21, if_pos h31] | rw [if_pos h21, if_neg h31, if_pos hq] | rw [if_pos h21, if_neg h31, if_neg hq])) (by first | rfl | (unfold kc_settleDown; first | rw [if_neg h21] | rw [if_pos h21, if_pos h31] | rw [if_pos h21, if_neg h31, if_pos hq] | rw [if_pos h21, if_neg h31, if_neg hq]))
        · skip
          exact absurd h62 (by decide)
      · skip
        refine ow_st (st2 := .int (nI 0) :: _) (by rw [if_neg hq]; rfl) ?_
        refine ow_nz_ne (pc := 62) (tgt := 67) hX d_S_settleDown_62 (by decide) (by first | assumption | omega | (have := hu.2.2.2.2.2.2.1 r 0; omega) | (split <;> decide)) (fun h62 => ?_) (fun h62 => ?_)
        · skip
          exact absurd h62 (by decide)
        · skip
          have e9 : kc_append u (2 * b + 1) (u.1 12 r 0) (u.2.1 13 r 0) (u.2.1 14 r 0) = u := by unfold kc_append; rw [if_neg hq]
          rw [e9]
          refine ow_iconst (pc := 65) (v := nI 0) hX d_S_settleDown_65 (by decide) ?_
          exact ow_zret (pc := 66) hX d_S_settleDown_66 (nb_01 (by first | decide | assumption | omega | exact kbit_le _ _)) (by first | rfl | (unfold kc_settleDown; first | rw [if_neg h21] | rw [if_pos h21, if_pos h31] | rw [if_pos h21, if_neg h31, if_pos hq] | rw [if_pos h21, if_neg h31, if_neg hq])) (by first | rfl | (unfold kc_settleDown; first | rw [if_neg h21] | rw [if_pos h21, if_pos h31] | rw [if_pos h21, if_neg h31, if_pos hq] | rw [if_pos h21, if_neg h31, if_neg hq]))
    · skip
      refine ow_aload_n (pc := 34) hX d_S_settleDown_34 rfl ?_
      refine ow_aload_n (pc := 35) hX d_S_settleDown_35 rfl ?_
      refine ow_gR (pc := 36) hX (kd_F Y n s c) 2 d_S_settleDown_36 kw_47 rfl (by show _ < 2 * n; first | assumption | omega | (have := hu.2.2.2.2.2.2.1 r 0; omega) | (split <;> decide)) ?_
      refine ow_iconst (pc := 39) (v := nI 0) hX d_S_settleDown_39 (by decide) ?_
      refine ow_aI (pc := 40) hX rfl d_S_settleDown_40 (by show _ < 2 * n; first | assumption | omega | (have := hu.2.2.2.2.2.2.1 r 0; omega) | (split <;> decide)) (by show _ < 4; first | assumption | omega | (have := hu.2.2.2.2.2.2.1 r 0; omega) | (split <;> decide)) ?_
      refine ow_pI (pc := 41) hX (kd_N Y n s c) 13 d_S_settleDown_41 kw_86 rfl (by show _ < n; first | assumption | omega | (have := hu.2.2.2.2.2.2.1 r 0; omega) | (split <;> decide)) rfl (by decide +kernel) ?_
      refine ow_goto (pc := 44) (tgt := 67) hX d_S_settleDown_44 (by decide) ?_
      refine ow_aload_n (pc := 67) hX d_S_settleDown_67 rfl ?_
      refine ow_gR (pc := 68) hX (kd_N Y n s c) 5 d_S_settleDown_68 kw_73 rfl (by show _ < n; first | assumption | omega | (have := hu.2.2.2.2.2.2.1 r 0; omega) | (split <;> decide)) ?_
      refine ow_iload_n (pc := 71) hX d_S_settleDown_71 rfl ?_
      refine ow_iload_n (pc := 72) hX d_S_settleDown_72 rfl ?_
      refine ow_sI (pc := 73) hX rfl d_S_settleDown_73 (by show _ < n; first | assumption | omega | (have := hu.2.2.2.2.2.2.1 r 0; omega) | (split <;> decide)) (by show _ < n; first | assumption | omega | (have := hu.2.2.2.2.2.2.1 r 0; omega) | (split <;> decide)) ?_
      refine ow_iconst (pc := 74) (v := nI 1) hX d_S_settleDown_74 (by decide) ?_
      exact ow_zret (pc := 75) hX d_S_settleDown_75 (nb_01 (by first | decide | assumption | omega | exact kbit_le _ _)) (by first | rfl | (unfold kc_settleDown; first | rw [if_neg h21] | rw [if_pos h21, if_pos h31] | rw [if_pos h21, if_neg h31, if_pos hq] | rw [if_pos h21, if_neg h31, if_neg hq])) (by first | rfl | (unfold kc_settleDown; first | rw [if_neg h21] | rw [if_pos h21, if_pos h31] | rw [if_pos h21, if_neg h31, if_pos hq] | rw [if_pos h21, if_neg h31, if_neg hq]))
  · skip
    refine ow_iconst (pc := 24) (v := nI 1) hX d_S_settleDown_24 (by decide) ?_
    exact ow_zret (pc := 25) hX d_S_settleDown_25 (nb_01 (by first | decide | assumption | omega | exact kbit_le _ _)) (by first | rfl | (unfold kc_settleDown; first | rw [if_neg h21] | rw [if_pos h21, if_pos h31] | rw [if_pos h21, if_neg h31, if_pos hq] | rw [if_pos h21, if_neg h31, if_neg hq])) (by first | rfl | (unfold kc_settleDown; first | rw [if_neg h21] | rw [if_pos h21, if_pos h31] | rw [if_pos h21, if_neg h31, if_pos hq] | rw [if_pos h21, if_neg h31, if_neg hq]))
set_option maxRecDepth 100000 in
set_option maxHeartbeats 4000000 in
theorem c_S_sendUp (l : Launch) (Y : YY) (n s c : Nat) (hV : pv_ok (vC Y n s c)) (u : UU) (a b ch : Nat) (ha : a < n) (hb : b < n) (hch : ch < c) (hn : n ≤ 6) (hu : wf n u) : Ct l (vC Y n s c) ⟨"SlottedMesh", "sendUp", "(LSlottedMesh$Node;LSlottedMesh$Node;LSlottedMesh$Channel;)V"⟩ (wz ⟨"SlottedMesh", "sendUp", "(LSlottedMesh$Node;LSlottedMesh$Node;LSlottedMesh$Channel;)V"⟩ b_S_sendUp 5 none) (rd 5) [.ref (pv_ad (vC Y n s c) 0 0), .ref (pv_ad (vC Y n s c) 4 a), .ref (pv_ad (vC Y n s c) 4 b), .ref (pv_ad (vC Y n s c) 5 ch)] u none (kc_sendUp u a b ch) := by
  refine ct_mk hV (by decide +kernel) (Nat.le_of_ble_eq_true rfl) (fun X hX => ?_)
  have hX : ox X (vC Y n s c) (rd 5) b_S_sendUp 5 "SlottedMesh" gz none := hX
  show ow X (vC Y n s c) none (kc_sendUp u a b ch) u [(0, .ref (pv_ad (vC Y n s c) 0 0)), (1, .ref (pv_ad (vC Y n s c) 4 a)), (2, .ref (pv_ad (vC Y n s c) 4 b)), (3, .ref (pv_ad (vC Y n s c) 5 ch))] 0 []
  refine ow_aload_n (pc := 0) hX d_S_sendUp_0 rfl ?_
  refine ow_gN (pc := 1) hX (kd_N Y n s c) 7 d_S_sendUp_1 kw_77 rfl (by show _ < n; first | assumption | omega | (have := hu.2.2.1 a; omega) | (have := hu.2.2.2.2.2.1 (2 * a); omega) | (have := hw2.2.2.2.2.2.2.2.2.2.2.2.1; omega) | exact Nat.lt_of_le_of_lt (kbit_le _ _) (by decide) | exact ((ev_drop hw2).1 hw2).2.2.2.2.2.2.2.2.2.2.2.1) ?_
  refine ow_nz_eq (pc := 4) (tgt := 17) hX d_S_sendUp_4 (by decide) (by first | assumption | omega | (have := hu.2.2.1 a; omega) | (have := hu.2.2.2.2.2.1 (2 * a); omega) | (have := hw2.2.2.2.2.2.2.2.2.2.2.2.1; omega) | exact Nat.lt_of_le_of_lt (kbit_le _ _) (by decide) | exact ((ev_drop hw2).1 hw2).2.2.2.2.2.2.2.2.2.2.2.1) (fun h4 => ?_) (fun h4 => ?_)
  · skip
    exact ow_vret (pc := 17) hX d_S_sendUp_17 rfl (by first | rfl | (unfold kc_sendUp; first | rw [if_pos h4] | rw [if_neg h4, if_pos h14] | (rw [if_neg h4, if_neg h14]; unfold kc_up1; first | (rw [if_pos hh]; rfl) | (rw [if_neg (by rw [hh]; decide), hs]; unfold kc_up2; first | rfl | (rw [if_neg (by decide)]; first | rw [if_pos h70] | (rw [if_neg h70]; unfold kc_up3; first | rw [if_pos h106] | rw [if_neg h106]))))))
  · skip
    refine ow_aload_n (pc := 7) hX d_S_sendUp_7 rfl ?_
    refine ow_gE (pc := 8) hX (kd_N Y n s c) 2 d_S_sendUp_8 kw_67 rfl (by show _ < n; first | assumption | omega | (have := hu.2.2.1 a; omega) | (have := hu.2.2.2.2.2.1 (2 * a); omega) | (have := hw2.2.2.2.2.2.2.2.2.2.2.2.1; omega) | exact Nat.lt_of_le_of_lt (kbit_le _ _) (by decide) | exact ((ev_drop hw2).1 hw2).2.2.2.2.2.2.2.2.2.2.2.1) ?_
    refine ow_gN (pc := 11) hX (kd_F Y n s c) 3 d_S_sendUp_11 kw_49 rfl (by show _ < 2 * n; first | assumption | omega | (have := hu.2.2.1 a; omega) | (have := hu.2.2.2.2.2.1 (2 * a); omega) | (have := hw2.2.2.2.2.2.2.2.2.2.2.2.1; omega) | exact Nat.lt_of_le_of_lt (kbit_le _ _) (by decide) | exact ((ev_drop hw2).1 hw2).2.2.2.2.2.2.2.2.2.2.2.1) ?_
    refine ow_nz_ne (pc := 14) (tgt := 18) hX d_S_sendUp_14 (by decide) (by first | assumption | omega | (have := hu.2.2.1 a; omega) | (have := hu.2.2.2.2.2.1 (2 * a); omega) | (have := hw2.2.2.2.2.2.2.2.2.2.2.2.1; omega) | exact Nat.lt_of_le_of_lt (kbit_le _ _) (by decide) | exact ((ev_drop hw2).1 hw2).2.2.2.2.2.2.2.2.2.2.2.1) (fun h14 => ?_) (fun h14 => ?_)
    · skip
      refine ow_aload_n (pc := 18) hX d_S_sendUp_18 rfl ?_
      refine ow_dup (pc := 19) hX d_S_sendUp_19 rfl ?_
      refine ow_gI (pc := 20) hX (kd_S Y n s c) 8 d_S_sendUp_20 kw_209 rfl Nat.zero_lt_one ?_
      refine ow_iconst (pc := 23) (v := nI 1) hX d_S_sendUp_23 (by decide) ?_
      refine ow_iadd (pc := 24) hX d_S_sendUp_24 ?_
      refine ow_pI (pc := 25) hX (kd_S Y n s c) 8 d_S_sendUp_25 kw_209 rfl Nat.zero_lt_one rfl (by decide +kernel) ?_
      have hu1 : wf n (ui u 0 0 8 (u.2.1 0 0 8 + nI 1)) := hu
      refine ow_aload_n (pc := 28) hX d_S_sendUp_28 rfl ?_
      refine ow_aload_n (pc := 29) hX d_S_sendUp_29 rfl ?_
      refine ow_aload_n (pc := 30) hX d_S_sendUp_30 rfl ?_
      refine ow_aload_n (pc := 31) hX d_S_sendUp_31 rfl ?_
      refine ow_callV (pc := 32) hX (kd_S Y n s c) Nat.zero_lt_one (c_S_hears _ Y n s c hV (ui u 0 0 8 (u.2.1 0 0 8 + nI 1)) a b ch ha hb hch hn hu1) (cw_V hX mz_S_hears kw_398 ⟨rfl, rfl⟩ (by decide)) rfl (Nat.le_of_ble_eq_true rfl) d_S_sendUp_32 rfl ?_
      rcases kc_hears_01 (ui u 0 0 8 (u.2.1 0 0 8 + nI 1)) b a ch with hh | hh
      · skip
        refine ow_st (st2 := .int (nI 0) :: _) (by rw [hh]; rfl) ?_
        refine ow_nz_eq (pc := 35) (tgt := 54) hX d_S_sendUp_35 (by decide) (by first | assumption | omega | (have := hu.2.2.1 a; omega) | (have := hu.2.2.2.2.2.1 (2 * a); omega) | (have := hw2.2.2.2.2.2.2.2.2.2.2.2.1; omega) | exact Nat.lt_of_le_of_lt (kbit_le _ _) (by decide) | exact ((ev_drop hw2).1 hw2).2.2.2.2.2.2.2.2.2.2.2.1) (fun h35 => ?_) (fun h35 => ?_)
        · skip
          refine ow_iconst (pc := 54) (v := nI 0) hX d_S_sendUp_54 (by decide) ?_
          refine ow_istore (pc := 55) (l2 := [(0, _), (1, _), (2, _), (3, _), (4, _)]) hX d_S_sendUp_55 (by decide) rfl rfl ?_
          refine ow_iload (pc := 57) hX d_S_sendUp_57 rfl ?_
          refine ow_nz_eq (pc := 59) (tgt := 73) hX d_S_sendUp_59 (by decide) (by first | assumption | omega | (have := hu.2.2.1 a; omega) | (have := hu.2.2.2.2.2.1 (2 * a); omega) | (have := hw2.2.2.2.2.2.2.2.2.2.2.2.1; omega) | exact Nat.lt_of_le_of_lt (kbit_le _ _) (by decide) | exact ((ev_drop hw2).1 hw2).2.2.2.2.2.2.2.2.2.2.2.1) (fun h59 => ?_) (fun h59 => ?_)
          · skip
            refine ow_aload_n (pc := 73) hX d_S_sendUp_73 rfl ?_
            refine ow_callV (pc := 74) hX (kd_N Y n s c) (by show _ < n; first | assumption | omega | (have := hu.2.2.1 a; omega) | (have := hu.2.2.2.2.2.1 (2 * a); omega) | (have := hw2.2.2.2.2.2.2.2.2.2.2.2.1; omega) | exact Nat.lt_of_le_of_lt (kbit_le _ _) (by decide) | exact ((ev_drop hw2).1 hw2).2.2.2.2.2.2.2.2.2.2.2.1) (c_N_failUp _ Y n s c hV _ a ha ((show wf n _ from (by first | exact hw2 | exact hu1)).2.2.2.1 a)) (cw_V hX mz_N_failUp kw_427 ⟨rfl, rfl⟩ (by decide)) rfl (Nat.le_of_ble_eq_true rfl) d_S_sendUp_74 rfl ?_
            exact ow_vret (pc := 77) hX d_S_sendUp_77 rfl (by first | rfl | (unfold kc_sendUp; first | rw [if_pos h4] | rw [if_neg h4, if_pos h14] | (rw [if_neg h4, if_neg h14]; unfold kc_up1; first | (rw [if_pos hh]; rfl) | (rw [if_neg (by rw [hh]; decide), hs]; unfold kc_up2; first | rfl | (rw [if_neg (by decide)]; first | rw [if_pos h70] | (rw [if_neg h70]; unfold kc_up3; first | rw [if_pos h106] | rw [if_neg h106]))))))
          · skip
            exact absurd h59 (by decide)
        · skip
          exact absurd h35 (by decide)
      · skip
        refine ow_st (st2 := .int (nI 1) :: _) (by rw [hh]; rfl) ?_
        refine ow_nz_eq (pc := 35) (tgt := 54) hX d_S_sendUp_35 (by decide) (by first | assumption | omega | (have := hu.2.2.1 a; omega) | (have := hu.2.2.2.2.2.1 (2 * a); omega) | (have := hw2.2.2.2.2.2.2.2.2.2.2.2.1; omega) | exact Nat.lt_of_le_of_lt (kbit_le _ _) (by decide) | exact ((ev_drop hw2).1 hw2).2.2.2.2.2.2.2.2.2.2.2.1) (fun h35 => ?_) (fun h35 => ?_)
        · skip
          exact absurd h35 (by decide)
        · skip
          refine ow_aload_n (pc := 38) hX d_S_sendUp_38 rfl ?_
          refine ow_aload_n (pc := 39) hX d_S_sendUp_39 rfl ?_
          refine ow_gE (pc := 40) hX (kd_N Y n s c) 2 d_S_sendUp_40 kw_67 rfl (by show _ < n; first | assumption | omega | (have := hu.2.2.1 a; omega) | (have := hu.2.2.2.2.2.1 (2 * a); omega) | (have := hw2.2.2.2.2.2.2.2.2.2.2.2.1; omega) | exact Nat.lt_of_le_of_lt (kbit_le _ _) (by decide) | exact ((ev_drop hw2).1 hw2).2.2.2.2.2.2.2.2.2.2.2.1) ?_
          refine ow_aload_n (pc := 43) hX d_S_sendUp_43 rfl ?_
          refine ow_callV (pc := 44) hX (kd_S Y n s c) Nat.zero_lt_one (c_S_settleUp _ Y n s c hV (ui u 0 0 8 (u.2.1 0 0 8 + nI 1)) (2 * a) b (by omega) hb hn hu1) (cw_V hX mz_S_settleUp kw_402 ⟨rfl, rfl⟩ (by decide)) rfl (Nat.le_of_ble_eq_true rfl) d_S_sendUp_44 rfl ?_
          have hw2 : wf n (kc_settleUp (ui u 0 0 8 (u.2.1 0 0 8 + nI 1)) (2 * a) b).2 := (ev_settleUp hu1).1 hu1
          rcases kc_settleUp_01 (ui u 0 0 8 (u.2.1 0 0 8 + nI 1)) (2 * a) b with hs | hs
          · skip
            refine ow_st (st2 := .int (nI 0) :: _) (by rw [hs]; rfl) ?_
            refine ow_nz_eq (pc := 47) (tgt := 54) hX d_S_sendUp_47 (by decide) (by first | assumption | omega | (have := hu.2.2.1 a; omega) | (have := hu.2.2.2.2.2.1 (2 * a); omega) | (have := hw2.2.2.2.2.2.2.2.2.2.2.2.1; omega) | exact Nat.lt_of_le_of_lt (kbit_le _ _) (by decide) | exact ((ev_drop hw2).1 hw2).2.2.2.2.2.2.2.2.2.2.2.1) (fun h47 => ?_) (fun h47 => ?_)
            · skip
              refine ow_iconst (pc := 54) (v := nI 0) hX d_S_sendUp_54 (by decide) ?_
              refine ow_istore (pc := 55) (l2 := [(0, _), (1, _), (2, _), (3, _), (4, _)]) hX d_S_sendUp_55 (by decide) rfl rfl ?_
              refine ow_iload (pc := 57) hX d_S_sendUp_57 rfl ?_
              refine ow_nz_eq (pc := 59) (tgt := 73) hX d_S_sendUp_59 (by decide) (by first | assumption | omega | (have := hu.2.2.1 a; omega) | (have := hu.2.2.2.2.2.1 (2 * a); omega) | (have := hw2.2.2.2.2.2.2.2.2.2.2.2.1; omega) | exact Nat.lt_of_le_of_lt (kbit_le _ _) (by decide) | exact ((ev_drop hw2).1 hw2).2.2.2.2.2.2.2.2.2.2.2.1) (fun h59 => ?_) (fun h59 => ?_)
              · skip
                refine ow_aload_n (pc := 73) hX d_S_sendUp_73 rfl ?_
                refine ow_callV (pc := 74) hX (kd_N Y n s c) (by show _ < n; first | assumption | omega | (have := hu.2.2.1 a; omega) | (have := hu.2.2.2.2.2.1 (2 * a); omega) | (have := hw2.2.2.2.2.2.2.2.2.2.2.2.1; omega) | exact Nat.lt_of_le_of_lt (kbit_le _ _) (by decide) | exact ((ev_drop hw2).1 hw2).2.2.2.2.2.2.2.2.2.2.2.1) (c_N_failUp _ Y n s c hV _ a ha ((show wf n _ from (by first | exact hw2 | exact hu1)).2.2.2.1 a)) (cw_V hX mz_N_failUp kw_427 ⟨rfl, rfl⟩ (by decide)) rfl (Nat.le_of_ble_eq_true rfl) d_S_sendUp_74 rfl ?_
                exact ow_vret (pc := 77) hX d_S_sendUp_77 rfl (by first | rfl | (unfold kc_sendUp; first | rw [if_pos h4] | rw [if_neg h4, if_pos h14] | (rw [if_neg h4, if_neg h14]; unfold kc_up1; first | (rw [if_pos hh]; rfl) | (rw [if_neg (by rw [hh]; decide), hs]; unfold kc_up2; first | rfl | (rw [if_neg (by decide)]; first | rw [if_pos h70] | (rw [if_neg h70]; unfold kc_up3; first | rw [if_pos h106] | rw [if_neg h106]))))))
              · skip
                exact absurd h59 (by decide)
            · skip
              exact absurd h47 (by decide)
          · skip
            refine ow_st (st2 := .int (nI 1) :: _) (by rw [hs]; rfl) ?_
            refine ow_nz_eq (pc := 47) (tgt := 54) hX d_S_sendUp_47 (by decide) (by first | assumption | omega | (have := hu.2.2.1 a; omega) | (have := hu.2.2.2.2.2.1 (2 * a); omega) | (have := hw2.2.2.2.2.2.2.2.2.2.2.2.1; omega) | exact Nat.lt_of_le_of_lt (kbit_le _ _) (by decide) | exact ((ev_drop hw2).1 hw2).2.2.2.2.2.2.2.2.2.2.2.1) (fun h47 => ?_) (fun h47 => ?_)
            · skip
              exact absurd h47 (by decide)
            · skip
              refine ow_iconst (pc := 50) (v := nI 1) hX d_S_sendUp_50 (by decide) ?_
              refine ow_goto (pc := 51) (tgt := 55) hX d_S_sendUp_51 (by decide) ?_
              refine ow_istore (pc := 55) (l2 := [(0, _), (1, _), (2, _), (3, _), (4, _)]) hX d_S_sendUp_55 (by decide) rfl rfl ?_
              refine ow_iload (pc := 57) hX d_S_sendUp_57 rfl ?_
              refine ow_nz_eq (pc := 59) (tgt := 73) hX d_S_sendUp_59 (by decide) (by first | assumption | omega | (have := hu.2.2.1 a; omega) | (have := hu.2.2.2.2.2.1 (2 * a); omega) | (have := hw2.2.2.2.2.2.2.2.2.2.2.2.1; omega) | exact Nat.lt_of_le_of_lt (kbit_le _ _) (by decide) | exact ((ev_drop hw2).1 hw2).2.2.2.2.2.2.2.2.2.2.2.1) (fun h59 => ?_) (fun h59 => ?_)
              · skip
                exact absurd h59 (by decide)
              · skip
                refine ow_aload_n (pc := 62) hX d_S_sendUp_62 rfl ?_
                refine ow_aload_n (pc := 63) hX d_S_sendUp_63 rfl ?_
                refine ow_gN (pc := 64) hX (kd_S Y n s c) 7 d_S_sendUp_64 kw_208 rfl Nat.zero_lt_one ?_
                try simp only [un_1, un_2, ui_1, ui_2, ui_3, ul_1, ul_2, ul_3, ul_4, ur_1, ur_2, ur_3, ur_4, Nat.reduceEqDiff, false_and, and_false, true_and, and_true, and_self, reduceIte]
                refine ow_callV (pc := 67) hX (kd_H Y n s c) (by show _ < c; first | assumption | omega | (have := hu.2.2.1 a; omega) | (have := hu.2.2.2.2.2.1 (2 * a); omega) | (have := hw2.2.2.2.2.2.2.2.2.2.2.2.1; omega) | exact Nat.lt_of_le_of_lt (kbit_le _ _) (by decide) | exact ((ev_drop hw2).1 hw2).2.2.2.2.2.2.2.2.2.2.2.1) (c_H_carriesConfirmation _ Y n s c hV _ ch _ hch (by have := hw2.2.2.2.2.2.2.2.2.2.2.1; omega)) (cw_V hX mz_H_carriesConfirmation kw_423 ⟨rfl, rfl⟩ (by decide)) rfl (Nat.le_of_ble_eq_true rfl) d_S_sendUp_67 rfl ?_
                refine ow_nz_ne (pc := 70) (tgt := 78) hX d_S_sendUp_70 (by decide) (by first | assumption | omega | (have := hu.2.2.1 a; omega) | (have := hu.2.2.2.2.2.1 (2 * a); omega) | (have := hw2.2.2.2.2.2.2.2.2.2.2.2.1; omega) | exact Nat.lt_of_le_of_lt (kbit_le _ _) (by decide) | exact ((ev_drop hw2).1 hw2).2.2.2.2.2.2.2.2.2.2.2.1) (fun h70 => ?_) (fun h70 => ?_)
                · skip
                  refine ow_aload_n (pc := 78) hX d_S_sendUp_78 rfl ?_
                  refine ow_gE (pc := 79) hX (kd_N Y n s c) 2 d_S_sendUp_79 kw_67 rfl (by show _ < n; first | assumption | omega | (have := hu.2.2.1 a; omega) | (have := hu.2.2.2.2.2.1 (2 * a); omega) | (have := hw2.2.2.2.2.2.2.2.2.2.2.2.1; omega) | exact Nat.lt_of_le_of_lt (kbit_le _ _) (by decide) | exact ((ev_drop hw2).1 hw2).2.2.2.2.2.2.2.2.2.2.2.1) ?_
                  refine ow_callV (pc := 82) hX (kd_F Y n s c) (by show _ < 2 * n; first | assumption | omega | (have := hu.2.2.1 a; omega) | (have := hu.2.2.2.2.2.1 (2 * a); omega) | (have := hw2.2.2.2.2.2.2.2.2.2.2.2.1; omega) | exact Nat.lt_of_le_of_lt (kbit_le _ _) (by decide) | exact ((ev_drop hw2).1 hw2).2.2.2.2.2.2.2.2.2.2.2.1) (c_F_dropFirst _ Y n s c hV _ (2 * a) (by omega) (hw2.2.2.2.2.2.1 _)) (cw_V hX mz_F_dropFirst kw_431 ⟨rfl, rfl⟩ (by decide)) rfl (Nat.le_of_ble_eq_true rfl) d_S_sendUp_82 rfl ?_
                  refine ow_aload_n (pc := 85) hX d_S_sendUp_85 rfl ?_
                  refine ow_iconst (pc := 86) (v := nI 0) hX d_S_sendUp_86 (by decide) ?_
                  refine ow_pN (pc := 87) hX (kd_N Y n s c) 10 d_S_sendUp_87 kw_82 rfl (by show _ < n; first | assumption | omega | (have := hu.2.2.1 a; omega) | (have := hu.2.2.2.2.2.1 (2 * a); omega) | (have := hw2.2.2.2.2.2.2.2.2.2.2.2.1; omega) | exact Nat.lt_of_le_of_lt (kbit_le _ _) (by decide) | exact ((ev_drop hw2).1 hw2).2.2.2.2.2.2.2.2.2.2.2.1) rfl (by decide +kernel) ?_
                  refine ow_aload_n (pc := 90) hX d_S_sendUp_90 rfl ?_
                  refine ow_gM (pc := 91) hX (kd_S Y n s c) 5 d_S_sendUp_91 kw_206 rfl Nat.zero_lt_one ?_
                  try simp only [un_1, un_2, ui_1, ui_2, ui_3, ul_1, ul_2, ul_3, ul_4, ur_1, ur_2, ur_3, ur_4, Nat.reduceEqDiff, false_and, and_false, true_and, and_true, and_self, reduceIte]
                  refine ow_gR (pc := 94) hX (kd_P Y n s c) 3 d_S_sendUp_94 kw_173 rfl (by show _ < 2; first | assumption | omega | (have := hu.2.2.1 a; omega) | (have := hu.2.2.2.2.2.1 (2 * a); omega) | (have := hw2.2.2.2.2.2.2.2.2.2.2.2.1; omega) | exact Nat.lt_of_le_of_lt (kbit_le _ _) (by decide) | exact ((ev_drop hw2).1 hw2).2.2.2.2.2.2.2.2.2.2.2.1) ?_
                  refine ow_aload_n (pc := 97) hX d_S_sendUp_97 rfl ?_
                  refine ow_gS (pc := 98) hX (kd_N Y n s c) 0 d_S_sendUp_98 kw_62 rfl (by show _ < n; first | assumption | omega | (have := hu.2.2.1 a; omega) | (have := hu.2.2.2.2.2.1 (2 * a); omega) | (have := hw2.2.2.2.2.2.2.2.2.2.2.2.1; omega) | exact Nat.lt_of_le_of_lt (kbit_le _ _) (by decide) | exact ((ev_drop hw2).1 hw2).2.2.2.2.2.2.2.2.2.2.2.1) ?_
                  refine ow_aI (pc := 101) hX rfl d_S_sendUp_101 (by show _ < 2; first | assumption | omega | (have := hu.2.2.1 a; omega) | (have := hu.2.2.2.2.2.1 (2 * a); omega) | (have := hw2.2.2.2.2.2.2.2.2.2.2.2.1; omega) | exact Nat.lt_of_le_of_lt (kbit_le _ _) (by decide) | exact ((ev_drop hw2).1 hw2).2.2.2.2.2.2.2.2.2.2.2.1) (by show _ < n; first | assumption | omega | (have := hu.2.2.1 a; omega) | (have := hu.2.2.2.2.2.1 (2 * a); omega) | (have := hw2.2.2.2.2.2.2.2.2.2.2.2.1; omega) | exact Nat.lt_of_le_of_lt (kbit_le _ _) (by decide) | exact ((ev_drop hw2).1 hw2).2.2.2.2.2.2.2.2.2.2.2.1) ?_
                  try simp only [un_1, un_2, ui_1, ui_2, ui_3, ul_1, ul_2, ul_3, ul_4, ur_1, ur_2, ur_3, ur_4, Nat.reduceEqDiff, false_and, and_false, true_and, and_true, and_self, reduceIte]
                  refine ow_aload_n (pc := 102) hX d_S_sendUp_102 rfl ?_
                  refine ow_gS (pc := 103) hX (kd_N Y n s c) 0 d_S_sendUp_103 kw_62 rfl (by show _ < n; first | assumption | omega | (have := hu.2.2.1 a; omega) | (have := hu.2.2.2.2.2.1 (2 * a); omega) | (have := hw2.2.2.2.2.2.2.2.2.2.2.2.1; omega) | exact Nat.lt_of_le_of_lt (kbit_le _ _) (by decide) | exact ((ev_drop hw2).1 hw2).2.2.2.2.2.2.2.2.2.2.2.1) ?_
                  refine ow_ic_ne (pc := 106) (tgt := 117) hX d_S_sendUp_106 (by decide) (fun h106 => ?_) (fun h106 => ?_)
                  · skip
                    exact ow_vret (pc := 117) hX d_S_sendUp_117 rfl (by first | rfl | (unfold kc_sendUp; first | rw [if_pos h4] | rw [if_neg h4, if_pos h14] | (rw [if_neg h4, if_neg h14]; unfold kc_up1; first | (rw [if_pos hh]; rfl) | (rw [if_neg (by rw [hh]; decide), hs]; unfold kc_up2; first | rfl | (rw [if_neg (by decide)]; first | rw [if_pos h70] | (rw [if_neg h70]; unfold kc_up3; first | rw [if_pos h106] | rw [if_neg h106]))))))
                  · skip
                    refine ow_aload_n (pc := 109) hX d_S_sendUp_109 rfl ?_
                    refine ow_aload_n (pc := 110) hX d_S_sendUp_110 rfl ?_
                    refine ow_gI (pc := 111) hX (kd_N Y n s c) 8 d_S_sendUp_111 kw_79 rfl (by show _ < n; first | assumption | omega | (have := hu.2.2.1 a; omega) | (have := hu.2.2.2.2.2.1 (2 * a); omega) | (have := hw2.2.2.2.2.2.2.2.2.2.2.2.1; omega) | exact Nat.lt_of_le_of_lt (kbit_le _ _) (by decide) | exact ((ev_drop hw2).1 hw2).2.2.2.2.2.2.2.2.2.2.2.1) ?_
                    try simp only [un_1, un_2, ui_1, ui_2, ui_3, ul_1, ul_2, ul_3, ul_4, ur_1, ur_2, ur_3, ur_4, Nat.reduceEqDiff, false_and, and_false, true_and, and_true, and_self, reduceIte]
                    refine ow_pI (pc := 114) hX (kd_N Y n s c) 8 d_S_sendUp_114 kw_79 rfl (by show _ < n; first | assumption | omega | (have := hu.2.2.1 a; omega) | (have := hu.2.2.2.2.2.1 (2 * a); omega) | (have := hw2.2.2.2.2.2.2.2.2.2.2.2.1; omega) | exact Nat.lt_of_le_of_lt (kbit_le _ _) (by decide) | exact ((ev_drop hw2).1 hw2).2.2.2.2.2.2.2.2.2.2.2.1) rfl (by decide +kernel) ?_
                    exact ow_vret (pc := 117) hX d_S_sendUp_117 rfl (by first | rfl | (unfold kc_sendUp; first | rw [if_pos h4] | rw [if_neg h4, if_pos h14] | (rw [if_neg h4, if_neg h14]; unfold kc_up1; first | (rw [if_pos hh]; rfl) | (rw [if_neg (by rw [hh]; decide), hs]; unfold kc_up2; first | rfl | (rw [if_neg (by decide)]; first | rw [if_pos h70] | (rw [if_neg h70]; unfold kc_up3; first | rw [if_pos h106] | rw [if_neg h106]))))))
                · skip
                  refine ow_aload_n (pc := 73) hX d_S_sendUp_73 rfl ?_
                  refine ow_callV (pc := 74) hX (kd_N Y n s c) (by show _ < n; first | assumption | omega | (have := hu.2.2.1 a; omega) | (have := hu.2.2.2.2.2.1 (2 * a); omega) | (have := hw2.2.2.2.2.2.2.2.2.2.2.2.1; omega) | exact Nat.lt_of_le_of_lt (kbit_le _ _) (by decide) | exact ((ev_drop hw2).1 hw2).2.2.2.2.2.2.2.2.2.2.2.1) (c_N_failUp _ Y n s c hV _ a ha ((show wf n _ from (by first | exact hw2 | exact hu1)).2.2.2.1 a)) (cw_V hX mz_N_failUp kw_427 ⟨rfl, rfl⟩ (by decide)) rfl (Nat.le_of_ble_eq_true rfl) d_S_sendUp_74 rfl ?_
                  exact ow_vret (pc := 77) hX d_S_sendUp_77 rfl (by first | rfl | (unfold kc_sendUp; first | rw [if_pos h4] | rw [if_neg h4, if_pos h14] | (rw [if_neg h4, if_neg h14]; unfold kc_up1; first | (rw [if_pos hh]; rfl) | (rw [if_neg (by rw [hh]; decide), hs]; unfold kc_up2; first | rfl | (rw [if_neg (by decide)]; first | rw [if_pos h70] | (rw [if_neg h70]; unfold kc_up3; first | rw [if_pos h106] | rw [if_neg h106]))))))
    · skip
      exact ow_vret (pc := 17) hX d_S_sendUp_17 rfl (by first | rfl | (unfold kc_sendUp; first | rw [if_pos h4] | rw [if_neg h4, if_pos h14] | (rw [if_neg h4, if_neg h14]; unfold kc_up1; first | (rw [if_pos hh]; rfl) | (rw [if_neg (by rw [hh]; decide), hs]; unfold kc_up2; first | rfl | (rw [if_neg (by decide)]; first | rw [if_pos h70] | (rw [if_neg h70]; unfold kc_up3; first | rw [if_pos h106] | rw [if_neg h106]))))))
