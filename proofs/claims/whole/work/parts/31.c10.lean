/-! SlottedMesh: sendDown, adverts, drift (by program, wip/whole/gen/c10.py) -/
set_option maxRecDepth 100000 in
set_option maxHeartbeats 4000000 in
theorem c_S_sendDown (l : Launch) (Y : YY) (n s c : Nat) (hV : pv_ok (vC Y n s c)) (u : UU) (a b ch : Nat) (ha : a < n) (hb : b < n) (hch : ch < c) (hn : n ≤ 6) (hu : wf n u) (fa : Nat → Option Nat) (hfa : ∀ i, i < n → u.2.1 17 (u.2.2.2 5) i = io (fa i)) (hf1 : ∀ i a, fa i = some a → a < n) : Ct l (vC Y n s c) ⟨"SlottedMesh", "sendDown", "(LSlottedMesh$Node;LSlottedMesh$Node;LSlottedMesh$Channel;)V"⟩ (wz ⟨"SlottedMesh", "sendDown", "(LSlottedMesh$Node;LSlottedMesh$Node;LSlottedMesh$Channel;)V"⟩ b_S_sendDown 6 none) (rd 5) [.ref (pv_ad (vC Y n s c) 0 0), .ref (pv_ad (vC Y n s c) 4 a), .ref (pv_ad (vC Y n s c) 4 b), .ref (pv_ad (vC Y n s c) 5 ch)] u none (kc_sendDown n fa u a b ch) := by
  refine ct_mk hV (by decide +kernel) (Nat.le_of_ble_eq_true rfl) (fun X hX => ?_)
  have hX : ox X (vC Y n s c) (rd 5) b_S_sendDown 6 "SlottedMesh" gz none := hX
  show ow X (vC Y n s c) none (kc_sendDown n fa u a b ch) u [(0, .ref (pv_ad (vC Y n s c) 0 0)), (1, .ref (pv_ad (vC Y n s c) 4 a)), (2, .ref (pv_ad (vC Y n s c) 4 b)), (3, .ref (pv_ad (vC Y n s c) 5 ch))] 0 []
  have hp5 := hu.2.2.2.2.2.2.2.2.2.2.2.1
  refine ow_aload_n (pc := 0) hX d_S_sendDown_0 rfl ?_
  refine ow_gN (pc := 1) hX (kd_N Y n s c) 7 d_S_sendDown_1 kw_77 rfl (by show _ < n; first | assumption | omega | (have := hu.2.2.1 a; omega) | (have := hu.2.2.2.2.2.1 (2 * a + 1); omega) | exact Nat.lt_of_le_of_lt (kbit_le _ _) (by decide) | exact Nat.lt_of_le_of_lt (kleads_le _ _ _ _) (by decide)) ?_
  refine ow_nz_eq (pc := 4) (tgt := 40) hX d_S_sendDown_4 (by decide) (by first | assumption | omega | (have := hu.2.2.1 a; omega) | (have := hu.2.2.2.2.2.1 (2 * a + 1); omega) | exact Nat.lt_of_le_of_lt (kbit_le _ _) (by decide) | exact Nat.lt_of_le_of_lt (kleads_le _ _ _ _) (by decide)) (fun h4 => ?_) (fun h4 => ?_)
  · skip
    exact ow_vret (pc := 40) hX d_S_sendDown_40 rfl (by first | rfl | (unfold kc_sendDown; first | rw [if_pos h4] | rw [if_neg h4, if_pos h14] | rw [if_neg h4, if_neg h14, if_pos h37] | (rw [if_neg h4, if_neg h14, if_neg h37]; unfold kc_dn1; rw [show (ui u 0 0 8 (u.2.1 0 0 8 + nI 1)).2.1 4 a 8 = u.2.1 4 a 8 from rfl]; first | (rw [if_pos hh]; rfl) | (rw [if_neg (by rw [hh]; decide), hs]; unfold kc_dn2; first | rfl | (rw [if_neg (by decide)]; first | rw [if_pos h109] | rw [if_neg h109])))))
  · skip
    refine ow_aload_n (pc := 7) hX d_S_sendDown_7 rfl ?_
    refine ow_gO (pc := 8) hX (kd_N Y n s c) 3 d_S_sendDown_8 kw_69 rfl (by show _ < n; first | assumption | omega | (have := hu.2.2.1 a; omega) | (have := hu.2.2.2.2.2.1 (2 * a + 1); omega) | exact Nat.lt_of_le_of_lt (kbit_le _ _) (by decide) | exact Nat.lt_of_le_of_lt (kleads_le _ _ _ _) (by decide)) ?_
    refine ow_gN (pc := 11) hX (kd_F Y n s c) 3 d_S_sendDown_11 kw_49 rfl (by show _ < 2 * n; first | assumption | omega | (have := hu.2.2.1 a; omega) | (have := hu.2.2.2.2.2.1 (2 * a + 1); omega) | exact Nat.lt_of_le_of_lt (kbit_le _ _) (by decide) | exact Nat.lt_of_le_of_lt (kleads_le _ _ _ _) (by decide)) ?_
    refine ow_nz_eq (pc := 14) (tgt := 40) hX d_S_sendDown_14 (by decide) (by first | assumption | omega | (have := hu.2.2.1 a; omega) | (have := hu.2.2.2.2.2.1 (2 * a + 1); omega) | exact Nat.lt_of_le_of_lt (kbit_le _ _) (by decide) | exact Nat.lt_of_le_of_lt (kleads_le _ _ _ _) (by decide)) (fun h14 => ?_) (fun h14 => ?_)
    · skip
      exact ow_vret (pc := 40) hX d_S_sendDown_40 rfl (by first | rfl | (unfold kc_sendDown; first | rw [if_pos h4] | rw [if_neg h4, if_pos h14] | rw [if_neg h4, if_neg h14, if_pos h37] | (rw [if_neg h4, if_neg h14, if_neg h37]; unfold kc_dn1; rw [show (ui u 0 0 8 (u.2.1 0 0 8 + nI 1)).2.1 4 a 8 = u.2.1 4 a 8 from rfl]; first | (rw [if_pos hh]; rfl) | (rw [if_neg (by rw [hh]; decide), hs]; unfold kc_dn2; first | rfl | (rw [if_neg (by decide)]; first | rw [if_pos h109] | rw [if_neg h109])))))
    · skip
      refine ow_aload_n (pc := 17) hX d_S_sendDown_17 rfl ?_
      refine ow_gM (pc := 18) hX (kd_S Y n s c) 5 d_S_sendDown_18 kw_206 rfl Nat.zero_lt_one ?_
      refine ow_aload_n (pc := 21) hX d_S_sendDown_21 rfl ?_
      refine ow_gO (pc := 22) hX (kd_N Y n s c) 3 d_S_sendDown_22 kw_69 rfl (by show _ < n; first | assumption | omega | (have := hu.2.2.1 a; omega) | (have := hu.2.2.2.2.2.1 (2 * a + 1); omega) | exact Nat.lt_of_le_of_lt (kbit_le _ _) (by decide) | exact Nat.lt_of_le_of_lt (kleads_le _ _ _ _) (by decide)) ?_
      refine ow_gR (pc := 25) hX (kd_F Y n s c) 0 d_S_sendDown_25 kw_43 rfl (by show _ < 2 * n; first | assumption | omega | (have := hu.2.2.1 a; omega) | (have := hu.2.2.2.2.2.1 (2 * a + 1); omega) | exact Nat.lt_of_le_of_lt (kbit_le _ _) (by decide) | exact Nat.lt_of_le_of_lt (kleads_le _ _ _ _) (by decide)) ?_
      refine ow_iconst (pc := 28) (v := nI 0) hX d_S_sendDown_28 (by decide) ?_
      refine ow_aN (pc := 29) hX rfl d_S_sendDown_29 (by show _ < 2 * n; first | assumption | omega | (have := hu.2.2.1 a; omega) | (have := hu.2.2.2.2.2.1 (2 * a + 1); omega) | exact Nat.lt_of_le_of_lt (kbit_le _ _) (by decide) | exact Nat.lt_of_le_of_lt (kleads_le _ _ _ _) (by decide)) (by show _ < 4; first | assumption | omega | (have := hu.2.2.1 a; omega) | (have := hu.2.2.2.2.2.1 (2 * a + 1); omega) | exact Nat.lt_of_le_of_lt (kbit_le _ _) (by decide) | exact Nat.lt_of_le_of_lt (kleads_le _ _ _ _) (by decide)) ?_
      refine ow_aload_n (pc := 30) hX d_S_sendDown_30 rfl ?_
      refine ow_gS (pc := 31) hX (kd_N Y n s c) 0 d_S_sendDown_31 kw_62 rfl (by show _ < n; first | assumption | omega | (have := hu.2.2.1 a; omega) | (have := hu.2.2.2.2.2.1 (2 * a + 1); omega) | exact Nat.lt_of_le_of_lt (kbit_le _ _) (by decide) | exact Nat.lt_of_le_of_lt (kleads_le _ _ _ _) (by decide)) ?_
      refine ow_callV (pc := 34) hX (kd_P Y n s c) (by show _ < 2; first | assumption | omega | (have := hu.2.2.1 a; omega) | (have := hu.2.2.2.2.2.1 (2 * a + 1); omega) | exact Nat.lt_of_le_of_lt (kbit_le _ _) (by decide) | exact Nat.lt_of_le_of_lt (kleads_le _ _ _ _) (by decide)) (c_P_leadsUp _ Y n s c hV u (u.2.2.2 5) _ b hp5 (by omega) hn fa hfa hf1 (hu.2.2.2.2.2.2.1 _ _)) (cw_V hX mz_P_leadsUp kw_439 ⟨rfl, rfl⟩ (by decide)) rfl (Nat.le_of_ble_eq_true rfl) d_S_sendDown_34 rfl ?_
      refine ow_nz_ne (pc := 37) (tgt := 41) hX d_S_sendDown_37 (by decide) (by first | assumption | omega | (have := hu.2.2.1 a; omega) | (have := hu.2.2.2.2.2.1 (2 * a + 1); omega) | exact Nat.lt_of_le_of_lt (kbit_le _ _) (by decide) | exact Nat.lt_of_le_of_lt (kleads_le _ _ _ _) (by decide)) (fun h37 => ?_) (fun h37 => ?_)
      · skip
        refine ow_aload_n (pc := 41) hX d_S_sendDown_41 rfl ?_
        refine ow_dup (pc := 42) hX d_S_sendDown_42 rfl ?_
        refine ow_gI (pc := 43) hX (kd_S Y n s c) 8 d_S_sendDown_43 kw_209 rfl Nat.zero_lt_one ?_
        refine ow_iconst (pc := 46) (v := nI 1) hX d_S_sendDown_46 (by decide) ?_
        refine ow_iadd (pc := 47) hX d_S_sendDown_47 ?_
        refine ow_pI (pc := 48) hX (kd_S Y n s c) 8 d_S_sendDown_48 kw_209 rfl Nat.zero_lt_one rfl (by decide +kernel) ?_
        have hu1 : wf n (ui u 0 0 8 (u.2.1 0 0 8 + nI 1)) := hu
        have hu2 : wf n (ui (ui u 0 0 8 (u.2.1 0 0 8 + nI 1)) 4 b 8 (u.2.1 4 a 8)) := hu
        refine ow_aload_n (pc := 51) hX d_S_sendDown_51 rfl ?_
        refine ow_aload_n (pc := 52) hX d_S_sendDown_52 rfl ?_
        refine ow_aload_n (pc := 53) hX d_S_sendDown_53 rfl ?_
        refine ow_aload_n (pc := 54) hX d_S_sendDown_54 rfl ?_
        refine ow_callV (pc := 55) hX (kd_S Y n s c) Nat.zero_lt_one (c_S_hears _ Y n s c hV (ui u 0 0 8 (u.2.1 0 0 8 + nI 1)) a b ch ha hb hch hn hu1) (cw_V hX mz_S_hears kw_398 ⟨rfl, rfl⟩ (by decide)) rfl (Nat.le_of_ble_eq_true rfl) d_S_sendDown_55 rfl ?_
        rcases kc_hears_01 (ui u 0 0 8 (u.2.1 0 0 8 + nI 1)) b a ch with hh | hh
        · skip
          refine ow_st (st2 := .int (nI 0) :: _) (by rw [hh]; rfl) ?_
          refine ow_istore (pc := 58) (l2 := [(0, _), (1, _), (2, _), (3, _), (4, _)]) hX d_S_sendDown_58 (by decide) rfl rfl ?_
          refine ow_iload (pc := 60) hX d_S_sendDown_60 rfl ?_
          refine ow_nz_eq (pc := 62) (tgt := 73) hX d_S_sendDown_62 (by decide) (by first | assumption | omega | (have := hu.2.2.1 a; omega) | (have := hu.2.2.2.2.2.1 (2 * a + 1); omega) | exact Nat.lt_of_le_of_lt (kbit_le _ _) (by decide) | exact Nat.lt_of_le_of_lt (kleads_le _ _ _ _) (by decide)) (fun h62 => ?_) (fun h62 => ?_)
          · skip
            refine ow_iload (pc := 73) hX d_S_sendDown_73 rfl ?_
            refine ow_nz_eq (pc := 75) (tgt := 93) hX d_S_sendDown_75 (by decide) (by first | assumption | omega | (have := hu.2.2.1 a; omega) | (have := hu.2.2.2.2.2.1 (2 * a + 1); omega) | exact Nat.lt_of_le_of_lt (kbit_le _ _) (by decide) | exact Nat.lt_of_le_of_lt (kleads_le _ _ _ _) (by decide)) (fun h75 => ?_) (fun h75 => ?_)
            · skip
              refine ow_iconst (pc := 93) (v := nI 0) hX d_S_sendDown_93 (by decide) ?_
              refine ow_istore (pc := 94) (l2 := [(0, _), (1, _), (2, _), (3, _), (4, _), (5, _)]) hX d_S_sendDown_94 (by decide) rfl rfl ?_
              refine ow_iload (pc := 96) hX d_S_sendDown_96 rfl ?_
              refine ow_nz_eq (pc := 98) (tgt := 127) hX d_S_sendDown_98 (by decide) (by first | assumption | omega | (have := hu.2.2.1 a; omega) | (have := hu.2.2.2.2.2.1 (2 * a + 1); omega) | exact Nat.lt_of_le_of_lt (kbit_le _ _) (by decide) | exact Nat.lt_of_le_of_lt (kleads_le _ _ _ _) (by decide)) (fun h98 => ?_) (fun h98 => ?_)
              · skip
                refine ow_aload_n (pc := 127) hX d_S_sendDown_127 rfl ?_
                refine ow_callV (pc := 128) hX (kd_N Y n s c) (by show _ < n; first | assumption | omega | (have := hu.2.2.1 a; omega) | (have := hu.2.2.2.2.2.1 (2 * a + 1); omega) | exact Nat.lt_of_le_of_lt (kbit_le _ _) (by decide) | exact Nat.lt_of_le_of_lt (kleads_le _ _ _ _) (by decide)) (c_N_failDown _ Y n s c hV _ a ha ((show wf n _ from (by first | exact hw2 | exact hu1)).2.2.2.2.1 a) ((show wf n _ from (by first | exact hw2 | exact hu1)).2.2.2.2.2.1 _)) (cw_V hX mz_N_failDown kw_446 ⟨rfl, rfl⟩ (by decide)) rfl (Nat.le_of_ble_eq_true rfl) d_S_sendDown_128 rfl ?_
                exact ow_vret (pc := 131) hX d_S_sendDown_131 rfl (by first | rfl | (unfold kc_sendDown; first | rw [if_pos h4] | rw [if_neg h4, if_pos h14] | rw [if_neg h4, if_neg h14, if_pos h37] | (rw [if_neg h4, if_neg h14, if_neg h37]; unfold kc_dn1; rw [show (ui u 0 0 8 (u.2.1 0 0 8 + nI 1)).2.1 4 a 8 = u.2.1 4 a 8 from rfl]; first | (rw [if_pos hh]; rfl) | (rw [if_neg (by rw [hh]; decide), hs]; unfold kc_dn2; first | rfl | (rw [if_neg (by decide)]; first | rw [if_pos h109] | rw [if_neg h109])))))
              · skip
                exact absurd h98 (by decide)
            · skip
              exact absurd h75 (by decide)
          · skip
            exact absurd h62 (by decide)
        · skip
          refine ow_st (st2 := .int (nI 1) :: _) (by rw [hh]; rfl) ?_
          refine ow_istore (pc := 58) (l2 := [(0, _), (1, _), (2, _), (3, _), (4, _)]) hX d_S_sendDown_58 (by decide) rfl rfl ?_
          refine ow_iload (pc := 60) hX d_S_sendDown_60 rfl ?_
          refine ow_nz_eq (pc := 62) (tgt := 73) hX d_S_sendDown_62 (by decide) (by first | assumption | omega | (have := hu.2.2.1 a; omega) | (have := hu.2.2.2.2.2.1 (2 * a + 1); omega) | exact Nat.lt_of_le_of_lt (kbit_le _ _) (by decide) | exact Nat.lt_of_le_of_lt (kleads_le _ _ _ _) (by decide)) (fun h62 => ?_) (fun h62 => ?_)
          · skip
            exact absurd h62 (by decide)
          · skip
            refine ow_aload_n (pc := 65) hX d_S_sendDown_65 rfl ?_
            refine ow_aload_n (pc := 66) hX d_S_sendDown_66 rfl ?_
            refine ow_gI (pc := 67) hX (kd_N Y n s c) 8 d_S_sendDown_67 kw_79 rfl (by show _ < n; first | assumption | omega | (have := hu.2.2.1 a; omega) | (have := hu.2.2.2.2.2.1 (2 * a + 1); omega) | exact Nat.lt_of_le_of_lt (kbit_le _ _) (by decide) | exact Nat.lt_of_le_of_lt (kleads_le _ _ _ _) (by decide)) ?_
            try simp only [un_1, un_2, ui_1, ui_2, ui_3, ul_1, ul_2, ul_3, ul_4, ur_1, ur_2, ur_3, ur_4, Nat.reduceEqDiff, false_and, and_false, true_and, and_true, and_self, reduceIte]
            refine ow_pI (pc := 70) hX (kd_N Y n s c) 8 d_S_sendDown_70 kw_79 rfl (by show _ < n; first | assumption | omega | (have := hu.2.2.1 a; omega) | (have := hu.2.2.2.2.2.1 (2 * a + 1); omega) | exact Nat.lt_of_le_of_lt (kbit_le _ _) (by decide) | exact Nat.lt_of_le_of_lt (kleads_le _ _ _ _) (by decide)) rfl (by decide +kernel) ?_
            refine ow_iload (pc := 73) hX d_S_sendDown_73 rfl ?_
            refine ow_nz_eq (pc := 75) (tgt := 93) hX d_S_sendDown_75 (by decide) (by first | assumption | omega | (have := hu.2.2.1 a; omega) | (have := hu.2.2.2.2.2.1 (2 * a + 1); omega) | exact Nat.lt_of_le_of_lt (kbit_le _ _) (by decide) | exact Nat.lt_of_le_of_lt (kleads_le _ _ _ _) (by decide)) (fun h75 => ?_) (fun h75 => ?_)
            · skip
              exact absurd h75 (by decide)
            · skip
              refine ow_aload_n (pc := 78) hX d_S_sendDown_78 rfl ?_
              refine ow_gO (pc := 79) hX (kd_N Y n s c) 3 d_S_sendDown_79 kw_69 rfl (by show _ < n; first | assumption | omega | (have := hu.2.2.1 a; omega) | (have := hu.2.2.2.2.2.1 (2 * a + 1); omega) | exact Nat.lt_of_le_of_lt (kbit_le _ _) (by decide) | exact Nat.lt_of_le_of_lt (kleads_le _ _ _ _) (by decide)) ?_
              refine ow_aload_n (pc := 82) hX d_S_sendDown_82 rfl ?_
              refine ow_callS (pc := 83) hX (c_S_settleDown _ Y n s c hV (ui (ui u 0 0 8 (u.2.1 0 0 8 + nI 1)) 4 b 8 (u.2.1 4 a 8)) (2 * a + 1) b (by omega) hb hn hu2) (cw_S hX mz_S_settleDown kw_443 ⟨rfl, rfl⟩ (by decide)) rfl (Nat.le_of_ble_eq_true rfl) d_S_sendDown_83 rfl ?_
              have hw2 : wf n (kc_settleDown (ui (ui u 0 0 8 (u.2.1 0 0 8 + nI 1)) 4 b 8 (u.2.1 4 a 8)) (2 * a + 1) b).2 := (ev_settleDown hu2).1 hu2
              rcases kc_settleDown_01 (ui (ui u 0 0 8 (u.2.1 0 0 8 + nI 1)) 4 b 8 (u.2.1 4 a 8)) (2 * a + 1) b with hs | hs
              · skip
                refine ow_st (st2 := .int (nI 0) :: _) (by rw [hs]; rfl) ?_
                refine ow_nz_eq (pc := 86) (tgt := 93) hX d_S_sendDown_86 (by decide) (by first | assumption | omega | (have := hu.2.2.1 a; omega) | (have := hu.2.2.2.2.2.1 (2 * a + 1); omega) | exact Nat.lt_of_le_of_lt (kbit_le _ _) (by decide) | exact Nat.lt_of_le_of_lt (kleads_le _ _ _ _) (by decide)) (fun h86 => ?_) (fun h86 => ?_)
                · skip
                  refine ow_iconst (pc := 93) (v := nI 0) hX d_S_sendDown_93 (by decide) ?_
                  refine ow_istore (pc := 94) (l2 := [(0, _), (1, _), (2, _), (3, _), (4, _), (5, _)]) hX d_S_sendDown_94 (by decide) rfl rfl ?_
                  refine ow_iload (pc := 96) hX d_S_sendDown_96 rfl ?_
                  refine ow_nz_eq (pc := 98) (tgt := 127) hX d_S_sendDown_98 (by decide) (by first | assumption | omega | (have := hu.2.2.1 a; omega) | (have := hu.2.2.2.2.2.1 (2 * a + 1); omega) | exact Nat.lt_of_le_of_lt (kbit_le _ _) (by decide) | exact Nat.lt_of_le_of_lt (kleads_le _ _ _ _) (by decide)) (fun h98 => ?_) (fun h98 => ?_)
                  · skip
                    refine ow_aload_n (pc := 127) hX d_S_sendDown_127 rfl ?_
                    refine ow_callV (pc := 128) hX (kd_N Y n s c) (by show _ < n; first | assumption | omega | (have := hu.2.2.1 a; omega) | (have := hu.2.2.2.2.2.1 (2 * a + 1); omega) | exact Nat.lt_of_le_of_lt (kbit_le _ _) (by decide) | exact Nat.lt_of_le_of_lt (kleads_le _ _ _ _) (by decide)) (c_N_failDown _ Y n s c hV _ a ha ((show wf n _ from (by first | exact hw2 | exact hu1)).2.2.2.2.1 a) ((show wf n _ from (by first | exact hw2 | exact hu1)).2.2.2.2.2.1 _)) (cw_V hX mz_N_failDown kw_446 ⟨rfl, rfl⟩ (by decide)) rfl (Nat.le_of_ble_eq_true rfl) d_S_sendDown_128 rfl ?_
                    exact ow_vret (pc := 131) hX d_S_sendDown_131 rfl (by first | rfl | (unfold kc_sendDown; first | rw [if_pos h4] | rw [if_neg h4, if_pos h14] | rw [if_neg h4, if_neg h14, if_pos h37] | (rw [if_neg h4, if_neg h14, if_neg h37]; unfold kc_dn1; rw [show (ui u 0 0 8 (u.2.1 0 0 8 + nI 1)).2.1 4 a 8 = u.2.1 4 a 8 from rfl]; first | (rw [if_pos hh]; rfl) | (rw [if_neg (by rw [hh]; decide), hs]; unfold kc_dn2; first | rfl | (rw [if_neg (by decide)]; first | rw [if_pos h109] | rw [if_neg h109])))))
                  · skip
                    exact absurd h98 (by decide)
                · skip
                  exact absurd h86 (by decide)
              · skip
                refine ow_st (st2 := .int (nI 1) :: _) (by rw [hs]; rfl) ?_
                refine ow_nz_eq (pc := 86) (tgt := 93) hX d_S_sendDown_86 (by decide) (by first | assumption | omega | (have := hu.2.2.1 a; omega) | (have := hu.2.2.2.2.2.1 (2 * a + 1); omega) | exact Nat.lt_of_le_of_lt (kbit_le _ _) (by decide) | exact Nat.lt_of_le_of_lt (kleads_le _ _ _ _) (by decide)) (fun h86 => ?_) (fun h86 => ?_)
                · skip
                  exact absurd h86 (by decide)
                · skip
                  refine ow_iconst (pc := 89) (v := nI 1) hX d_S_sendDown_89 (by decide) ?_
                  refine ow_goto (pc := 90) (tgt := 94) hX d_S_sendDown_90 (by decide) ?_
                  refine ow_istore (pc := 94) (l2 := [(0, _), (1, _), (2, _), (3, _), (4, _), (5, _)]) hX d_S_sendDown_94 (by decide) rfl rfl ?_
                  refine ow_iload (pc := 96) hX d_S_sendDown_96 rfl ?_
                  refine ow_nz_eq (pc := 98) (tgt := 127) hX d_S_sendDown_98 (by decide) (by first | assumption | omega | (have := hu.2.2.1 a; omega) | (have := hu.2.2.2.2.2.1 (2 * a + 1); omega) | exact Nat.lt_of_le_of_lt (kbit_le _ _) (by decide) | exact Nat.lt_of_le_of_lt (kleads_le _ _ _ _) (by decide)) (fun h98 => ?_) (fun h98 => ?_)
                  · skip
                    exact absurd h98 (by decide)
                  · skip
                    refine ow_aload_n (pc := 101) hX d_S_sendDown_101 rfl ?_
                    refine ow_aload_n (pc := 102) hX d_S_sendDown_102 rfl ?_
                    refine ow_gN (pc := 103) hX (kd_S Y n s c) 7 d_S_sendDown_103 kw_208 rfl Nat.zero_lt_one ?_
                    try simp only [un_1, un_2, ui_1, ui_2, ui_3, ul_1, ul_2, ul_3, ul_4, ur_1, ur_2, ur_3, ur_4, Nat.reduceEqDiff, false_and, and_false, true_and, and_true, and_self, reduceIte]
                    refine ow_callV (pc := 106) hX (kd_H Y n s c) (by show _ < c; first | assumption | omega | (have := hu.2.2.1 a; omega) | (have := hu.2.2.2.2.2.1 (2 * a + 1); omega) | exact Nat.lt_of_le_of_lt (kbit_le _ _) (by decide) | exact Nat.lt_of_le_of_lt (kleads_le _ _ _ _) (by decide)) (c_H_carriesConfirmation _ Y n s c hV _ ch _ hch (by have := hw2.2.2.2.2.2.2.2.2.2.2.1; omega)) (cw_V hX mz_H_carriesConfirmation kw_423 ⟨rfl, rfl⟩ (by decide)) rfl (Nat.le_of_ble_eq_true rfl) d_S_sendDown_106 rfl ?_
                    refine ow_nz_eq (pc := 109) (tgt := 127) hX d_S_sendDown_109 (by decide) (by first | assumption | omega | (have := hu.2.2.1 a; omega) | (have := hu.2.2.2.2.2.1 (2 * a + 1); omega) | exact Nat.lt_of_le_of_lt (kbit_le _ _) (by decide) | exact Nat.lt_of_le_of_lt (kleads_le _ _ _ _) (by decide)) (fun h109 => ?_) (fun h109 => ?_)
                    · skip
                      refine ow_aload_n (pc := 127) hX d_S_sendDown_127 rfl ?_
                      refine ow_callV (pc := 128) hX (kd_N Y n s c) (by show _ < n; first | assumption | omega | (have := hu.2.2.1 a; omega) | (have := hu.2.2.2.2.2.1 (2 * a + 1); omega) | exact Nat.lt_of_le_of_lt (kbit_le _ _) (by decide) | exact Nat.lt_of_le_of_lt (kleads_le _ _ _ _) (by decide)) (c_N_failDown _ Y n s c hV _ a ha ((show wf n _ from (by first | exact hw2 | exact hu1)).2.2.2.2.1 a) ((show wf n _ from (by first | exact hw2 | exact hu1)).2.2.2.2.2.1 _)) (cw_V hX mz_N_failDown kw_446 ⟨rfl, rfl⟩ (by decide)) rfl (Nat.le_of_ble_eq_true rfl) d_S_sendDown_128 rfl ?_
                      exact ow_vret (pc := 131) hX d_S_sendDown_131 rfl (by first | rfl | (unfold kc_sendDown; first | rw [if_pos h4] | rw [if_neg h4, if_pos h14] | rw [if_neg h4, if_neg h14, if_pos h37] | (rw [if_neg h4, if_neg h14, if_neg h37]; unfold kc_dn1; rw [show (ui u 0 0 8 (u.2.1 0 0 8 + nI 1)).2.1 4 a 8 = u.2.1 4 a 8 from rfl]; first | (rw [if_pos hh]; rfl) | (rw [if_neg (by rw [hh]; decide), hs]; unfold kc_dn2; first | rfl | (rw [if_neg (by decide)]; first | rw [if_pos h109] | rw [if_neg h109])))))
                    · skip
                      refine ow_aload_n (pc := 112) hX d_S_sendDown_112 rfl ?_
                      refine ow_gO (pc := 113) hX (kd_N Y n s c) 3 d_S_sendDown_113 kw_69 rfl (by show _ < n; first | assumption | omega | (have := hu.2.2.1 a; omega) | (have := hu.2.2.2.2.2.1 (2 * a + 1); omega) | exact Nat.lt_of_le_of_lt (kbit_le _ _) (by decide) | exact Nat.lt_of_le_of_lt (kleads_le _ _ _ _) (by decide)) ?_
                      refine ow_callV (pc := 116) hX (kd_F Y n s c) (by show _ < 2 * n; first | assumption | omega | (have := hu.2.2.1 a; omega) | (have := hu.2.2.2.2.2.1 (2 * a + 1); omega) | exact Nat.lt_of_le_of_lt (kbit_le _ _) (by decide) | exact Nat.lt_of_le_of_lt (kleads_le _ _ _ _) (by decide)) (c_F_dropFirst _ Y n s c hV _ (2 * a + 1) (by omega) (hw2.2.2.2.2.2.1 _)) (cw_V hX mz_F_dropFirst kw_431 ⟨rfl, rfl⟩ (by decide)) rfl (Nat.le_of_ble_eq_true rfl) d_S_sendDown_116 rfl ?_
                      refine ow_aload_n (pc := 119) hX d_S_sendDown_119 rfl ?_
                      refine ow_iconst (pc := 120) (v := nI 0) hX d_S_sendDown_120 (by decide) ?_
                      refine ow_pN (pc := 121) hX (kd_N Y n s c) 11 d_S_sendDown_121 kw_84 rfl (by show _ < n; first | assumption | omega | (have := hu.2.2.1 a; omega) | (have := hu.2.2.2.2.2.1 (2 * a + 1); omega) | exact Nat.lt_of_le_of_lt (kbit_le _ _) (by decide) | exact Nat.lt_of_le_of_lt (kleads_le _ _ _ _) (by decide)) rfl (by decide +kernel) ?_
                      refine ow_goto (pc := 124) (tgt := 131) hX d_S_sendDown_124 (by decide) ?_
                      exact ow_vret (pc := 131) hX d_S_sendDown_131 rfl (by first | rfl | (unfold kc_sendDown; first | rw [if_pos h4] | rw [if_neg h4, if_pos h14] | rw [if_neg h4, if_neg h14, if_pos h37] | (rw [if_neg h4, if_neg h14, if_neg h37]; unfold kc_dn1; rw [show (ui u 0 0 8 (u.2.1 0 0 8 + nI 1)).2.1 4 a 8 = u.2.1 4 a 8 from rfl]; first | (rw [if_pos hh]; rfl) | (rw [if_neg (by rw [hh]; decide), hs]; unfold kc_dn2; first | rfl | (rw [if_neg (by decide)]; first | rw [if_pos h109] | rw [if_neg h109])))))
      · skip
        exact ow_vret (pc := 40) hX d_S_sendDown_40 rfl (by first | rfl | (unfold kc_sendDown; first | rw [if_pos h4] | rw [if_neg h4, if_pos h14] | rw [if_neg h4, if_neg h14, if_pos h37] | (rw [if_neg h4, if_neg h14, if_neg h37]; unfold kc_dn1; rw [show (ui u 0 0 8 (u.2.1 0 0 8 + nI 1)).2.1 4 a 8 = u.2.1 4 a 8 from rfl]; first | (rw [if_pos hh]; rfl) | (rw [if_neg (by rw [hh]; decide), hs]; unfold kc_dn2; first | rfl | (rw [if_neg (by decide)]; first | rw [if_pos h109] | rw [if_neg h109])))))
set_option maxRecDepth 100000 in
set_option maxHeartbeats 4000000 in
theorem c_S_answerAdvert (l : Launch) (Y : YY) (n s c : Nat) (hV : pv_ok (vC Y n s c)) (u : UU) (a b : Nat) (ha : a < n) (hb : b < n) (hn : n ≤ 6) (hu : wf n u) : Ct l (vC Y n s c) ⟨"SlottedMesh", "answerAdvert", "(LSlottedMesh$Node;LSlottedMesh$Node;)V"⟩ (wz ⟨"SlottedMesh", "answerAdvert", "(LSlottedMesh$Node;LSlottedMesh$Node;)V"⟩ b_S_answerAdvert 3 none) (rd 2) [.ref (pv_ad (vC Y n s c) 0 0), .ref (pv_ad (vC Y n s c) 4 b), .ref (pv_ad (vC Y n s c) 4 a)] u none (kc_answer u b a) := by
  refine ct_mk hV (by decide +kernel) (Nat.le_of_ble_eq_true rfl) (fun X hX => ?_)
  have hX : ox X (vC Y n s c) (rd 2) b_S_answerAdvert 3 "SlottedMesh" gz none := hX
  show ow X (vC Y n s c) none (kc_answer u b a) u [(0, .ref (pv_ad (vC Y n s c) 0 0)), (1, .ref (pv_ad (vC Y n s c) 4 b)), (2, .ref (pv_ad (vC Y n s c) 4 a))] 0 []
  have hp5 := hu.2.2.2.2.2.2.2.2.2.2.2.1
  refine ow_aload_n (pc := 0) hX d_S_answerAdvert_0 rfl ?_
  refine ow_gN (pc := 1) hX (kd_N Y n s c) 7 d_S_answerAdvert_1 kw_77 rfl (by show _ < n; first | assumption | omega | (have := hu.2.2.1 b; omega) | exact Nat.lt_of_le_of_lt (kclose_le _ _) (by decide)) ?_
  refine ow_nz_ne (pc := 4) (tgt := 28) hX d_S_answerAdvert_4 (by decide) (by first | assumption | omega | (have := hu.2.2.1 b; omega) | exact Nat.lt_of_le_of_lt (kclose_le _ _) (by decide)) (fun h4 => ?_) (fun h4 => ?_)
  · skip
    refine ow_aload_n (pc := 28) hX d_S_answerAdvert_28 rfl ?_
    refine ow_gM (pc := 29) hX (kd_S Y n s c) 5 d_S_answerAdvert_29 kw_206 rfl Nat.zero_lt_one ?_
    refine ow_gR (pc := 32) hX (kd_P Y n s c) 3 d_S_answerAdvert_32 kw_173 rfl (by show _ < 2; first | assumption | omega | (have := hu.2.2.1 b; omega) | exact Nat.lt_of_le_of_lt (kclose_le _ _) (by decide)) ?_
    refine ow_aload_n (pc := 35) hX d_S_answerAdvert_35 rfl ?_
    refine ow_gS (pc := 36) hX (kd_N Y n s c) 0 d_S_answerAdvert_36 kw_62 rfl (by show _ < n; first | assumption | omega | (have := hu.2.2.1 b; omega) | exact Nat.lt_of_le_of_lt (kclose_le _ _) (by decide)) ?_
    refine ow_aI (pc := 39) hX rfl d_S_answerAdvert_39 (by show _ < 2; first | assumption | omega | (have := hu.2.2.1 b; omega) | exact Nat.lt_of_le_of_lt (kclose_le _ _) (by decide)) (by show _ < n; first | assumption | omega | (have := hu.2.2.1 b; omega) | exact Nat.lt_of_le_of_lt (kclose_le _ _) (by decide)) ?_
    refine ow_aload_n (pc := 40) hX d_S_answerAdvert_40 rfl ?_
    refine ow_gS (pc := 41) hX (kd_N Y n s c) 0 d_S_answerAdvert_41 kw_62 rfl (by show _ < n; first | assumption | omega | (have := hu.2.2.1 b; omega) | exact Nat.lt_of_le_of_lt (kclose_le _ _) (by decide)) ?_
    refine ow_ic_ne (pc := 44) (tgt := 63) hX d_S_answerAdvert_44 (by decide) (fun h44 => ?_) (fun h44 => ?_)
    · skip
      exact ow_vret (pc := 63) hX d_S_answerAdvert_63 rfl (by first | rfl | (unfold kc_answer; first | rw [if_pos h4] | rw [if_neg h4, if_pos h44, if_pos h52] | rw [if_neg h4, if_pos h44, if_neg h52] | rw [if_neg h4, if_neg h44]))
    · skip
      refine ow_aload_n (pc := 47) hX d_S_answerAdvert_47 rfl ?_
      refine ow_aload_n (pc := 48) hX d_S_answerAdvert_48 rfl ?_
      refine ow_callV (pc := 49) hX (kd_N Y n s c) (by show _ < n; first | assumption | omega | (have := hu.2.2.1 b; omega) | exact Nat.lt_of_le_of_lt (kclose_le _ _) (by decide)) (c_N_clockIsCloseTo _ Y n s c hV u b a hb ha) (cw_V hX mz_N_clockIsCloseTo kw_387 ⟨rfl, rfl⟩ (by decide)) rfl (Nat.le_of_ble_eq_true rfl) d_S_answerAdvert_49 rfl ?_
      refine ow_nz_eq (pc := 52) (tgt := 63) hX d_S_answerAdvert_52 (by decide) (by first | assumption | omega | (have := hu.2.2.1 b; omega) | exact Nat.lt_of_le_of_lt (kclose_le _ _) (by decide)) (fun h52 => ?_) (fun h52 => ?_)
      · skip
        exact ow_vret (pc := 63) hX d_S_answerAdvert_63 rfl (by first | rfl | (unfold kc_answer; first | rw [if_pos h4] | rw [if_neg h4, if_pos h44, if_pos h52] | rw [if_neg h4, if_pos h44, if_neg h52] | rw [if_neg h4, if_neg h44]))
      · skip
        refine ow_aload_n (pc := 55) hX d_S_answerAdvert_55 rfl ?_
        refine ow_aload_n (pc := 56) hX d_S_answerAdvert_56 rfl ?_
        refine ow_gI (pc := 57) hX (kd_N Y n s c) 8 d_S_answerAdvert_57 kw_79 rfl (by show _ < n; first | assumption | omega | (have := hu.2.2.1 b; omega) | exact Nat.lt_of_le_of_lt (kclose_le _ _) (by decide)) ?_
        refine ow_pI (pc := 60) hX (kd_N Y n s c) 8 d_S_answerAdvert_60 kw_79 rfl (by show _ < n; first | assumption | omega | (have := hu.2.2.1 b; omega) | exact Nat.lt_of_le_of_lt (kclose_le _ _) (by decide)) rfl (by decide +kernel) ?_
        exact ow_vret (pc := 63) hX d_S_answerAdvert_63 rfl (by first | rfl | (unfold kc_answer; first | rw [if_pos h4] | rw [if_neg h4, if_pos h44, if_pos h52] | rw [if_neg h4, if_pos h44, if_neg h52] | rw [if_neg h4, if_neg h44]))
  · skip
    refine ow_aload_n (pc := 7) hX d_S_answerAdvert_7 rfl ?_
    refine ow_iconst (pc := 8) (v := nI 1) hX d_S_answerAdvert_8 (by decide) ?_
    refine ow_pZ (pc := 9) hX (kd_N Y n s c) 7 d_S_answerAdvert_9 kw_77 rfl (by show _ < n; first | assumption | omega | (have := hu.2.2.1 b; omega) | exact Nat.lt_of_le_of_lt (kclose_le _ _) (by decide)) rfl (by decide +kernel) (by first | assumption | omega | (have := hu.2.2.1 b; omega) | exact Nat.lt_of_le_of_lt (kclose_le _ _) (by decide)) ?_
    refine ow_aload_n (pc := 12) hX d_S_answerAdvert_12 rfl ?_
    refine ow_aload_n (pc := 13) hX d_S_answerAdvert_13 rfl ?_
    refine ow_gI (pc := 14) hX (kd_N Y n s c) 8 d_S_answerAdvert_14 kw_79 rfl (by show _ < n; first | assumption | omega | (have := hu.2.2.1 b; omega) | exact Nat.lt_of_le_of_lt (kclose_le _ _) (by decide)) ?_
    try simp only [un_1, un_2, ui_1, ui_2, ui_3, ul_1, ul_2, ul_3, ul_4, ur_1, ur_2, ur_3, ur_4, Nat.reduceEqDiff, false_and, and_false, true_and, and_true, and_self, reduceIte]
    refine ow_pI (pc := 17) hX (kd_N Y n s c) 8 d_S_answerAdvert_17 kw_79 rfl (by show _ < n; first | assumption | omega | (have := hu.2.2.1 b; omega) | exact Nat.lt_of_le_of_lt (kclose_le _ _) (by decide)) rfl (by decide +kernel) ?_
    refine ow_aload_n (pc := 20) hX d_S_answerAdvert_20 rfl ?_
    refine ow_iconst (pc := 21) (v := nI 0) hX d_S_answerAdvert_21 (by decide) ?_
    refine ow_pN (pc := 22) hX (kd_N Y n s c) 10 d_S_answerAdvert_22 kw_82 rfl (by show _ < n; first | assumption | omega | (have := hu.2.2.1 b; omega) | exact Nat.lt_of_le_of_lt (kclose_le _ _) (by decide)) rfl (by decide +kernel) ?_
    refine ow_goto (pc := 25) (tgt := 63) hX d_S_answerAdvert_25 (by decide) ?_
    exact ow_vret (pc := 63) hX d_S_answerAdvert_63 rfl (by first | rfl | (unfold kc_answer; first | rw [if_pos h4] | rw [if_neg h4, if_pos h44, if_pos h52] | rw [if_neg h4, if_pos h44, if_neg h52] | rw [if_neg h4, if_neg h44]))
theorem kc_ad1_a {a k : Nat} {w : UU} (h : w.1 7 a k = 0) : kc_ad1 a k w = w := by unfold kc_ad1; rw [if_pos h]
theorem kc_ad1_b {a k : Nat} {w : UU} (h : ¬ w.1 7 a k = 0) (h2 : w.1 4 k 6 = 0) : kc_ad1 a k w = w := by unfold kc_ad1; rw [if_neg h, if_pos h2]
theorem kc_ad1_c {a k : Nat} {w : UU} (h : ¬ w.1 7 a k = 0) (h2 : ¬ w.1 4 k 6 = 0) : kc_ad1 a k w = kc_answer w k a := by unfold kc_ad1; rw [if_neg h, if_neg h2]
theorem fo_s {α : Type} (f : Nat → α → α) (u : α) (k : Nat) : fo f u (k + 1) = f k (fo f u k) := rfl
set_option maxRecDepth 100000 in
set_option maxHeartbeats 4000000 in
theorem w_S_advertise {X : OX} (Y : YY) (n s c : Nat) (hX : ox X (vC Y n s c) (rd 3) b_S_advertise 4 "SlottedMesh" gz none) (hV : pv_ok (vC Y n s c)) (u : UU) (a ch : Nat) (ha : a < n) (hch : ch < c) (hn : n ≤ 6) (hu : wf n u) : ∀ j k, k + j = n → ow X (vC Y n s c) none (fo (kc_ad1 a) u n) (fo (kc_ad1 a) u k) [(0, .ref (pv_ad (vC Y n s c) 0 0)), (1, .ref (pv_ad (vC Y n s c) 4 a)), (2, .ref (pv_ad (vC Y n s c) 5 ch)), (3, .int (nI k))] 21 [] := by
  intro j
  induction j with
  | zero =>
    intro k hk
    have hw : wf n (fo (kc_ad1 a) u k) := (ev_fo (fun _ _ _ => ev_ad1) k u hu).1 hu
    refine ow_iload_n (pc := 21) hX d_S_advertise_21 rfl ?_
    refine ow_aload_n (pc := 22) hX d_S_advertise_22 rfl ?_
    refine ow_gR (pc := 23) hX (kd_S Y n s c) 2 d_S_advertise_23 kw_203 rfl Nat.zero_lt_one ?_
    refine ow_len (pc := 26) hX rfl (by decide) d_S_advertise_26 Nat.zero_lt_one ?_
    refine ow_st (st2 := .int (nI (n)) :: _) rfl ?_
    refine ow_nc_ge (pc := 27) (tgt := 68) hX d_S_advertise_27 (by decide) (by first | assumption | omega | (have := hw.1 a k; omega) | (have := hw.2.1 k; omega)) (by first | assumption | omega | (have := hw.1 a k; omega) | (have := hw.2.1 k; omega)) (fun h27 => ?_) (fun h27 => ?_)
    · skip
      exact ow_vret (pc := 68) hX d_S_advertise_68 rfl (by rw [show n = k by omega])
    · skip
      exact absurd h27 (by omega)
  | succ j ih =>
    intro k hk
    have hw : wf n (fo (kc_ad1 a) u k) := (ev_fo (fun _ _ _ => ev_ad1) k u hu).1 hu
    refine ow_iload_n (pc := 21) hX d_S_advertise_21 rfl ?_
    refine ow_aload_n (pc := 22) hX d_S_advertise_22 rfl ?_
    refine ow_gR (pc := 23) hX (kd_S Y n s c) 2 d_S_advertise_23 kw_203 rfl Nat.zero_lt_one ?_
    refine ow_len (pc := 26) hX rfl (by decide) d_S_advertise_26 Nat.zero_lt_one ?_
    refine ow_st (st2 := .int (nI (n)) :: _) rfl ?_
    refine ow_nc_ge (pc := 27) (tgt := 68) hX d_S_advertise_27 (by decide) (by first | assumption | omega | (have := hw.1 a k; omega) | (have := hw.2.1 k; omega)) (by first | assumption | omega | (have := hw.1 a k; omega) | (have := hw.2.1 k; omega)) (fun h27 => ?_) (fun h27 => ?_)
    · skip
      exact absurd h27 (by omega)
    · skip
      refine ow_aload_n (pc := 30) hX d_S_advertise_30 rfl ?_
      refine ow_gR (pc := 31) hX (kd_N Y n s c) 1 d_S_advertise_31 kw_64 rfl (by show _ < n; first | assumption | omega | (have := hw.1 a k; omega) | (have := hw.2.1 k; omega)) ?_
      refine ow_iload_n (pc := 34) hX d_S_advertise_34 rfl ?_
      refine ow_aZ (pc := 35) hX rfl d_S_advertise_35 (by show _ < n; first | assumption | omega | (have := hw.1 a k; omega) | (have := hw.2.1 k; omega)) (by show _ < n; first | assumption | omega | (have := hw.1 a k; omega) | (have := hw.2.1 k; omega)) ?_
      refine ow_nz_eq (pc := 36) (tgt := 62) hX d_S_advertise_36 (by decide) (by first | assumption | omega | (have := hw.1 a k; omega) | (have := hw.2.1 k; omega)) (fun h36 => ?_) (fun h36 => ?_)
      · skip
        refine ow_iinc (pc := 62) (l2 := [(0, _), (1, _), (2, _), (3, _)]) hX d_S_advertise_62 rfl (ii_1 _) (by decide) rfl rfl ?_
        refine ow_goto (pc := 65) (tgt := 21) hX d_S_advertise_65 (by decide) ?_
        have ih := ih (k + 1) (by omega)
        first | (rw [fo_s, kc_ad1_a h36] at ih; exact ih) | (rw [fo_s, kc_ad1_b h36 h48] at ih; exact ih) | (rw [fo_s, kc_ad1_c h36 h48] at ih; exact ih)
      · skip
        refine ow_aload_n (pc := 39) hX d_S_advertise_39 rfl ?_
        refine ow_gR (pc := 40) hX (kd_S Y n s c) 2 d_S_advertise_40 kw_203 rfl Nat.zero_lt_one ?_
        refine ow_iload_n (pc := 43) hX d_S_advertise_43 rfl ?_
        refine ow_aR (pc := 44) hX rfl d_S_advertise_44 Nat.zero_lt_one (by show _ < n; first | assumption | omega | (have := hw.1 a k; omega) | (have := hw.2.1 k; omega)) ?_
        refine ow_gN (pc := 45) hX (kd_N Y n s c) 6 d_S_advertise_45 kw_75 rfl (by show _ < n; first | assumption | omega | (have := hw.1 a k; omega) | (have := hw.2.1 k; omega)) ?_
        refine ow_nz_eq (pc := 48) (tgt := 62) hX d_S_advertise_48 (by decide) (by first | assumption | omega | (have := hw.1 a k; omega) | (have := hw.2.1 k; omega)) (fun h48 => ?_) (fun h48 => ?_)
        · skip
          refine ow_iinc (pc := 62) (l2 := [(0, _), (1, _), (2, _), (3, _)]) hX d_S_advertise_62 rfl (ii_1 _) (by decide) rfl rfl ?_
          refine ow_goto (pc := 65) (tgt := 21) hX d_S_advertise_65 (by decide) ?_
          have ih := ih (k + 1) (by omega)
          first | (rw [fo_s, kc_ad1_a h36] at ih; exact ih) | (rw [fo_s, kc_ad1_b h36 h48] at ih; exact ih) | (rw [fo_s, kc_ad1_c h36 h48] at ih; exact ih)
        · skip
          refine ow_aload_n (pc := 51) hX d_S_advertise_51 rfl ?_
          refine ow_aload_n (pc := 52) hX d_S_advertise_52 rfl ?_
          refine ow_gR (pc := 53) hX (kd_S Y n s c) 2 d_S_advertise_53 kw_203 rfl Nat.zero_lt_one ?_
          refine ow_iload_n (pc := 56) hX d_S_advertise_56 rfl ?_
          refine ow_aR (pc := 57) hX rfl d_S_advertise_57 Nat.zero_lt_one (by show _ < n; first | assumption | omega | (have := hw.1 a k; omega) | (have := hw.2.1 k; omega)) ?_
          refine ow_aload_n (pc := 58) hX d_S_advertise_58 rfl ?_
          refine ow_callV (pc := 59) hX (kd_S Y n s c) Nat.zero_lt_one (c_S_answerAdvert _ Y n s c hV (fo (kc_ad1 a) u k) a k ha h27 hn hw) (cw_V hX mz_S_answerAdvert kw_383 ⟨rfl, rfl⟩ (by decide)) rfl (Nat.le_of_ble_eq_true rfl) d_S_advertise_59 rfl ?_
          refine ow_iinc (pc := 62) (l2 := [(0, _), (1, _), (2, _), (3, _)]) hX d_S_advertise_62 rfl (ii_1 _) (by decide) rfl rfl ?_
          refine ow_goto (pc := 65) (tgt := 21) hX d_S_advertise_65 (by decide) ?_
          have ih := ih (k + 1) (by omega)
          first | (rw [fo_s, kc_ad1_a h36] at ih; exact ih) | (rw [fo_s, kc_ad1_b h36 h48] at ih; exact ih) | (rw [fo_s, kc_ad1_c h36 h48] at ih; exact ih)
set_option maxRecDepth 100000 in
set_option maxHeartbeats 4000000 in
theorem c_S_advertise (l : Launch) (Y : YY) (n s c : Nat) (hV : pv_ok (vC Y n s c)) (u : UU) (a ch : Nat) (ha : a < n) (hch : ch < c) (hn : n ≤ 6) (hu : wf n u) : Ct l (vC Y n s c) ⟨"SlottedMesh", "advertise", "(LSlottedMesh$Node;LSlottedMesh$Channel;)V"⟩ (wz ⟨"SlottedMesh", "advertise", "(LSlottedMesh$Node;LSlottedMesh$Channel;)V"⟩ b_S_advertise 4 none) (rd 3) [.ref (pv_ad (vC Y n s c) 0 0), .ref (pv_ad (vC Y n s c) 4 a), .ref (pv_ad (vC Y n s c) 5 ch)] u none (kc_advertise n u a ch) := by
  refine ct_mk hV (by decide +kernel) (Nat.le_of_ble_eq_true rfl) (fun X hX => ?_)
  have hX : ox X (vC Y n s c) (rd 3) b_S_advertise 4 "SlottedMesh" gz none := hX
  show ow X (vC Y n s c) none (kc_advertise n u a ch) u [(0, .ref (pv_ad (vC Y n s c) 0 0)), (1, .ref (pv_ad (vC Y n s c) 4 a)), (2, .ref (pv_ad (vC Y n s c) 5 ch))] 0 []
  refine ow_aload_n (pc := 0) hX d_S_advertise_0 rfl ?_
  refine ow_gN (pc := 1) hX (kd_N Y n s c) 7 d_S_advertise_1 kw_77 rfl (by show _ < n; first | assumption | omega | (have := hu.2.2.1 a; omega) | exact Nat.lt_of_le_of_lt (kbit_le _ _) (by decide)) ?_
  refine ow_nz_eq (pc := 4) (tgt := 18) hX d_S_advertise_4 (by decide) (by first | assumption | omega | (have := hu.2.2.1 a; omega) | exact Nat.lt_of_le_of_lt (kbit_le _ _) (by decide)) (fun h4 => ?_) (fun h4 => ?_)
  · skip
    exact ow_vret (pc := 18) hX d_S_advertise_18 rfl (by (unfold kc_advertise; first | rw [if_pos h4] | rw [if_neg h4, if_pos h15]))
  · skip
    refine ow_aload_n (pc := 7) hX d_S_advertise_7 rfl ?_
    refine ow_aload_n (pc := 8) hX d_S_advertise_8 rfl ?_
    refine ow_gN (pc := 9) hX (kd_S Y n s c) 7 d_S_advertise_9 kw_208 rfl Nat.zero_lt_one ?_
    refine ow_callV (pc := 12) hX (kd_H Y n s c) (by show _ < c; first | assumption | omega | (have := hu.2.2.1 a; omega) | exact Nat.lt_of_le_of_lt (kbit_le _ _) (by decide)) (c_H_carriesFrame _ Y n s c hV u ch _ hch (by have := hu.2.2.2.2.2.2.2.2.2.2.1; omega)) (cw_V hX mz_H_carriesFrame kw_375 ⟨rfl, rfl⟩ (by decide)) rfl (Nat.le_of_ble_eq_true rfl) d_S_advertise_12 rfl ?_
    refine ow_nz_ne (pc := 15) (tgt := 19) hX d_S_advertise_15 (by decide) (by first | assumption | omega | (have := hu.2.2.1 a; omega) | exact Nat.lt_of_le_of_lt (kbit_le _ _) (by decide)) (fun h15 => ?_) (fun h15 => ?_)
    · skip
      refine ow_iconst (pc := 19) (v := nI 0) hX d_S_advertise_19 (by decide) ?_
      refine ow_istore_n (pc := 20) (l2 := [(0, _), (1, _), (2, _), (3, _)]) hX d_S_advertise_20 (by decide) rfl rfl ?_
      have e : kc_advertise n u a ch = fo (kc_ad1 a) u n := by unfold kc_advertise; rw [if_neg h4, if_neg h15]
      rw [e]
      exact w_S_advertise Y n s c hX hV u a ch ha hch hn hu n 0 (by omega)
    · skip
      exact ow_vret (pc := 18) hX d_S_advertise_18 rfl (by (unfold kc_advertise; first | rw [if_pos h4] | rw [if_neg h4, if_pos h15]))
theorem kc_dr1_a {k : Nat} {w : UU} (h : w.1 4 k 6 = 0) : kc_dr1 k w = w := by unfold kc_dr1; rw [if_pos h]
theorem kc_dr1_b {k : Nat} {w : UU} (h : ¬ w.1 4 k 6 = 0) : kc_dr1 k w = ui w 4 k 8 (w.2.1 4 k 8 + w.2.1 4 k 9) := by unfold kc_dr1; rw [if_neg h]
set_option maxRecDepth 100000 in
set_option maxHeartbeats 4000000 in
theorem w_S_drift {X : OX} (Y : YY) (n s c : Nat) (hX : ox X (vC Y n s c) (rd 0) b_S_driftClocks 2 "SlottedMesh" gz none) (u : UU) (hn : n ≤ 6) (hu : wf n u) : ∀ j k, k + j = n → ow X (vC Y n s c) none (fo kc_dr1 u n) (fo kc_dr1 u k) [(0, .ref (pv_ad (vC Y n s c) 0 0)), (1, .int (nI k))] 2 [] := by
  intro j
  induction j with
  | zero =>
    intro k hk
    have hw : wf n (fo kc_dr1 u k) := (ev_fo (fun _ _ _ => ev_dr1) k u hu).1 hu
    refine ow_iload_n (pc := 2) hX d_S_driftClocks_2 rfl ?_
    refine ow_aload_n (pc := 3) hX d_S_driftClocks_3 rfl ?_
    refine ow_gR (pc := 4) hX (kd_S Y n s c) 2 d_S_driftClocks_4 kw_203 rfl Nat.zero_lt_one ?_
    refine ow_len (pc := 7) hX rfl (by decide) d_S_driftClocks_7 Nat.zero_lt_one ?_
    refine ow_st (st2 := .int (nI (n)) :: _) rfl ?_
    refine ow_nc_ge (pc := 8) (tgt := 52) hX d_S_driftClocks_8 (by decide) (by first | assumption | omega | (have := hw.2.1 k; omega)) (by first | assumption | omega | (have := hw.2.1 k; omega)) (fun h8 => ?_) (fun h8 => ?_)
    · skip
      exact ow_vret (pc := 52) hX d_S_driftClocks_52 rfl (by rw [show n = k by omega])
    · skip
      exact absurd h8 (by omega)
  | succ j ih =>
    intro k hk
    have hw : wf n (fo kc_dr1 u k) := (ev_fo (fun _ _ _ => ev_dr1) k u hu).1 hu
    refine ow_iload_n (pc := 2) hX d_S_driftClocks_2 rfl ?_
    refine ow_aload_n (pc := 3) hX d_S_driftClocks_3 rfl ?_
    refine ow_gR (pc := 4) hX (kd_S Y n s c) 2 d_S_driftClocks_4 kw_203 rfl Nat.zero_lt_one ?_
    refine ow_len (pc := 7) hX rfl (by decide) d_S_driftClocks_7 Nat.zero_lt_one ?_
    refine ow_st (st2 := .int (nI (n)) :: _) rfl ?_
    refine ow_nc_ge (pc := 8) (tgt := 52) hX d_S_driftClocks_8 (by decide) (by first | assumption | omega | (have := hw.2.1 k; omega)) (by first | assumption | omega | (have := hw.2.1 k; omega)) (fun h8 => ?_) (fun h8 => ?_)
    · skip
      exact absurd h8 (by omega)
    · skip
      refine ow_aload_n (pc := 11) hX d_S_driftClocks_11 rfl ?_
      refine ow_gR (pc := 12) hX (kd_S Y n s c) 2 d_S_driftClocks_12 kw_203 rfl Nat.zero_lt_one ?_
      refine ow_iload_n (pc := 15) hX d_S_driftClocks_15 rfl ?_
      refine ow_aR (pc := 16) hX rfl d_S_driftClocks_16 Nat.zero_lt_one (by show _ < n; first | assumption | omega | (have := hw.2.1 k; omega)) ?_
      refine ow_gN (pc := 17) hX (kd_N Y n s c) 6 d_S_driftClocks_17 kw_75 rfl (by show _ < n; first | assumption | omega | (have := hw.2.1 k; omega)) ?_
      refine ow_nz_eq (pc := 20) (tgt := 46) hX d_S_driftClocks_20 (by decide) (by first | assumption | omega | (have := hw.2.1 k; omega)) (fun h20 => ?_) (fun h20 => ?_)
      · skip
        refine ow_iinc (pc := 46) (l2 := [(0, _), (1, _)]) hX d_S_driftClocks_46 rfl (ii_1 _) (by decide) rfl rfl ?_
        refine ow_goto (pc := 49) (tgt := 2) hX d_S_driftClocks_49 (by decide) ?_
        have ih := ih (k + 1) (by omega)
        first | (rw [fo_s, kc_dr1_a h20] at ih; exact ih) | (rw [fo_s, kc_dr1_b h20] at ih; exact ih)
      · skip
        refine ow_aload_n (pc := 23) hX d_S_driftClocks_23 rfl ?_
        refine ow_gR (pc := 24) hX (kd_S Y n s c) 2 d_S_driftClocks_24 kw_203 rfl Nat.zero_lt_one ?_
        refine ow_iload_n (pc := 27) hX d_S_driftClocks_27 rfl ?_
        refine ow_aR (pc := 28) hX rfl d_S_driftClocks_28 Nat.zero_lt_one (by show _ < n; first | assumption | omega | (have := hw.2.1 k; omega)) ?_
        refine ow_dup (pc := 29) hX d_S_driftClocks_29 rfl ?_
        refine ow_gI (pc := 30) hX (kd_N Y n s c) 8 d_S_driftClocks_30 kw_79 rfl (by show _ < n; first | assumption | omega | (have := hw.2.1 k; omega)) ?_
        refine ow_aload_n (pc := 33) hX d_S_driftClocks_33 rfl ?_
        refine ow_gR (pc := 34) hX (kd_S Y n s c) 2 d_S_driftClocks_34 kw_203 rfl Nat.zero_lt_one ?_
        refine ow_iload_n (pc := 37) hX d_S_driftClocks_37 rfl ?_
        refine ow_aR (pc := 38) hX rfl d_S_driftClocks_38 Nat.zero_lt_one (by show _ < n; first | assumption | omega | (have := hw.2.1 k; omega)) ?_
        refine ow_gI (pc := 39) hX (kd_N Y n s c) 9 d_S_driftClocks_39 kw_80 rfl (by show _ < n; first | assumption | omega | (have := hw.2.1 k; omega)) ?_
        refine ow_iadd (pc := 42) hX d_S_driftClocks_42 ?_
        refine ow_pI (pc := 43) hX (kd_N Y n s c) 8 d_S_driftClocks_43 kw_79 rfl (by show _ < n; first | assumption | omega | (have := hw.2.1 k; omega)) rfl (by decide +kernel) ?_
        refine ow_iinc (pc := 46) (l2 := [(0, _), (1, _)]) hX d_S_driftClocks_46 rfl (ii_1 _) (by decide) rfl rfl ?_
        refine ow_goto (pc := 49) (tgt := 2) hX d_S_driftClocks_49 (by decide) ?_
        have ih := ih (k + 1) (by omega)
        first | (rw [fo_s, kc_dr1_a h20] at ih; exact ih) | (rw [fo_s, kc_dr1_b h20] at ih; exact ih)
set_option maxRecDepth 100000 in
set_option maxHeartbeats 4000000 in
theorem c_S_driftClocks (l : Launch) (Y : YY) (n s c : Nat) (hV : pv_ok (vC Y n s c)) (u : UU) (hn : n ≤ 6) (hu : wf n u) : Ct l (vC Y n s c) ⟨"SlottedMesh", "driftClocks", "()V"⟩ (wz ⟨"SlottedMesh", "driftClocks", "()V"⟩ b_S_driftClocks 2 none) (rd 0) [.ref (pv_ad (vC Y n s c) 0 0)] u none (fo kc_dr1 u n) := by
  refine ct_mk hV (by decide +kernel) (Nat.le_of_ble_eq_true rfl) (fun X hX => ?_)
  have hX : ox X (vC Y n s c) (rd 0) b_S_driftClocks 2 "SlottedMesh" gz none := hX
  show ow X (vC Y n s c) none (fo kc_dr1 u n) u [(0, .ref (pv_ad (vC Y n s c) 0 0))] 0 []
  refine ow_iconst (pc := 0) (v := nI 0) hX d_S_driftClocks_0 (by decide) ?_
  refine ow_istore_n (pc := 1) (l2 := [(0, _), (1, _)]) hX d_S_driftClocks_1 (by decide) rfl rfl ?_
  exact w_S_drift Y n s c hX u hn hu n 0 (by omega)
