/-! SlottedMeshModel: run's parts (by program, wip/whole/gen/m2.py) -/
set_option maxRecDepth 100000 in
set_option maxHeartbeats 4000000 in
theorem c_M_cache (l : Launch) (Y : YY) (n s c : Nat) (hV : pv_ok (vM Y n s c)) (u : UU) (a : Nat) (x v : Int32) (ha : a < n) (hn : n ≤ 6) (hu : wm n u) : Ct l (vM Y n s c) ⟨"SlottedMeshModel", "cache", "(III)V"⟩ (wz ⟨"SlottedMeshModel", "cache", "(III)V"⟩ b_M_cache 7 none) (rd 1) [.ref (pv_ad (vM Y n s c) 0 0), .int (nI a), .int x, .int v] u none (km_cache u a x v) := by
  refine ct_mk hV (by decide +kernel) (Nat.le_of_ble_eq_true rfl) (fun X hX => ?_)
  have hX : ox X (vM Y n s c) (rd 1) b_M_cache 7 "SlottedMeshModel" gz none := hX
  show ow X (vM Y n s c) none (km_cache u a x v) u [(0, .ref (pv_ad (vM Y n s c) 0 0)), (1, .int (nI a)), (2, .int x), (3, .int v)] 0 []
  refine ow_aload_n (pc := 0) hX d_M_cache_0 rfl ?_
  refine ow_gR (pc := 1) hX (kd_M Y n s c) 27 d_M_cache_1 kw_528 rfl Nat.zero_lt_one ?_
  refine ow_iconst (pc := 4) (v := nI 3) hX d_M_cache_4 (by decide) ?_
  refine ow_iload_n (pc := 5) hX d_M_cache_5 rfl ?_
  refine ow_muln (pc := 6) hX d_M_cache_6 ?_
  refine ow_iconst (pc := 7) (v := nI 2) hX d_M_cache_7 (by decide) ?_
  refine ow_addn (pc := 8) hX d_M_cache_8 ?_
  refine ow_aload_n (pc := 9) hX d_M_cache_9 rfl ?_
  refine ow_gR (pc := 10) hX (kd_M Y n s c) 27 d_M_cache_10 kw_528 rfl Nat.zero_lt_one ?_
  refine ow_iconst (pc := 13) (v := nI 3) hX d_M_cache_13 (by decide) ?_
  refine ow_iload_n (pc := 14) hX d_M_cache_14 rfl ?_
  refine ow_muln (pc := 15) hX d_M_cache_15 ?_
  refine ow_iconst (pc := 16) (v := nI 1) hX d_M_cache_16 (by decide) ?_
  refine ow_addn (pc := 17) hX d_M_cache_17 ?_
  refine ow_aI (pc := 18) hX rfl d_M_cache_18 Nat.zero_lt_one (by show _ < 18; first | assumption | omega | (have := hu.2.2.2.2.2.2.2.2.1 a; omega) | (have := hu.2.2.2.2.1 6; omega)) ?_
  refine ow_sI (pc := 19) hX rfl d_M_cache_19 Nat.zero_lt_one (by show _ < 18; first | assumption | omega | (have := hu.2.2.2.2.2.2.2.2.1 a; omega) | (have := hu.2.2.2.2.1 6; omega)) ?_
  refine ow_aload_n (pc := 20) hX d_M_cache_20 rfl ?_
  refine ow_gR (pc := 21) hX (kd_M Y n s c) 27 d_M_cache_21 kw_528 rfl Nat.zero_lt_one ?_
  refine ow_iconst (pc := 24) (v := nI 3) hX d_M_cache_24 (by decide) ?_
  refine ow_iload_n (pc := 25) hX d_M_cache_25 rfl ?_
  refine ow_muln (pc := 26) hX d_M_cache_26 ?_
  refine ow_iconst (pc := 27) (v := nI 1) hX d_M_cache_27 (by decide) ?_
  refine ow_addn (pc := 28) hX d_M_cache_28 ?_
  refine ow_aload_n (pc := 29) hX d_M_cache_29 rfl ?_
  refine ow_gR (pc := 30) hX (kd_M Y n s c) 27 d_M_cache_30 kw_528 rfl Nat.zero_lt_one ?_
  refine ow_iconst (pc := 33) (v := nI 3) hX d_M_cache_33 (by decide) ?_
  refine ow_iload_n (pc := 34) hX d_M_cache_34 rfl ?_
  refine ow_muln (pc := 35) hX d_M_cache_35 ?_
  refine ow_aI (pc := 36) hX rfl d_M_cache_36 Nat.zero_lt_one (by show _ < 18; first | assumption | omega | (have := hu.2.2.2.2.2.2.2.2.1 a; omega) | (have := hu.2.2.2.2.1 6; omega)) ?_
  try simp only [un_1, un_2, ui_1, ui_2, ui_3, ul_1, ul_2, ul_3, ul_4, ur_1, ur_2, ur_3, ur_4, Nat.reduceEqDiff, false_and, and_false, true_and, and_true, and_self, reduceIte]
  try rw [if_neg (by omega)]
  refine ow_sI (pc := 37) hX rfl d_M_cache_37 Nat.zero_lt_one (by show _ < 18; first | assumption | omega | (have := hu.2.2.2.2.2.2.2.2.1 a; omega) | (have := hu.2.2.2.2.1 6; omega)) ?_
  refine ow_aload_n (pc := 38) hX d_M_cache_38 rfl ?_
  refine ow_gR (pc := 39) hX (kd_M Y n s c) 27 d_M_cache_39 kw_528 rfl Nat.zero_lt_one ?_
  refine ow_iconst (pc := 42) (v := nI 3) hX d_M_cache_42 (by decide) ?_
  refine ow_iload_n (pc := 43) hX d_M_cache_43 rfl ?_
  refine ow_muln (pc := 44) hX d_M_cache_44 ?_
  refine ow_iload_n (pc := 45) hX d_M_cache_45 rfl ?_
  refine ow_sI (pc := 46) hX rfl d_M_cache_46 Nat.zero_lt_one (by show _ < 18; first | assumption | omega | (have := hu.2.2.2.2.2.2.2.2.1 a; omega) | (have := hu.2.2.2.2.1 6; omega)) ?_
  refine ow_aload_n (pc := 47) hX d_M_cache_47 rfl ?_
  refine ow_gR (pc := 48) hX (kd_M Y n s c) 28 d_M_cache_48 kw_529 rfl Nat.zero_lt_one ?_
  refine ow_iload_n (pc := 51) hX d_M_cache_51 rfl ?_
  refine ow_aload_n (pc := 52) hX d_M_cache_52 rfl ?_
  refine ow_gR (pc := 53) hX (kd_M Y n s c) 28 d_M_cache_53 kw_529 rfl Nat.zero_lt_one ?_
  refine ow_iload_n (pc := 56) hX d_M_cache_56 rfl ?_
  refine ow_aN (pc := 57) hX rfl d_M_cache_57 Nat.zero_lt_one (by show _ < 6; first | assumption | omega | (have := hu.2.2.2.2.2.2.2.2.1 a; omega) | (have := hu.2.2.2.2.1 6; omega)) ?_
  try simp only [un_1, un_2, ui_1, ui_2, ui_3, ul_1, ul_2, ul_3, ul_4, ur_1, ur_2, ur_3, ur_4, Nat.reduceEqDiff, false_and, and_false, true_and, and_true, and_self, reduceIte]
  refine ow_iconst (pc := 58) (v := nI 3) hX d_M_cache_58 (by decide) ?_
  refine ow_nc_ge (pc := 59) (tgt := 73) hX d_M_cache_59 (by decide) (by first | assumption | omega | (have := hu.2.2.2.2.2.2.2.2.1 a; omega) | (have := hu.2.2.2.2.1 6; omega)) (by first | assumption | omega | (have := hu.2.2.2.2.2.2.2.2.1 a; omega) | (have := hu.2.2.2.2.1 6; omega)) (fun h59 => ?_) (fun h59 => ?_)
  · skip
    refine ow_iconst (pc := 73) (v := nI 3) hX d_M_cache_73 (by decide) ?_
    refine ow_sN (pc := 74) hX rfl d_M_cache_74 Nat.zero_lt_one (by show _ < 6; first | assumption | omega | (have := hu.2.2.2.2.2.2.2.2.1 a; omega) | (have := hu.2.2.2.2.1 6; omega)) ?_
    refine ow_aload_n (pc := 75) hX d_M_cache_75 rfl ?_
    refine ow_gR (pc := 76) hX (kd_M Y n s c) 29 d_M_cache_76 kw_530 rfl Nat.zero_lt_one ?_
    refine ow_iload_n (pc := 79) hX d_M_cache_79 rfl ?_
    refine ow_aI (pc := 80) hX rfl d_M_cache_80 Nat.zero_lt_one (by show _ < 6; first | assumption | omega | (have := hu.2.2.2.2.2.2.2.2.1 a; omega) | (have := hu.2.2.2.2.1 6; omega)) ?_
    try simp only [un_1, un_2, ui_1, ui_2, ui_3, ul_1, ul_2, ul_3, ul_4, ur_1, ur_2, ur_3, ur_4, Nat.reduceEqDiff, false_and, and_false, true_and, and_true, and_self, reduceIte]
    refine ow_iload_n (pc := 81) hX d_M_cache_81 rfl ?_
    refine ow_isub (pc := 82) hX d_M_cache_82 ?_
    refine ow_istore (pc := 83) (l2 := [(0, _), (1, _), (2, _), (3, _), (4, _)]) hX d_M_cache_83 (by decide) rfl rfl ?_
    refine ow_aload_n (pc := 85) hX d_M_cache_85 rfl ?_
    refine ow_gR (pc := 86) hX (kd_M Y n s c) 32 d_M_cache_86 kw_533 rfl Nat.zero_lt_one ?_
    refine ow_iload_n (pc := 89) hX d_M_cache_89 rfl ?_
    refine ow_aload_n (pc := 90) hX d_M_cache_90 rfl ?_
    refine ow_gR (pc := 91) hX (kd_M Y n s c) 32 d_M_cache_91 kw_533 rfl Nat.zero_lt_one ?_
    refine ow_iload_n (pc := 94) hX d_M_cache_94 rfl ?_
    refine ow_aI (pc := 95) hX rfl d_M_cache_95 Nat.zero_lt_one (by show _ < 6; first | assumption | omega | (have := hu.2.2.2.2.2.2.2.2.1 a; omega) | (have := hu.2.2.2.2.1 6; omega)) ?_
    try simp only [un_1, un_2, ui_1, ui_2, ui_3, ul_1, ul_2, ul_3, ul_4, ur_1, ur_2, ur_3, ur_4, Nat.reduceEqDiff, false_and, and_false, true_and, and_true, and_self, reduceIte]
    refine ow_iload (pc := 96) hX d_M_cache_96 rfl ?_
    refine ow_iadd (pc := 98) hX d_M_cache_98 ?_
    refine ow_sipush (pc := 99) (v := nI 2000) hX d_M_cache_99 (by decide) ?_
    refine ow_callS (pc := 102) hX (c_M_within _ Y n s c hV _ _ _) (cw_S hX mz_M_within kw_714 ⟨rfl, rfl⟩ (by decide)) rfl (Nat.le_of_ble_eq_true rfl) d_M_cache_102 rfl ?_
    refine ow_sI (pc := 105) hX rfl d_M_cache_105 Nat.zero_lt_one (by show _ < 6; first | assumption | omega | (have := hu.2.2.2.2.2.2.2.2.1 a; omega) | (have := hu.2.2.2.2.1 6; omega)) ?_
    refine ow_aload_n (pc := 106) hX d_M_cache_106 rfl ?_
    refine ow_gR (pc := 107) hX (kd_M Y n s c) 30 d_M_cache_107 kw_531 rfl Nat.zero_lt_one ?_
    refine ow_iload_n (pc := 110) hX d_M_cache_110 rfl ?_
    refine ow_aI (pc := 111) hX rfl d_M_cache_111 Nat.zero_lt_one (by show _ < 6; first | assumption | omega | (have := hu.2.2.2.2.2.2.2.2.1 a; omega) | (have := hu.2.2.2.2.1 6; omega)) ?_
    try simp only [un_1, un_2, ui_1, ui_2, ui_3, ul_1, ul_2, ul_3, ul_4, ur_1, ur_2, ur_3, ur_4, Nat.reduceEqDiff, false_and, and_false, true_and, and_true, and_self, reduceIte]
    refine ow_iload (pc := 112) hX d_M_cache_112 rfl ?_
    refine ow_imul (pc := 114) hX d_M_cache_114 ?_
    refine ow_aload_n (pc := 115) hX d_M_cache_115 rfl ?_
    refine ow_gR (pc := 116) hX (kd_M Y n s c) 31 d_M_cache_116 kw_532 rfl Nat.zero_lt_one ?_
    refine ow_iload_n (pc := 119) hX d_M_cache_119 rfl ?_
    refine ow_aI (pc := 120) hX rfl d_M_cache_120 Nat.zero_lt_one (by show _ < 6; first | assumption | omega | (have := hu.2.2.2.2.2.2.2.2.1 a; omega) | (have := hu.2.2.2.2.1 6; omega)) ?_
    try simp only [un_1, un_2, ui_1, ui_2, ui_3, ul_1, ul_2, ul_3, ul_4, ur_1, ur_2, ur_3, ur_4, Nat.reduceEqDiff, false_and, and_false, true_and, and_true, and_self, reduceIte]
    refine ow_aload_n (pc := 121) hX d_M_cache_121 rfl ?_
    refine ow_gR (pc := 122) hX (kd_M Y n s c) 32 d_M_cache_122 kw_533 rfl Nat.zero_lt_one ?_
    refine ow_iload_n (pc := 125) hX d_M_cache_125 rfl ?_
    refine ow_aI (pc := 126) hX rfl d_M_cache_126 Nat.zero_lt_one (by show _ < 6; first | assumption | omega | (have := hu.2.2.2.2.2.2.2.2.1 a; omega) | (have := hu.2.2.2.2.1 6; omega)) ?_
    try simp only [un_1, un_2, ui_1, ui_2, ui_3, ul_1, ul_2, ul_3, ul_4, ur_1, ur_2, ur_3, ur_4, Nat.reduceEqDiff, false_and, and_false, true_and, and_true, and_self, reduceIte]
    refine ow_imul (pc := 127) hX d_M_cache_127 ?_
    refine ow_iadd (pc := 128) hX d_M_cache_128 ?_
    refine ow_istore (pc := 129) (l2 := [(0, _), (1, _), (2, _), (3, _), (4, _), (5, _)]) hX d_M_cache_129 (by decide) rfl rfl ?_
    refine ow_iload (pc := 131) hX d_M_cache_131 rfl ?_
    refine ow_iconst (pc := 133) (v := nI 4) hX d_M_cache_133 (by decide) ?_
    refine ow_ishr (pc := 134) hX d_M_cache_134 ?_
    refine ow_sipush (pc := 135) (v := nI 500) hX d_M_cache_135 (by decide) ?_
    refine ow_callS (pc := 138) hX (c_M_within _ Y n s c hV _ _ _) (cw_S hX mz_M_within kw_714 ⟨rfl, rfl⟩ (by decide)) rfl (Nat.le_of_ble_eq_true rfl) d_M_cache_138 rfl ?_
    refine ow_istore (pc := 141) (l2 := [(0, _), (1, _), (2, _), (3, _), (4, _), (5, _), (6, _)]) hX d_M_cache_141 (by decide) rfl rfl ?_
    refine ow_aload_n (pc := 143) hX d_M_cache_143 rfl ?_
    refine ow_gR (pc := 144) hX (kd_M Y n s c) 19 d_M_cache_144 kw_520 rfl Nat.zero_lt_one ?_
    refine ow_bipush (pc := 147) (v := nI 6) hX d_M_cache_147 (by decide) ?_
    refine ow_aN (pc := 149) hX rfl d_M_cache_149 Nat.zero_lt_one (by show _ < 12; first | assumption | omega | (have := hu.2.2.2.2.2.2.2.2.1 a; omega) | (have := hu.2.2.2.2.1 6; omega)) ?_
    try simp only [un_1, un_2, ui_1, ui_2, ui_3, ul_1, ul_2, ul_3, ul_4, ur_1, ur_2, ur_3, ur_4, Nat.reduceEqDiff, false_and, and_false, true_and, and_true, and_self, reduceIte]
    refine ow_iconst (pc := 150) (v := nI 4) hX d_M_cache_150 (by decide) ?_
    refine ow_nc_ge (pc := 151) (tgt := 164) hX d_M_cache_151 (by decide) (by first | assumption | omega | (have := hu.2.2.2.2.2.2.2.2.1 a; omega) | (have := hu.2.2.2.2.1 6; omega)) (by first | assumption | omega | (have := hu.2.2.2.2.2.2.2.2.1 a; omega) | (have := hu.2.2.2.2.1 6; omega)) (fun h151 => ?_) (fun h151 => ?_)
    · skip
      exact ow_vret (pc := 164) hX d_M_cache_164 rfl (by (unfold km_cache; first | (rw [if_pos h59, if_pos h151]; rfl) | (rw [if_neg (Nat.not_lt.mpr h59), if_pos h151]; rfl) | (rw [if_pos h59, if_neg (Nat.not_lt.mpr h151)]; rfl) | (rw [if_neg (Nat.not_lt.mpr h59), if_neg (Nat.not_lt.mpr h151)]; rfl) | (rw [if_pos h59, if_pos (Nat.not_le.mp (fun q => by omega))]; rfl)))
    · skip
      refine ow_aload_n (pc := 154) hX d_M_cache_154 rfl ?_
      refine ow_bipush (pc := 155) (v := nI 6) hX d_M_cache_155 (by decide) ?_
      refine ow_iload_n (pc := 157) hX d_M_cache_157 rfl ?_
      refine ow_iload_n (pc := 158) hX d_M_cache_158 rfl ?_
      refine ow_iload (pc := 159) hX d_M_cache_159 rfl ?_
      refine ow_callV (pc := 161) hX (kd_M Y n s c) Nat.zero_lt_one (c_M_add _ Y n s c hV _ 6 a _ _ (by omega) (by first | (simp only [un_1, ui_1]; simpa using h151) | assumption)) (cw_V hX mz_M_add kw_663 ⟨rfl, rfl⟩ (by decide)) rfl (Nat.le_of_ble_eq_true rfl) d_M_cache_161 rfl ?_
      exact ow_vret (pc := 164) hX d_M_cache_164 rfl (by (unfold km_cache; first | (rw [if_pos h59, if_pos h151]; rfl) | (rw [if_neg (Nat.not_lt.mpr h59), if_pos h151]; rfl) | (rw [if_pos h59, if_neg (Nat.not_lt.mpr h151)]; rfl) | (rw [if_neg (Nat.not_lt.mpr h59), if_neg (Nat.not_lt.mpr h151)]; rfl) | (rw [if_pos h59, if_pos (Nat.not_le.mp (fun q => by omega))]; rfl)))
  · skip
    refine ow_aload_n (pc := 62) hX d_M_cache_62 rfl ?_
    refine ow_gR (pc := 63) hX (kd_M Y n s c) 28 d_M_cache_63 kw_529 rfl Nat.zero_lt_one ?_
    refine ow_iload_n (pc := 66) hX d_M_cache_66 rfl ?_
    refine ow_aN (pc := 67) hX rfl d_M_cache_67 Nat.zero_lt_one (by show _ < 6; first | assumption | omega | (have := hu.2.2.2.2.2.2.2.2.1 a; omega) | (have := hu.2.2.2.2.1 6; omega)) ?_
    try simp only [un_1, un_2, ui_1, ui_2, ui_3, ul_1, ul_2, ul_3, ul_4, ur_1, ur_2, ur_3, ur_4, Nat.reduceEqDiff, false_and, and_false, true_and, and_true, and_self, reduceIte]
    refine ow_iconst (pc := 68) (v := nI 1) hX d_M_cache_68 (by decide) ?_
    refine ow_addn (pc := 69) hX d_M_cache_69 ?_
    refine ow_goto (pc := 70) (tgt := 74) hX d_M_cache_70 (by decide) ?_
    refine ow_sN (pc := 74) hX rfl d_M_cache_74 Nat.zero_lt_one (by show _ < 6; first | assumption | omega | (have := hu.2.2.2.2.2.2.2.2.1 a; omega) | (have := hu.2.2.2.2.1 6; omega)) ?_
    refine ow_aload_n (pc := 75) hX d_M_cache_75 rfl ?_
    refine ow_gR (pc := 76) hX (kd_M Y n s c) 29 d_M_cache_76 kw_530 rfl Nat.zero_lt_one ?_
    refine ow_iload_n (pc := 79) hX d_M_cache_79 rfl ?_
    refine ow_aI (pc := 80) hX rfl d_M_cache_80 Nat.zero_lt_one (by show _ < 6; first | assumption | omega | (have := hu.2.2.2.2.2.2.2.2.1 a; omega) | (have := hu.2.2.2.2.1 6; omega)) ?_
    try simp only [un_1, un_2, ui_1, ui_2, ui_3, ul_1, ul_2, ul_3, ul_4, ur_1, ur_2, ur_3, ur_4, Nat.reduceEqDiff, false_and, and_false, true_and, and_true, and_self, reduceIte]
    refine ow_iload_n (pc := 81) hX d_M_cache_81 rfl ?_
    refine ow_isub (pc := 82) hX d_M_cache_82 ?_
    refine ow_istore (pc := 83) (l2 := [(0, _), (1, _), (2, _), (3, _), (4, _)]) hX d_M_cache_83 (by decide) rfl rfl ?_
    refine ow_aload_n (pc := 85) hX d_M_cache_85 rfl ?_
    refine ow_gR (pc := 86) hX (kd_M Y n s c) 32 d_M_cache_86 kw_533 rfl Nat.zero_lt_one ?_
    refine ow_iload_n (pc := 89) hX d_M_cache_89 rfl ?_
    refine ow_aload_n (pc := 90) hX d_M_cache_90 rfl ?_
    refine ow_gR (pc := 91) hX (kd_M Y n s c) 32 d_M_cache_91 kw_533 rfl Nat.zero_lt_one ?_
    refine ow_iload_n (pc := 94) hX d_M_cache_94 rfl ?_
    refine ow_aI (pc := 95) hX rfl d_M_cache_95 Nat.zero_lt_one (by show _ < 6; first | assumption | omega | (have := hu.2.2.2.2.2.2.2.2.1 a; omega) | (have := hu.2.2.2.2.1 6; omega)) ?_
    try simp only [un_1, un_2, ui_1, ui_2, ui_3, ul_1, ul_2, ul_3, ul_4, ur_1, ur_2, ur_3, ur_4, Nat.reduceEqDiff, false_and, and_false, true_and, and_true, and_self, reduceIte]
    refine ow_iload (pc := 96) hX d_M_cache_96 rfl ?_
    refine ow_iadd (pc := 98) hX d_M_cache_98 ?_
    refine ow_sipush (pc := 99) (v := nI 2000) hX d_M_cache_99 (by decide) ?_
    refine ow_callS (pc := 102) hX (c_M_within _ Y n s c hV _ _ _) (cw_S hX mz_M_within kw_714 ⟨rfl, rfl⟩ (by decide)) rfl (Nat.le_of_ble_eq_true rfl) d_M_cache_102 rfl ?_
    refine ow_sI (pc := 105) hX rfl d_M_cache_105 Nat.zero_lt_one (by show _ < 6; first | assumption | omega | (have := hu.2.2.2.2.2.2.2.2.1 a; omega) | (have := hu.2.2.2.2.1 6; omega)) ?_
    refine ow_aload_n (pc := 106) hX d_M_cache_106 rfl ?_
    refine ow_gR (pc := 107) hX (kd_M Y n s c) 30 d_M_cache_107 kw_531 rfl Nat.zero_lt_one ?_
    refine ow_iload_n (pc := 110) hX d_M_cache_110 rfl ?_
    refine ow_aI (pc := 111) hX rfl d_M_cache_111 Nat.zero_lt_one (by show _ < 6; first | assumption | omega | (have := hu.2.2.2.2.2.2.2.2.1 a; omega) | (have := hu.2.2.2.2.1 6; omega)) ?_
    try simp only [un_1, un_2, ui_1, ui_2, ui_3, ul_1, ul_2, ul_3, ul_4, ur_1, ur_2, ur_3, ur_4, Nat.reduceEqDiff, false_and, and_false, true_and, and_true, and_self, reduceIte]
    refine ow_iload (pc := 112) hX d_M_cache_112 rfl ?_
    refine ow_imul (pc := 114) hX d_M_cache_114 ?_
    refine ow_aload_n (pc := 115) hX d_M_cache_115 rfl ?_
    refine ow_gR (pc := 116) hX (kd_M Y n s c) 31 d_M_cache_116 kw_532 rfl Nat.zero_lt_one ?_
    refine ow_iload_n (pc := 119) hX d_M_cache_119 rfl ?_
    refine ow_aI (pc := 120) hX rfl d_M_cache_120 Nat.zero_lt_one (by show _ < 6; first | assumption | omega | (have := hu.2.2.2.2.2.2.2.2.1 a; omega) | (have := hu.2.2.2.2.1 6; omega)) ?_
    try simp only [un_1, un_2, ui_1, ui_2, ui_3, ul_1, ul_2, ul_3, ul_4, ur_1, ur_2, ur_3, ur_4, Nat.reduceEqDiff, false_and, and_false, true_and, and_true, and_self, reduceIte]
    refine ow_aload_n (pc := 121) hX d_M_cache_121 rfl ?_
    refine ow_gR (pc := 122) hX (kd_M Y n s c) 32 d_M_cache_122 kw_533 rfl Nat.zero_lt_one ?_
    refine ow_iload_n (pc := 125) hX d_M_cache_125 rfl ?_
    refine ow_aI (pc := 126) hX rfl d_M_cache_126 Nat.zero_lt_one (by show _ < 6; first | assumption | omega | (have := hu.2.2.2.2.2.2.2.2.1 a; omega) | (have := hu.2.2.2.2.1 6; omega)) ?_
    try simp only [un_1, un_2, ui_1, ui_2, ui_3, ul_1, ul_2, ul_3, ul_4, ur_1, ur_2, ur_3, ur_4, Nat.reduceEqDiff, false_and, and_false, true_and, and_true, and_self, reduceIte]
    refine ow_imul (pc := 127) hX d_M_cache_127 ?_
    refine ow_iadd (pc := 128) hX d_M_cache_128 ?_
    refine ow_istore (pc := 129) (l2 := [(0, _), (1, _), (2, _), (3, _), (4, _), (5, _)]) hX d_M_cache_129 (by decide) rfl rfl ?_
    refine ow_iload (pc := 131) hX d_M_cache_131 rfl ?_
    refine ow_iconst (pc := 133) (v := nI 4) hX d_M_cache_133 (by decide) ?_
    refine ow_ishr (pc := 134) hX d_M_cache_134 ?_
    refine ow_sipush (pc := 135) (v := nI 500) hX d_M_cache_135 (by decide) ?_
    refine ow_callS (pc := 138) hX (c_M_within _ Y n s c hV _ _ _) (cw_S hX mz_M_within kw_714 ⟨rfl, rfl⟩ (by decide)) rfl (Nat.le_of_ble_eq_true rfl) d_M_cache_138 rfl ?_
    refine ow_istore (pc := 141) (l2 := [(0, _), (1, _), (2, _), (3, _), (4, _), (5, _), (6, _)]) hX d_M_cache_141 (by decide) rfl rfl ?_
    refine ow_aload_n (pc := 143) hX d_M_cache_143 rfl ?_
    refine ow_gR (pc := 144) hX (kd_M Y n s c) 19 d_M_cache_144 kw_520 rfl Nat.zero_lt_one ?_
    refine ow_bipush (pc := 147) (v := nI 6) hX d_M_cache_147 (by decide) ?_
    refine ow_aN (pc := 149) hX rfl d_M_cache_149 Nat.zero_lt_one (by show _ < 12; first | assumption | omega | (have := hu.2.2.2.2.2.2.2.2.1 a; omega) | (have := hu.2.2.2.2.1 6; omega)) ?_
    try simp only [un_1, un_2, ui_1, ui_2, ui_3, ul_1, ul_2, ul_3, ul_4, ur_1, ur_2, ur_3, ur_4, Nat.reduceEqDiff, false_and, and_false, true_and, and_true, and_self, reduceIte]
    refine ow_iconst (pc := 150) (v := nI 4) hX d_M_cache_150 (by decide) ?_
    refine ow_nc_ge (pc := 151) (tgt := 164) hX d_M_cache_151 (by decide) (by first | assumption | omega | (have := hu.2.2.2.2.2.2.2.2.1 a; omega) | (have := hu.2.2.2.2.1 6; omega)) (by first | assumption | omega | (have := hu.2.2.2.2.2.2.2.2.1 a; omega) | (have := hu.2.2.2.2.1 6; omega)) (fun h151 => ?_) (fun h151 => ?_)
    · skip
      exact ow_vret (pc := 164) hX d_M_cache_164 rfl (by (unfold km_cache; first | (rw [if_pos h59, if_pos h151]; rfl) | (rw [if_neg (Nat.not_lt.mpr h59), if_pos h151]; rfl) | (rw [if_pos h59, if_neg (Nat.not_lt.mpr h151)]; rfl) | (rw [if_neg (Nat.not_lt.mpr h59), if_neg (Nat.not_lt.mpr h151)]; rfl) | (rw [if_pos h59, if_pos (Nat.not_le.mp (fun q => by omega))]; rfl)))
    · skip
      refine ow_aload_n (pc := 154) hX d_M_cache_154 rfl ?_
      refine ow_bipush (pc := 155) (v := nI 6) hX d_M_cache_155 (by decide) ?_
      refine ow_iload_n (pc := 157) hX d_M_cache_157 rfl ?_
      refine ow_iload_n (pc := 158) hX d_M_cache_158 rfl ?_
      refine ow_iload (pc := 159) hX d_M_cache_159 rfl ?_
      refine ow_callV (pc := 161) hX (kd_M Y n s c) Nat.zero_lt_one (c_M_add _ Y n s c hV _ 6 a _ _ (by omega) (by first | (simp only [un_1, ui_1]; simpa using h151) | assumption)) (cw_V hX mz_M_add kw_663 ⟨rfl, rfl⟩ (by decide)) rfl (Nat.le_of_ble_eq_true rfl) d_M_cache_161 rfl ?_
      exact ow_vret (pc := 164) hX d_M_cache_164 rfl (by (unfold km_cache; first | (rw [if_pos h59, if_pos h151]; rfl) | (rw [if_neg (Nat.not_lt.mpr h59), if_pos h151]; rfl) | (rw [if_pos h59, if_neg (Nat.not_lt.mpr h151)]; rfl) | (rw [if_neg (Nat.not_lt.mpr h59), if_neg (Nat.not_lt.mpr h151)]; rfl) | (rw [if_pos h59, if_pos (Nat.not_le.mp (fun q => by omega))]; rfl)))
set_option maxRecDepth 100000 in
set_option maxHeartbeats 4000000 in
theorem c_M_hears (l : Launch) (Y : YY) (n s c : Nat) (hV : pv_ok (vM Y n s c)) (u : UU) (a b ch : Nat) (ha : a < 6) (hb : b < 6) (hch : ch < 4) (hn : n ≤ 6) (hu : wm n u) : Ct l (vM Y n s c) ⟨"SlottedMeshModel", "hears", "(III)Z"⟩ (wz ⟨"SlottedMeshModel", "hears", "(III)Z"⟩ b_M_hears 4 (some .boolean)) (rd 1) [.ref (pv_ad (vM Y n s c) 0 0), .int (nI a), .int (nI b), .int (nI ch)] u (some (.int (nI (km_hears u a b ch)))) (u) := by
  refine ct_mk hV (by decide +kernel) (Nat.le_of_ble_eq_true rfl) (fun X hX => ?_)
  have hX : ox X (vM Y n s c) (rd 1) b_M_hears 4 "SlottedMeshModel" gz (some .boolean) := hX
  show ow X (vM Y n s c) (some (.int (nI (km_hears u a b ch)))) (u) u [(0, .ref (pv_ad (vM Y n s c) 0 0)), (1, .int (nI a)), (2, .int (nI b)), (3, .int (nI ch))] 0 []
  refine ow_aload_n (pc := 0) hX d_M_hears_0 rfl ?_
  refine ow_gR (pc := 1) hX (kd_M Y n s c) 7 d_M_hears_1 kw_508 rfl Nat.zero_lt_one ?_
  refine ow_iload_n (pc := 4) hX d_M_hears_4 rfl ?_
  refine ow_aZ (pc := 5) hX rfl d_M_hears_5 Nat.zero_lt_one (by show _ < 6; first | assumption | omega | (have := hu.1 (6 * a + b); omega) | (have := hu.2.2.1 b; omega) | exact Nat.lt_of_le_of_lt (kbitm_le _ _) (by decide) | exact Nat.lt_of_le_of_lt (kclm_le _ _) (by decide)) ?_
  refine ow_nz_eq (pc := 6) (tgt := 52) hX d_M_hears_6 (by decide) (by first | assumption | omega | (have := hu.1 (6 * a + b); omega) | (have := hu.2.2.1 b; omega) | exact Nat.lt_of_le_of_lt (kbitm_le _ _) (by decide) | exact Nat.lt_of_le_of_lt (kclm_le _ _) (by decide)) (fun h6 => ?_) (fun h6 => ?_)
  · skip
    refine ow_iconst (pc := 52) (v := nI 0) hX d_M_hears_52 (by decide) ?_
    exact ow_zret (pc := 53) hX d_M_hears_53 (nb_01 (by first | decide | assumption | omega | exact kbit_le _ _)) (by first | rfl | (unfold km_hears; first | rw [if_pos h6] | rw [if_neg h6, if_pos h20] | rw [if_neg h6, if_neg h20, if_pos h29] | rw [if_neg h6, if_neg h20, if_neg h29, if_pos h45] | rw [if_neg h6, if_neg h20, if_neg h29, if_neg h45])) (by first | rfl | (unfold km_hears; first | rw [if_pos h6] | rw [if_neg h6, if_pos h20] | rw [if_neg h6, if_neg h20, if_pos h29] | rw [if_neg h6, if_neg h20, if_neg h29, if_pos h45] | rw [if_neg h6, if_neg h20, if_neg h29, if_neg h45]))
  · skip
    refine ow_aload_n (pc := 9) hX d_M_hears_9 rfl ?_
    refine ow_gR (pc := 10) hX (kd_M Y n s c) 5 d_M_hears_10 kw_506 rfl Nat.zero_lt_one ?_
    refine ow_bipush (pc := 13) (v := nI 6) hX d_M_hears_13 (by decide) ?_
    refine ow_iload_n (pc := 15) hX d_M_hears_15 rfl ?_
    refine ow_muln (pc := 16) hX d_M_hears_16 ?_
    refine ow_iload_n (pc := 17) hX d_M_hears_17 rfl ?_
    refine ow_addn (pc := 18) hX d_M_hears_18 ?_
    refine ow_aZ (pc := 19) hX rfl d_M_hears_19 Nat.zero_lt_one (by show _ < 36; first | assumption | omega | (have := hu.1 (6 * a + b); omega) | (have := hu.2.2.1 b; omega) | exact Nat.lt_of_le_of_lt (kbitm_le _ _) (by decide) | exact Nat.lt_of_le_of_lt (kclm_le _ _) (by decide)) ?_
    refine ow_nz_eq (pc := 20) (tgt := 52) hX d_M_hears_20 (by decide) (by first | assumption | omega | (have := hu.1 (6 * a + b); omega) | (have := hu.2.2.1 b; omega) | exact Nat.lt_of_le_of_lt (kbitm_le _ _) (by decide) | exact Nat.lt_of_le_of_lt (kclm_le _ _) (by decide)) (fun h20 => ?_) (fun h20 => ?_)
    · skip
      refine ow_iconst (pc := 52) (v := nI 0) hX d_M_hears_52 (by decide) ?_
      exact ow_zret (pc := 53) hX d_M_hears_53 (nb_01 (by first | decide | assumption | omega | exact kbit_le _ _)) (by first | rfl | (unfold km_hears; first | rw [if_pos h6] | rw [if_neg h6, if_pos h20] | rw [if_neg h6, if_neg h20, if_pos h29] | rw [if_neg h6, if_neg h20, if_neg h29, if_pos h45] | rw [if_neg h6, if_neg h20, if_neg h29, if_neg h45])) (by first | rfl | (unfold km_hears; first | rw [if_pos h6] | rw [if_neg h6, if_pos h20] | rw [if_neg h6, if_neg h20, if_pos h29] | rw [if_neg h6, if_neg h20, if_neg h29, if_pos h45] | rw [if_neg h6, if_neg h20, if_neg h29, if_neg h45]))
    · skip
      refine ow_aload_n (pc := 23) hX d_M_hears_23 rfl ?_
      refine ow_iload_n (pc := 24) hX d_M_hears_24 rfl ?_
      refine ow_iload_n (pc := 25) hX d_M_hears_25 rfl ?_
      refine ow_callV (pc := 26) hX (kd_M Y n s c) Nat.zero_lt_one (c_M_close _ Y n s c hV u a b ha hb) (cw_V hX mz_M_close kw_686 ⟨rfl, rfl⟩ (by decide)) rfl (Nat.le_of_ble_eq_true rfl) d_M_hears_26 rfl ?_
      refine ow_nz_eq (pc := 29) (tgt := 52) hX d_M_hears_29 (by decide) (by first | assumption | omega | (have := hu.1 (6 * a + b); omega) | (have := hu.2.2.1 b; omega) | exact Nat.lt_of_le_of_lt (kbitm_le _ _) (by decide) | exact Nat.lt_of_le_of_lt (kclm_le _ _) (by decide)) (fun h29 => ?_) (fun h29 => ?_)
      · skip
        refine ow_iconst (pc := 52) (v := nI 0) hX d_M_hears_52 (by decide) ?_
        exact ow_zret (pc := 53) hX d_M_hears_53 (nb_01 (by first | decide | assumption | omega | exact kbit_le _ _)) (by first | rfl | (unfold km_hears; first | rw [if_pos h6] | rw [if_neg h6, if_pos h20] | rw [if_neg h6, if_neg h20, if_pos h29] | rw [if_neg h6, if_neg h20, if_neg h29, if_pos h45] | rw [if_neg h6, if_neg h20, if_neg h29, if_neg h45])) (by first | rfl | (unfold km_hears; first | rw [if_pos h6] | rw [if_neg h6, if_pos h20] | rw [if_neg h6, if_neg h20, if_pos h29] | rw [if_neg h6, if_neg h20, if_neg h29, if_pos h45] | rw [if_neg h6, if_neg h20, if_neg h29, if_neg h45]))
      · skip
        refine ow_aload_n (pc := 32) hX d_M_hears_32 rfl ?_
        refine ow_gR (pc := 33) hX (kd_M Y n s c) 10 d_M_hears_33 kw_511 rfl Nat.zero_lt_one ?_
        refine ow_iload_n (pc := 36) hX d_M_hears_36 rfl ?_
        refine ow_aL (pc := 37) hX rfl d_M_hears_37 Nat.zero_lt_one (by show _ < 4; first | assumption | omega | (have := hu.1 (6 * a + b); omega) | (have := hu.2.2.1 b; omega) | exact Nat.lt_of_le_of_lt (kbitm_le _ _) (by decide) | exact Nat.lt_of_le_of_lt (kclm_le _ _) (by decide)) ?_
        refine ow_aload_n (pc := 38) hX d_M_hears_38 rfl ?_
        refine ow_gN (pc := 39) hX (kd_M Y n s c) 3 d_M_hears_39 kw_504 rfl Nat.zero_lt_one ?_
        refine ow_callS (pc := 42) hX (c_M_bit _ Y n s c hV u _ _ (by have := hu.2.2.2.2.2.2.2.2.2.2; omega)) (cw_S hX mz_M_bit kw_683 ⟨rfl, rfl⟩ (by decide)) rfl (Nat.le_of_ble_eq_true rfl) d_M_hears_42 rfl ?_
        refine ow_nz_eq (pc := 45) (tgt := 52) hX d_M_hears_45 (by decide) (by first | assumption | omega | (have := hu.1 (6 * a + b); omega) | (have := hu.2.2.1 b; omega) | exact Nat.lt_of_le_of_lt (kbitm_le _ _) (by decide) | exact Nat.lt_of_le_of_lt (kclm_le _ _) (by decide)) (fun h45 => ?_) (fun h45 => ?_)
        · skip
          refine ow_iconst (pc := 52) (v := nI 0) hX d_M_hears_52 (by decide) ?_
          exact ow_zret (pc := 53) hX d_M_hears_53 (nb_01 (by first | decide | assumption | omega | exact kbit_le _ _)) (by first | rfl | (unfold km_hears; first | rw [if_pos h6] | rw [if_neg h6, if_pos h20] | rw [if_neg h6, if_neg h20, if_pos h29] | rw [if_neg h6, if_neg h20, if_neg h29, if_pos h45] | rw [if_neg h6, if_neg h20, if_neg h29, if_neg h45])) (by first | rfl | (unfold km_hears; first | rw [if_pos h6] | rw [if_neg h6, if_pos h20] | rw [if_neg h6, if_neg h20, if_pos h29] | rw [if_neg h6, if_neg h20, if_neg h29, if_pos h45] | rw [if_neg h6, if_neg h20, if_neg h29, if_neg h45]))
        · skip
          refine ow_iconst (pc := 48) (v := nI 1) hX d_M_hears_48 (by decide) ?_
          refine ow_goto (pc := 49) (tgt := 53) hX d_M_hears_49 (by decide) ?_
          exact ow_zret (pc := 53) hX d_M_hears_53 (nb_01 (by first | decide | assumption | omega | exact kbit_le _ _)) (by first | rfl | (unfold km_hears; first | rw [if_pos h6] | rw [if_neg h6, if_pos h20] | rw [if_neg h6, if_neg h20, if_pos h29] | rw [if_neg h6, if_neg h20, if_neg h29, if_pos h45] | rw [if_neg h6, if_neg h20, if_neg h29, if_neg h45])) (by first | rfl | (unfold km_hears; first | rw [if_pos h6] | rw [if_neg h6, if_pos h20] | rw [if_neg h6, if_neg h20, if_pos h29] | rw [if_neg h6, if_neg h20, if_neg h29, if_pos h45] | rw [if_neg h6, if_neg h20, if_neg h29, if_neg h45]))
theorem m1_le0 : (-1 : Int32) ≤ 0 := by decide
theorem nI_m1' {b : Nat} (hb : b < 2 ^ 31) : ¬ (-1 : Int32) = nI b := fun h => nI_m1 hb h.symm
set_option maxRecDepth 100000 in
set_option maxHeartbeats 4000000 in
theorem w_M_below {X : OX} (Y : YY) (n s c : Nat) (hX : ox X (vM Y n s c) (rd 0) b_M_below 5 "SlottedMeshModel" gz (some .boolean)) (u : UU) (x b : Nat) (hb : b < 6) (pa : Nat → Option Nat) (hpa : ∀ i, i < 6 → u.2.1 9 0 (2 * i) = io (pa i)) (hp1 : ∀ i a, pa i = some a → a < 6) : ∀ j k q, (∀ a, q = some a → a < 6) → k + j = 6 → ow X (vM Y n s c) (some (.int (nI (kbel pa b j q)))) u u [(0, .ref (pv_ad (vM Y n s c) 0 0)), (1, .int (nI x)), (2, .int (nI b)), (3, .int (io q)), (4, .int (nI k))] 5 [] := by
  intro j
  induction j with
  | zero =>
    intro k q hq hk
    rcases q with _ | a
    · skip
      refine ow_loc (l2 := [(0, .ref (pv_ad (vM Y n s c) 0 0)), (1, .int (nI x)), (2, .int (nI b)), (3, .int (-1)), (4, .int (nI k))]) (fun z hz => hz) ?_
      refine ow_iload (pc := 5) hX d_M_below_5 rfl ?_
      refine ow_bipush (pc := 7) (v := nI 6) hX d_M_below_7 (by decide) ?_
      refine ow_nc_ge (pc := 9) (tgt := 36) hX d_M_below_9 (by decide) (by first | assumption | omega) (by first | assumption | omega) (fun h9 => ?_) (fun h9 => ?_)
      · skip
        refine ow_iload_n (pc := 36) hX d_M_below_36 rfl ?_
        refine ow_iload_n (pc := 37) hX d_M_below_37 rfl ?_
        refine ow_ic_ne (pc := 38) (tgt := 45) hX d_M_below_38 (by decide) (fun h38 => ?_) (fun h38 => ?_)
        · skip
          refine ow_iconst (pc := 45) (v := nI 0) hX d_M_below_45 (by decide) ?_
          exact ow_zret (pc := 46) hX d_M_below_46 (nb_01 (by first | decide | assumption | omega | exact kbit_le _ _)) (by first | rfl | ((try simp only [kbel]); (repeat' split) <;> first | rfl | omega | (simp_all; done) | (simp_all; omega))) (by first | rfl | ((try simp only [kbel]); (repeat' split) <;> first | rfl | omega | (simp_all; done) | (simp_all; omega)))
        · skip
          exact absurd h38 (nI_m1' (by first | assumption | omega))
      · skip
        exact absurd h9 (by omega)
    · skip
      have ha := hq a rfl
      refine ow_loc (l2 := [(0, .ref (pv_ad (vM Y n s c) 0 0)), (1, .int (nI x)), (2, .int (nI b)), (3, .int (nI a)), (4, .int (nI k))]) (fun z hz => hz) ?_
      refine ow_iload (pc := 5) hX d_M_below_5 rfl ?_
      refine ow_bipush (pc := 7) (v := nI 6) hX d_M_below_7 (by decide) ?_
      refine ow_nc_ge (pc := 9) (tgt := 36) hX d_M_below_9 (by decide) (by first | assumption | omega) (by first | assumption | omega) (fun h9 => ?_) (fun h9 => ?_)
      · skip
        refine ow_iload_n (pc := 36) hX d_M_below_36 rfl ?_
        refine ow_iload_n (pc := 37) hX d_M_below_37 rfl ?_
        refine ow_nc_ne (pc := 38) (tgt := 45) hX d_M_below_38 (by decide) (by first | assumption | omega) (by first | assumption | omega) (fun h38 => ?_) (fun h38 => ?_)
        · skip
          refine ow_iconst (pc := 45) (v := nI 0) hX d_M_below_45 (by decide) ?_
          exact ow_zret (pc := 46) hX d_M_below_46 (nb_01 (by first | decide | assumption | omega | exact kbit_le _ _)) (by first | rfl | ((try simp only [kbel]); (repeat' split) <;> first | rfl | omega | (simp_all; done) | (simp_all; omega))) (by first | rfl | ((try simp only [kbel]); (repeat' split) <;> first | rfl | omega | (simp_all; done) | (simp_all; omega)))
        · skip
          refine ow_iconst (pc := 41) (v := nI 1) hX d_M_below_41 (by decide) ?_
          refine ow_goto (pc := 42) (tgt := 46) hX d_M_below_42 (by decide) ?_
          exact ow_zret (pc := 46) hX d_M_below_46 (nb_01 (by first | decide | assumption | omega | exact kbit_le _ _)) (by first | rfl | ((try simp only [kbel]); (repeat' split) <;> first | rfl | omega | (simp_all; done) | (simp_all; omega))) (by first | rfl | ((try simp only [kbel]); (repeat' split) <;> first | rfl | omega | (simp_all; done) | (simp_all; omega)))
      · skip
        exact absurd h9 (by omega)
  | succ j ih =>
    intro k q hq hk
    rcases q with _ | a
    · skip
      refine ow_loc (l2 := [(0, .ref (pv_ad (vM Y n s c) 0 0)), (1, .int (nI x)), (2, .int (nI b)), (3, .int (-1)), (4, .int (nI k))]) (fun z hz => hz) ?_
      refine ow_iload (pc := 5) hX d_M_below_5 rfl ?_
      refine ow_bipush (pc := 7) (v := nI 6) hX d_M_below_7 (by decide) ?_
      refine ow_nc_ge (pc := 9) (tgt := 36) hX d_M_below_9 (by decide) (by first | assumption | omega) (by first | assumption | omega) (fun h9 => ?_) (fun h9 => ?_)
      · skip
        exact absurd h9 (by omega)
      · skip
        refine ow_iload_n (pc := 12) hX d_M_below_12 rfl ?_
        refine ow_if_le (pc := 13) (tgt := 36) hX d_M_below_13 (by decide) (fun h13 => ?_) (fun h13 => ?_)
        · skip
          refine ow_iload_n (pc := 36) hX d_M_below_36 rfl ?_
          refine ow_iload_n (pc := 37) hX d_M_below_37 rfl ?_
          refine ow_ic_ne (pc := 38) (tgt := 45) hX d_M_below_38 (by decide) (fun h38 => ?_) (fun h38 => ?_)
          · skip
            refine ow_iconst (pc := 45) (v := nI 0) hX d_M_below_45 (by decide) ?_
            exact ow_zret (pc := 46) hX d_M_below_46 (nb_01 (by first | decide | assumption | omega | exact kbit_le _ _)) (by first | rfl | ((try simp only [kbel]); (repeat' split) <;> first | rfl | omega | (simp_all; done) | (simp_all; omega))) (by first | rfl | ((try simp only [kbel]); (repeat' split) <;> first | rfl | omega | (simp_all; done) | (simp_all; omega)))
          · skip
            exact absurd h38 (nI_m1' (by first | assumption | omega))
        · skip
          exact absurd h13 (by decide)
    · skip
      have ha := hq a rfl
      refine ow_loc (l2 := [(0, .ref (pv_ad (vM Y n s c) 0 0)), (1, .int (nI x)), (2, .int (nI b)), (3, .int (nI a)), (4, .int (nI k))]) (fun z hz => hz) ?_
      refine ow_iload (pc := 5) hX d_M_below_5 rfl ?_
      refine ow_bipush (pc := 7) (v := nI 6) hX d_M_below_7 (by decide) ?_
      refine ow_nc_ge (pc := 9) (tgt := 36) hX d_M_below_9 (by decide) (by first | assumption | omega) (by first | assumption | omega) (fun h9 => ?_) (fun h9 => ?_)
      · skip
        exact absurd h9 (by omega)
      · skip
        refine ow_iload_n (pc := 12) hX d_M_below_12 rfl ?_
        refine ow_nz_le (pc := 13) (tgt := 36) hX d_M_below_13 (by decide) (by first | assumption | omega) (fun h13 => ?_) (fun h13 => ?_)
        · skip
          refine ow_iload_n (pc := 36) hX d_M_below_36 rfl ?_
          refine ow_iload_n (pc := 37) hX d_M_below_37 rfl ?_
          refine ow_nc_ne (pc := 38) (tgt := 45) hX d_M_below_38 (by decide) (by first | assumption | omega) (by first | assumption | omega) (fun h38 => ?_) (fun h38 => ?_)
          · skip
            refine ow_iconst (pc := 45) (v := nI 0) hX d_M_below_45 (by decide) ?_
            exact ow_zret (pc := 46) hX d_M_below_46 (nb_01 (by first | decide | assumption | omega | exact kbit_le _ _)) (by first | rfl | ((try simp only [kbel]); (repeat' split) <;> first | rfl | omega | (simp_all; done) | (simp_all; omega))) (by first | rfl | ((try simp only [kbel]); (repeat' split) <;> first | rfl | omega | (simp_all; done) | (simp_all; omega)))
          · skip
            refine ow_iconst (pc := 41) (v := nI 1) hX d_M_below_41 (by decide) ?_
            refine ow_goto (pc := 42) (tgt := 46) hX d_M_below_42 (by decide) ?_
            exact ow_zret (pc := 46) hX d_M_below_46 (nb_01 (by first | decide | assumption | omega | exact kbit_le _ _)) (by first | rfl | ((try simp only [kbel]); (repeat' split) <;> first | rfl | omega | (simp_all; done) | (simp_all; omega))) (by first | rfl | ((try simp only [kbel]); (repeat' split) <;> first | rfl | omega | (simp_all; done) | (simp_all; omega)))
        · skip
          refine ow_iload_n (pc := 16) hX d_M_below_16 rfl ?_
          refine ow_iload_n (pc := 17) hX d_M_below_17 rfl ?_
          refine ow_nc_eq (pc := 18) (tgt := 36) hX d_M_below_18 (by decide) (by first | assumption | omega) (by first | assumption | omega) (fun h18 => ?_) (fun h18 => ?_)
          · skip
            refine ow_iload_n (pc := 36) hX d_M_below_36 rfl ?_
            refine ow_iload_n (pc := 37) hX d_M_below_37 rfl ?_
            refine ow_nc_ne (pc := 38) (tgt := 45) hX d_M_below_38 (by decide) (by first | assumption | omega) (by first | assumption | omega) (fun h38 => ?_) (fun h38 => ?_)
            · skip
              refine ow_iconst (pc := 45) (v := nI 0) hX d_M_below_45 (by decide) ?_
              exact ow_zret (pc := 46) hX d_M_below_46 (nb_01 (by first | decide | assumption | omega | exact kbit_le _ _)) (by first | rfl | ((try simp only [kbel]); (repeat' split) <;> first | rfl | omega | (simp_all; done) | (simp_all; omega))) (by first | rfl | ((try simp only [kbel]); (repeat' split) <;> first | rfl | omega | (simp_all; done) | (simp_all; omega)))
            · skip
              refine ow_iconst (pc := 41) (v := nI 1) hX d_M_below_41 (by decide) ?_
              refine ow_goto (pc := 42) (tgt := 46) hX d_M_below_42 (by decide) ?_
              exact ow_zret (pc := 46) hX d_M_below_46 (nb_01 (by first | decide | assumption | omega | exact kbit_le _ _)) (by first | rfl | ((try simp only [kbel]); (repeat' split) <;> first | rfl | omega | (simp_all; done) | (simp_all; omega))) (by first | rfl | ((try simp only [kbel]); (repeat' split) <;> first | rfl | omega | (simp_all; done) | (simp_all; omega)))
          · skip
            refine ow_aload_n (pc := 21) hX d_M_below_21 rfl ?_
            refine ow_gR (pc := 22) hX (kd_M Y n s c) 14 d_M_below_22 kw_515 rfl Nat.zero_lt_one ?_
            refine ow_iconst (pc := 25) (v := nI 2) hX d_M_below_25 (by decide) ?_
            refine ow_iload_n (pc := 26) hX d_M_below_26 rfl ?_
            refine ow_muln (pc := 27) hX d_M_below_27 ?_
            refine ow_aI (pc := 28) hX rfl d_M_below_28 Nat.zero_lt_one (by show _ < 12; first | assumption | omega) ?_
            refine ow_val (hpa a ha) ?_
            refine ow_istore_n (pc := 29) (l2 := [(0, _), (1, _), (2, _), (3, _), (4, _)]) hX d_M_below_29 (by decide) rfl rfl ?_
            refine ow_iinc (pc := 30) (l2 := [(0, _), (1, _), (2, _), (3, _), (4, _)]) hX d_M_below_30 rfl (ii_1 _) (by decide) rfl rfl ?_
            refine ow_goto (pc := 33) (tgt := 5) hX d_M_below_33 (by decide) ?_
            rw [kbel, if_neg (by omega), if_neg h18]
            exact ih (k + 1) _ (fun z hz => hp1 _ _ hz) (by omega)
set_option maxRecDepth 100000 in
set_option maxHeartbeats 4000000 in
theorem c_M_below (l : Launch) (Y : YY) (n s c : Nat) (hV : pv_ok (vM Y n s c)) (u : UU) (x b : Nat) (hb : b < 6) (pa : Nat → Option Nat) (hpa : ∀ i, i < 6 → u.2.1 9 0 (2 * i) = io (pa i)) (hp1 : ∀ i a, pa i = some a → a < 6) (hx : x < 6) : Ct l (vM Y n s c) ⟨"SlottedMeshModel", "below", "(II)Z"⟩ (wz ⟨"SlottedMeshModel", "below", "(II)Z"⟩ b_M_below 5 (some .boolean)) (rd 0) [.ref (pv_ad (vM Y n s c) 0 0), .int (nI x), .int (nI b)] u (some (.int (nI (kbel pa b 6 (some x))))) (u) := by
  refine ct_mk hV (by decide +kernel) (Nat.le_of_ble_eq_true rfl) (fun X hX => ?_)
  have hX : ox X (vM Y n s c) (rd 0) b_M_below 5 "SlottedMeshModel" gz (some .boolean) := hX
  show ow X (vM Y n s c) (some (.int (nI (kbel pa b 6 (some x))))) (u) u [(0, .ref (pv_ad (vM Y n s c) 0 0)), (1, .int (nI x)), (2, .int (nI b))] 0 []
  refine ow_iload_n (pc := 0) hX d_M_below_0 rfl ?_
  refine ow_istore_n (pc := 1) (l2 := [(0, _), (1, _), (2, _), (3, _)]) hX d_M_below_1 (by decide) rfl rfl ?_
  refine ow_iconst (pc := 2) (v := nI 0) hX d_M_below_2 (by decide) ?_
  refine ow_istore (pc := 3) (l2 := [(0, _), (1, _), (2, _), (3, _), (4, _)]) hX d_M_below_3 (by decide) rfl rfl ?_
  exact w_M_below Y n s c hX u x b hb pa hpa hp1 6 0 (some x) (fun a h => by cases h; exact hx) (by omega)
theorem km_ad1_a {a b : Nat} {w : UU} (h : w.1 1 0 (6 * a + b) = 0) : km_ad1 a b w = w := by unfold km_ad1; rw [if_pos h]
theorem km_ad1_b {a b : Nat} {w : UU} (h : ¬ w.1 1 0 (6 * a + b) = 0) (h2 : w.1 2 0 b = 0) : km_ad1 a b w = w := by unfold km_ad1; rw [if_neg h, if_pos h2]
theorem km_ad1_c {a b : Nat} {w : UU} (h : ¬ w.1 1 0 (6 * a + b) = 0) (h2 : ¬ w.1 2 0 b = 0) (h3 : w.1 3 0 b = 0) : km_ad1 a b w = un (ui (un w 3 0 b 1) 4 0 b (w.2.1 4 0 a)) 18 0 b 0 := by unfold km_ad1; rw [if_neg h, if_neg h2, if_pos h3]
theorem km_ad1_d {a b : Nat} {w : UU} (h : ¬ w.1 1 0 (6 * a + b) = 0) (h2 : ¬ w.1 2 0 b = 0) (h3 : ¬ w.1 3 0 b = 0) (h4 : w.2.1 9 0 (2 * b) = nI a) (h5 : kclm (w.2.1 4 0 a) (w.2.1 4 0 b) = 0) : km_ad1 a b w = w := by unfold km_ad1; rw [if_neg h, if_neg h2, if_neg h3, if_pos h4, if_pos h5]
theorem km_ad1_e {a b : Nat} {w : UU} (h : ¬ w.1 1 0 (6 * a + b) = 0) (h2 : ¬ w.1 2 0 b = 0) (h3 : ¬ w.1 3 0 b = 0) (h4 : w.2.1 9 0 (2 * b) = nI a) (h5 : ¬ kclm (w.2.1 4 0 a) (w.2.1 4 0 b) = 0) : km_ad1 a b w = ui w 4 0 b (w.2.1 4 0 a) := by unfold km_ad1; rw [if_neg h, if_neg h2, if_neg h3, if_pos h4, if_neg h5]
theorem km_ad1_f {a b : Nat} {w : UU} (h : ¬ w.1 1 0 (6 * a + b) = 0) (h2 : ¬ w.1 2 0 b = 0) (h3 : ¬ w.1 3 0 b = 0) (h4 : ¬ w.2.1 9 0 (2 * b) = nI a) : km_ad1 a b w = w := by unfold km_ad1; rw [if_neg h, if_neg h2, if_neg h3, if_neg h4]
set_option maxRecDepth 100000 in
set_option maxHeartbeats 4000000 in
theorem w_M_advert {X : OX} (Y : YY) (n s c : Nat) (hX : ox X (vM Y n s c) (rd 1) b_M_advert 3 "SlottedMeshModel" gz none) (hV : pv_ok (vM Y n s c)) (u : UU) (a : Nat) (ha : a < 6) (h1 : 1 ≤ n) (hn : n ≤ 6) (hu : wm n u) : ∀ j k, k + j = n - 1 → ow X (vM Y n s c) none (fo (fun k w => km_ad1 a (k + 1) w) u (n - 1)) (fo (fun k w => km_ad1 a (k + 1) w) u k) [(0, .ref (pv_ad (vM Y n s c) 0 0)), (1, .int (nI a)), (2, .int (nI (k + 1)))] 36 [] := by
  intro j
  induction j with
  | zero =>
    intro k hk
    obtain ⟨w, hwe⟩ : ∃ w, w = (fo (fun k w => km_ad1 a (k + 1) w) u k) := ⟨_, rfl⟩
    have hw : wm n w := by rw [hwe]; exact (em_fo (fun _ _ _ => em_ad1) k u hu).1 hu
    rw [← hwe]
    refine ow_iload_n (pc := 36) hX d_M_advert_36 rfl ?_
    refine ow_aload_n (pc := 37) hX d_M_advert_37 rfl ?_
    refine ow_gK (pc := 38) hX (kd_M Y n s c) 0 d_M_advert_38 kw_501 rfl Nat.zero_lt_one ?_
    refine ow_nc_ge (pc := 41) (tgt := 147) hX d_M_advert_41 (by decide) (by first | assumption | omega | (have := hw.1 (6 * a + (k + 1)); omega) | (have := hw.2.1 (k + 1); omega) | (have := hw.2.2.1 (k + 1); omega) | exact Nat.lt_of_le_of_lt (kclm_le _ _) (by decide)) (by first | assumption | omega | (have := hw.1 (6 * a + (k + 1)); omega) | (have := hw.2.1 (k + 1); omega) | (have := hw.2.2.1 (k + 1); omega) | exact Nat.lt_of_le_of_lt (kclm_le _ _) (by decide)) (fun h41 => ?_) (fun h41 => ?_)
    · skip
      exact ow_vret (pc := 147) hX d_M_advert_147 rfl (by rw [hwe, show n - 1 = k by omega])
    · skip
      exact absurd h41 (by omega)
  | succ j ih =>
    intro k hk
    obtain ⟨w, hwe⟩ : ∃ w, w = (fo (fun k w => km_ad1 a (k + 1) w) u k) := ⟨_, rfl⟩
    have hw : wm n w := by rw [hwe]; exact (em_fo (fun _ _ _ => em_ad1) k u hu).1 hu
    rw [← hwe]
    refine ow_iload_n (pc := 36) hX d_M_advert_36 rfl ?_
    refine ow_aload_n (pc := 37) hX d_M_advert_37 rfl ?_
    refine ow_gK (pc := 38) hX (kd_M Y n s c) 0 d_M_advert_38 kw_501 rfl Nat.zero_lt_one ?_
    refine ow_nc_ge (pc := 41) (tgt := 147) hX d_M_advert_41 (by decide) (by first | assumption | omega | (have := hw.1 (6 * a + (k + 1)); omega) | (have := hw.2.1 (k + 1); omega) | (have := hw.2.2.1 (k + 1); omega) | exact Nat.lt_of_le_of_lt (kclm_le _ _) (by decide)) (by first | assumption | omega | (have := hw.1 (6 * a + (k + 1)); omega) | (have := hw.2.1 (k + 1); omega) | (have := hw.2.2.1 (k + 1); omega) | exact Nat.lt_of_le_of_lt (kclm_le _ _) (by decide)) (fun h41 => ?_) (fun h41 => ?_)
    · skip
      exact absurd h41 (by omega)
    · skip
      refine ow_aload_n (pc := 44) hX d_M_advert_44 rfl ?_
      refine ow_gR (pc := 45) hX (kd_M Y n s c) 5 d_M_advert_45 kw_506 rfl Nat.zero_lt_one ?_
      refine ow_bipush (pc := 48) (v := nI 6) hX d_M_advert_48 (by decide) ?_
      refine ow_iload_n (pc := 50) hX d_M_advert_50 rfl ?_
      refine ow_muln (pc := 51) hX d_M_advert_51 ?_
      refine ow_iload_n (pc := 52) hX d_M_advert_52 rfl ?_
      refine ow_addn (pc := 53) hX d_M_advert_53 ?_
      refine ow_aZ (pc := 54) hX rfl d_M_advert_54 Nat.zero_lt_one (by show _ < 36; first | assumption | omega | (have := hw.1 (6 * a + (k + 1)); omega) | (have := hw.2.1 (k + 1); omega) | (have := hw.2.2.1 (k + 1); omega) | exact Nat.lt_of_le_of_lt (kclm_le _ _) (by decide)) ?_
      refine ow_nz_eq (pc := 55) (tgt := 141) hX d_M_advert_55 (by decide) (by first | assumption | omega | (have := hw.1 (6 * a + (k + 1)); omega) | (have := hw.2.1 (k + 1); omega) | (have := hw.2.2.1 (k + 1); omega) | exact Nat.lt_of_le_of_lt (kclm_le _ _) (by decide)) (fun h55 => ?_) (fun h55 => ?_)
      · skip
        refine ow_iinc (pc := 141) (l2 := [(0, _), (1, _), (2, _)]) hX d_M_advert_141 rfl (ii_1 _) (by decide) rfl rfl ?_
        refine ow_goto (pc := 144) (tgt := 36) hX d_M_advert_144 (by decide) ?_
        have ih := ih (k + 1) (by omega)
        rw [fo_s, ← hwe] at ih
        first | (rw [km_ad1_a h55] at ih; exact ih) | (rw [km_ad1_b h55 h64] at ih; exact ih) | (rw [km_ad1_c h55 h64 h76] at ih; exact ih) | (rw [km_ad1_d h55 h64 h76 h117 h126] at ih; exact ih) | (rw [km_ad1_e h55 h64 h76 h117 h126] at ih; exact ih) | (rw [km_ad1_f h55 h64 h76 h117] at ih; exact ih)
      · skip
        refine ow_aload_n (pc := 58) hX d_M_advert_58 rfl ?_
        refine ow_gR (pc := 59) hX (kd_M Y n s c) 6 d_M_advert_59 kw_507 rfl Nat.zero_lt_one ?_
        refine ow_iload_n (pc := 62) hX d_M_advert_62 rfl ?_
        refine ow_aZ (pc := 63) hX rfl d_M_advert_63 Nat.zero_lt_one (by show _ < 6; first | assumption | omega | (have := hw.1 (6 * a + (k + 1)); omega) | (have := hw.2.1 (k + 1); omega) | (have := hw.2.2.1 (k + 1); omega) | exact Nat.lt_of_le_of_lt (kclm_le _ _) (by decide)) ?_
        refine ow_nz_ne (pc := 64) (tgt := 70) hX d_M_advert_64 (by decide) (by first | assumption | omega | (have := hw.1 (6 * a + (k + 1)); omega) | (have := hw.2.1 (k + 1); omega) | (have := hw.2.2.1 (k + 1); omega) | exact Nat.lt_of_le_of_lt (kclm_le _ _) (by decide)) (fun h64 => ?_) (fun h64 => ?_)
        · skip
          refine ow_aload_n (pc := 70) hX d_M_advert_70 rfl ?_
          refine ow_gR (pc := 71) hX (kd_M Y n s c) 7 d_M_advert_71 kw_508 rfl Nat.zero_lt_one ?_
          refine ow_iload_n (pc := 74) hX d_M_advert_74 rfl ?_
          refine ow_aZ (pc := 75) hX rfl d_M_advert_75 Nat.zero_lt_one (by show _ < 6; first | assumption | omega | (have := hw.1 (6 * a + (k + 1)); omega) | (have := hw.2.1 (k + 1); omega) | (have := hw.2.2.1 (k + 1); omega) | exact Nat.lt_of_le_of_lt (kclm_le _ _) (by decide)) ?_
          refine ow_nz_ne (pc := 76) (tgt := 108) hX d_M_advert_76 (by decide) (by first | assumption | omega | (have := hw.1 (6 * a + (k + 1)); omega) | (have := hw.2.1 (k + 1); omega) | (have := hw.2.2.1 (k + 1); omega) | exact Nat.lt_of_le_of_lt (kclm_le _ _) (by decide)) (fun h76 => ?_) (fun h76 => ?_)
          · skip
            refine ow_aload_n (pc := 108) hX d_M_advert_108 rfl ?_
            refine ow_gR (pc := 109) hX (kd_M Y n s c) 14 d_M_advert_109 kw_515 rfl Nat.zero_lt_one ?_
            refine ow_iconst (pc := 112) (v := nI 2) hX d_M_advert_112 (by decide) ?_
            refine ow_iload_n (pc := 113) hX d_M_advert_113 rfl ?_
            refine ow_muln (pc := 114) hX d_M_advert_114 ?_
            refine ow_aI (pc := 115) hX rfl d_M_advert_115 Nat.zero_lt_one (by show _ < 12; first | assumption | omega | (have := hw.1 (6 * a + (k + 1)); omega) | (have := hw.2.1 (k + 1); omega) | (have := hw.2.2.1 (k + 1); omega) | exact Nat.lt_of_le_of_lt (kclm_le _ _) (by decide)) ?_
            refine ow_iload_n (pc := 116) hX d_M_advert_116 rfl ?_
            refine ow_ic_ne (pc := 117) (tgt := 141) hX d_M_advert_117 (by decide) (fun h117 => ?_) (fun h117 => ?_)
            · skip
              refine ow_iinc (pc := 141) (l2 := [(0, _), (1, _), (2, _)]) hX d_M_advert_141 rfl (ii_1 _) (by decide) rfl rfl ?_
              refine ow_goto (pc := 144) (tgt := 36) hX d_M_advert_144 (by decide) ?_
              have ih := ih (k + 1) (by omega)
              rw [fo_s, ← hwe] at ih
              first | (rw [km_ad1_a h55] at ih; exact ih) | (rw [km_ad1_b h55 h64] at ih; exact ih) | (rw [km_ad1_c h55 h64 h76] at ih; exact ih) | (rw [km_ad1_d h55 h64 h76 h117 h126] at ih; exact ih) | (rw [km_ad1_e h55 h64 h76 h117 h126] at ih; exact ih) | (rw [km_ad1_f h55 h64 h76 h117] at ih; exact ih)
            · skip
              refine ow_aload_n (pc := 120) hX d_M_advert_120 rfl ?_
              refine ow_iload_n (pc := 121) hX d_M_advert_121 rfl ?_
              refine ow_iload_n (pc := 122) hX d_M_advert_122 rfl ?_
              refine ow_callV (pc := 123) hX (kd_M Y n s c) Nat.zero_lt_one (c_M_close _ Y n s c hV w a (k + 1) ha (by omega)) (cw_V hX mz_M_close kw_686 ⟨rfl, rfl⟩ (by decide)) rfl (Nat.le_of_ble_eq_true rfl) d_M_advert_123 rfl ?_
              refine ow_nz_eq (pc := 126) (tgt := 141) hX d_M_advert_126 (by decide) (by first | assumption | omega | (have := hw.1 (6 * a + (k + 1)); omega) | (have := hw.2.1 (k + 1); omega) | (have := hw.2.2.1 (k + 1); omega) | exact Nat.lt_of_le_of_lt (kclm_le _ _) (by decide)) (fun h126 => ?_) (fun h126 => ?_)
              · skip
                refine ow_iinc (pc := 141) (l2 := [(0, _), (1, _), (2, _)]) hX d_M_advert_141 rfl (ii_1 _) (by decide) rfl rfl ?_
                refine ow_goto (pc := 144) (tgt := 36) hX d_M_advert_144 (by decide) ?_
                have ih := ih (k + 1) (by omega)
                rw [fo_s, ← hwe] at ih
                first | (rw [km_ad1_a h55] at ih; exact ih) | (rw [km_ad1_b h55 h64] at ih; exact ih) | (rw [km_ad1_c h55 h64 h76] at ih; exact ih) | (rw [km_ad1_d h55 h64 h76 h117 h126] at ih; exact ih) | (rw [km_ad1_e h55 h64 h76 h117 h126] at ih; exact ih) | (rw [km_ad1_f h55 h64 h76 h117] at ih; exact ih)
              · skip
                refine ow_aload_n (pc := 129) hX d_M_advert_129 rfl ?_
                refine ow_gR (pc := 130) hX (kd_M Y n s c) 8 d_M_advert_130 kw_509 rfl Nat.zero_lt_one ?_
                refine ow_iload_n (pc := 133) hX d_M_advert_133 rfl ?_
                refine ow_aload_n (pc := 134) hX d_M_advert_134 rfl ?_
                refine ow_gR (pc := 135) hX (kd_M Y n s c) 8 d_M_advert_135 kw_509 rfl Nat.zero_lt_one ?_
                refine ow_iload_n (pc := 138) hX d_M_advert_138 rfl ?_
                refine ow_aI (pc := 139) hX rfl d_M_advert_139 Nat.zero_lt_one (by show _ < 6; first | assumption | omega | (have := hw.1 (6 * a + (k + 1)); omega) | (have := hw.2.1 (k + 1); omega) | (have := hw.2.2.1 (k + 1); omega) | exact Nat.lt_of_le_of_lt (kclm_le _ _) (by decide)) ?_
                refine ow_sI (pc := 140) hX rfl d_M_advert_140 Nat.zero_lt_one (by show _ < 6; first | assumption | omega | (have := hw.1 (6 * a + (k + 1)); omega) | (have := hw.2.1 (k + 1); omega) | (have := hw.2.2.1 (k + 1); omega) | exact Nat.lt_of_le_of_lt (kclm_le _ _) (by decide)) ?_
                refine ow_iinc (pc := 141) (l2 := [(0, _), (1, _), (2, _)]) hX d_M_advert_141 rfl (ii_1 _) (by decide) rfl rfl ?_
                refine ow_goto (pc := 144) (tgt := 36) hX d_M_advert_144 (by decide) ?_
                have ih := ih (k + 1) (by omega)
                rw [fo_s, ← hwe] at ih
                first | (rw [km_ad1_a h55] at ih; exact ih) | (rw [km_ad1_b h55 h64] at ih; exact ih) | (rw [km_ad1_c h55 h64 h76] at ih; exact ih) | (rw [km_ad1_d h55 h64 h76 h117 h126] at ih; exact ih) | (rw [km_ad1_e h55 h64 h76 h117 h126] at ih; exact ih) | (rw [km_ad1_f h55 h64 h76 h117] at ih; exact ih)
          · skip
            refine ow_aload_n (pc := 79) hX d_M_advert_79 rfl ?_
            refine ow_gR (pc := 80) hX (kd_M Y n s c) 7 d_M_advert_80 kw_508 rfl Nat.zero_lt_one ?_
            refine ow_iload_n (pc := 83) hX d_M_advert_83 rfl ?_
            refine ow_iconst (pc := 84) (v := nI 1) hX d_M_advert_84 (by decide) ?_
            refine ow_sZ (pc := 85) hX rfl d_M_advert_85 Nat.zero_lt_one (by show _ < 6; first | assumption | omega | (have := hw.1 (6 * a + (k + 1)); omega) | (have := hw.2.1 (k + 1); omega) | (have := hw.2.2.1 (k + 1); omega) | exact Nat.lt_of_le_of_lt (kclm_le _ _) (by decide)) (by first | assumption | omega | (have := hw.1 (6 * a + (k + 1)); omega) | (have := hw.2.1 (k + 1); omega) | (have := hw.2.2.1 (k + 1); omega) | exact Nat.lt_of_le_of_lt (kclm_le _ _) (by decide)) ?_
            refine ow_aload_n (pc := 86) hX d_M_advert_86 rfl ?_
            refine ow_gR (pc := 87) hX (kd_M Y n s c) 8 d_M_advert_87 kw_509 rfl Nat.zero_lt_one ?_
            refine ow_iload_n (pc := 90) hX d_M_advert_90 rfl ?_
            refine ow_aload_n (pc := 91) hX d_M_advert_91 rfl ?_
            refine ow_gR (pc := 92) hX (kd_M Y n s c) 8 d_M_advert_92 kw_509 rfl Nat.zero_lt_one ?_
            refine ow_iload_n (pc := 95) hX d_M_advert_95 rfl ?_
            refine ow_aI (pc := 96) hX rfl d_M_advert_96 Nat.zero_lt_one (by show _ < 6; first | assumption | omega | (have := hw.1 (6 * a + (k + 1)); omega) | (have := hw.2.1 (k + 1); omega) | (have := hw.2.2.1 (k + 1); omega) | exact Nat.lt_of_le_of_lt (kclm_le _ _) (by decide)) ?_
            try simp only [un_1, un_2, ui_1, ui_2, ui_3, ul_1, ul_2, ul_3, ul_4, ur_1, ur_2, ur_3, ur_4, Nat.reduceEqDiff, false_and, and_false, true_and, and_true, and_self, reduceIte]
            refine ow_sI (pc := 97) hX rfl d_M_advert_97 Nat.zero_lt_one (by show _ < 6; first | assumption | omega | (have := hw.1 (6 * a + (k + 1)); omega) | (have := hw.2.1 (k + 1); omega) | (have := hw.2.2.1 (k + 1); omega) | exact Nat.lt_of_le_of_lt (kclm_le _ _) (by decide)) ?_
            refine ow_aload_n (pc := 98) hX d_M_advert_98 rfl ?_
            refine ow_gR (pc := 99) hX (kd_M Y n s c) 23 d_M_advert_99 kw_524 rfl Nat.zero_lt_one ?_
            refine ow_iload_n (pc := 102) hX d_M_advert_102 rfl ?_
            refine ow_iconst (pc := 103) (v := nI 0) hX d_M_advert_103 (by decide) ?_
            refine ow_sN (pc := 104) hX rfl d_M_advert_104 Nat.zero_lt_one (by show _ < 6; first | assumption | omega | (have := hw.1 (6 * a + (k + 1)); omega) | (have := hw.2.1 (k + 1); omega) | (have := hw.2.2.1 (k + 1); omega) | exact Nat.lt_of_le_of_lt (kclm_le _ _) (by decide)) ?_
            refine ow_goto (pc := 105) (tgt := 141) hX d_M_advert_105 (by decide) ?_
            refine ow_iinc (pc := 141) (l2 := [(0, _), (1, _), (2, _)]) hX d_M_advert_141 rfl (ii_1 _) (by decide) rfl rfl ?_
            refine ow_goto (pc := 144) (tgt := 36) hX d_M_advert_144 (by decide) ?_
            have ih := ih (k + 1) (by omega)
            rw [fo_s, ← hwe] at ih
            first | (rw [km_ad1_a h55] at ih; exact ih) | (rw [km_ad1_b h55 h64] at ih; exact ih) | (rw [km_ad1_c h55 h64 h76] at ih; exact ih) | (rw [km_ad1_d h55 h64 h76 h117 h126] at ih; exact ih) | (rw [km_ad1_e h55 h64 h76 h117 h126] at ih; exact ih) | (rw [km_ad1_f h55 h64 h76 h117] at ih; exact ih)
        · skip
          refine ow_goto (pc := 67) (tgt := 141) hX d_M_advert_67 (by decide) ?_
          refine ow_iinc (pc := 141) (l2 := [(0, _), (1, _), (2, _)]) hX d_M_advert_141 rfl (ii_1 _) (by decide) rfl rfl ?_
          refine ow_goto (pc := 144) (tgt := 36) hX d_M_advert_144 (by decide) ?_
          have ih := ih (k + 1) (by omega)
          rw [fo_s, ← hwe] at ih
          first | (rw [km_ad1_a h55] at ih; exact ih) | (rw [km_ad1_b h55 h64] at ih; exact ih) | (rw [km_ad1_c h55 h64 h76] at ih; exact ih) | (rw [km_ad1_d h55 h64 h76 h117 h126] at ih; exact ih) | (rw [km_ad1_e h55 h64 h76 h117 h126] at ih; exact ih) | (rw [km_ad1_f h55 h64 h76 h117] at ih; exact ih)
set_option maxRecDepth 100000 in
set_option maxHeartbeats 4000000 in
theorem c_M_advert (l : Launch) (Y : YY) (n s c : Nat) (hV : pv_ok (vM Y n s c)) (u : UU) (a : Nat) (ha : a < 6) (h1 : 1 ≤ n) (h0 : 0 < c) (hc : c ≤ 4) (hn : n ≤ 6) (hu : wm n u) : Ct l (vM Y n s c) ⟨"SlottedMeshModel", "advert", "(I)V"⟩ (wz ⟨"SlottedMeshModel", "advert", "(I)V"⟩ b_M_advert 3 none) (rd 1) [.ref (pv_ad (vM Y n s c) 0 0), .int (nI a)] u none (km_advert n c u a) := by
  refine ct_mk hV (by decide +kernel) (Nat.le_of_ble_eq_true rfl) (fun X hX => ?_)
  have hX : ox X (vM Y n s c) (rd 1) b_M_advert 3 "SlottedMeshModel" gz none := hX
  show ow X (vM Y n s c) none (km_advert n c u a) u [(0, .ref (pv_ad (vM Y n s c) 0 0)), (1, .int (nI a))] 0 []
  refine ow_aload_n (pc := 0) hX d_M_advert_0 rfl ?_
  refine ow_gR (pc := 1) hX (kd_M Y n s c) 7 d_M_advert_1 kw_508 rfl Nat.zero_lt_one ?_
  refine ow_iload_n (pc := 4) hX d_M_advert_4 rfl ?_
  refine ow_aZ (pc := 5) hX rfl d_M_advert_5 Nat.zero_lt_one (by show _ < 6; first | assumption | omega | (have := Nat.mod_lt (u.1 0 0 3) h0; omega)) ?_
  refine ow_nz_eq (pc := 6) (tgt := 33) hX d_M_advert_6 (by decide) (by first | assumption | omega | (have := hu.2.2.1 a; omega) | exact Nat.lt_of_le_of_lt (kbitm_le _ _) (by decide) | (have := hu.2.2.2.2.2.2.2.2.2.2; omega)) (fun h6 => ?_) (fun h6 => ?_)
  · skip
    exact ow_vret (pc := 33) hX d_M_advert_33 rfl (by (unfold km_advert; first | rw [if_pos h6] | rw [if_neg h6, if_pos h30]))
  · skip
    refine ow_aload_n (pc := 9) hX d_M_advert_9 rfl ?_
    refine ow_gR (pc := 10) hX (kd_M Y n s c) 10 d_M_advert_10 kw_511 rfl Nat.zero_lt_one ?_
    refine ow_aload_n (pc := 13) hX d_M_advert_13 rfl ?_
    refine ow_gN (pc := 14) hX (kd_M Y n s c) 3 d_M_advert_14 kw_504 rfl Nat.zero_lt_one ?_
    refine ow_aload_n (pc := 17) hX d_M_advert_17 rfl ?_
    refine ow_gK (pc := 18) hX (kd_M Y n s c) 2 d_M_advert_18 kw_503 rfl Nat.zero_lt_one ?_
    refine ow_remn (pc := 21) hX d_M_advert_21 (by first | assumption | omega | (have := hu.2.2.1 a; omega) | exact Nat.lt_of_le_of_lt (kbitm_le _ _) (by decide) | (have := hu.2.2.2.2.2.2.2.2.2.2; omega)) (by first | assumption | omega | (have := hu.2.2.1 a; omega) | exact Nat.lt_of_le_of_lt (kbitm_le _ _) (by decide) | (have := hu.2.2.2.2.2.2.2.2.2.2; omega)) (by first | assumption | omega | (have := hu.2.2.1 a; omega) | exact Nat.lt_of_le_of_lt (kbitm_le _ _) (by decide) | (have := hu.2.2.2.2.2.2.2.2.2.2; omega)) ?_
    refine ow_aL (pc := 22) hX rfl d_M_advert_22 Nat.zero_lt_one (by show _ < 4; first | assumption | omega | (have := Nat.mod_lt (u.1 0 0 3) h0; omega)) ?_
    refine ow_aload_n (pc := 23) hX d_M_advert_23 rfl ?_
    refine ow_gN (pc := 24) hX (kd_M Y n s c) 3 d_M_advert_24 kw_504 rfl Nat.zero_lt_one ?_
    refine ow_callS (pc := 27) hX (c_M_bit _ Y n s c hV u _ _ (by have := hu.2.2.2.2.2.2.2.2.2.2; omega)) (cw_S hX mz_M_bit kw_683 ⟨rfl, rfl⟩ (by decide)) rfl (Nat.le_of_ble_eq_true rfl) d_M_advert_27 rfl ?_
    refine ow_nz_ne (pc := 30) (tgt := 34) hX d_M_advert_30 (by decide) (by first | assumption | omega | (have := hu.2.2.1 a; omega) | exact Nat.lt_of_le_of_lt (kbitm_le _ _) (by decide) | (have := hu.2.2.2.2.2.2.2.2.2.2; omega)) (fun h30 => ?_) (fun h30 => ?_)
    · skip
      refine ow_iconst (pc := 34) (v := nI 1) hX d_M_advert_34 (by decide) ?_
      refine ow_istore_n (pc := 35) (l2 := [(0, _), (1, _), (2, _)]) hX d_M_advert_35 (by decide) rfl rfl ?_
      have e : km_advert n c u a = fo (fun k w => km_ad1 a (k + 1) w) u (n - 1) := by unfold km_advert; rw [if_neg h6, if_neg h30]
      rw [e]
      exact w_M_advert Y n s c hX hV u a ha h1 hn hu (n - 1) 0 (by omega)
    · skip
      exact ow_vret (pc := 33) hX d_M_advert_33 rfl (by (unfold km_advert; first | rw [if_pos h6] | rw [if_neg h6, if_pos h30]))
