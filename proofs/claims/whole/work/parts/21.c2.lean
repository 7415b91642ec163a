/-! Node and Plan: contracts (by program, wip/whole/gen/c2.py) -/
def kc_enter (u : UU) (i : Nat) : UU := un (un (un (un u 4 i 7 (if i = 0 then 1 else 0)) 4 i 10 0) 4 i 11 0) 8 (2 * i + 1) 3 0
def kc_off1 (u : UU) (i : Nat) : UU := un (un (un (un (ui (un (un u 4 i 6 0) 4 i 7 0) 4 i 8 (nI 0)) 4 i 10 0) 4 i 11 0) 8 (2 * i) 3 0) 8 (2 * i + 1) 3 0
def kc_off2 (n : Nat) (u : UU) (i : Nat) : UU := fo (fun j w => ui w 9 i j (nI 0)) (kc_off1 u i) n
def kc_off (n : Nat) (u : UU) (i : Nat) : UU := ui (fo (fun j w => ui w 10 i j (nI 0)) (kc_off2 n u i) n) 10 i i ((kc_off2 n u i).2.1 10 i i)
/-- are two clocks close -/
def kclose (x y : Int32) : Nat := if nI 10 < (if 0 ≤ x - y then x - y else 0 - (x - y)) then 0 else 1
theorem kclose_le (x y : Int32) : kclose x y ≤ 1 := by
  unfold kclose
  repeat' split
  all_goals omega
def kc_failUp (u : UU) (i : Nat) : UU := if u.1 4 i 10 + 1 < 4 then un u 4 i 10 (u.1 4 i 10 + 1) else un (un (un u 4 i 10 (u.1 4 i 10 + 1)) 4 i 10 0) 4 i 7 0
def kc_failDown (u : UU) (i : Nat) : UU := if u.1 4 i 11 + 1 < 6 then un u 4 i 11 (u.1 4 i 11 + 1) else kc_drop (un (un u 4 i 11 (u.1 4 i 11 + 1)) 4 i 11 0) (2 * i + 1)
theorem ix_lt {a b s c : Nat} (ha : a < s) (hb : b < c) : a * c + b < s * c := by
  have h : (a + 1) * c ≤ s * c := Nat.mul_le_mul_right c ha
  rw [Nat.add_mul, Nat.one_mul] at h
  omega
set_option maxRecDepth 100000 in
set_option maxHeartbeats 4000000 in
theorem c_N_enterPlan (l : Launch) (Y : YY) (n s c : Nat) (hV : pv_ok (vC Y n s c)) (u : UU) (i : Nat) (hi : i < n) (hn : n ≤ 6) : Ct l (vC Y n s c) ⟨"SlottedMesh$Node", "enterPlan", "()V"⟩ (wz ⟨"SlottedMesh$Node", "enterPlan", "()V"⟩ b_N_enterPlan 1 none) (rd 1) [.ref (pv_ad (vC Y n s c) 4 i)] u none (kc_enter u i) := by
  refine ct_mk hV (by decide +kernel) (Nat.le_of_ble_eq_true rfl) (fun X hX => ?_)
  have hX : ox X (vC Y n s c) (rd 1) b_N_enterPlan 1 "SlottedMesh$Node" gz none := hX
  show ow X (vC Y n s c) none (kc_enter u i) u [(0, .ref (pv_ad (vC Y n s c) 4 i))] 0 []
  refine ow_aload_n (pc := 0) hX d_N_enterPlan_0 rfl ?_
  refine ow_aload_n (pc := 1) hX d_N_enterPlan_1 rfl ?_
  refine ow_gS (pc := 2) hX (kd_N Y n s c) 0 d_N_enterPlan_2 kw_61 rfl (by show _ < n; first | assumption | omega) ?_
  refine ow_nz_ne (pc := 5) (tgt := 12) hX d_N_enterPlan_5 (by decide) (by first | assumption | omega) (fun h5 => ?_) (fun h5 => ?_)
  · skip
    refine ow_iconst (pc := 12) (v := nI 0) hX d_N_enterPlan_12 (by decide) ?_
    refine ow_pZ (pc := 13) hX (kd_N Y n s c) 7 d_N_enterPlan_13 kw_76 rfl (by show _ < n; first | assumption | omega) rfl (by decide +kernel) (by first | assumption | omega) ?_
    refine ow_aload_n (pc := 16) hX d_N_enterPlan_16 rfl ?_
    refine ow_iconst (pc := 17) (v := nI 0) hX d_N_enterPlan_17 (by decide) ?_
    refine ow_pN (pc := 18) hX (kd_N Y n s c) 10 d_N_enterPlan_18 kw_81 rfl (by show _ < n; first | assumption | omega) rfl (by decide +kernel) ?_
    refine ow_aload_n (pc := 21) hX d_N_enterPlan_21 rfl ?_
    refine ow_iconst (pc := 22) (v := nI 0) hX d_N_enterPlan_22 (by decide) ?_
    refine ow_pN (pc := 23) hX (kd_N Y n s c) 11 d_N_enterPlan_23 kw_83 rfl (by show _ < n; first | assumption | omega) rfl (by decide +kernel) ?_
    refine ow_aload_n (pc := 26) hX d_N_enterPlan_26 rfl ?_
    refine ow_gO (pc := 27) hX (kd_N Y n s c) 3 d_N_enterPlan_27 kw_68 rfl (by show _ < n; first | assumption | omega) ?_
    refine ow_callV (pc := 30) hX (kd_F Y n s c) (by show _ < 2 * n; first | assumption | omega) (c_F_clear _ Y n s c hV _ (2 * i + 1) (by omega)) (cw_V hX mz_F_clear kw_304 ⟨rfl, rfl⟩ (by decide)) rfl (Nat.le_of_ble_eq_true rfl) d_N_enterPlan_30 rfl ?_
    exact ow_vret (pc := 33) hX d_N_enterPlan_33 rfl (by first | rfl | ((try simp only [kc_enter]); (repeat' split) <;> first | rfl | omega | (simp_all; done) | (simp_all; omega)))
  · skip
    refine ow_iconst (pc := 8) (v := nI 1) hX d_N_enterPlan_8 (by decide) ?_
    refine ow_goto (pc := 9) (tgt := 13) hX d_N_enterPlan_9 (by decide) ?_
    refine ow_pZ (pc := 13) hX (kd_N Y n s c) 7 d_N_enterPlan_13 kw_76 rfl (by show _ < n; first | assumption | omega) rfl (by decide +kernel) (by first | assumption | omega) ?_
    refine ow_aload_n (pc := 16) hX d_N_enterPlan_16 rfl ?_
    refine ow_iconst (pc := 17) (v := nI 0) hX d_N_enterPlan_17 (by decide) ?_
    refine ow_pN (pc := 18) hX (kd_N Y n s c) 10 d_N_enterPlan_18 kw_81 rfl (by show _ < n; first | assumption | omega) rfl (by decide +kernel) ?_
    refine ow_aload_n (pc := 21) hX d_N_enterPlan_21 rfl ?_
    refine ow_iconst (pc := 22) (v := nI 0) hX d_N_enterPlan_22 (by decide) ?_
    refine ow_pN (pc := 23) hX (kd_N Y n s c) 11 d_N_enterPlan_23 kw_83 rfl (by show _ < n; first | assumption | omega) rfl (by decide +kernel) ?_
    refine ow_aload_n (pc := 26) hX d_N_enterPlan_26 rfl ?_
    refine ow_gO (pc := 27) hX (kd_N Y n s c) 3 d_N_enterPlan_27 kw_68 rfl (by show _ < n; first | assumption | omega) ?_
    refine ow_callV (pc := 30) hX (kd_F Y n s c) (by show _ < 2 * n; first | assumption | omega) (c_F_clear _ Y n s c hV _ (2 * i + 1) (by omega)) (cw_V hX mz_F_clear kw_304 ⟨rfl, rfl⟩ (by decide)) rfl (Nat.le_of_ble_eq_true rfl) d_N_enterPlan_30 rfl ?_
    exact ow_vret (pc := 33) hX d_N_enterPlan_33 rfl (by first | rfl | ((try simp only [kc_enter]); (repeat' split) <;> first | rfl | omega | (simp_all; done) | (simp_all; omega)))
set_option maxRecDepth 100000 in
set_option maxHeartbeats 4000000 in
theorem c_N_switchOff (l : Launch) (Y : YY) (n s c : Nat) (hV : pv_ok (vC Y n s c)) (u : UU) (i : Nat) (hi : i < n) (hn : n ≤ 6) : Ct l (vC Y n s c) ⟨"SlottedMesh$Node", "switchOff", "()V"⟩ (wz ⟨"SlottedMesh$Node", "switchOff", "()V"⟩ b_N_switchOff 2 none) (rd 1) [.ref (pv_ad (vC Y n s c) 4 i)] u none (kc_off n u i) := by
  refine ct_mk hV (by decide +kernel) (Nat.le_of_ble_eq_true rfl) (fun X hX => ?_)
  have hX : ox X (vC Y n s c) (rd 1) b_N_switchOff 2 "SlottedMesh$Node" gz none := hX
  show ow X (vC Y n s c) none (kc_off n u i) u [(0, .ref (pv_ad (vC Y n s c) 4 i))] 0 []
  refine ow_aload_n (pc := 0) hX d_N_switchOff_0 rfl ?_
  refine ow_iconst (pc := 1) (v := nI 0) hX d_N_switchOff_1 (by decide) ?_
  refine ow_pZ (pc := 2) hX (kd_N Y n s c) 6 d_N_switchOff_2 kw_74 rfl (by show _ < n; first | assumption | omega) rfl (by decide +kernel) (by first | assumption | omega) ?_
  refine ow_aload_n (pc := 5) hX d_N_switchOff_5 rfl ?_
  refine ow_iconst (pc := 6) (v := nI 0) hX d_N_switchOff_6 (by decide) ?_
  refine ow_pZ (pc := 7) hX (kd_N Y n s c) 7 d_N_switchOff_7 kw_76 rfl (by show _ < n; first | assumption | omega) rfl (by decide +kernel) (by first | assumption | omega) ?_
  refine ow_aload_n (pc := 10) hX d_N_switchOff_10 rfl ?_
  refine ow_iconst (pc := 11) (v := nI 0) hX d_N_switchOff_11 (by decide) ?_
  refine ow_pI (pc := 12) hX (kd_N Y n s c) 8 d_N_switchOff_12 kw_78 rfl (by show _ < n; first | assumption | omega) rfl (by decide +kernel) ?_
  refine ow_aload_n (pc := 15) hX d_N_switchOff_15 rfl ?_
  refine ow_iconst (pc := 16) (v := nI 0) hX d_N_switchOff_16 (by decide) ?_
  refine ow_pN (pc := 17) hX (kd_N Y n s c) 10 d_N_switchOff_17 kw_81 rfl (by show _ < n; first | assumption | omega) rfl (by decide +kernel) ?_
  refine ow_aload_n (pc := 20) hX d_N_switchOff_20 rfl ?_
  refine ow_iconst (pc := 21) (v := nI 0) hX d_N_switchOff_21 (by decide) ?_
  refine ow_pN (pc := 22) hX (kd_N Y n s c) 11 d_N_switchOff_22 kw_83 rfl (by show _ < n; first | assumption | omega) rfl (by decide +kernel) ?_
  refine ow_aload_n (pc := 25) hX d_N_switchOff_25 rfl ?_
  refine ow_gE (pc := 26) hX (kd_N Y n s c) 2 d_N_switchOff_26 kw_66 rfl (by show _ < n; first | assumption | omega) ?_
  refine ow_callV (pc := 29) hX (kd_F Y n s c) (by show _ < 2 * n; first | assumption | omega) (c_F_clear _ Y n s c hV _ (2 * i) (by omega)) (cw_V hX mz_F_clear kw_304 ⟨rfl, rfl⟩ (by decide)) rfl (Nat.le_of_ble_eq_true rfl) d_N_switchOff_29 rfl ?_
  refine ow_aload_n (pc := 32) hX d_N_switchOff_32 rfl ?_
  refine ow_gO (pc := 33) hX (kd_N Y n s c) 3 d_N_switchOff_33 kw_68 rfl (by show _ < n; first | assumption | omega) ?_
  refine ow_callV (pc := 36) hX (kd_F Y n s c) (by show _ < 2 * n; first | assumption | omega) (c_F_clear _ Y n s c hV _ (2 * i + 1) (by omega)) (cw_V hX mz_F_clear kw_304 ⟨rfl, rfl⟩ (by decide)) rfl (Nat.le_of_ble_eq_true rfl) d_N_switchOff_36 rfl ?_
  refine ow_aload_n (pc := 39) hX d_N_switchOff_39 rfl ?_
  refine ow_gR (pc := 40) hX (kd_N Y n s c) 4 d_N_switchOff_40 kw_70 rfl (by show _ < n; first | assumption | omega) ?_
  refine ow_iconst (pc := 43) (v := nI 0) hX d_N_switchOff_43 (by decide) ?_
  refine ow_callS (pc := 44) hX (c_A_fill_i _ Y n s c hV _ 9 i 0 (nI 0) rfl hi (by show n < 2 ^ 31; omega)) (cw_S hX mz_A_fill kw_324 ⟨rfl, rfl⟩ (by decide)) rfl (Nat.le_of_ble_eq_true rfl) d_N_switchOff_44 rfl ?_
  refine ow_aload_n (pc := 47) hX d_N_switchOff_47 rfl ?_
  refine ow_gR (pc := 48) hX (kd_N Y n s c) 5 d_N_switchOff_48 kw_72 rfl (by show _ < n; first | assumption | omega) ?_
  refine ow_aload_n (pc := 51) hX d_N_switchOff_51 rfl ?_
  refine ow_gS (pc := 52) hX (kd_N Y n s c) 0 d_N_switchOff_52 kw_61 rfl (by show _ < n; first | assumption | omega) ?_
  refine ow_aI (pc := 55) hX rfl d_N_switchOff_55 (by show _ < n; first | assumption | omega) (by show _ < n; first | assumption | omega) ?_
  try simp only [un_1, un_2, ui_1, ui_2, ui_3, ul_1, ul_2, ul_3, ul_4, ur_1, ur_2, ur_3, ur_4, Nat.reduceEqDiff, false_and, and_false, true_and, and_true, and_self, reduceIte]
  refine ow_istore_n (pc := 56) (l2 := [(0, _), (1, _)]) hX d_N_switchOff_56 (by decide) rfl rfl ?_
  refine ow_aload_n (pc := 57) hX d_N_switchOff_57 rfl ?_
  refine ow_gR (pc := 58) hX (kd_N Y n s c) 5 d_N_switchOff_58 kw_72 rfl (by show _ < n; first | assumption | omega) ?_
  refine ow_iconst (pc := 61) (v := nI 0) hX d_N_switchOff_61 (by decide) ?_
  refine ow_callS (pc := 62) hX (c_A_fill_i _ Y n s c hV _ 10 i 0 (nI 0) rfl hi (by show n < 2 ^ 31; omega)) (cw_S hX mz_A_fill kw_324 ⟨rfl, rfl⟩ (by decide)) rfl (Nat.le_of_ble_eq_true rfl) d_N_switchOff_62 rfl ?_
  refine ow_aload_n (pc := 65) hX d_N_switchOff_65 rfl ?_
  refine ow_gR (pc := 66) hX (kd_N Y n s c) 5 d_N_switchOff_66 kw_72 rfl (by show _ < n; first | assumption | omega) ?_
  refine ow_aload_n (pc := 69) hX d_N_switchOff_69 rfl ?_
  refine ow_gS (pc := 70) hX (kd_N Y n s c) 0 d_N_switchOff_70 kw_61 rfl (by show _ < n; first | assumption | omega) ?_
  refine ow_iload_n (pc := 73) hX d_N_switchOff_73 rfl ?_
  refine ow_sI (pc := 74) hX rfl d_N_switchOff_74 (by show _ < n; first | assumption | omega) (by show _ < n; first | assumption | omega) ?_
  exact ow_vret (pc := 75) hX d_N_switchOff_75 rfl (by rfl)
set_option maxRecDepth 100000 in
set_option maxHeartbeats 4000000 in
theorem c_N_clockIsCloseTo (l : Launch) (Y : YY) (n s c : Nat) (hV : pv_ok (vC Y n s c)) (u : UU) (i j : Nat) (hi : i < n) (hj : j < n) : Ct l (vC Y n s c) ⟨"SlottedMesh$Node", "clockIsCloseTo", "(LSlottedMesh$Node;)Z"⟩ (wz ⟨"SlottedMesh$Node", "clockIsCloseTo", "(LSlottedMesh$Node;)Z"⟩ b_N_clockIsCloseTo 2 (some .boolean)) (rd 1) [.ref (pv_ad (vC Y n s c) 4 i), .ref (pv_ad (vC Y n s c) 4 j)] u (some (.int (nI (kclose (u.2.1 4 i 8) (u.2.1 4 j 8))))) (u) := by
  refine ct_mk hV (by decide +kernel) (Nat.le_of_ble_eq_true rfl) (fun X hX => ?_)
  have hX : ox X (vC Y n s c) (rd 1) b_N_clockIsCloseTo 2 "SlottedMesh$Node" gz (some .boolean) := hX
  show ow X (vC Y n s c) (some (.int (nI (kclose (u.2.1 4 i 8) (u.2.1 4 j 8))))) (u) u [(0, .ref (pv_ad (vC Y n s c) 4 i)), (1, .ref (pv_ad (vC Y n s c) 4 j))] 0 []
  refine ow_aload_n (pc := 0) hX d_N_clockIsCloseTo_0 rfl ?_
  refine ow_gI (pc := 1) hX (kd_N Y n s c) 8 d_N_clockIsCloseTo_1 kw_78 rfl (by show _ < n; first | assumption | omega) ?_
  refine ow_aload_n (pc := 4) hX d_N_clockIsCloseTo_4 rfl ?_
  refine ow_gI (pc := 5) hX (kd_N Y n s c) 8 d_N_clockIsCloseTo_5 kw_78 rfl (by show _ < n; first | assumption | omega) ?_
  refine ow_isub (pc := 8) hX d_N_clockIsCloseTo_8 ?_
  refine ow_abs (pc := 9) hX d_N_clockIsCloseTo_9 kw_391 kw_392 kw_2 kw_393 (by decide) (Nat.le_of_ble_eq_true rfl) ?_
  refine ow_bipush (pc := 12) (v := nI 10) hX d_N_clockIsCloseTo_12 (by decide) ?_
  refine ow_ic_gt (pc := 14) (tgt := 21) hX d_N_clockIsCloseTo_14 (by decide) (fun h14 => ?_) (fun h14 => ?_)
  · skip
    refine ow_iconst (pc := 21) (v := nI 0) hX d_N_clockIsCloseTo_21 (by decide) ?_
    exact ow_zret (pc := 22) hX d_N_clockIsCloseTo_22 (nb_01 (by first | decide | assumption | omega | exact kbit_le _ _)) (by first | rfl | (unfold kclose; first | rw [if_pos h14] | rw [if_neg h14])) (by first | rfl | (unfold kclose; first | rw [if_pos h14] | rw [if_neg h14]))
  · skip
    refine ow_iconst (pc := 17) (v := nI 1) hX d_N_clockIsCloseTo_17 (by decide) ?_
    refine ow_goto (pc := 18) (tgt := 22) hX d_N_clockIsCloseTo_18 (by decide) ?_
    exact ow_zret (pc := 22) hX d_N_clockIsCloseTo_22 (nb_01 (by first | decide | assumption | omega | exact kbit_le _ _)) (by first | rfl | (unfold kclose; first | rw [if_pos h14] | rw [if_neg h14])) (by first | rfl | (unfold kclose; first | rw [if_pos h14] | rw [if_neg h14]))
set_option maxRecDepth 100000 in
set_option maxHeartbeats 4000000 in
theorem c_N_failUp (l : Launch) (Y : YY) (n s c : Nat) (hV : pv_ok (vC Y n s c)) (u : UU) (i : Nat) (hi : i < n) (hf : u.1 4 i 10 ≤ 3) : Ct l (vC Y n s c) ⟨"SlottedMesh$Node", "failUp", "()V"⟩ (wz ⟨"SlottedMesh$Node", "failUp", "()V"⟩ b_N_failUp 1 none) (rd 0) [.ref (pv_ad (vC Y n s c) 4 i)] u none (kc_failUp u i) := by
  refine ct_mk hV (by decide +kernel) (Nat.le_of_ble_eq_true rfl) (fun X hX => ?_)
  have hX : ox X (vC Y n s c) (rd 0) b_N_failUp 1 "SlottedMesh$Node" gz none := hX
  show ow X (vC Y n s c) none (kc_failUp u i) u [(0, .ref (pv_ad (vC Y n s c) 4 i))] 0 []
  refine ow_aload_n (pc := 0) hX d_N_failUp_0 rfl ?_
  refine ow_dup (pc := 1) hX d_N_failUp_1 rfl ?_
  refine ow_gN (pc := 2) hX (kd_N Y n s c) 10 d_N_failUp_2 kw_81 rfl (by show _ < n; first | assumption | omega) ?_
  refine ow_iconst (pc := 5) (v := nI 1) hX d_N_failUp_5 (by decide) ?_
  refine ow_addn (pc := 6) hX d_N_failUp_6 ?_
  refine ow_pN (pc := 7) hX (kd_N Y n s c) 10 d_N_failUp_7 kw_81 rfl (by show _ < n; first | assumption | omega) rfl (by decide +kernel) ?_
  refine ow_aload_n (pc := 10) hX d_N_failUp_10 rfl ?_
  refine ow_gN (pc := 11) hX (kd_N Y n s c) 10 d_N_failUp_11 kw_81 rfl (by show _ < n; first | assumption | omega) ?_
  try simp only [un_1, un_2, ui_1, ui_2, ui_3, ul_1, ul_2, ul_3, ul_4, ur_1, ur_2, ur_3, ur_4, Nat.reduceEqDiff, false_and, and_false, true_and, and_true, and_self, reduceIte]
  refine ow_iconst (pc := 14) (v := nI 4) hX d_N_failUp_14 (by decide) ?_
  refine ow_nc_lt (pc := 15) (tgt := 28) hX d_N_failUp_15 (by decide) (by first | assumption | omega) (by first | assumption | omega) (fun h15 => ?_) (fun h15 => ?_)
  · skip
    exact ow_vret (pc := 28) hX d_N_failUp_28 rfl (by first | rfl | ((try simp only [kc_failUp]); (repeat' split) <;> first | rfl | omega | (simp_all; done) | (simp_all; omega)))
  · skip
    refine ow_aload_n (pc := 18) hX d_N_failUp_18 rfl ?_
    refine ow_iconst (pc := 19) (v := nI 0) hX d_N_failUp_19 (by decide) ?_
    refine ow_pN (pc := 20) hX (kd_N Y n s c) 10 d_N_failUp_20 kw_81 rfl (by show _ < n; first | assumption | omega) rfl (by decide +kernel) ?_
    refine ow_aload_n (pc := 23) hX d_N_failUp_23 rfl ?_
    refine ow_iconst (pc := 24) (v := nI 0) hX d_N_failUp_24 (by decide) ?_
    refine ow_pZ (pc := 25) hX (kd_N Y n s c) 7 d_N_failUp_25 kw_76 rfl (by show _ < n; first | assumption | omega) rfl (by decide +kernel) (by first | assumption | omega) ?_
    exact ow_vret (pc := 28) hX d_N_failUp_28 rfl (by first | rfl | ((try simp only [kc_failUp]); (repeat' split) <;> first | rfl | omega | (simp_all; done) | (simp_all; omega)))
set_option maxRecDepth 100000 in
set_option maxHeartbeats 4000000 in
theorem c_N_failDown (l : Launch) (Y : YY) (n s c : Nat) (hV : pv_ok (vC Y n s c)) (u : UU) (i : Nat) (hi : i < n) (hf : u.1 4 i 11 ≤ 5) (hs : u.1 8 (2 * i + 1) 3 ≤ 4) : Ct l (vC Y n s c) ⟨"SlottedMesh$Node", "failDown", "()V"⟩ (wz ⟨"SlottedMesh$Node", "failDown", "()V"⟩ b_N_failDown 1 none) (rd 1) [.ref (pv_ad (vC Y n s c) 4 i)] u none (kc_failDown u i) := by
  refine ct_mk hV (by decide +kernel) (Nat.le_of_ble_eq_true rfl) (fun X hX => ?_)
  have hX : ox X (vC Y n s c) (rd 1) b_N_failDown 1 "SlottedMesh$Node" gz none := hX
  show ow X (vC Y n s c) none (kc_failDown u i) u [(0, .ref (pv_ad (vC Y n s c) 4 i))] 0 []
  refine ow_aload_n (pc := 0) hX d_N_failDown_0 rfl ?_
  refine ow_dup (pc := 1) hX d_N_failDown_1 rfl ?_
  refine ow_gN (pc := 2) hX (kd_N Y n s c) 11 d_N_failDown_2 kw_83 rfl (by show _ < n; first | assumption | omega) ?_
  refine ow_iconst (pc := 5) (v := nI 1) hX d_N_failDown_5 (by decide) ?_
  refine ow_addn (pc := 6) hX d_N_failDown_6 ?_
  refine ow_pN (pc := 7) hX (kd_N Y n s c) 11 d_N_failDown_7 kw_83 rfl (by show _ < n; first | assumption | omega) rfl (by decide +kernel) ?_
  refine ow_aload_n (pc := 10) hX d_N_failDown_10 rfl ?_
  refine ow_gN (pc := 11) hX (kd_N Y n s c) 11 d_N_failDown_11 kw_83 rfl (by show _ < n; first | assumption | omega) ?_
  try simp only [un_1, un_2, ui_1, ui_2, ui_3, ul_1, ul_2, ul_3, ul_4, ur_1, ur_2, ur_3, ur_4, Nat.reduceEqDiff, false_and, and_false, true_and, and_true, and_self, reduceIte]
  refine ow_bipush (pc := 14) (v := nI 6) hX d_N_failDown_14 (by decide) ?_
  refine ow_nc_lt (pc := 16) (tgt := 31) hX d_N_failDown_16 (by decide) (by first | assumption | omega) (by first | assumption | omega) (fun h16 => ?_) (fun h16 => ?_)
  · skip
    exact ow_vret (pc := 31) hX d_N_failDown_31 rfl (by first | rfl | ((try simp only [kc_failDown]); (repeat' split) <;> first | rfl | omega | (simp_all; done) | (simp_all; omega)))
  · skip
    refine ow_aload_n (pc := 19) hX d_N_failDown_19 rfl ?_
    refine ow_iconst (pc := 20) (v := nI 0) hX d_N_failDown_20 (by decide) ?_
    refine ow_pN (pc := 21) hX (kd_N Y n s c) 11 d_N_failDown_21 kw_83 rfl (by show _ < n; first | assumption | omega) rfl (by decide +kernel) ?_
    refine ow_aload_n (pc := 24) hX d_N_failDown_24 rfl ?_
    refine ow_gO (pc := 25) hX (kd_N Y n s c) 3 d_N_failDown_25 kw_68 rfl (by show _ < n; first | assumption | omega) ?_
    refine ow_callV (pc := 28) hX (kd_F Y n s c) (by show _ < 2 * n; first | assumption | omega) (c_F_dropFirst _ Y n s c hV _ (2 * i + 1) (by omega) (by simpa [un_1] using hs)) (cw_V hX mz_F_dropFirst kw_450 ⟨rfl, rfl⟩ (by decide)) rfl (Nat.le_of_ble_eq_true rfl) d_N_failDown_28 rfl ?_
    exact ow_vret (pc := 31) hX d_N_failDown_31 rfl (by first | rfl | ((try simp only [kc_failDown]); (repeat' split) <;> first | rfl | omega | (simp_all; done) | (simp_all; omega)))
set_option maxRecDepth 100000 in
set_option maxHeartbeats 4000000 in
theorem c_P_kindOf (l : Launch) (Y : YY) (n s c : Nat) (hV : pv_ok (vC Y n s c)) (u : UU) (a : Nat) (ha : a < 2 ^ 31) : Ct l (vC Y n s c) ⟨"SlottedMesh$Plan", "kindOf", "(I)I"⟩ (wz ⟨"SlottedMesh$Plan", "kindOf", "(I)I"⟩ b_P_kindOf 1 (some .int)) (rd 0) [.int (nI a)] u (some (.int (nI (a / 100 * 100)))) (u) := by
  refine ct_mk hV (by decide +kernel) (Nat.le_of_ble_eq_true rfl) (fun X hX => ?_)
  have hX : ox X (vC Y n s c) (rd 0) b_P_kindOf 1 "SlottedMesh$Plan" gz (some .int) := hX
  show ow X (vC Y n s c) (some (.int (nI (a / 100 * 100)))) (u) u [(0, .int (nI a))] 0 []
  refine ow_iload_n (pc := 0) hX d_P_kindOf_0 rfl ?_
  refine ow_bipush (pc := 1) (v := nI 100) hX d_P_kindOf_1 (by decide) ?_
  refine ow_divn (pc := 3) hX d_P_kindOf_3 (by first | assumption | omega) (by first | assumption | omega) (by first | assumption | omega) ?_
  refine ow_bipush (pc := 4) (v := nI 100) hX d_P_kindOf_4 (by decide) ?_
  refine ow_muln (pc := 6) hX d_P_kindOf_6 ?_
  exact ow_iret (pc := 7) hX d_P_kindOf_7 (by rfl) (by rfl)
set_option maxRecDepth 100000 in
set_option maxHeartbeats 4000000 in
theorem c_P_fromOf (l : Launch) (Y : YY) (n s c : Nat) (hV : pv_ok (vC Y n s c)) (u : UU) (a : Nat) (ha : a < 2 ^ 31) : Ct l (vC Y n s c) ⟨"SlottedMesh$Plan", "fromOf", "(I)I"⟩ (wz ⟨"SlottedMesh$Plan", "fromOf", "(I)I"⟩ b_P_fromOf 1 (some .int)) (rd 0) [.int (nI a)] u (some (.int (nI (a / 10 % 10)))) (u) := by
  refine ct_mk hV (by decide +kernel) (Nat.le_of_ble_eq_true rfl) (fun X hX => ?_)
  have hX : ox X (vC Y n s c) (rd 0) b_P_fromOf 1 "SlottedMesh$Plan" gz (some .int) := hX
  show ow X (vC Y n s c) (some (.int (nI (a / 10 % 10)))) (u) u [(0, .int (nI a))] 0 []
  refine ow_iload_n (pc := 0) hX d_P_fromOf_0 rfl ?_
  refine ow_bipush (pc := 1) (v := nI 10) hX d_P_fromOf_1 (by decide) ?_
  refine ow_divn (pc := 3) hX d_P_fromOf_3 (by first | assumption | omega) (by first | assumption | omega) (by first | assumption | omega) ?_
  refine ow_bipush (pc := 4) (v := nI 10) hX d_P_fromOf_4 (by decide) ?_
  refine ow_remn (pc := 6) hX d_P_fromOf_6 (by first | assumption | omega) (by first | assumption | omega) (by first | assumption | omega) ?_
  exact ow_iret (pc := 7) hX d_P_fromOf_7 (by rfl) (by rfl)
set_option maxRecDepth 100000 in
set_option maxHeartbeats 4000000 in
theorem c_P_toOf (l : Launch) (Y : YY) (n s c : Nat) (hV : pv_ok (vC Y n s c)) (u : UU) (a : Nat) (ha : a < 2 ^ 31) : Ct l (vC Y n s c) ⟨"SlottedMesh$Plan", "toOf", "(I)I"⟩ (wz ⟨"SlottedMesh$Plan", "toOf", "(I)I"⟩ b_P_toOf 1 (some .int)) (rd 0) [.int (nI a)] u (some (.int (nI (a % 10)))) (u) := by
  refine ct_mk hV (by decide +kernel) (Nat.le_of_ble_eq_true rfl) (fun X hX => ?_)
  have hX : ox X (vC Y n s c) (rd 0) b_P_toOf 1 "SlottedMesh$Plan" gz (some .int) := hX
  show ow X (vC Y n s c) (some (.int (nI (a % 10)))) (u) u [(0, .int (nI a))] 0 []
  refine ow_iload_n (pc := 0) hX d_P_toOf_0 rfl ?_
  refine ow_bipush (pc := 1) (v := nI 10) hX d_P_toOf_1 (by decide) ?_
  refine ow_remn (pc := 3) hX d_P_toOf_3 (by first | assumption | omega) (by first | assumption | omega) (by first | assumption | omega) ?_
  exact ow_iret (pc := 4) hX d_P_toOf_4 (by rfl) (by rfl)
set_option maxRecDepth 100000 in
set_option maxHeartbeats 4000000 in
theorem c_P_codeAt (l : Launch) (Y : YY) (n s c : Nat) (hV : pv_ok (vC Y n s c)) (u : UU) (p a b : Nat) (hp : p < 2) (ha : a < s) (hb : b < c) : Ct l (vC Y n s c) ⟨"SlottedMesh$Plan", "codeAt", "(II)I"⟩ (wz ⟨"SlottedMesh$Plan", "codeAt", "(II)I"⟩ b_P_codeAt 3 (some .int)) (rd 0) [.ref (pv_ad (vC Y n s c) 15 p), .int (nI a), .int (nI b)] u (some (.int (nI (u.1 20 p (a * c + b))))) (u) := by
  refine ct_mk hV (by decide +kernel) (Nat.le_of_ble_eq_true rfl) (fun X hX => ?_)
  have hX : ox X (vC Y n s c) (rd 0) b_P_codeAt 3 "SlottedMesh$Plan" gz (some .int) := hX
  show ow X (vC Y n s c) (some (.int (nI (u.1 20 p (a * c + b))))) (u) u [(0, .ref (pv_ad (vC Y n s c) 15 p)), (1, .int (nI a)), (2, .int (nI b))] 0 []
  refine ow_aload_n (pc := 0) hX d_P_codeAt_0 rfl ?_
  refine ow_gR (pc := 1) hX (kd_P Y n s c) 6 d_P_codeAt_1 kw_177 rfl (by show _ < 2; first | assumption | exact ix_lt ha hb | omega) ?_
  refine ow_iload_n (pc := 4) hX d_P_codeAt_4 rfl ?_
  refine ow_aload_n (pc := 5) hX d_P_codeAt_5 rfl ?_
  refine ow_gK (pc := 6) hX (kd_P Y n s c) 1 d_P_codeAt_6 kw_169 rfl (by show _ < 2; first | assumption | exact ix_lt ha hb | omega) ?_
  refine ow_muln (pc := 9) hX d_P_codeAt_9 ?_
  refine ow_iload_n (pc := 10) hX d_P_codeAt_10 rfl ?_
  refine ow_addn (pc := 11) hX d_P_codeAt_11 ?_
  refine ow_aN (pc := 12) hX rfl d_P_codeAt_12 (by show _ < 2; first | assumption | exact ix_lt ha hb | omega) (by show _ < s * c; first | assumption | exact ix_lt ha hb | omega) ?_
  exact ow_iret (pc := 13) hX d_P_codeAt_13 (by rfl) (by rfl)
/-- does a cell have to do with node x -/
def ktouch (a x : Nat) : Nat := if a / 10 % 10 = x then 1 else if a % 10 = x then 1 else 0
theorem ktouch_le (a x : Nat) : ktouch a x ≤ 1 := by unfold ktouch; split <;> (try split) <;> omega
set_option maxRecDepth 100000 in
set_option maxHeartbeats 4000000 in
theorem c_P_touches (l : Launch) (Y : YY) (n s c : Nat) (hV : pv_ok (vC Y n s c)) (u : UU) (a x : Nat) (ha : a < 2 ^ 31) (hx : x < 2 ^ 31) : Ct l (vC Y n s c) ⟨"SlottedMesh$Plan", "touches", "(II)Z"⟩ (wz ⟨"SlottedMesh$Plan", "touches", "(II)Z"⟩ b_P_touches 2 (some .boolean)) (rd 1) [.int (nI a), .int (nI x)] u (some (.int (nI (ktouch a x)))) (u) := by
  refine ct_mk hV (by decide +kernel) (Nat.le_of_ble_eq_true rfl) (fun X hX => ?_)
  have hX : ox X (vC Y n s c) (rd 1) b_P_touches 2 "SlottedMesh$Plan" gz (some .boolean) := hX
  show ow X (vC Y n s c) (some (.int (nI (ktouch a x)))) (u) u [(0, .int (nI a)), (1, .int (nI x))] 0 []
  refine ow_iload_n (pc := 0) hX d_P_touches_0 rfl ?_
  refine ow_callS (pc := 1) hX (c_P_fromOf _ Y n s c hV _ a ha) (cw_S hX mz_P_fromOf kw_294 ⟨rfl, rfl⟩ (by decide)) rfl (Nat.le_of_ble_eq_true rfl) d_P_touches_1 rfl ?_
  refine ow_iload_n (pc := 4) hX d_P_touches_4 rfl ?_
  refine ow_nc_eq (pc := 5) (tgt := 16) hX d_P_touches_5 (by decide) (by first | assumption | omega) (by first | assumption | omega) (fun h5 => ?_) (fun h5 => ?_)
  · skip
    refine ow_iconst (pc := 16) (v := nI 1) hX d_P_touches_16 (by decide) ?_
    refine ow_goto (pc := 17) (tgt := 21) hX d_P_touches_17 (by decide) ?_
    exact ow_zret (pc := 21) hX d_P_touches_21 (nb_01 (by first | decide | assumption | omega | exact kbit_le _ _)) (by first | rfl | ((try simp only [ktouch]); (repeat' split) <;> first | rfl | omega | (simp_all; done) | (simp_all; omega))) (by first | rfl | ((try simp only [ktouch]); (repeat' split) <;> first | rfl | omega | (simp_all; done) | (simp_all; omega)))
  · skip
    refine ow_iload_n (pc := 8) hX d_P_touches_8 rfl ?_
    refine ow_callS (pc := 9) hX (c_P_toOf _ Y n s c hV _ a ha) (cw_S hX mz_P_toOf kw_297 ⟨rfl, rfl⟩ (by decide)) rfl (Nat.le_of_ble_eq_true rfl) d_P_touches_9 rfl ?_
    refine ow_iload_n (pc := 12) hX d_P_touches_12 rfl ?_
    refine ow_nc_ne (pc := 13) (tgt := 20) hX d_P_touches_13 (by decide) (by first | assumption | omega) (by first | assumption | omega) (fun h13 => ?_) (fun h13 => ?_)
    · skip
      refine ow_iconst (pc := 20) (v := nI 0) hX d_P_touches_20 (by decide) ?_
      exact ow_zret (pc := 21) hX d_P_touches_21 (nb_01 (by first | decide | assumption | omega | exact kbit_le _ _)) (by first | rfl | ((try simp only [ktouch]); (repeat' split) <;> first | rfl | omega | (simp_all; done) | (simp_all; omega))) (by first | rfl | ((try simp only [ktouch]); (repeat' split) <;> first | rfl | omega | (simp_all; done) | (simp_all; omega)))
    · skip
      refine ow_iconst (pc := 16) (v := nI 1) hX d_P_touches_16 (by decide) ?_
      refine ow_goto (pc := 17) (tgt := 21) hX d_P_touches_17 (by decide) ?_
      exact ow_zret (pc := 21) hX d_P_touches_21 (nb_01 (by first | decide | assumption | omega | exact kbit_le _ _)) (by first | rfl | ((try simp only [ktouch]); (repeat' split) <;> first | rfl | omega | (simp_all; done) | (simp_all; omega))) (by first | rfl | ((try simp only [ktouch]); (repeat' split) <;> first | rfl | omega | (simp_all; done) | (simp_all; omega)))
