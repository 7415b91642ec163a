/-! Makers of FrameRow, Loop, Channel, Node, Plan (by program, wip/whole/gen/g2.py) -/
abbrev frE (q : Nat → Nat) : va_E := .inr (1, [.ref (q 0), .ref (q 1), .ref (q 2), .int 0])
set_option maxRecDepth 100000 in
set_option maxHeartbeats 4000000 in
theorem c_F_init (l : Launch) (D : va_G) (k : Nat → ClassId) (B : Nat) (w0 : va_W) (p a : Nat) (h0 : w0[p]? = some (a, .inr (1, [.null, .null, .null, .int 0]))) : Kt l (gG D k B) ⟨"SlottedMesh$FrameRow", "<init>", "()V"⟩ b_F_init 1 { frames := 1, cells := 3, slots := 12, locals := 40 } [.ref a] w0 (fun w => ∃ q : Nat → Nat, w = w0.set p (a, frE q) ++ [(q 0, aI k 4), (q 1, aI k 4), (q 2, aI k 4)]) := by
  refine kt_mk (by decide +kernel) (Nat.le_of_ble_eq_true rfl) (fun X hX hK hin2 => ?_)
  have hp := (List.getElem?_eq_some_iff.mp h0).1
  have hX : jx X { frames := 1, cells := 3, slots := 12, locals := 40 } b_F_init 1 "SlottedMesh$FrameRow" gz none := hX
  have hin2 : X.2.2.1.name = "<init>" := hin2
  show jw X _ _ _ 0 0 [(0, .ref a)] 0 []
  refine jw_ws (w2 := (w0.set p (a, .inr (1, [.null, .null, .null, .int 0])) ++ [])) (wt_0 h0) ?_
  refine jw_aload_n (pc := 0) hX d_F_init_0 rfl ?_
  refine jw_objInit (pc := 1) hX d_F_init_1 kw_41 kw_16 kw_17 (by decide) (Nat.le_of_ble_eq_true rfl) ?_
  refine jw_aload_n (pc := 4) hX d_F_init_4 rfl ?_
  refine jw_iconst (pc := 5) (v := nI 4) hX d_F_init_5 (by decide) ?_
  refine jw_newa (pc := 6) (n := 4) (atype := .int) hX hK (4, .inl fun _ => 0) (t0 := 1) rfl rfl kw_60 (fun _ => rfl) (by (try dsimp only); omega) (by decide) (by show _ ≤ 3; (try dsimp only); omega) (by show _ ≤ 12; (try dsimp only); omega) d_F_init_6 (fun q6 => ?_)
  refine jw_ws (w2 := (w0.set p (a, .inr (1, [.null, .null, .null, .int 0])) ++ [(q6, aI k 4)])) (by rw [List.append_assoc]; rfl) ?_
  refine jw_putF (pc := 8) (ty := (.array .int)) hX hK hin2 p tp_F uw_F tp_F_ok nm_F tc_F (wt_get _ _ hp) rfl 0 (by decide) kw_42 rfl (by decide +kernel) rfl rfl rfl d_F_init_8 ?_
  refine jw_ws (w2 := (w0.set p (a, .inr (1, [.ref q6, .null, .null, .int 0])) ++ [(q6, aI k 4)])) (wt_put _ _ _ hp) ?_
  refine jw_aload_n (pc := 11) hX d_F_init_11 rfl ?_
  refine jw_iconst (pc := 12) (v := nI 4) hX d_F_init_12 (by decide) ?_
  refine jw_newa (pc := 13) (n := 4) (atype := .int) hX hK (4, .inl fun _ => 0) (t0 := 1) rfl rfl kw_60 (fun _ => rfl) (by (try dsimp only); omega) (by decide) (by show _ ≤ 3; (try dsimp only); omega) (by show _ ≤ 12; (try dsimp only); omega) d_F_init_13 (fun q13 => ?_)
  refine jw_ws (w2 := (w0.set p (a, .inr (1, [.ref q6, .null, .null, .int 0])) ++ [(q6, aI k 4), (q13, aI k 4)])) (by rw [List.append_assoc]; rfl) ?_
  refine jw_putF (pc := 15) (ty := (.array .int)) hX hK hin2 p tp_F uw_F tp_F_ok nm_F tc_F (wt_get _ _ hp) rfl 1 (by decide) kw_44 rfl (by decide +kernel) rfl rfl rfl d_F_init_15 ?_
  refine jw_ws (w2 := (w0.set p (a, .inr (1, [.ref q6, .ref q13, .null, .int 0])) ++ [(q6, aI k 4), (q13, aI k 4)])) (wt_put _ _ _ hp) ?_
  refine jw_aload_n (pc := 18) hX d_F_init_18 rfl ?_
  refine jw_iconst (pc := 19) (v := nI 4) hX d_F_init_19 (by decide) ?_
  refine jw_newa (pc := 20) (n := 4) (atype := .int) hX hK (4, .inl fun _ => 0) (t0 := 1) rfl rfl kw_60 (fun _ => rfl) (by (try dsimp only); omega) (by decide) (by show _ ≤ 3; (try dsimp only); omega) (by show _ ≤ 12; (try dsimp only); omega) d_F_init_20 (fun q20 => ?_)
  refine jw_ws (w2 := (w0.set p (a, .inr (1, [.ref q6, .ref q13, .null, .int 0])) ++ [(q6, aI k 4), (q13, aI k 4), (q20, aI k 4)])) (by rw [List.append_assoc]; rfl) ?_
  refine jw_putF (pc := 22) (ty := (.array .int)) hX hK hin2 p tp_F uw_F tp_F_ok nm_F tc_F (wt_get _ _ hp) rfl 2 (by decide) kw_46 rfl (by decide +kernel) rfl rfl rfl d_F_init_22 ?_
  refine jw_ws (w2 := (w0.set p (a, .inr (1, [.ref q6, .ref q13, .ref q20, .int 0])) ++ [(q6, aI k 4), (q13, aI k 4), (q20, aI k 4)])) (wt_put _ _ _ hp) ?_
  exact jw_vret (pc := 25) hX (by show _ ≤ 3; (try dsimp only); omega) (by show _ ≤ 12; (try dsimp only); omega) d_F_init_25 ⟨fun j => [q6, q13, q20].getD j 0, rfl⟩
set_option maxRecDepth 100000 in
set_option maxHeartbeats 4000000 in
theorem c_O_init (l : Launch) (D : va_G) (k : Nat → ClassId) (B : Nat) (w0 : va_W) (p a : Nat) (h0 : w0[p]? = some (a, .inr (2, [.null, .int 0, .int 0, .int 0, .int 0, .int 0]))) : Kt l (gG D k B) ⟨"SlottedMesh$Loop", "<init>", "()V"⟩ b_O_init 1 { frames := 1, cells := 1, slots := 3, locals := 40 } [.ref a] w0 (fun w => ∃ q : Nat, w = w0.set p (a, .inr (2, [.ref q, .int 0, .int 0, .int 0, .int 0, .int 0])) ++ [(q, aI k 3)]) := by
  refine kt_mk (by decide +kernel) (Nat.le_of_ble_eq_true rfl) (fun X hX hK hin2 => ?_)
  have hp := (List.getElem?_eq_some_iff.mp h0).1
  have hX : jx X { frames := 1, cells := 1, slots := 3, locals := 40 } b_O_init 1 "SlottedMesh$Loop" gz none := hX
  have hin2 : X.2.2.1.name = "<init>" := hin2
  show jw X _ _ _ 0 0 [(0, .ref a)] 0 []
  refine jw_ws (w2 := (w0.set p (a, .inr (2, [.null, .int 0, .int 0, .int 0, .int 0, .int 0])) ++ [])) (wt_0 h0) ?_
  refine jw_aload_n (pc := 0) hX d_O_init_0 rfl ?_
  refine jw_objInit (pc := 1) hX d_O_init_1 kw_120 kw_16 kw_17 (by decide) (Nat.le_of_ble_eq_true rfl) ?_
  refine jw_aload_n (pc := 4) hX d_O_init_4 rfl ?_
  refine jw_iconst (pc := 5) (v := nI 3) hX d_O_init_5 (by decide) ?_
  refine jw_newa (pc := 6) (n := 3) (atype := .int) hX hK (3, .inl fun _ => 0) (t0 := 1) rfl rfl kw_60 (fun _ => rfl) (by (try dsimp only); omega) (by decide) (by show _ ≤ 1; (try dsimp only); omega) (by show _ ≤ 3; (try dsimp only); omega) d_O_init_6 (fun q6 => ?_)
  refine jw_ws (w2 := (w0.set p (a, .inr (2, [.null, .int 0, .int 0, .int 0, .int 0, .int 0])) ++ [(q6, aI k 3)])) (by rw [List.append_assoc]; rfl) ?_
  refine jw_putF (pc := 8) (ty := (.array .int)) hX hK hin2 p tp_O uw_O tp_O_ok nm_O tc_O (wt_get _ _ hp) rfl 0 (by decide) kw_121 rfl (by decide +kernel) rfl rfl rfl d_O_init_8 ?_
  refine jw_ws (w2 := (w0.set p (a, .inr (2, [.ref q6, .int 0, .int 0, .int 0, .int 0, .int 0])) ++ [(q6, aI k 3)])) (wt_put _ _ _ hp) ?_
  exact jw_vret (pc := 11) hX (by show _ ≤ 1; (try dsimp only); omega) (by show _ ≤ 3; (try dsimp only); omega) d_O_init_11 ⟨q6, rfl⟩
set_option maxRecDepth 100000 in
set_option maxHeartbeats 4000000 in
theorem c_H_init (l : Launch) (D : va_G) (k : Nat → ClassId) (B : Nat) (w0 : va_W) (p a : Nat) (h0 : w0[p]? = some (a, .inr (0, [.long 0, .long 0]))) : Kt l (gG D k B) ⟨"SlottedMesh$Channel", "<init>", "()V"⟩ b_H_init 1 { frames := 1, cells := 0, slots := 0, locals := 40 } [.ref a] w0 (fun w => w = w0.set p (a, .inr (0, [.long (-1), .long (-1)])) ++ []) := by
  refine kt_mk (by decide +kernel) (Nat.le_of_ble_eq_true rfl) (fun X hX hK hin2 => ?_)
  have hp := (List.getElem?_eq_some_iff.mp h0).1
  have hX : jx X { frames := 1, cells := 0, slots := 0, locals := 40 } b_H_init 1 "SlottedMesh$Channel" gz none := hX
  have hin2 : X.2.2.1.name = "<init>" := hin2
  show jw X _ _ _ 0 0 [(0, .ref a)] 0 []
  refine jw_ws (w2 := (w0.set p (a, .inr (0, [.long 0, .long 0])) ++ [])) (wt_0 h0) ?_
  refine jw_aload_n (pc := 0) hX d_H_init_0 rfl ?_
  refine jw_objInit (pc := 1) hX d_H_init_1 kw_151 kw_16 kw_17 (by decide) (Nat.le_of_ble_eq_true rfl) ?_
  refine jw_aload_n (pc := 4) hX d_H_init_4 rfl ?_
  refine jw_ldc2 (pc := 5) (v := -1) hX d_H_init_5 kw_152 ?_
  refine jw_put (pc := 8) (ty := .long) hX hK p tp_H uw_H tp_H_ok nm_H tc_H (wt_get _ _ hp) rfl 0 (by decide) kw_153 rfl (by decide +kernel) rfl rfl rfl d_H_init_8 ?_
  refine jw_ws (w2 := (w0.set p (a, .inr (0, [.long (-1), .long 0])) ++ [])) (wt_put _ _ _ hp) ?_
  refine jw_aload_n (pc := 11) hX d_H_init_11 rfl ?_
  refine jw_ldc2 (pc := 12) (v := -1) hX d_H_init_12 kw_152 ?_
  refine jw_put (pc := 15) (ty := .long) hX hK p tp_H uw_H tp_H_ok nm_H tc_H (wt_get _ _ hp) rfl 1 (by decide) kw_155 rfl (by decide +kernel) rfl rfl rfl d_H_init_15 ?_
  refine jw_ws (w2 := (w0.set p (a, .inr (0, [.long (-1), .long (-1)])) ++ [])) (wt_put _ _ _ hp) ?_
  exact jw_vret (pc := 18) hX (by show _ ≤ 0; (try dsimp only); omega) (by show _ ≤ 0; (try dsimp only); omega) d_H_init_18 rfl
/-- a node's cells -/
abbrev ndE (q : Nat → Nat) (i z : Nat) : va_E := .inr (3, [.int (nI i), .ref (q 0), .ref (q 1), .ref (q 5), .ref (q 9), .ref (q 10), .int (nI z), .int (nI z), .int 0, .int 0, .int 0, .int 0, .int 0, .int 0])
abbrev ndL (k : Nat → ClassId) (q : Nat → Nat) (n : Nat) : va_W := [(q 0, aZ k n), (q 1, .inr (1, [.ref (q 2), .ref (q 3), .ref (q 4), .int 0])), (q 2, aI k 4), (q 3, aI k 4), (q 4, aI k 4), (q 5, .inr (1, [.ref (q 6), .ref (q 7), .ref (q 8), .int 0])), (q 6, aI k 4), (q 7, aI k 4), (q 8, aI k 4), (q 9, aI k n), (q 10, aI k n)]
abbrev b0 (i : Nat) : Nat := if i = 0 then 1 else 0
set_option maxRecDepth 100000 in
set_option maxHeartbeats 4000000 in
theorem c_N_init (l : Launch) (D : va_G) (k : Nat → ClassId) (B : Nat) (w0 : va_W) (p a : Nat) (i n : Nat) (hi : i < 6) (hn : n ≤ 6) (h0 : w0[p]? = some (a, .inr (3, [.int 0, .null, .null, .null, .null, .null, .int 0, .int 0, .int 0, .int 0, .int 0, .int 0, .int 0, .int 0]))) : Kt l (gG D k B) ⟨"SlottedMesh$Node", "<init>", "(II)V"⟩ b_N_init 3 { frames := 2, cells := 11, slots := 60, locals := 80 } [.ref a, .int (nI i), .int (nI n)] w0 (fun w => ∃ q : Nat → Nat, w = w0.set p (a, ndE q i (b0 i)) ++ ndL k q n) := by
  refine kt_mk (by decide +kernel) (Nat.le_of_ble_eq_true rfl) (fun X hX hK hin2 => ?_)
  have hp := (List.getElem?_eq_some_iff.mp h0).1
  have hX : jx X { frames := 2, cells := 11, slots := 60, locals := 80 } b_N_init 3 "SlottedMesh$Node" gz none := hX
  have hin2 : X.2.2.1.name = "<init>" := hin2
  show jw X _ _ _ 0 0 [(0, .ref a), (1, .int (nI i)), (2, .int (nI n))] 0 []
  refine jw_ws (w2 := (w0.set p (a, .inr (3, [.int 0, .null, .null, .null, .null, .null, .int 0, .int 0, .int 0, .int 0, .int 0, .int 0, .int 0, .int 0])) ++ [])) (wt_0 h0) ?_
  refine jw_aload_n (pc := 0) hX d_N_init_0 rfl ?_
  refine jw_objInit (pc := 1) hX d_N_init_1 kw_35 kw_16 kw_17 (by decide) (Nat.le_of_ble_eq_true rfl) ?_
  refine jw_aload_n (pc := 4) hX d_N_init_4 rfl ?_
  refine jw_iload_n (pc := 5) hX d_N_init_5 rfl ?_
  refine jw_putF (pc := 6) (ty := .int) hX hK hin2 p tp_N uw_N tp_N_ok nm_N tc_N (wt_get _ _ hp) rfl 0 (by decide) kw_61 rfl (by decide +kernel) rfl rfl rfl d_N_init_6 ?_
  refine jw_ws (w2 := (w0.set p (a, .inr (3, [.int (nI i), .null, .null, .null, .null, .null, .int 0, .int 0, .int 0, .int 0, .int 0, .int 0, .int 0, .int 0])) ++ [])) (wt_put _ _ _ hp) ?_
  refine jw_aload_n (pc := 9) hX d_N_init_9 rfl ?_
  refine jw_iload_n (pc := 10) hX d_N_init_10 rfl ?_
  refine jw_newa (pc := 11) (n := n) (atype := .boolean) hX hK (n, .inl fun _ => 0) (t0 := 0) rfl rfl kw_59 (fun _ => rfl) (by (try dsimp only); omega) (by decide) (by show _ ≤ 11; (try dsimp only); omega) (by show _ ≤ 60; (try dsimp only); omega) d_N_init_11 (fun q11 => ?_)
  refine jw_ws (w2 := (w0.set p (a, .inr (3, [.int (nI i), .null, .null, .null, .null, .null, .int 0, .int 0, .int 0, .int 0, .int 0, .int 0, .int 0, .int 0])) ++ [(q11, aZ k n)])) (by rw [List.append_assoc]; rfl) ?_
  refine jw_putF (pc := 13) (ty := (.array .boolean)) hX hK hin2 p tp_N uw_N tp_N_ok nm_N tc_N (wt_get _ _ hp) rfl 1 (by decide) kw_63 rfl (by decide +kernel) rfl rfl rfl d_N_init_13 ?_
  refine jw_ws (w2 := (w0.set p (a, .inr (3, [.int (nI i), .ref q11, .null, .null, .null, .null, .int 0, .int 0, .int 0, .int 0, .int 0, .int 0, .int 0, .int 0])) ++ [(q11, aZ k n)])) (wt_put _ _ _ hp) ?_
  refine jw_aload_n (pc := 16) hX d_N_init_16 rfl ?_
  refine jw_new (pc := 17) (ci := 1) hX hK [.null, .null, .null, .int 0] tp_F uw_F tp_F_ok kw_36 kw_37 kw_4 rfl (dv_ok (by decide +kernel)) (by show _ ≤ 11; (try dsimp only); omega) (by show _ ≤ 60; (try dsimp only); omega) d_N_init_17 (fun q17 => ?_)
  refine jw_ws (w2 := (w0.set p (a, .inr (3, [.int (nI i), .ref q11, .null, .null, .null, .null, .int 0, .int 0, .int 0, .int 0, .int 0, .int 0, .int 0, .int 0])) ++ [(q11, aZ k n), (q17, .inr (1, [.null, .null, .null, .int 0]))])) (by rw [List.append_assoc]; rfl) ?_
  refine jw_dup (pc := 20) hX d_N_init_20 rfl ?_
  refine jw_callIN (pc := 21) hX hK (c_F_init _ D k B _ (w0.length + 1) q17 (wt_at _ _ _ _ _)) hK.1.2.1.2.1 kw_39 kw_4 kw_40 rfl (by decide +kernel) ⟨Nat.le_of_ble_eq_true rfl, Nat.le_of_ble_eq_true rfl⟩ rfl (Nat.le_of_ble_eq_true rfl) (by show _ ≤ 11; (try dsimp only); omega) (by show _ ≤ 60; (try dsimp only); omega) d_N_init_21 rfl (fun ws21 hw21 => ?_)
  obtain ⟨z21, rfl⟩ := hw21
  refine jw_ws (w2 := (w0.set p (a, .inr (3, [.int (nI i), .ref q11, .null, .null, .null, .null, .int 0, .int 0, .int 0, .int 0, .int 0, .int 0, .int 0, .int 0])) ++ [(q11, aZ k n), (q17, frE z21), ((z21 0), aI k 4), ((z21 1), aI k 4), ((z21 2), aI k 4)])) (by rw [wt_set, List.append_assoc]; rfl) ?_
  refine jw_putF (pc := 24) (ty := (.object "SlottedMesh$FrameRow")) hX hK hin2 p tp_N uw_N tp_N_ok nm_N tc_N (wt_get _ _ hp) rfl 2 (by decide) kw_66 rfl (by decide +kernel) rfl rfl rfl d_N_init_24 ?_
  refine jw_ws (w2 := (w0.set p (a, .inr (3, [.int (nI i), .ref q11, .ref q17, .null, .null, .null, .int 0, .int 0, .int 0, .int 0, .int 0, .int 0, .int 0, .int 0])) ++ [(q11, aZ k n), (q17, frE z21), ((z21 0), aI k 4), ((z21 1), aI k 4), ((z21 2), aI k 4)])) (wt_put _ _ _ hp) ?_
  refine jw_aload_n (pc := 27) hX d_N_init_27 rfl ?_
  refine jw_new (pc := 28) (ci := 1) hX hK [.null, .null, .null, .int 0] tp_F uw_F tp_F_ok kw_36 kw_37 kw_4 rfl (dv_ok (by decide +kernel)) (by show _ ≤ 11; (try dsimp only); omega) (by show _ ≤ 60; (try dsimp only); omega) d_N_init_28 (fun q28 => ?_)
  refine jw_ws (w2 := (w0.set p (a, .inr (3, [.int (nI i), .ref q11, .ref q17, .null, .null, .null, .int 0, .int 0, .int 0, .int 0, .int 0, .int 0, .int 0, .int 0])) ++ [(q11, aZ k n), (q17, frE z21), ((z21 0), aI k 4), ((z21 1), aI k 4), ((z21 2), aI k 4), (q28, .inr (1, [.null, .null, .null, .int 0]))])) (by rw [List.append_assoc]; rfl) ?_
  refine jw_dup (pc := 31) hX d_N_init_31 rfl ?_
  refine jw_callIN (pc := 32) hX hK (c_F_init _ D k B _ (w0.length + 5) q28 (wt_at _ _ _ _ _)) hK.1.2.1.2.1 kw_39 kw_4 kw_40 rfl (by decide +kernel) ⟨Nat.le_of_ble_eq_true rfl, Nat.le_of_ble_eq_true rfl⟩ rfl (Nat.le_of_ble_eq_true rfl) (by show _ ≤ 11; (try dsimp only); omega) (by show _ ≤ 60; (try dsimp only); omega) d_N_init_32 rfl (fun ws32 hw32 => ?_)
  obtain ⟨z32, rfl⟩ := hw32
  refine jw_ws (w2 := (w0.set p (a, .inr (3, [.int (nI i), .ref q11, .ref q17, .null, .null, .null, .int 0, .int 0, .int 0, .int 0, .int 0, .int 0, .int 0, .int 0])) ++ [(q11, aZ k n), (q17, frE z21), ((z21 0), aI k 4), ((z21 1), aI k 4), ((z21 2), aI k 4), (q28, frE z32), ((z32 0), aI k 4), ((z32 1), aI k 4), ((z32 2), aI k 4)])) (by rw [wt_set, List.append_assoc]; rfl) ?_
  refine jw_putF (pc := 35) (ty := (.object "SlottedMesh$FrameRow")) hX hK hin2 p tp_N uw_N tp_N_ok nm_N tc_N (wt_get _ _ hp) rfl 3 (by decide) kw_68 rfl (by decide +kernel) rfl rfl rfl d_N_init_35 ?_
  refine jw_ws (w2 := (w0.set p (a, .inr (3, [.int (nI i), .ref q11, .ref q17, .ref q28, .null, .null, .int 0, .int 0, .int 0, .int 0, .int 0, .int 0, .int 0, .int 0])) ++ [(q11, aZ k n), (q17, frE z21), ((z21 0), aI k 4), ((z21 1), aI k 4), ((z21 2), aI k 4), (q28, frE z32), ((z32 0), aI k 4), ((z32 1), aI k 4), ((z32 2), aI k 4)])) (wt_put _ _ _ hp) ?_
  refine jw_aload_n (pc := 38) hX d_N_init_38 rfl ?_
  refine jw_iload_n (pc := 39) hX d_N_init_39 rfl ?_
  refine jw_newa (pc := 40) (n := n) (atype := .int) hX hK (n, .inl fun _ => 0) (t0 := 1) rfl rfl kw_60 (fun _ => rfl) (by (try dsimp only); omega) (by decide) (by show _ ≤ 11; (try dsimp only); omega) (by show _ ≤ 60; (try dsimp only); omega) d_N_init_40 (fun q40 => ?_)
  refine jw_ws (w2 := (w0.set p (a, .inr (3, [.int (nI i), .ref q11, .ref q17, .ref q28, .null, .null, .int 0, .int 0, .int 0, .int 0, .int 0, .int 0, .int 0, .int 0])) ++ [(q11, aZ k n), (q17, frE z21), ((z21 0), aI k 4), ((z21 1), aI k 4), ((z21 2), aI k 4), (q28, frE z32), ((z32 0), aI k 4), ((z32 1), aI k 4), ((z32 2), aI k 4), (q40, aI k n)])) (by rw [List.append_assoc]; rfl) ?_
  refine jw_putF (pc := 42) (ty := (.array .int)) hX hK hin2 p tp_N uw_N tp_N_ok nm_N tc_N (wt_get _ _ hp) rfl 4 (by decide) kw_70 rfl (by decide +kernel) rfl rfl rfl d_N_init_42 ?_
  refine jw_ws (w2 := (w0.set p (a, .inr (3, [.int (nI i), .ref q11, .ref q17, .ref q28, .ref q40, .null, .int 0, .int 0, .int 0, .int 0, .int 0, .int 0, .int 0, .int 0])) ++ [(q11, aZ k n), (q17, frE z21), ((z21 0), aI k 4), ((z21 1), aI k 4), ((z21 2), aI k 4), (q28, frE z32), ((z32 0), aI k 4), ((z32 1), aI k 4), ((z32 2), aI k 4), (q40, aI k n)])) (wt_put _ _ _ hp) ?_
  refine jw_aload_n (pc := 45) hX d_N_init_45 rfl ?_
  refine jw_iload_n (pc := 46) hX d_N_init_46 rfl ?_
  refine jw_newa (pc := 47) (n := n) (atype := .int) hX hK (n, .inl fun _ => 0) (t0 := 1) rfl rfl kw_60 (fun _ => rfl) (by (try dsimp only); omega) (by decide) (by show _ ≤ 11; (try dsimp only); omega) (by show _ ≤ 60; (try dsimp only); omega) d_N_init_47 (fun q47 => ?_)
  refine jw_ws (w2 := (w0.set p (a, .inr (3, [.int (nI i), .ref q11, .ref q17, .ref q28, .ref q40, .null, .int 0, .int 0, .int 0, .int 0, .int 0, .int 0, .int 0, .int 0])) ++ [(q11, aZ k n), (q17, frE z21), ((z21 0), aI k 4), ((z21 1), aI k 4), ((z21 2), aI k 4), (q28, frE z32), ((z32 0), aI k 4), ((z32 1), aI k 4), ((z32 2), aI k 4), (q40, aI k n), (q47, aI k n)])) (by rw [List.append_assoc]; rfl) ?_
  refine jw_putF (pc := 49) (ty := (.array .int)) hX hK hin2 p tp_N uw_N tp_N_ok nm_N tc_N (wt_get _ _ hp) rfl 5 (by decide) kw_72 rfl (by decide +kernel) rfl rfl rfl d_N_init_49 ?_
  refine jw_ws (w2 := (w0.set p (a, .inr (3, [.int (nI i), .ref q11, .ref q17, .ref q28, .ref q40, .ref q47, .int 0, .int 0, .int 0, .int 0, .int 0, .int 0, .int 0, .int 0])) ++ [(q11, aZ k n), (q17, frE z21), ((z21 0), aI k 4), ((z21 1), aI k 4), ((z21 2), aI k 4), (q28, frE z32), ((z32 0), aI k 4), ((z32 1), aI k 4), ((z32 2), aI k 4), (q40, aI k n), (q47, aI k n)])) (wt_put _ _ _ hp) ?_
  refine jw_aload_n (pc := 52) hX d_N_init_52 rfl ?_
  by_cases hi0 : i = 0
  · skip
    refine jw_iload_n (pc := 53) hX d_N_init_53 rfl ?_
    refine jw_nz_ne (pc := 54) (tgt := 61) hX d_N_init_54 (by decide) (by omega) (fun h => absurd hi0 h) (fun _ => ?_)
    refine jw_iconst (pc := 57) (v := nI 1) hX d_N_init_57 (by decide) ?_
    refine jw_goto (pc := 58) (tgt := 62) hX d_N_init_58 (by decide) ?_
    refine jw_put (pc := 62) (ty := .boolean) hX hK p tp_N uw_N tp_N_ok nm_N tc_N (wt_get _ _ hp) rfl 6 (by decide) kw_74 rfl (by decide +kernel) (nb_01 (by omega)) rfl rfl d_N_init_62 ?_
    refine jw_ws (w2 := (w0.set p (a, .inr (3, [.int (nI i), .ref q11, .ref q17, .ref q28, .ref q40, .ref q47, .int (nI 1), .int 0, .int 0, .int 0, .int 0, .int 0, .int 0, .int 0])) ++ [(q11, aZ k n), (q17, frE z21), ((z21 0), aI k 4), ((z21 1), aI k 4), ((z21 2), aI k 4), (q28, frE z32), ((z32 0), aI k 4), ((z32 1), aI k 4), ((z32 2), aI k 4), (q40, aI k n), (q47, aI k n)])) (wt_put _ _ _ hp) ?_
    refine jw_aload_n (pc := 65) hX d_N_init_65 rfl ?_
    
    refine jw_iload_n (pc := 66) hX d_N_init_66 rfl ?_
    refine jw_nz_ne (pc := 67) (tgt := 74) hX d_N_init_67 (by decide) (by omega) (fun h => absurd hi0 h) (fun _ => ?_)
    refine jw_iconst (pc := 70) (v := nI 1) hX d_N_init_70 (by decide) ?_
    refine jw_goto (pc := 71) (tgt := 75) hX d_N_init_71 (by decide) ?_
    refine jw_put (pc := 75) (ty := .boolean) hX hK p tp_N uw_N tp_N_ok nm_N tc_N (wt_get _ _ hp) rfl 7 (by decide) kw_76 rfl (by decide +kernel) (nb_01 (by omega)) rfl rfl d_N_init_75 ?_
    refine jw_ws (w2 := (w0.set p (a, .inr (3, [.int (nI i), .ref q11, .ref q17, .ref q28, .ref q40, .ref q47, .int (nI 1), .int (nI 1), .int 0, .int 0, .int 0, .int 0, .int 0, .int 0])) ++ [(q11, aZ k n), (q17, frE z21), ((z21 0), aI k 4), ((z21 1), aI k 4), ((z21 2), aI k 4), (q28, frE z32), ((z32 0), aI k 4), ((z32 1), aI k 4), ((z32 2), aI k 4), (q40, aI k n), (q47, aI k n)])) (wt_put _ _ _ hp) ?_
    exact jw_vret (pc := 78) hX (by show _ ≤ 11; (try dsimp only); omega) (by show _ ≤ 60; (try dsimp only); omega) d_N_init_78 ⟨fun j => [q11, q17, z21 0, z21 1, z21 2, q28, z32 0, z32 1, z32 2, q40, q47].getD j 0, by first | (rw [show b0 i = 1 from if_pos hi0]; rfl) | (rw [show b0 i = 0 from if_neg hi0]; rfl)⟩
  · skip
    refine jw_iload_n (pc := 53) hX d_N_init_53 rfl ?_
    refine jw_nz_ne (pc := 54) (tgt := 61) hX d_N_init_54 (by decide) (by omega) (fun _ => ?_) (fun h => absurd h hi0)
    refine jw_iconst (pc := 61) (v := nI 0) hX d_N_init_61 (by decide) ?_
    refine jw_put (pc := 62) (ty := .boolean) hX hK p tp_N uw_N tp_N_ok nm_N tc_N (wt_get _ _ hp) rfl 6 (by decide) kw_74 rfl (by decide +kernel) (nb_01 (by omega)) rfl rfl d_N_init_62 ?_
    refine jw_ws (w2 := (w0.set p (a, .inr (3, [.int (nI i), .ref q11, .ref q17, .ref q28, .ref q40, .ref q47, .int (nI 0), .int 0, .int 0, .int 0, .int 0, .int 0, .int 0, .int 0])) ++ [(q11, aZ k n), (q17, frE z21), ((z21 0), aI k 4), ((z21 1), aI k 4), ((z21 2), aI k 4), (q28, frE z32), ((z32 0), aI k 4), ((z32 1), aI k 4), ((z32 2), aI k 4), (q40, aI k n), (q47, aI k n)])) (wt_put _ _ _ hp) ?_
    refine jw_aload_n (pc := 65) hX d_N_init_65 rfl ?_
    
    refine jw_iload_n (pc := 66) hX d_N_init_66 rfl ?_
    refine jw_nz_ne (pc := 67) (tgt := 74) hX d_N_init_67 (by decide) (by omega) (fun _ => ?_) (fun h => absurd h hi0)
    refine jw_iconst (pc := 74) (v := nI 0) hX d_N_init_74 (by decide) ?_
    refine jw_put (pc := 75) (ty := .boolean) hX hK p tp_N uw_N tp_N_ok nm_N tc_N (wt_get _ _ hp) rfl 7 (by decide) kw_76 rfl (by decide +kernel) (nb_01 (by omega)) rfl rfl d_N_init_75 ?_
    refine jw_ws (w2 := (w0.set p (a, .inr (3, [.int (nI i), .ref q11, .ref q17, .ref q28, .ref q40, .ref q47, .int (nI 0), .int (nI 0), .int 0, .int 0, .int 0, .int 0, .int 0, .int 0])) ++ [(q11, aZ k n), (q17, frE z21), ((z21 0), aI k 4), ((z21 1), aI k 4), ((z21 2), aI k 4), (q28, frE z32), ((z32 0), aI k 4), ((z32 1), aI k 4), ((z32 2), aI k 4), (q40, aI k n), (q47, aI k n)])) (wt_put _ _ _ hp) ?_
    exact jw_vret (pc := 78) hX (by show _ ≤ 11; (try dsimp only); omega) (by show _ ≤ 60; (try dsimp only); omega) d_N_init_78 ⟨fun j => [q11, q17, z21 0, z21 1, z21 2, q28, z32 0, z32 1, z32 2, q40, q47].getD j 0, by first | (rw [show b0 i = 1 from if_pos hi0]; rfl) | (rw [show b0 i = 0 from if_neg hi0]; rfl)⟩
/-- a plan's cells -/
abbrev plE (q : Nat → Nat) (s c : Nat) : va_E := .inr (4, [.int (nI s), .int (nI c), .ref (q 0), .ref (q 1), .ref (q 2), .ref (q 3), .ref (q 4), .int 0, .int 0])
abbrev plL (k : Nat → ClassId) (q : Nat → Nat) (n s c : Nat) : va_W := [(q 0, aI k n), (q 1, aI k n), (q 2, aI k n), (q 3, aI k n), (q 4, aI k (s * c))]
set_option maxRecDepth 100000 in
set_option maxHeartbeats 4000000 in
theorem c_P_init (l : Launch) (D : va_G) (k : Nat → ClassId) (B : Nat) (w0 : va_W) (p a : Nat) (n s c : Nat) (hn : n ≤ 6) (hsc : s * c ≤ 96) (h0 : w0[p]? = some (a, .inr (4, [.int 0, .int 0, .null, .null, .null, .null, .null, .int 0, .int 0]))) : Kt l (gG D k B) ⟨"SlottedMesh$Plan", "<init>", "(III)V"⟩ b_P_init 4 { frames := 1, cells := 5, slots := 120, locals := 40 } [.ref a, .int (nI n), .int (nI s), .int (nI c)] w0 (fun w => ∃ q : Nat → Nat, w = w0.set p (a, plE q s c) ++ plL k q n s c) := by
  refine kt_mk (by decide +kernel) (Nat.le_of_ble_eq_true rfl) (fun X hX hK hin2 => ?_)
  have hp := (List.getElem?_eq_some_iff.mp h0).1
  have hX : jx X { frames := 1, cells := 5, slots := 120, locals := 40 } b_P_init 4 "SlottedMesh$Plan" gz none := hX
  have hin2 : X.2.2.1.name = "<init>" := hin2
  show jw X _ _ _ 0 0 [(0, .ref a), (1, .int (nI n)), (2, .int (nI s)), (3, .int (nI c))] 0 []
  refine jw_ws (w2 := (w0.set p (a, .inr (4, [.int 0, .int 0, .null, .null, .null, .null, .null, .int 0, .int 0])) ++ [])) (wt_0 h0) ?_
  refine jw_aload_n (pc := 0) hX d_P_init_0 rfl ?_
  refine jw_objInit (pc := 1) hX d_P_init_1 kw_167 kw_16 kw_17 (by decide) (Nat.le_of_ble_eq_true rfl) ?_
  refine jw_aload_n (pc := 4) hX d_P_init_4 rfl ?_
  refine jw_iload_n (pc := 5) hX d_P_init_5 rfl ?_
  refine jw_putF (pc := 6) (ty := .int) hX hK hin2 p tp_P uw_P tp_P_ok nm_P tc_P (wt_get _ _ hp) rfl 0 (by decide) kw_168 rfl (by decide +kernel) rfl rfl rfl d_P_init_6 ?_
  refine jw_ws (w2 := (w0.set p (a, .inr (4, [.int (nI s), .int 0, .null, .null, .null, .null, .null, .int 0, .int 0])) ++ [])) (wt_put _ _ _ hp) ?_
  refine jw_aload_n (pc := 9) hX d_P_init_9 rfl ?_
  refine jw_iload_n (pc := 10) hX d_P_init_10 rfl ?_
  refine jw_putF (pc := 11) (ty := .int) hX hK hin2 p tp_P uw_P tp_P_ok nm_P tc_P (wt_get _ _ hp) rfl 1 (by decide) kw_169 rfl (by decide +kernel) rfl rfl rfl d_P_init_11 ?_
  refine jw_ws (w2 := (w0.set p (a, .inr (4, [.int (nI s), .int (nI c), .null, .null, .null, .null, .null, .int 0, .int 0])) ++ [])) (wt_put _ _ _ hp) ?_
  refine jw_aload_n (pc := 14) hX d_P_init_14 rfl ?_
  refine jw_iload_n (pc := 15) hX d_P_init_15 rfl ?_
  refine jw_newa (pc := 16) (n := n) (atype := .int) hX hK (n, .inl fun _ => 0) (t0 := 1) rfl rfl kw_60 (fun _ => rfl) (by (try dsimp only); omega) (by decide) (by show _ ≤ 5; (try dsimp only); omega) (by show _ ≤ 120; (try dsimp only); omega) d_P_init_16 (fun q16 => ?_)
  refine jw_ws (w2 := (w0.set p (a, .inr (4, [.int (nI s), .int (nI c), .null, .null, .null, .null, .null, .int 0, .int 0])) ++ [(q16, aI k n)])) (by rw [List.append_assoc]; rfl) ?_
  refine jw_putF (pc := 18) (ty := (.array .int)) hX hK hin2 p tp_P uw_P tp_P_ok nm_P tc_P (wt_get _ _ hp) rfl 2 (by decide) kw_170 rfl (by decide +kernel) rfl rfl rfl d_P_init_18 ?_
  refine jw_ws (w2 := (w0.set p (a, .inr (4, [.int (nI s), .int (nI c), .ref q16, .null, .null, .null, .null, .int 0, .int 0])) ++ [(q16, aI k n)])) (wt_put _ _ _ hp) ?_
  refine jw_aload_n (pc := 21) hX d_P_init_21 rfl ?_
  refine jw_iload_n (pc := 22) hX d_P_init_22 rfl ?_
  refine jw_newa (pc := 23) (n := n) (atype := .int) hX hK (n, .inl fun _ => 0) (t0 := 1) rfl rfl kw_60 (fun _ => rfl) (by (try dsimp only); omega) (by decide) (by show _ ≤ 5; (try dsimp only); omega) (by show _ ≤ 120; (try dsimp only); omega) d_P_init_23 (fun q23 => ?_)
  refine jw_ws (w2 := (w0.set p (a, .inr (4, [.int (nI s), .int (nI c), .ref q16, .null, .null, .null, .null, .int 0, .int 0])) ++ [(q16, aI k n), (q23, aI k n)])) (by rw [List.append_assoc]; rfl) ?_
  refine jw_putF (pc := 25) (ty := (.array .int)) hX hK hin2 p tp_P uw_P tp_P_ok nm_P tc_P (wt_get _ _ hp) rfl 3 (by decide) kw_172 rfl (by decide +kernel) rfl rfl rfl d_P_init_25 ?_
  refine jw_ws (w2 := (w0.set p (a, .inr (4, [.int (nI s), .int (nI c), .ref q16, .ref q23, .null, .null, .null, .int 0, .int 0])) ++ [(q16, aI k n), (q23, aI k n)])) (wt_put _ _ _ hp) ?_
  refine jw_aload_n (pc := 28) hX d_P_init_28 rfl ?_
  refine jw_iload_n (pc := 29) hX d_P_init_29 rfl ?_
  refine jw_newa (pc := 30) (n := n) (atype := .int) hX hK (n, .inl fun _ => 0) (t0 := 1) rfl rfl kw_60 (fun _ => rfl) (by (try dsimp only); omega) (by decide) (by show _ ≤ 5; (try dsimp only); omega) (by show _ ≤ 120; (try dsimp only); omega) d_P_init_30 (fun q30 => ?_)
  refine jw_ws (w2 := (w0.set p (a, .inr (4, [.int (nI s), .int (nI c), .ref q16, .ref q23, .null, .null, .null, .int 0, .int 0])) ++ [(q16, aI k n), (q23, aI k n), (q30, aI k n)])) (by rw [List.append_assoc]; rfl) ?_
  refine jw_putF (pc := 32) (ty := (.array .int)) hX hK hin2 p tp_P uw_P tp_P_ok nm_P tc_P (wt_get _ _ hp) rfl 4 (by decide) kw_174 rfl (by decide +kernel) rfl rfl rfl d_P_init_32 ?_
  refine jw_ws (w2 := (w0.set p (a, .inr (4, [.int (nI s), .int (nI c), .ref q16, .ref q23, .ref q30, .null, .null, .int 0, .int 0])) ++ [(q16, aI k n), (q23, aI k n), (q30, aI k n)])) (wt_put _ _ _ hp) ?_
  refine jw_aload_n (pc := 35) hX d_P_init_35 rfl ?_
  refine jw_iload_n (pc := 36) hX d_P_init_36 rfl ?_
  refine jw_newa (pc := 37) (n := n) (atype := .int) hX hK (n, .inl fun _ => 0) (t0 := 1) rfl rfl kw_60 (fun _ => rfl) (by (try dsimp only); omega) (by decide) (by show _ ≤ 5; (try dsimp only); omega) (by show _ ≤ 120; (try dsimp only); omega) d_P_init_37 (fun q37 => ?_)
  refine jw_ws (w2 := (w0.set p (a, .inr (4, [.int (nI s), .int (nI c), .ref q16, .ref q23, .ref q30, .null, .null, .int 0, .int 0])) ++ [(q16, aI k n), (q23, aI k n), (q30, aI k n), (q37, aI k n)])) (by rw [List.append_assoc]; rfl) ?_
  refine jw_putF (pc := 39) (ty := (.array .int)) hX hK hin2 p tp_P uw_P tp_P_ok nm_P tc_P (wt_get _ _ hp) rfl 5 (by decide) kw_176 rfl (by decide +kernel) rfl rfl rfl d_P_init_39 ?_
  refine jw_ws (w2 := (w0.set p (a, .inr (4, [.int (nI s), .int (nI c), .ref q16, .ref q23, .ref q30, .ref q37, .null, .int 0, .int 0])) ++ [(q16, aI k n), (q23, aI k n), (q30, aI k n), (q37, aI k n)])) (wt_put _ _ _ hp) ?_
  refine jw_aload_n (pc := 42) hX d_P_init_42 rfl ?_
  refine jw_iload_n (pc := 43) hX d_P_init_43 rfl ?_
  refine jw_iload_n (pc := 44) hX d_P_init_44 rfl ?_
  refine jw_muln (pc := 45) hX d_P_init_45 ?_
  refine jw_newa (pc := 46) (n := (s * c)) (atype := .int) hX hK ((s * c), .inl fun _ => 0) (t0 := 1) rfl rfl kw_60 (fun _ => rfl) (by (try dsimp only); omega) (by decide) (by show _ ≤ 5; (try dsimp only); omega) (by show _ ≤ 120; (try dsimp only); omega) d_P_init_46 (fun q46 => ?_)
  refine jw_ws (w2 := (w0.set p (a, .inr (4, [.int (nI s), .int (nI c), .ref q16, .ref q23, .ref q30, .ref q37, .null, .int 0, .int 0])) ++ [(q16, aI k n), (q23, aI k n), (q30, aI k n), (q37, aI k n), (q46, aI k (s * c))])) (by rw [List.append_assoc]; rfl) ?_
  refine jw_putF (pc := 48) (ty := (.array .int)) hX hK hin2 p tp_P uw_P tp_P_ok nm_P tc_P (wt_get _ _ hp) rfl 6 (by decide) kw_177 rfl (by decide +kernel) rfl rfl rfl d_P_init_48 ?_
  refine jw_ws (w2 := (w0.set p (a, .inr (4, [.int (nI s), .int (nI c), .ref q16, .ref q23, .ref q30, .ref q37, .ref q46, .int 0, .int 0])) ++ [(q16, aI k n), (q23, aI k n), (q30, aI k n), (q37, aI k n), (q46, aI k (s * c))])) (wt_put _ _ _ hp) ?_
  exact jw_vret (pc := 51) hX (by show _ ≤ 5; (try dsimp only); omega) (by show _ ≤ 120; (try dsimp only); omega) d_P_init_51 ⟨fun j => [q16, q23, q30, q37, q46].getD j 0, rfl⟩
