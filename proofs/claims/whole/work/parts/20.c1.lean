/-! FrameRow, Math, Arrays, Channel, Loop: contracts (by program, wip/whole/gen/c1.py) -/
/-- k rounds of a loop -/
def fo {α : Type} (f : Nat → α → α) (u : α) : Nat → α
  | 0 => u
  | k + 1 => f k (fo f u k)
/-- the first of j numbers from k on that p holds of -/
def fnd (p : Nat → Bool) : Nat → Nat → Option Nat
  | 0, _ => none
  | j + 1, k => if p k then some k else fnd p j (k + 1)
/-- an answer or -1 -/
def io (o : Option Nat) : Int32 := match o with
  | some k => nI k
  | none => -1
theorem nx_xor (a b : Nat) : nI a ^^^ nI b = nI (a ^^^ b) := by
  apply Int32.toBitVec_inj.1
  show BitVec.ofNat 32 a ^^^ BitVec.ofNat 32 b = BitVec.ofNat 32 (a ^^^ b)
  apply BitVec.eq_of_getLsbD_eq
  intro i hi
  simp [hi]
/-- append: the row r takes a frame if it has fewer than four -/
def kc_append (u : UU) (r e : Nat) (x v : Int32) : UU := if u.1 8 r 3 < 4 then un (ui (ui (un u 12 r (u.1 8 r 3) e) 13 r (u.1 8 r 3) x) 14 r (u.1 8 r 3) v) 8 r 3 (u.1 8 r 3 + 1) else u
/-- one step of the shift in dropFirst -/
def kc_sh (r : Nat) (k : Nat) (w : UU) : UU := ui (ui (un w 12 r k (w.1 12 r (k + 1))) 13 r k (w.2.1 13 r (k + 1))) 14 r k (w.2.1 14 r (k + 1))
def kc_drop (u : UU) (r : Nat) : UU := if u.1 8 r 3 = 0 then u else fo (kc_sh r) (un u 8 r 3 (u.1 8 r 3 - 1)) (u.1 8 r 3 - 1)
theorem kc_sh_size (r : Nat) (u : UU) (k : Nat) : (fo (kc_sh r) u k).1 8 r 3 = u.1 8 r 3 := by
  induction k with
  | zero => rfl
  | succ k ih =>
    show (kc_sh r k (fo (kc_sh r) u k)).1 8 r 3 = _
    rw [← ih]
    simp [kc_sh, ui_1, un_1]
set_option maxRecDepth 100000 in
set_option maxHeartbeats 4000000 in
theorem c_F_append (l : Launch) (Y : YY) (n s c : Nat) (hV : pv_ok (vC Y n s c)) (u : UU) (r e : Nat) (x v : Int32) (hr : r < 2 * n) (hs : u.1 8 r 3 ≤ 4) : Ct l (vC Y n s c) ⟨"SlottedMesh$FrameRow", "append", "(III)Z"⟩ (wz ⟨"SlottedMesh$FrameRow", "append", "(III)Z"⟩ b_F_append 4 (some .boolean)) (rd 0) [.ref (pv_ad (vC Y n s c) 8 r), .int (nI e), .int x, .int v] u (some (.int (nI (if u.1 8 r 3 < 4 then 1 else 0)))) (kc_append u r e x v) := by
  refine ct_mk hV (by decide +kernel) (Nat.le_of_ble_eq_true rfl) (fun X hX => ?_)
  have hX : ox X (vC Y n s c) (rd 0) b_F_append 4 "SlottedMesh$FrameRow" gz (some .boolean) := hX
  show ow X (vC Y n s c) (some (.int (nI (if u.1 8 r 3 < 4 then 1 else 0)))) (kc_append u r e x v) u [(0, .ref (pv_ad (vC Y n s c) 8 r)), (1, .int (nI e)), (2, .int x), (3, .int v)] 0 []
  refine ow_aload_n (pc := 0) hX d_F_append_0 rfl ?_
  refine ow_gN (pc := 1) hX (kd_F Y n s c) 3 d_F_append_1 kw_48 rfl (by show _ < 2 * n; first | assumption | omega) ?_
  refine ow_iconst (pc := 4) (v := nI 4) hX d_F_append_4 (by decide) ?_
  refine ow_nc_lt (pc := 5) (tgt := 10) hX d_F_append_5 (by decide) (by first | assumption | omega) (by first | assumption | omega) (fun h5 => ?_) (fun h5 => ?_)
  · skip
    have hlt : u.1 8 r 3 < 4 := by omega
    refine ow_aload_n (pc := 10) hX d_F_append_10 rfl ?_
    refine ow_gR (pc := 11) hX (kd_F Y n s c) 0 d_F_append_11 kw_42 rfl (by show _ < 2 * n; first | assumption | omega) ?_
    refine ow_aload_n (pc := 14) hX d_F_append_14 rfl ?_
    refine ow_gN (pc := 15) hX (kd_F Y n s c) 3 d_F_append_15 kw_48 rfl (by show _ < 2 * n; first | assumption | omega) ?_
    refine ow_iload_n (pc := 18) hX d_F_append_18 rfl ?_
    refine ow_sN (pc := 19) hX rfl d_F_append_19 (by show _ < 2 * n; first | assumption | omega) (by show _ < 4; first | assumption | omega) ?_
    refine ow_aload_n (pc := 20) hX d_F_append_20 rfl ?_
    refine ow_gR (pc := 21) hX (kd_F Y n s c) 1 d_F_append_21 kw_44 rfl (by show _ < 2 * n; first | assumption | omega) ?_
    refine ow_aload_n (pc := 24) hX d_F_append_24 rfl ?_
    refine ow_gN (pc := 25) hX (kd_F Y n s c) 3 d_F_append_25 kw_48 rfl (by show _ < 2 * n; first | assumption | omega) ?_
    try simp only [un_1, un_2, ui_1, ui_2, ui_3, ul_1, ul_2, ul_3, ul_4, ur_1, ur_2, ur_3, ur_4, Nat.reduceEqDiff, false_and, and_false, true_and, and_true, and_self, reduceIte]
    refine ow_iload_n (pc := 28) hX d_F_append_28 rfl ?_
    refine ow_sI (pc := 29) hX rfl d_F_append_29 (by show _ < 2 * n; first | assumption | omega) (by show _ < 4; first | assumption | omega) ?_
    refine ow_aload_n (pc := 30) hX d_F_append_30 rfl ?_
    refine ow_gR (pc := 31) hX (kd_F Y n s c) 2 d_F_append_31 kw_46 rfl (by show _ < 2 * n; first | assumption | omega) ?_
    refine ow_aload_n (pc := 34) hX d_F_append_34 rfl ?_
    refine ow_gN (pc := 35) hX (kd_F Y n s c) 3 d_F_append_35 kw_48 rfl (by show _ < 2 * n; first | assumption | omega) ?_
    try simp only [un_1, un_2, ui_1, ui_2, ui_3, ul_1, ul_2, ul_3, ul_4, ur_1, ur_2, ur_3, ur_4, Nat.reduceEqDiff, false_and, and_false, true_and, and_true, and_self, reduceIte]
    refine ow_iload_n (pc := 38) hX d_F_append_38 rfl ?_
    refine ow_sI (pc := 39) hX rfl d_F_append_39 (by show _ < 2 * n; first | assumption | omega) (by show _ < 4; first | assumption | omega) ?_
    refine ow_aload_n (pc := 40) hX d_F_append_40 rfl ?_
    refine ow_dup (pc := 41) hX d_F_append_41 rfl ?_
    refine ow_gN (pc := 42) hX (kd_F Y n s c) 3 d_F_append_42 kw_48 rfl (by show _ < 2 * n; first | assumption | omega) ?_
    try simp only [un_1, un_2, ui_1, ui_2, ui_3, ul_1, ul_2, ul_3, ul_4, ur_1, ur_2, ur_3, ur_4, Nat.reduceEqDiff, false_and, and_false, true_and, and_true, and_self, reduceIte]
    refine ow_iconst (pc := 45) (v := nI 1) hX d_F_append_45 (by decide) ?_
    refine ow_addn (pc := 46) hX d_F_append_46 ?_
    refine ow_pN (pc := 47) hX (kd_F Y n s c) 3 d_F_append_47 kw_48 rfl (by show _ < 2 * n; first | assumption | omega) rfl (by decide +kernel) ?_
    refine ow_iconst (pc := 50) (v := nI 1) hX d_F_append_50 (by decide) ?_
    exact ow_zret (pc := 51) hX d_F_append_51 (nb_01 (by first | decide | assumption | omega | exact kbit_le _ _)) (by first | rfl | ((try simp only [kc_append]); (repeat' split) <;> first | rfl | omega | (simp_all; done) | (simp_all; omega))) (by first | rfl | ((try simp only [kc_append]); (repeat' split) <;> first | rfl | omega | (simp_all; done) | (simp_all; omega)))
  · skip
    refine ow_iconst (pc := 8) (v := nI 0) hX d_F_append_8 (by decide) ?_
    exact ow_zret (pc := 9) hX d_F_append_9 (nb_01 (by first | decide | assumption | omega | exact kbit_le _ _)) (by first | rfl | ((try simp only [kc_append]); (repeat' split) <;> first | rfl | omega | (simp_all; done) | (simp_all; omega))) (by first | rfl | ((try simp only [kc_append]); (repeat' split) <;> first | rfl | omega | (simp_all; done) | (simp_all; omega)))
set_option maxRecDepth 100000 in
set_option maxHeartbeats 4000000 in
theorem w_F_dropFirst {X : OX} (Y : YY) (n s c : Nat) (hX : ox X (vC Y n s c) (rd 0) b_F_dropFirst 2 "SlottedMesh$FrameRow" gz none) (r : Nat) (hr : r < 2 * n) (u1 : UU) (m : Nat) (hm : u1.1 8 r 3 = m) (hm3 : m ≤ 3) : ∀ j k, k + j = m → ow X (vC Y n s c) none (fo (kc_sh r) u1 m) (fo (kc_sh r) u1 k) [(0, .ref (pv_ad (vC Y n s c) 8 r)), (1, .int (nI k))] 20 [] := by
  intro j
  induction j with
  | zero =>
    intro k hk
    refine ow_iload_n (pc := 20) hX d_F_dropFirst_20 rfl ?_
    refine ow_aload_n (pc := 21) hX d_F_dropFirst_21 rfl ?_
    refine ow_gN (pc := 22) hX (kd_F Y n s c) 3 d_F_dropFirst_22 kw_48 rfl (by show _ < 2 * n; first | assumption | omega) ?_
    rw [kc_sh_size, hm]
    refine ow_nc_ge (pc := 25) (tgt := 76) hX d_F_dropFirst_25 (by decide) (by first | assumption | omega) (by first | assumption | omega) (fun h25 => ?_) (fun h25 => ?_)
    · skip
      exact ow_vret (pc := 76) hX d_F_dropFirst_76 rfl (by rw [show m = k by omega])
    · skip
      exact absurd h25 (by omega)
  | succ j ih =>
    intro k hk
    refine ow_iload_n (pc := 20) hX d_F_dropFirst_20 rfl ?_
    refine ow_aload_n (pc := 21) hX d_F_dropFirst_21 rfl ?_
    refine ow_gN (pc := 22) hX (kd_F Y n s c) 3 d_F_dropFirst_22 kw_48 rfl (by show _ < 2 * n; first | assumption | omega) ?_
    rw [kc_sh_size, hm]
    refine ow_nc_ge (pc := 25) (tgt := 76) hX d_F_dropFirst_25 (by decide) (by first | assumption | omega) (by first | assumption | omega) (fun h25 => ?_) (fun h25 => ?_)
    · skip
      exact absurd h25 (by omega)
    · skip
      refine ow_aload_n (pc := 28) hX d_F_dropFirst_28 rfl ?_
      refine ow_gR (pc := 29) hX (kd_F Y n s c) 0 d_F_dropFirst_29 kw_42 rfl (by show _ < 2 * n; first | assumption | omega) ?_
      refine ow_iload_n (pc := 32) hX d_F_dropFirst_32 rfl ?_
      refine ow_aload_n (pc := 33) hX d_F_dropFirst_33 rfl ?_
      refine ow_gR (pc := 34) hX (kd_F Y n s c) 0 d_F_dropFirst_34 kw_42 rfl (by show _ < 2 * n; first | assumption | omega) ?_
      refine ow_iload_n (pc := 37) hX d_F_dropFirst_37 rfl ?_
      refine ow_iconst (pc := 38) (v := nI 1) hX d_F_dropFirst_38 (by decide) ?_
      refine ow_addn (pc := 39) hX d_F_dropFirst_39 ?_
      refine ow_aN (pc := 40) hX rfl d_F_dropFirst_40 (by show _ < 2 * n; first | assumption | omega) (by show _ < 4; first | assumption | omega) ?_
      refine ow_sN (pc := 41) hX rfl d_F_dropFirst_41 (by show _ < 2 * n; first | assumption | omega) (by show _ < 4; first | assumption | omega) ?_
      refine ow_aload_n (pc := 42) hX d_F_dropFirst_42 rfl ?_
      refine ow_gR (pc := 43) hX (kd_F Y n s c) 1 d_F_dropFirst_43 kw_44 rfl (by show _ < 2 * n; first | assumption | omega) ?_
      refine ow_iload_n (pc := 46) hX d_F_dropFirst_46 rfl ?_
      refine ow_aload_n (pc := 47) hX d_F_dropFirst_47 rfl ?_
      refine ow_gR (pc := 48) hX (kd_F Y n s c) 1 d_F_dropFirst_48 kw_44 rfl (by show _ < 2 * n; first | assumption | omega) ?_
      refine ow_iload_n (pc := 51) hX d_F_dropFirst_51 rfl ?_
      refine ow_iconst (pc := 52) (v := nI 1) hX d_F_dropFirst_52 (by decide) ?_
      refine ow_addn (pc := 53) hX d_F_dropFirst_53 ?_
      refine ow_aI (pc := 54) hX rfl d_F_dropFirst_54 (by show _ < 2 * n; first | assumption | omega) (by show _ < 4; first | assumption | omega) ?_
      try simp only [un_1, un_2, ui_1, ui_2, ui_3, ul_1, ul_2, ul_3, ul_4, ur_1, ur_2, ur_3, ur_4, Nat.reduceEqDiff, false_and, and_false, true_and, and_true, and_self, reduceIte]
      refine ow_sI (pc := 55) hX rfl d_F_dropFirst_55 (by show _ < 2 * n; first | assumption | omega) (by show _ < 4; first | assumption | omega) ?_
      refine ow_aload_n (pc := 56) hX d_F_dropFirst_56 rfl ?_
      refine ow_gR (pc := 57) hX (kd_F Y n s c) 2 d_F_dropFirst_57 kw_46 rfl (by show _ < 2 * n; first | assumption | omega) ?_
      refine ow_iload_n (pc := 60) hX d_F_dropFirst_60 rfl ?_
      refine ow_aload_n (pc := 61) hX d_F_dropFirst_61 rfl ?_
      refine ow_gR (pc := 62) hX (kd_F Y n s c) 2 d_F_dropFirst_62 kw_46 rfl (by show _ < 2 * n; first | assumption | omega) ?_
      refine ow_iload_n (pc := 65) hX d_F_dropFirst_65 rfl ?_
      refine ow_iconst (pc := 66) (v := nI 1) hX d_F_dropFirst_66 (by decide) ?_
      refine ow_addn (pc := 67) hX d_F_dropFirst_67 ?_
      refine ow_aI (pc := 68) hX rfl d_F_dropFirst_68 (by show _ < 2 * n; first | assumption | omega) (by show _ < 4; first | assumption | omega) ?_
      try simp only [un_1, un_2, ui_1, ui_2, ui_3, ul_1, ul_2, ul_3, ul_4, ur_1, ur_2, ur_3, ur_4, Nat.reduceEqDiff, false_and, and_false, true_and, and_true, and_self, reduceIte]
      refine ow_sI (pc := 69) hX rfl d_F_dropFirst_69 (by show _ < 2 * n; first | assumption | omega) (by show _ < 4; first | assumption | omega) ?_
      refine ow_iinc (pc := 70) (l2 := [(0, _), (1, _)]) hX d_F_dropFirst_70 rfl (ii_1 _) (by decide) rfl rfl ?_
      refine ow_goto (pc := 73) (tgt := 20) hX d_F_dropFirst_73 (by decide) ?_
      exact ih (k + 1) (by omega)
set_option maxRecDepth 100000 in
set_option maxHeartbeats 4000000 in
theorem c_F_dropFirst (l : Launch) (Y : YY) (n s c : Nat) (hV : pv_ok (vC Y n s c)) (u : UU) (r : Nat) (hr : r < 2 * n) (hs : u.1 8 r 3 ≤ 4) : Ct l (vC Y n s c) ⟨"SlottedMesh$FrameRow", "dropFirst", "()V"⟩ (wz ⟨"SlottedMesh$FrameRow", "dropFirst", "()V"⟩ b_F_dropFirst 2 none) (rd 0) [.ref (pv_ad (vC Y n s c) 8 r)] u none (kc_drop u r) := by
  refine ct_mk hV (by decide +kernel) (Nat.le_of_ble_eq_true rfl) (fun X hX => ?_)
  have hX : ox X (vC Y n s c) (rd 0) b_F_dropFirst 2 "SlottedMesh$FrameRow" gz none := hX
  show ow X (vC Y n s c) none (kc_drop u r) u [(0, .ref (pv_ad (vC Y n s c) 8 r))] 0 []
  refine ow_aload_n (pc := 0) hX d_F_dropFirst_0 rfl ?_
  refine ow_gN (pc := 1) hX (kd_F Y n s c) 3 d_F_dropFirst_1 kw_48 rfl (by show _ < 2 * n; first | assumption | omega) ?_
  refine ow_nz_ne (pc := 4) (tgt := 8) hX d_F_dropFirst_4 (by decide) (by first | assumption | omega) (fun h4 => ?_) (fun h4 => ?_)
  · skip
    refine ow_aload_n (pc := 8) hX d_F_dropFirst_8 rfl ?_
    refine ow_dup (pc := 9) hX d_F_dropFirst_9 rfl ?_
    refine ow_gN (pc := 10) hX (kd_F Y n s c) 3 d_F_dropFirst_10 kw_48 rfl (by show _ < 2 * n; first | assumption | omega) ?_
    refine ow_iconst (pc := 13) (v := nI 1) hX d_F_dropFirst_13 (by decide) ?_
    refine ow_subn (pc := 14) hX d_F_dropFirst_14 (by first | assumption | omega) ?_
    refine ow_pN (pc := 15) hX (kd_F Y n s c) 3 d_F_dropFirst_15 kw_48 rfl (by show _ < 2 * n; first | assumption | omega) rfl (by decide +kernel) ?_
    refine ow_iconst (pc := 18) (v := nI 0) hX d_F_dropFirst_18 (by decide) ?_
    refine ow_istore_n (pc := 19) (l2 := [(0, _), (1, _)]) hX d_F_dropFirst_19 (by decide) rfl rfl ?_
    have e : kc_drop u r = fo (kc_sh r) (un u 8 r 3 (u.1 8 r 3 - 1)) (u.1 8 r 3 - 1) := by unfold kc_drop; rw [if_neg h4]
    rw [e]
    exact w_F_dropFirst Y n s c hX r hr _ _ (by simp [un_1]) (by omega) (u.1 8 r 3 - 1) 0 (by omega)
  · skip
    exact ow_vret (pc := 7) hX d_F_dropFirst_7 rfl (by first | rfl | ((try simp only [kc_drop]); (repeat' split) <;> first | rfl | omega | (simp_all; done) | (simp_all; omega)))
set_option maxRecDepth 100000 in
set_option maxHeartbeats 4000000 in
theorem c_F_clear (l : Launch) (Y : YY) (n s c : Nat) (hV : pv_ok (vC Y n s c)) (u : UU) (r : Nat) (hr : r < 2 * n) : Ct l (vC Y n s c) ⟨"SlottedMesh$FrameRow", "clear", "()V"⟩ (wz ⟨"SlottedMesh$FrameRow", "clear", "()V"⟩ b_F_clear 1 none) (rd 0) [.ref (pv_ad (vC Y n s c) 8 r)] u none (un u 8 r 3 0) := by
  refine ct_mk hV (by decide +kernel) (Nat.le_of_ble_eq_true rfl) (fun X hX => ?_)
  have hX : ox X (vC Y n s c) (rd 0) b_F_clear 1 "SlottedMesh$FrameRow" gz none := hX
  show ow X (vC Y n s c) none (un u 8 r 3 0) u [(0, .ref (pv_ad (vC Y n s c) 8 r))] 0 []
  refine ow_aload_n (pc := 0) hX d_F_clear_0 rfl ?_
  refine ow_iconst (pc := 1) (v := nI 0) hX d_F_clear_1 (by decide) ?_
  refine ow_pN (pc := 2) hX (kd_F Y n s c) 3 d_F_clear_2 kw_48 rfl (by show _ < 2 * n; first | assumption | omega) rfl (by decide +kernel) ?_
  exact ow_vret (pc := 5) hX d_F_clear_5 rfl (by rfl)
/-- floorDiv by 16, as the JDK has it -/
def kfd (x : Int32) : Int32 := if 0 ≤ x ^^^ nI 16 then x / nI 16 else if x / nI 16 * nI 16 = x then x / nI 16 else x / nI 16 - nI 1
/-- nearest -/
def knear (v lo hi : Int32) : Int32 := if lo < (if v < hi then v else hi) then (if v < hi then v else hi) else lo
set_option maxRecDepth 100000 in
set_option maxHeartbeats 4000000 in
theorem c_T_floorMod (l : Launch) (Y : YY) (n s c : Nat) (hV : pv_ok (vC Y n s c)) (u : UU) (a b : Nat) (ha : a < 2 ^ 31) (h0 : 0 < b) (hb : b < 2 ^ 31) : Ct l (vC Y n s c) ⟨"java/lang/Math", "floorMod", "(II)I"⟩ (wz ⟨"java/lang/Math", "floorMod", "(II)I"⟩ b_T_floorMod 3 (some .int)) (rd 0) [.int (nI a), .int (nI b)] u (some (.int (nI (a % b)))) (u) := by
  refine ct_mk hV (by decide +kernel) (Nat.le_of_ble_eq_true rfl) (fun X hX => ?_)
  have hX : ox X (vC Y n s c) (rd 0) b_T_floorMod 3 "java/lang/Math" gz (some .int) := hX
  show ow X (vC Y n s c) (some (.int (nI (a % b)))) (u) u [(0, .int (nI a)), (1, .int (nI b))] 0 []
  have hx : a ^^^ b < 2 ^ 31 := Nat.xor_lt_two_pow ha hb
  refine ow_iload_n (pc := 0) hX d_T_floorMod_0 rfl ?_
  refine ow_iload_n (pc := 1) hX d_T_floorMod_1 rfl ?_
  refine ow_remn (pc := 2) hX d_T_floorMod_2 (by first | assumption | omega) (by first | assumption | omega) (by first | assumption | omega) ?_
  refine ow_istore_n (pc := 3) (l2 := [(0, _), (1, _), (2, _)]) hX d_T_floorMod_3 (by decide) rfl rfl ?_
  refine ow_iload_n (pc := 4) hX d_T_floorMod_4 rfl ?_
  refine ow_iload_n (pc := 5) hX d_T_floorMod_5 rfl ?_
  refine ow_ixor (pc := 6) hX d_T_floorMod_6 ?_
  rw [nx_xor]
  refine ow_nz_ge (pc := 7) (tgt := 18) hX d_T_floorMod_7 (by decide) (by first | assumption | omega) ?_
  refine ow_iload_n (pc := 18) hX d_T_floorMod_18 rfl ?_
  exact ow_iret (pc := 19) hX d_T_floorMod_19 (by rfl) (by rfl)
set_option maxRecDepth 100000 in
set_option maxHeartbeats 4000000 in
theorem c_T_floorDiv (l : Launch) (Y : YY) (n s c : Nat) (hV : pv_ok (vC Y n s c)) (u : UU) (x : Int32) : Ct l (vC Y n s c) ⟨"java/lang/Math", "floorDiv", "(II)I"⟩ (wz ⟨"java/lang/Math", "floorDiv", "(II)I"⟩ b_T_floorDiv 3 (some .int)) (rd 0) [.int x, .int (nI 16)] u (some (.int (kfd x))) (u) := by
  refine ct_mk hV (by decide +kernel) (Nat.le_of_ble_eq_true rfl) (fun X hX => ?_)
  have hX : ox X (vC Y n s c) (rd 0) b_T_floorDiv 3 "java/lang/Math" gz (some .int) := hX
  show ow X (vC Y n s c) (some (.int (kfd x))) (u) u [(0, .int x), (1, .int (nI 16))] 0 []
  refine ow_iload_n (pc := 0) hX d_T_floorDiv_0 rfl ?_
  refine ow_iload_n (pc := 1) hX d_T_floorDiv_1 rfl ?_
  refine ow_idiv (pc := 2) hX d_T_floorDiv_2 (by first | assumption | omega | decide) ?_
  refine ow_istore_n (pc := 3) (l2 := [(0, _), (1, _), (2, _)]) hX d_T_floorDiv_3 (by decide) rfl rfl ?_
  refine ow_iload_n (pc := 4) hX d_T_floorDiv_4 rfl ?_
  refine ow_iload_n (pc := 5) hX d_T_floorDiv_5 rfl ?_
  refine ow_ixor (pc := 6) hX d_T_floorDiv_6 ?_
  refine ow_if_ge (pc := 7) (tgt := 21) hX d_T_floorDiv_7 (by decide) (fun h7 => ?_) (fun h7 => ?_)
  · skip
    refine ow_iload_n (pc := 21) hX d_T_floorDiv_21 rfl ?_
    exact ow_iret (pc := 22) hX d_T_floorDiv_22 (by first | rfl | ((try simp only [kfd]); (repeat' split) <;> first | rfl | omega | (simp_all; done) | (simp_all; omega))) (by first | rfl | ((try simp only [kfd]); (repeat' split) <;> first | rfl | omega | (simp_all; done) | (simp_all; omega)))
  · skip
    refine ow_iload_n (pc := 10) hX d_T_floorDiv_10 rfl ?_
    refine ow_iload_n (pc := 11) hX d_T_floorDiv_11 rfl ?_
    refine ow_imul (pc := 12) hX d_T_floorDiv_12 ?_
    refine ow_iload_n (pc := 13) hX d_T_floorDiv_13 rfl ?_
    refine ow_ic_eq (pc := 14) (tgt := 21) hX d_T_floorDiv_14 (by decide) (fun h14 => ?_) (fun h14 => ?_)
    · skip
      refine ow_iload_n (pc := 21) hX d_T_floorDiv_21 rfl ?_
      exact ow_iret (pc := 22) hX d_T_floorDiv_22 (by first | rfl | ((try simp only [kfd]); (repeat' split) <;> first | rfl | omega | (simp_all; done) | (simp_all; omega))) (by first | rfl | ((try simp only [kfd]); (repeat' split) <;> first | rfl | omega | (simp_all; done) | (simp_all; omega)))
    · skip
      refine ow_iload_n (pc := 17) hX d_T_floorDiv_17 rfl ?_
      refine ow_iconst (pc := 18) (v := nI 1) hX d_T_floorDiv_18 (by decide) ?_
      refine ow_isub (pc := 19) hX d_T_floorDiv_19 ?_
      exact ow_iret (pc := 20) hX d_T_floorDiv_20 (by first | rfl | ((try simp only [kfd]); (repeat' split) <;> first | rfl | omega | (simp_all; done) | (simp_all; omega))) (by first | rfl | ((try simp only [kfd]); (repeat' split) <;> first | rfl | omega | (simp_all; done) | (simp_all; omega)))
set_option maxRecDepth 100000 in
set_option maxHeartbeats 4000000 in
theorem c_S_nearest (l : Launch) (Y : YY) (n s c : Nat) (hV : pv_ok (vC Y n s c)) (u : UU) (v lo hi : Int32) : Ct l (vC Y n s c) ⟨"SlottedMesh", "nearest", "(III)I"⟩ (wz ⟨"SlottedMesh", "nearest", "(III)I"⟩ b_S_nearest 3 (some .int)) (rd 1) [.int v, .int lo, .int hi] u (some (.int (knear v lo hi))) (u) := by
  refine ct_mk hV (by decide +kernel) (Nat.le_of_ble_eq_true rfl) (fun X hX => ?_)
  have hX : ox X (vC Y n s c) (rd 1) b_S_nearest 3 "SlottedMesh" gz (some .int) := hX
  show ow X (vC Y n s c) (some (.int (knear v lo hi))) (u) u [(0, .int v), (1, .int lo), (2, .int hi)] 0 []
  refine ow_iload_n (pc := 0) hX d_S_nearest_0 rfl ?_
  refine ow_iload_n (pc := 1) hX d_S_nearest_1 rfl ?_
  refine ow_iload_n (pc := 2) hX d_S_nearest_2 rfl ?_
  refine ow_min (pc := 3) hX d_S_nearest_3 kw_21 kw_22 kw_2 kw_23 (by decide) (Nat.le_of_ble_eq_true rfl) ?_
  refine ow_max (pc := 6) hX d_S_nearest_6 kw_24 kw_25 kw_2 kw_26 (by decide) (Nat.le_of_ble_eq_true rfl) ?_
  exact ow_iret (pc := 9) hX d_S_nearest_9 (by rfl) (by rfl)
set_option maxRecDepth 100000 in
set_option maxHeartbeats 4000000 in
theorem w_A_fill_i {X : OX} (Y : YY) (n s c : Nat) (hX : ox X (vC Y n s c) (rd 0) b_A_fill 4 "java/util/Arrays" gz none) (kk i z : Nat) (v : Int32) (hs : shC s c kk = .inr (1, .int, z)) (hi : i < bdC n c kk) (hl : lnC n s c kk < 2 ^ 31) (u : UU) : ∀ j k, k + j = lnC n s c kk → ow X (vC Y n s c) none (fo (fun j w => ui w kk i j v) u (lnC n s c kk)) (fo (fun j w => ui w kk i j v) u k) [(0, .ref (pv_ad (vC Y n s c) kk i)), (1, .int v), (2, .int (nI k)), (3, .int (nI (lnC n s c kk)))] 5 [] := by
  intro j
  induction j with
  | zero =>
    intro k hk
    refine ow_iload_n (pc := 5) hX d_A_fill_5 rfl ?_
    refine ow_iload_n (pc := 6) hX d_A_fill_6 rfl ?_
    refine ow_nc_ge (pc := 7) (tgt := 20) hX d_A_fill_7 (by decide) (by first | assumption | omega) (by first | assumption | omega) (fun h7 => ?_) (fun h7 => ?_)
    · skip
      exact ow_vret (pc := 20) hX d_A_fill_20 rfl (by rw [show lnC n s c kk = k by omega])
    · skip
      exact absurd h7 (by omega)
  | succ j ih =>
    intro k hk
    refine ow_iload_n (pc := 5) hX d_A_fill_5 rfl ?_
    refine ow_iload_n (pc := 6) hX d_A_fill_6 rfl ?_
    refine ow_nc_ge (pc := 7) (tgt := 20) hX d_A_fill_7 (by decide) (by first | assumption | omega) (by first | assumption | omega) (fun h7 => ?_) (fun h7 => ?_)
    · skip
      exact absurd h7 (by omega)
    · skip
      refine ow_aload_n (pc := 10) hX d_A_fill_10 rfl ?_
      refine ow_iload_n (pc := 11) hX d_A_fill_11 rfl ?_
      refine ow_iload_n (pc := 12) hX d_A_fill_12 rfl ?_
      refine ow_sI (pc := 13) hX hs d_A_fill_13 (by show _ < bdC n c kk; first | assumption | omega) (by show _ < lnC n s c kk; first | assumption | omega) ?_
      refine ow_iinc (pc := 14) (l2 := [(0, _), (1, _), (2, _), (3, _)]) hX d_A_fill_14 rfl (ii_1 _) (by decide) rfl rfl ?_
      refine ow_goto (pc := 17) (tgt := 5) hX d_A_fill_17 (by decide) ?_
      exact ih (k + 1) (by omega)
set_option maxRecDepth 100000 in
set_option maxHeartbeats 4000000 in
theorem c_A_fill_i (l : Launch) (Y : YY) (n s c : Nat) (hV : pv_ok (vC Y n s c)) (u : UU) (kk i z : Nat) (v : Int32) (hs : shC s c kk = .inr (1, .int, z)) (hi : i < bdC n c kk) (hl : lnC n s c kk < 2 ^ 31) : Ct l (vC Y n s c) ⟨"java/util/Arrays", "fill", "([II)V"⟩ (wz ⟨"java/util/Arrays", "fill", "([II)V"⟩ b_A_fill 4 none) (rd 0) [.ref (pv_ad (vC Y n s c) kk i), .int v] u none (fo (fun j w => ui w kk i j v) u (lnC n s c kk)) := by
  refine ct_mk hV (by decide +kernel) (Nat.le_of_ble_eq_true rfl) (fun X hX => ?_)
  have hX : ox X (vC Y n s c) (rd 0) b_A_fill 4 "java/util/Arrays" gz none := hX
  show ow X (vC Y n s c) none (fo (fun j w => ui w kk i j v) u (lnC n s c kk)) u [(0, .ref (pv_ad (vC Y n s c) kk i)), (1, .int v)] 0 []
  refine ow_iconst (pc := 0) (v := nI 0) hX d_A_fill_0 (by decide) ?_
  refine ow_istore_n (pc := 1) (l2 := [(0, _), (1, _), (2, _)]) hX d_A_fill_1 (by decide) rfl rfl ?_
  refine ow_aload_n (pc := 2) hX d_A_fill_2 rfl ?_
  refine ow_len (pc := 3) hX hs (by decide) d_A_fill_3 (by show _ < bdC n c kk; first | assumption | omega) ?_
  refine ow_st (st2 := .int (nI (lnC n s c kk)) :: _) rfl ?_
  refine ow_istore_n (pc := 4) (l2 := [(0, _), (1, _), (2, _), (3, _)]) hX d_A_fill_4 (by decide) rfl rfl ?_
  exact w_A_fill_i Y n s c hX kk i z v hs hi hl u (lnC n s c kk) 0 (by omega)
set_option maxRecDepth 100000 in
set_option maxHeartbeats 4000000 in
theorem w_A_fill_n {X : OX} (Y : YY) (n s c : Nat) (hX : ox X (vC Y n s c) (rd 0) b_A_fill 4 "java/util/Arrays" gz none) (kk i z : Nat) (v : Nat) (hs : shC s c kk = .inr (0, .int, z)) (hi : i < bdC n c kk) (hl : lnC n s c kk < 2 ^ 31) (u : UU) : ∀ j k, k + j = lnC n s c kk → ow X (vC Y n s c) none (fo (fun j w => un w kk i j v) u (lnC n s c kk)) (fo (fun j w => un w kk i j v) u k) [(0, .ref (pv_ad (vC Y n s c) kk i)), (1, .int (nI v)), (2, .int (nI k)), (3, .int (nI (lnC n s c kk)))] 5 [] := by
  intro j
  induction j with
  | zero =>
    intro k hk
    refine ow_iload_n (pc := 5) hX d_A_fill_5 rfl ?_
    refine ow_iload_n (pc := 6) hX d_A_fill_6 rfl ?_
    refine ow_nc_ge (pc := 7) (tgt := 20) hX d_A_fill_7 (by decide) (by first | assumption | omega) (by first | assumption | omega) (fun h7 => ?_) (fun h7 => ?_)
    · skip
      exact ow_vret (pc := 20) hX d_A_fill_20 rfl (by rw [show lnC n s c kk = k by omega])
    · skip
      exact absurd h7 (by omega)
  | succ j ih =>
    intro k hk
    refine ow_iload_n (pc := 5) hX d_A_fill_5 rfl ?_
    refine ow_iload_n (pc := 6) hX d_A_fill_6 rfl ?_
    refine ow_nc_ge (pc := 7) (tgt := 20) hX d_A_fill_7 (by decide) (by first | assumption | omega) (by first | assumption | omega) (fun h7 => ?_) (fun h7 => ?_)
    · skip
      exact absurd h7 (by omega)
    · skip
      refine ow_aload_n (pc := 10) hX d_A_fill_10 rfl ?_
      refine ow_iload_n (pc := 11) hX d_A_fill_11 rfl ?_
      refine ow_iload_n (pc := 12) hX d_A_fill_12 rfl ?_
      refine ow_sN (pc := 13) hX hs d_A_fill_13 (by show _ < bdC n c kk; first | assumption | omega) (by show _ < lnC n s c kk; first | assumption | omega) ?_
      refine ow_iinc (pc := 14) (l2 := [(0, _), (1, _), (2, _), (3, _)]) hX d_A_fill_14 rfl (ii_1 _) (by decide) rfl rfl ?_
      refine ow_goto (pc := 17) (tgt := 5) hX d_A_fill_17 (by decide) ?_
      exact ih (k + 1) (by omega)
set_option maxRecDepth 100000 in
set_option maxHeartbeats 4000000 in
theorem c_A_fill_n (l : Launch) (Y : YY) (n s c : Nat) (hV : pv_ok (vC Y n s c)) (u : UU) (kk i z : Nat) (v : Nat) (hs : shC s c kk = .inr (0, .int, z)) (hi : i < bdC n c kk) (hl : lnC n s c kk < 2 ^ 31) : Ct l (vC Y n s c) ⟨"java/util/Arrays", "fill", "([II)V"⟩ (wz ⟨"java/util/Arrays", "fill", "([II)V"⟩ b_A_fill 4 none) (rd 0) [.ref (pv_ad (vC Y n s c) kk i), .int (nI v)] u none (fo (fun j w => un w kk i j v) u (lnC n s c kk)) := by
  refine ct_mk hV (by decide +kernel) (Nat.le_of_ble_eq_true rfl) (fun X hX => ?_)
  have hX : ox X (vC Y n s c) (rd 0) b_A_fill 4 "java/util/Arrays" gz none := hX
  show ow X (vC Y n s c) none (fo (fun j w => un w kk i j v) u (lnC n s c kk)) u [(0, .ref (pv_ad (vC Y n s c) kk i)), (1, .int (nI v))] 0 []
  refine ow_iconst (pc := 0) (v := nI 0) hX d_A_fill_0 (by decide) ?_
  refine ow_istore_n (pc := 1) (l2 := [(0, _), (1, _), (2, _)]) hX d_A_fill_1 (by decide) rfl rfl ?_
  refine ow_aload_n (pc := 2) hX d_A_fill_2 rfl ?_
  refine ow_len (pc := 3) hX hs (by decide) d_A_fill_3 (by show _ < bdC n c kk; first | assumption | omega) ?_
  refine ow_st (st2 := .int (nI (lnC n s c kk)) :: _) rfl ?_
  refine ow_istore_n (pc := 4) (l2 := [(0, _), (1, _), (2, _), (3, _)]) hX d_A_fill_4 (by decide) rfl rfl ?_
  exact w_A_fill_n Y n s c hX kk i z v hs hi hl u (lnC n s c kk) 0 (by omega)
/-- a bit of a row of 64 -/
def kbit (b : Int64) (t : Nat) : Nat := if ((b.toUInt64 >>> ((nI (t % 64)).toInt64.toUInt64 &&& Int64.toUInt64 63)).toInt64 &&& 1) = 1 then 1 else 0
theorem kbit_le (b : Int64) (t : Nat) : kbit b t ≤ 1 := by unfold kbit; split <;> omega
set_option maxRecDepth 100000 in
set_option maxHeartbeats 4000000 in
theorem c_H_bitAt (l : Launch) (Y : YY) (n s c : Nat) (hV : pv_ok (vC Y n s c)) (u : UU) (b : Int64) (t : Nat) (ht : t < 2 ^ 31) : Ct l (vC Y n s c) ⟨"SlottedMesh$Channel", "bitAt", "(JI)Z"⟩ (wz ⟨"SlottedMesh$Channel", "bitAt", "(JI)Z"⟩ b_H_bitAt 3 (some .boolean)) (rd 1) [.long b, .int (nI t)] u (some (.int (nI (kbit b t)))) (u) := by
  refine ct_mk hV (by decide +kernel) (Nat.le_of_ble_eq_true rfl) (fun X hX => ?_)
  have hX : ox X (vC Y n s c) (rd 1) b_H_bitAt 3 "SlottedMesh$Channel" gz (some .boolean) := hX
  show ow X (vC Y n s c) (some (.int (nI (kbit b t)))) (u) u [(0, .long b), (2, .int (nI t))] 0 []
  refine ow_lload_n (pc := 0) hX d_H_bitAt_0 rfl ?_
  refine ow_iload_n (pc := 1) hX d_H_bitAt_1 rfl ?_
  refine ow_bipush (pc := 2) (v := nI 64) hX d_H_bitAt_2 (by decide) ?_
  refine ow_callS (pc := 4) hX (c_T_floorMod _ Y n s c hV u t 64 ht (by decide) (by decide)) (cw_S hX mz_T_floorMod kw_382 ⟨rfl, rfl⟩ (by decide)) rfl (Nat.le_of_ble_eq_true rfl) d_H_bitAt_4 rfl ?_
  refine ow_lushr (pc := 7) hX d_H_bitAt_7 ?_
  refine ow_lconst (pc := 8) (v := 1) hX d_H_bitAt_8 (by decide) ?_
  refine ow_land (pc := 9) hX d_H_bitAt_9 ?_
  refine ow_lconst (pc := 10) (v := 1) hX d_H_bitAt_10 (by decide) ?_
  refine ow_lcmp (pc := 11) hX d_H_bitAt_11 ?_
  refine ow_if_ne (pc := 12) (tgt := 19) hX d_H_bitAt_12 (by decide) (fun h12 => ?_) (fun h12 => ?_)
  · skip
    rw [lg_cmp_eq] at h12
    refine ow_iconst (pc := 19) (v := nI 0) hX d_H_bitAt_19 (by decide) ?_
    exact ow_zret (pc := 20) hX d_H_bitAt_20 (nb_01 (by first | decide | assumption | omega | exact kbit_le _ _)) (by first | rfl | ((try simp only [kbit]); (repeat' split) <;> first | rfl | omega | (simp_all; done) | (simp_all; omega))) (by first | rfl | ((try simp only [kbit]); (repeat' split) <;> first | rfl | omega | (simp_all; done) | (simp_all; omega)))
  · skip
    rw [lg_cmp_eq] at h12
    refine ow_iconst (pc := 15) (v := nI 1) hX d_H_bitAt_15 (by decide) ?_
    refine ow_goto (pc := 16) (tgt := 20) hX d_H_bitAt_16 (by decide) ?_
    exact ow_zret (pc := 20) hX d_H_bitAt_20 (nb_01 (by first | decide | assumption | omega | exact kbit_le _ _)) (by first | rfl | ((try simp only [kbit]); (repeat' split) <;> first | rfl | omega | (simp_all; done) | (simp_all; omega))) (by first | rfl | ((try simp only [kbit]); (repeat' split) <;> first | rfl | omega | (simp_all; done) | (simp_all; omega)))
set_option maxRecDepth 100000 in
set_option maxHeartbeats 4000000 in
theorem c_H_carriesFrame (l : Launch) (Y : YY) (n s c : Nat) (hV : pv_ok (vC Y n s c)) (u : UU) (i t : Nat) (hi : i < c) (ht : t < 2 ^ 31) : Ct l (vC Y n s c) ⟨"SlottedMesh$Channel", "carriesFrame", "(I)Z"⟩ (wz ⟨"SlottedMesh$Channel", "carriesFrame", "(I)Z"⟩ b_H_carriesFrame 2 (some .boolean)) (rd 2) [.ref (pv_ad (vC Y n s c) 5 i), .int (nI t)] u (some (.int (nI (kbit (u.2.2.1 5 i 0) t)))) (u) := by
  refine ct_mk hV (by decide +kernel) (Nat.le_of_ble_eq_true rfl) (fun X hX => ?_)
  have hX : ox X (vC Y n s c) (rd 2) b_H_carriesFrame 2 "SlottedMesh$Channel" gz (some .boolean) := hX
  show ow X (vC Y n s c) (some (.int (nI (kbit (u.2.2.1 5 i 0) t)))) (u) u [(0, .ref (pv_ad (vC Y n s c) 5 i)), (1, .int (nI t))] 0 []
  refine ow_aload_n (pc := 0) hX d_H_carriesFrame_0 rfl ?_
  refine ow_gL (pc := 1) hX (kd_H Y n s c) 0 d_H_carriesFrame_1 kw_153 rfl (by show _ < c; first | assumption | omega) ?_
  refine ow_iload_n (pc := 4) hX d_H_carriesFrame_4 rfl ?_
  refine ow_callS (pc := 5) hX (c_H_bitAt _ Y n s c hV u _ t ht) (cw_S hX mz_H_bitAt kw_379 ⟨rfl, rfl⟩ (by decide)) rfl (Nat.le_of_ble_eq_true rfl) d_H_carriesFrame_5 rfl ?_
  exact ow_zret (pc := 8) hX d_H_carriesFrame_8 (nb_01 (by first | decide | assumption | omega | exact kbit_le _ _)) (by rfl) (by rfl)
set_option maxRecDepth 100000 in
set_option maxHeartbeats 4000000 in
theorem c_H_carriesConfirmation (l : Launch) (Y : YY) (n s c : Nat) (hV : pv_ok (vC Y n s c)) (u : UU) (i t : Nat) (hi : i < c) (ht : t < 2 ^ 31) : Ct l (vC Y n s c) ⟨"SlottedMesh$Channel", "carriesConfirmation", "(I)Z"⟩ (wz ⟨"SlottedMesh$Channel", "carriesConfirmation", "(I)Z"⟩ b_H_carriesConfirmation 2 (some .boolean)) (rd 2) [.ref (pv_ad (vC Y n s c) 5 i), .int (nI t)] u (some (.int (nI (kbit (u.2.2.1 5 i 1) t)))) (u) := by
  refine ct_mk hV (by decide +kernel) (Nat.le_of_ble_eq_true rfl) (fun X hX => ?_)
  have hX : ox X (vC Y n s c) (rd 2) b_H_carriesConfirmation 2 "SlottedMesh$Channel" gz (some .boolean) := hX
  show ow X (vC Y n s c) (some (.int (nI (kbit (u.2.2.1 5 i 1) t)))) (u) u [(0, .ref (pv_ad (vC Y n s c) 5 i)), (1, .int (nI t))] 0 []
  refine ow_aload_n (pc := 0) hX d_H_carriesConfirmation_0 rfl ?_
  refine ow_gL (pc := 1) hX (kd_H Y n s c) 1 d_H_carriesConfirmation_1 kw_155 rfl (by show _ < c; first | assumption | omega) ?_
  refine ow_iload_n (pc := 4) hX d_H_carriesConfirmation_4 rfl ?_
  refine ow_callS (pc := 5) hX (c_H_bitAt _ Y n s c hV u _ t ht) (cw_S hX mz_H_bitAt kw_379 ⟨rfl, rfl⟩ (by decide)) rfl (Nat.le_of_ble_eq_true rfl) d_H_carriesConfirmation_5 rfl ?_
  exact ow_zret (pc := 8) hX d_H_carriesConfirmation_8 (nb_01 (by first | decide | assumption | omega | exact kbit_le _ _)) (by rfl) (by rfl)
theorem mn_n {a b : Nat} (ha : a < 2 ^ 31) (hb : b < 2 ^ 31) : (if nI b < nI a then nI b else nI a) = nI (if b < a then b else a) := by
  simp only [nI_ltI hb ha]; split <;> rfl
def kc_keep (u : UU) (i : Nat) (v : Int32) : UU := un (ui (ui (ui u 11 i 2 (u.2.1 11 i 1)) 11 i 1 (u.2.1 11 i 0)) 11 i 0 v) 6 i 1 (if u.1 6 i 1 + 1 < 3 then u.1 6 i 1 + 1 else 3)
def kc_sum (u : UU) (i : Nat) (v : Int32) : Int32 := knear (u.2.1 6 i 5 + (u.2.1 6 i 2 - v)) (-2000) (nI 2000)
def kc_cmd (u : UU) (i : Nat) (v : Int32) : Int32 := knear (kfd (u.2.1 6 i 3 * (u.2.1 6 i 2 - v) + u.2.1 6 i 4 * kc_sum u i v)) (-500) (nI 500)
set_option maxRecDepth 100000 in
set_option maxHeartbeats 4000000 in
theorem c_O_keep (l : Launch) (Y : YY) (n s c : Nat) (hV : pv_ok (vC Y n s c)) (u : UU) (i : Nat) (v : Int32) (hi : i < n) (hk : u.1 6 i 1 ≤ 3) : Ct l (vC Y n s c) ⟨"SlottedMesh$Loop", "keep", "(I)V"⟩ (wz ⟨"SlottedMesh$Loop", "keep", "(I)V"⟩ b_O_keep 3 none) (rd 1) [.ref (pv_ad (vC Y n s c) 6 i), .int v] u none (kc_keep u i v) := by
  refine ct_mk hV (by decide +kernel) (Nat.le_of_ble_eq_true rfl) (fun X hX => ?_)
  have hX : ox X (vC Y n s c) (rd 1) b_O_keep 3 "SlottedMesh$Loop" gz none := hX
  show ow X (vC Y n s c) none (kc_keep u i v) u [(0, .ref (pv_ad (vC Y n s c) 6 i)), (1, .int v)] 0 []
  refine ow_iconst (pc := 0) (v := nI 2) hX d_O_keep_0 (by decide) ?_
  refine ow_istore_n (pc := 1) (l2 := [(0, _), (1, _), (2, _)]) hX d_O_keep_1 (by decide) rfl rfl ?_
  refine ow_iload_n (pc := 2) hX d_O_keep_2 rfl ?_
  refine ow_nz_le (pc := 3) (tgt := 26) hX d_O_keep_3 (by decide) (by first | assumption | omega) (fun h3 => ?_) (fun h3 => ?_)
  · skip
    exact absurd h3 (by decide)
  · skip
    refine ow_aload_n (pc := 6) hX d_O_keep_6 rfl ?_
    refine ow_gR (pc := 7) hX (kd_O Y n s c) 0 d_O_keep_7 kw_121 rfl (by show _ < n; first | assumption | omega) ?_
    refine ow_iload_n (pc := 10) hX d_O_keep_10 rfl ?_
    refine ow_aload_n (pc := 11) hX d_O_keep_11 rfl ?_
    refine ow_gR (pc := 12) hX (kd_O Y n s c) 0 d_O_keep_12 kw_121 rfl (by show _ < n; first | assumption | omega) ?_
    refine ow_iload_n (pc := 15) hX d_O_keep_15 rfl ?_
    refine ow_iconst (pc := 16) (v := nI 1) hX d_O_keep_16 (by decide) ?_
    refine ow_subn (pc := 17) hX d_O_keep_17 (by first | assumption | omega) ?_
    refine ow_aI (pc := 18) hX rfl d_O_keep_18 (by show _ < n; first | assumption | omega) (by show _ < 3; first | assumption | omega) ?_
    refine ow_sI (pc := 19) hX rfl d_O_keep_19 (by show _ < n; first | assumption | omega) (by show _ < 3; first | assumption | omega) ?_
    refine ow_iinc (pc := 20) (l2 := [(0, _), (1, _), (2, _)]) hX d_O_keep_20 rfl (ii_m1 (by first | assumption | omega)) (by decide) rfl rfl ?_
    refine ow_goto (pc := 23) (tgt := 2) hX d_O_keep_23 (by decide) ?_
    refine ow_iload_n (pc := 2) hX d_O_keep_2 rfl ?_
    refine ow_nz_le (pc := 3) (tgt := 26) hX d_O_keep_3 (by decide) (by first | assumption | omega) (fun h3 => ?_) (fun h3 => ?_)
    · skip
      exact absurd h3 (by decide)
    · skip
      refine ow_aload_n (pc := 6) hX d_O_keep_6 rfl ?_
      refine ow_gR (pc := 7) hX (kd_O Y n s c) 0 d_O_keep_7 kw_121 rfl (by show _ < n; first | assumption | omega) ?_
      refine ow_iload_n (pc := 10) hX d_O_keep_10 rfl ?_
      refine ow_aload_n (pc := 11) hX d_O_keep_11 rfl ?_
      refine ow_gR (pc := 12) hX (kd_O Y n s c) 0 d_O_keep_12 kw_121 rfl (by show _ < n; first | assumption | omega) ?_
      refine ow_iload_n (pc := 15) hX d_O_keep_15 rfl ?_
      refine ow_iconst (pc := 16) (v := nI 1) hX d_O_keep_16 (by decide) ?_
      refine ow_subn (pc := 17) hX d_O_keep_17 (by first | assumption | omega) ?_
      refine ow_aI (pc := 18) hX rfl d_O_keep_18 (by show _ < n; first | assumption | omega) (by show _ < 3; first | assumption | omega) ?_
      try simp only [un_1, un_2, ui_1, ui_2, ui_3, ul_1, ul_2, ul_3, ul_4, ur_1, ur_2, ur_3, ur_4, Nat.reduceEqDiff, false_and, and_false, true_and, and_true, and_self, reduceIte]
      refine ow_sI (pc := 19) hX rfl d_O_keep_19 (by show _ < n; first | assumption | omega) (by show _ < 3; first | assumption | omega) ?_
      refine ow_iinc (pc := 20) (l2 := [(0, _), (1, _), (2, _)]) hX d_O_keep_20 rfl (ii_m1 (by first | assumption | omega)) (by decide) rfl rfl ?_
      refine ow_goto (pc := 23) (tgt := 2) hX d_O_keep_23 (by decide) ?_
      refine ow_iload_n (pc := 2) hX d_O_keep_2 rfl ?_
      refine ow_nz_le (pc := 3) (tgt := 26) hX d_O_keep_3 (by decide) (by first | assumption | omega) (fun h3 => ?_) (fun h3 => ?_)
      · skip
        refine ow_aload_n (pc := 26) hX d_O_keep_26 rfl ?_
        refine ow_gR (pc := 27) hX (kd_O Y n s c) 0 d_O_keep_27 kw_121 rfl (by show _ < n; first | assumption | omega) ?_
        refine ow_iconst (pc := 30) (v := nI 0) hX d_O_keep_30 (by decide) ?_
        refine ow_iload_n (pc := 31) hX d_O_keep_31 rfl ?_
        refine ow_sI (pc := 32) hX rfl d_O_keep_32 (by show _ < n; first | assumption | omega) (by show _ < 3; first | assumption | omega) ?_
        refine ow_aload_n (pc := 33) hX d_O_keep_33 rfl ?_
        refine ow_iconst (pc := 34) (v := nI 3) hX d_O_keep_34 (by decide) ?_
        refine ow_aload_n (pc := 35) hX d_O_keep_35 rfl ?_
        refine ow_gN (pc := 36) hX (kd_O Y n s c) 1 d_O_keep_36 kw_123 rfl (by show _ < n; first | assumption | omega) ?_
        try simp only [un_1, un_2, ui_1, ui_2, ui_3, ul_1, ul_2, ul_3, ul_4, ur_1, ur_2, ur_3, ur_4, Nat.reduceEqDiff, false_and, and_false, true_and, and_true, and_self, reduceIte]
        refine ow_iconst (pc := 39) (v := nI 1) hX d_O_keep_39 (by decide) ?_
        refine ow_addn (pc := 40) hX d_O_keep_40 ?_
        refine ow_min (pc := 41) hX d_O_keep_41 kw_414 kw_22 kw_2 kw_23 (by decide) (Nat.le_of_ble_eq_true rfl) ?_
        refine ow_val (mn_n (by omega) (by omega)) ?_
        refine ow_pN (pc := 44) hX (kd_O Y n s c) 1 d_O_keep_44 kw_123 rfl (by show _ < n; first | assumption | omega) rfl (by decide +kernel) ?_
        exact ow_vret (pc := 47) hX d_O_keep_47 rfl (by rfl)
      · skip
        exact absurd h3 (by decide)
set_option maxRecDepth 100000 in
set_option maxHeartbeats 4000000 in
theorem c_O_nextCommand (l : Launch) (Y : YY) (n s c : Nat) (hV : pv_ok (vC Y n s c)) (u : UU) (i : Nat) (v : Int32) (hi : i < n) : Ct l (vC Y n s c) ⟨"SlottedMesh$Loop", "nextCommand", "(I)I"⟩ (wz ⟨"SlottedMesh$Loop", "nextCommand", "(I)I"⟩ b_O_nextCommand 4 (some .int)) (rd 2) [.ref (pv_ad (vC Y n s c) 6 i), .int v] u (some (.int (kc_cmd u i v))) (ui u 6 i 5 (kc_sum u i v)) := by
  refine ct_mk hV (by decide +kernel) (Nat.le_of_ble_eq_true rfl) (fun X hX => ?_)
  have hX : ox X (vC Y n s c) (rd 2) b_O_nextCommand 4 "SlottedMesh$Loop" gz (some .int) := hX
  show ow X (vC Y n s c) (some (.int (kc_cmd u i v))) (ui u 6 i 5 (kc_sum u i v)) u [(0, .ref (pv_ad (vC Y n s c) 6 i)), (1, .int v)] 0 []
  refine ow_aload_n (pc := 0) hX d_O_nextCommand_0 rfl ?_
  refine ow_gI (pc := 1) hX (kd_O Y n s c) 2 d_O_nextCommand_1 kw_125 rfl (by show _ < n; first | assumption | omega) ?_
  refine ow_iload_n (pc := 4) hX d_O_nextCommand_4 rfl ?_
  refine ow_isub (pc := 5) hX d_O_nextCommand_5 ?_
  refine ow_istore_n (pc := 6) (l2 := [(0, _), (1, _), (2, _)]) hX d_O_nextCommand_6 (by decide) rfl rfl ?_
  refine ow_aload_n (pc := 7) hX d_O_nextCommand_7 rfl ?_
  refine ow_aload_n (pc := 8) hX d_O_nextCommand_8 rfl ?_
  refine ow_gI (pc := 9) hX (kd_O Y n s c) 5 d_O_nextCommand_9 kw_131 rfl (by show _ < n; first | assumption | omega) ?_
  refine ow_iload_n (pc := 12) hX d_O_nextCommand_12 rfl ?_
  refine ow_iadd (pc := 13) hX d_O_nextCommand_13 ?_
  refine ow_sipush (pc := 14) (v := (-2000)) hX d_O_nextCommand_14 (by decide) ?_
  refine ow_sipush (pc := 17) (v := nI 2000) hX d_O_nextCommand_17 (by decide) ?_
  refine ow_callSN (pc := 20) hX (c_S_nearest _ Y n s c hV _ _ _ _) (cw_N hX mz_S_nearest ⟨rfl, rfl⟩ (by decide)) rfl (Nat.le_of_ble_eq_true rfl) d_O_nextCommand_20 rfl ?_
  refine ow_pI (pc := 23) hX (kd_O Y n s c) 5 d_O_nextCommand_23 kw_131 rfl (by show _ < n; first | assumption | omega) rfl (by decide +kernel) ?_
  refine ow_aload_n (pc := 26) hX d_O_nextCommand_26 rfl ?_
  refine ow_gI (pc := 27) hX (kd_O Y n s c) 3 d_O_nextCommand_27 kw_127 rfl (by show _ < n; first | assumption | omega) ?_
  try simp only [un_1, un_2, ui_1, ui_2, ui_3, ul_1, ul_2, ul_3, ul_4, ur_1, ur_2, ur_3, ur_4, Nat.reduceEqDiff, false_and, and_false, true_and, and_true, and_self, reduceIte]
  refine ow_iload_n (pc := 30) hX d_O_nextCommand_30 rfl ?_
  refine ow_imul (pc := 31) hX d_O_nextCommand_31 ?_
  refine ow_aload_n (pc := 32) hX d_O_nextCommand_32 rfl ?_
  refine ow_gI (pc := 33) hX (kd_O Y n s c) 4 d_O_nextCommand_33 kw_129 rfl (by show _ < n; first | assumption | omega) ?_
  try simp only [un_1, un_2, ui_1, ui_2, ui_3, ul_1, ul_2, ul_3, ul_4, ur_1, ur_2, ur_3, ur_4, Nat.reduceEqDiff, false_and, and_false, true_and, and_true, and_self, reduceIte]
  refine ow_aload_n (pc := 36) hX d_O_nextCommand_36 rfl ?_
  refine ow_gI (pc := 37) hX (kd_O Y n s c) 5 d_O_nextCommand_37 kw_131 rfl (by show _ < n; first | assumption | omega) ?_
  try simp only [un_1, un_2, ui_1, ui_2, ui_3, ul_1, ul_2, ul_3, ul_4, ur_1, ur_2, ur_3, ur_4, Nat.reduceEqDiff, false_and, and_false, true_and, and_true, and_self, reduceIte]
  refine ow_imul (pc := 40) hX d_O_nextCommand_40 ?_
  refine ow_iadd (pc := 41) hX d_O_nextCommand_41 ?_
  refine ow_bipush (pc := 42) (v := nI 16) hX d_O_nextCommand_42 (by decide) ?_
  refine ow_callS (pc := 44) hX (c_T_floorDiv _ Y n s c hV _ _) (cw_S hX mz_T_floorDiv kw_420 ⟨rfl, rfl⟩ (by decide)) rfl (Nat.le_of_ble_eq_true rfl) d_O_nextCommand_44 rfl ?_
  refine ow_istore_n (pc := 47) (l2 := [(0, _), (1, _), (2, _), (3, _)]) hX d_O_nextCommand_47 (by decide) rfl rfl ?_
  refine ow_iload_n (pc := 48) hX d_O_nextCommand_48 rfl ?_
  refine ow_sipush (pc := 49) (v := (-500)) hX d_O_nextCommand_49 (by decide) ?_
  refine ow_sipush (pc := 52) (v := nI 500) hX d_O_nextCommand_52 (by decide) ?_
  refine ow_callSN (pc := 55) hX (c_S_nearest _ Y n s c hV _ _ _ _) (cw_N hX mz_S_nearest ⟨rfl, rfl⟩ (by decide)) rfl (Nat.le_of_ble_eq_true rfl) d_O_nextCommand_55 rfl ?_
  exact ow_iret (pc := 58) hX d_O_nextCommand_58 (by rfl) (by rfl)
