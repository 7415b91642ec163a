/-! SlottedMeshModel: small calls (by program, wip/whole/gen/m1.py). Kinds: 1 near, 2 started, 3 current, 4 offset, 5 drift, 6 heard, 7 confirmed, 8 rank, 9 parents, 10 cells, 11 newRank, 12 newParents, 13 newCells, 14 many, 15 end, 16 number, 17 value, 18 fails, 19 tries, 20 took, 21 counted, 22 kept, 23 keeps, 24 target, 25 ps, 26 is, 27 sum, 28 actuators; fields of 0: 3 time, 4 sends, 12 planned -/
def kn (o : Option Nat) : Nat := match o with
  | some _ => 0
  | none => 1
theorem kn_le (o : Option Nat) : kn o ≤ 1 := by cases o <;> simp [kn]
/-- bounds that every call of the model keeps -/
def wm (n : Nat) (u : UU) : Prop :=
  (∀ j, u.1 1 0 j ≤ 1) ∧ (∀ j, u.1 2 0 j ≤ 1) ∧ (∀ j, u.1 3 0 j ≤ 1) ∧ (∀ j, u.1 10 0 j < 400) ∧ (∀ j, u.1 14 0 j ≤ 4) ∧ (∀ j, u.1 15 0 j < n) ∧ (∀ j, u.1 18 0 j ≤ 3) ∧ (∀ j, u.1 19 0 j ≤ 5) ∧ (∀ j, u.1 23 0 j ≤ 3) ∧ u.1 0 0 12 ≤ 1 ∧ u.1 0 0 3 < 2 ^ 30
set_option maxRecDepth 100000 in
set_option maxHeartbeats 4000000 in
theorem c_M_noNode (l : Launch) (Y : YY) (n s c : Nat) (hV : pv_ok (vM Y n s c)) (u : UU) (x : Int32) (hn : n ≤ 6) : Ct l (vM Y n s c) ⟨"SlottedMeshModel", "noNode", "(I)Z"⟩ (wz ⟨"SlottedMeshModel", "noNode", "(I)Z"⟩ b_M_noNode 2 (some .boolean)) (rd 0) [.ref (pv_ad (vM Y n s c) 0 0), .int x] u (some (.int (nI (kn (nd n x))))) (u) := by
  refine ct_mk hV (by decide +kernel) (Nat.le_of_ble_eq_true rfl) (fun X hX => ?_)
  have hX : ox X (vM Y n s c) (rd 0) b_M_noNode 2 "SlottedMeshModel" gz (some .boolean) := hX
  show ow X (vM Y n s c) (some (.int (nI (kn (nd n x))))) (u) u [(0, .ref (pv_ad (vM Y n s c) 0 0)), (1, .int x)] 0 []
  refine ow_iload_n (pc := 0) hX d_M_noNode_0 rfl ?_
  refine ow_if_lt (pc := 1) (tgt := 12) hX d_M_noNode_1 (by decide) (fun h1 => ?_) (fun h1 => ?_)
  · skip
    refine ow_iconst (pc := 12) (v := nI 1) hX d_M_noNode_12 (by decide) ?_
    refine ow_goto (pc := 13) (tgt := 17) hX d_M_noNode_13 (by decide) ?_
    exact ow_zret (pc := 17) hX d_M_noNode_17 (nb_01 (by first | decide | assumption | omega | exact kbit_le _ _)) (by first | rfl | ((unfold nd; first | rw [if_pos h1] | rw [if_neg h1, if_neg (fun q => by rw [Int32.le_iff_toInt_le] at q; rw [Int32.lt_iff_toInt_lt] at h9; omega)] | rw [if_neg h1, if_pos (by rw [Int32.le_iff_toInt_le]; rw [Int32.lt_iff_toInt_lt] at h9; omega)]) <;> rfl)) (by first | rfl | ((unfold nd; first | rw [if_pos h1] | rw [if_neg h1, if_neg (fun q => by rw [Int32.le_iff_toInt_le] at q; rw [Int32.lt_iff_toInt_lt] at h9; omega)] | rw [if_neg h1, if_pos (by rw [Int32.le_iff_toInt_le]; rw [Int32.lt_iff_toInt_lt] at h9; omega)]) <;> rfl))
  · skip
    refine ow_iload_n (pc := 4) hX d_M_noNode_4 rfl ?_
    refine ow_aload_n (pc := 5) hX d_M_noNode_5 rfl ?_
    refine ow_gK (pc := 6) hX (kd_M Y n s c) 0 d_M_noNode_6 kw_501 rfl Nat.zero_lt_one ?_
    refine ow_ic_lt (pc := 9) (tgt := 16) hX d_M_noNode_9 (by decide) (fun h9 => ?_) (fun h9 => ?_)
    · skip
      refine ow_iconst (pc := 16) (v := nI 0) hX d_M_noNode_16 (by decide) ?_
      exact ow_zret (pc := 17) hX d_M_noNode_17 (nb_01 (by first | decide | assumption | omega | exact kbit_le _ _)) (by first | rfl | ((unfold nd; first | rw [if_pos h1] | rw [if_neg h1, if_neg (fun q => by rw [Int32.le_iff_toInt_le] at q; rw [Int32.lt_iff_toInt_lt] at h9; omega)] | rw [if_neg h1, if_pos (by rw [Int32.le_iff_toInt_le]; rw [Int32.lt_iff_toInt_lt] at h9; omega)]) <;> rfl)) (by first | rfl | ((unfold nd; first | rw [if_pos h1] | rw [if_neg h1, if_neg (fun q => by rw [Int32.le_iff_toInt_le] at q; rw [Int32.lt_iff_toInt_lt] at h9; omega)] | rw [if_neg h1, if_pos (by rw [Int32.le_iff_toInt_le]; rw [Int32.lt_iff_toInt_lt] at h9; omega)]) <;> rfl))
    · skip
      refine ow_iconst (pc := 12) (v := nI 1) hX d_M_noNode_12 (by decide) ?_
      refine ow_goto (pc := 13) (tgt := 17) hX d_M_noNode_13 (by decide) ?_
      exact ow_zret (pc := 17) hX d_M_noNode_17 (nb_01 (by first | decide | assumption | omega | exact kbit_le _ _)) (by first | rfl | ((unfold nd; first | rw [if_pos h1] | rw [if_neg h1, if_neg (fun q => by rw [Int32.le_iff_toInt_le] at q; rw [Int32.lt_iff_toInt_lt] at h9; omega)] | rw [if_neg h1, if_pos (by rw [Int32.le_iff_toInt_le]; rw [Int32.lt_iff_toInt_lt] at h9; omega)]) <;> rfl)) (by first | rfl | ((unfold nd; first | rw [if_pos h1] | rw [if_neg h1, if_neg (fun q => by rw [Int32.le_iff_toInt_le] at q; rw [Int32.lt_iff_toInt_lt] at h9; omega)] | rw [if_neg h1, if_pos (by rw [Int32.le_iff_toInt_le]; rw [Int32.lt_iff_toInt_lt] at h9; omega)]) <;> rfl))
def km_start (n : Nat) (u : UU) (x : Int32) : Nat × UU := match nd n x with
  | none => (0, u)
  | some a => if u.1 2 0 a = 0 then (1, un u 2 0 a 1) else (0, u)
def km_pair (n : Nat) (u : UU) (x y : Int32) (z : Nat) : Nat × UU := match nd n x with
  | none => (0, u)
  | some a => match nd n y with
    | none => (0, u)
    | some b => if a = b then (0, u) else if u.1 1 0 (6 * a + b) = z then (0, u) else (1, un (un u 1 0 (6 * a + b) z) 1 0 (6 * b + a) z)
def km_st1 (a : Nat) (k : Nat) (w : UU) : UU := ui (ui w 20 0 (6 * a + k) (nI 0)) 20 0 (36 + 6 * a + k) (if k = a then w.2.1 20 0 (36 + 6 * a + k) else nI 0)
def km_st0 (u : UU) (a : Nat) : UU := un (un (un (un (ui (un (un u 2 0 a 0) 3 0 a 0) 4 0 a (nI 0)) 18 0 a 0) 19 0 a 0) 14 0 a 0) 14 0 (6 + a) 0
def km_stop (n : Nat) (u : UU) (x : Int32) : Nat × UU := match nd n x with
  | none => (0, u)
  | some a => if a = 0 then (0, u) else if u.1 2 0 a = 0 then (0, u) else (1, fo (km_st1 a) (km_st0 u a) 6)
def km_drift (n : Nat) (u : UU) (x d : Int32) : Nat × UU := match nd n x with
  | none => (0, u)
  | some a => if a = 0 then (0, u) else if d < -3 then (0, u) else if d ≤ nI 3 then (1, ui u 5 0 a d) else (0, u)
def km_radio (c : Nat) (u : UU) (x : Int32) (f g : Int64) : Nat × UU := match nd c x with
  | none => (0, u)
  | some a => (1, ul (ul u 6 0 a f) 7 0 a g)
def km_add (u : UU) (r e : Nat) (x v : Int32) : UU := un (ui (ui (un u 15 0 (4 * r + u.1 14 0 r) e) 16 0 (4 * r + u.1 14 0 r) x) 17 0 (4 * r + u.1 14 0 r) v) 14 0 r (u.1 14 0 r + 1)
def km_lv1 (r : Nat) (k : Nat) (w : UU) : UU := ui (ui (un w 15 0 (4 * r + k) (w.1 15 0 (4 * r + k + 1))) 16 0 (4 * r + k) (w.2.1 16 0 (4 * r + k + 1))) 17 0 (4 * r + k) (w.2.1 17 0 (4 * r + k + 1))
def km_leave (u : UU) (r : Nat) : UU := fo (km_lv1 r) (un u 14 0 r (u.1 14 0 r - 1)) (u.1 14 0 r - 1)
def km_sample (n : Nat) (u : UU) (x v : Int32) : Int32 × UU := match nd n x with
  | none => (-1, u)
  | some a => if a = 0 then (-1, u) else if u.1 2 0 a = 0 then (-1, u) else if v < -1000 then (-1, u) else if nI 1000 < v then (-1, u) else if u.1 14 0 a = 4 then (-1, u) else (u.2.1 21 0 a + nI 1, km_add (ui u 21 0 a (u.2.1 21 0 a + nI 1)) a a (u.2.1 21 0 a + nI 1) v)
def km_control (n : Nat) (u : UU) (x t p i : Int32) : Nat × UU := match nd n x with
  | none => (0, u)
  | some a => if a = 0 then (0, u) else if t < -1000 then (0, u) else if nI 1000 < t then (0, u) else if p < 0 then (0, u) else if nI 16 < p then (0, u) else if i < 0 then (0, u) else if i ≤ nI 16 then (1, ui (ui (ui u 24 0 a t) 25 0 a p) 26 0 a i) else (0, u)
def km_rank (n : Nat) (u : UU) (x : Int32) : Int32 := if u.1 0 0 12 = 0 then -1 else match nd n x with
  | none => -1
  | some a => nI (u.1 8 0 a)
def km_parent (n : Nat) (u : UU) (x k : Int32) : Int32 := if u.1 0 0 12 = 0 then -1 else match nd n x with
  | none => -1
  | some a => match nd 2 k with
    | none => -1
    | some b => u.2.1 9 0 (2 * a + b)
def km_cell (s c : Nat) (u : UU) (x y : Int32) : Int32 := match nd s x with
  | none => -1
  | some a => match nd c y with
    | none => -1
    | some b => if u.1 0 0 12 = 0 then nI 0 else nI (u.1 10 0 (4 * a + b))
def km_current (n : Nat) (u : UU) (x : Int32) : Nat := match nd n x with
  | none => 0
  | some a => if u.1 3 0 a = 0 then 0 else 1
def km_offset (n : Nat) (u : UU) (x : Int32) : Int32 := match nd n x with
  | none => -9999
  | some a => u.2.1 4 0 a
def km_latest (n : Nat) (u : UU) (x : Int32) : Int32 := match nd n x with
  | none => -1
  | some a => u.2.1 20 0 a
def km_actuator (n : Nat) (u : UU) (x : Int32) : Int32 := match nd n x with
  | none => -9999
  | some a => if a = 0 then -9999 else u.2.1 28 0 a
def km_cached (n : Nat) (u : UU) (x k : Int32) : Int32 := match nd n x with
  | none => -9999
  | some a => match nd (u.1 23 0 a) k with
    | none => -9999
    | some b => u.2.1 22 0 (3 * a + b)
def km_count (n : Nat) (u : UU) (x k : Int32) : Int32 := match nd n x with
  | none => -1
  | some a => match nd 4 k with
    | some 0 => nI (u.1 14 0 a)
    | some 1 => nI (u.1 14 0 (6 + a))
    | some 2 => nI (u.1 18 0 a)
    | some 3 => nI (u.1 19 0 a)
    | _ => -1
/-- v held within a bound -/
def kwin (v b : Int32) : Int32 := if -b ≤ v then (if v ≤ b then v else b) else -b
def kbitm (b : Int64) (t : Nat) : Nat := if ((b >>> ((nI (t % 64)).toInt64 &&& 63)) &&& 1) = 1 then 1 else 0
theorem kbitm_le (b : Int64) (t : Nat) : kbitm b t ≤ 1 := by unfold kbitm; split <;> omega
def kclm (x y : Int32) : Nat := if x - y < -10 then 0 else if nI 10 < x - y then 0 else 1
theorem kclm_le (x y : Int32) : kclm x y ≤ 1 := by unfold kclm; split; (· omega); split <;> omega
def kfst (a : Nat) : Nat := if a = 0 then 9 else a / 10 % 10
def ksnd (a : Nat) : Nat := if 200 ≤ a then a % 10 else 9
set_option maxRecDepth 100000 in
set_option maxHeartbeats 4000000 in
theorem c_M_start (l : Launch) (Y : YY) (n s c : Nat) (hV : pv_ok (vM Y n s c)) (u : UU) (x : Int32) (hn : n ≤ 6) (hu : wm n u) : Ct l (vM Y n s c) ⟨"SlottedMeshModel", "start", "(I)Z"⟩ (wz ⟨"SlottedMeshModel", "start", "(I)Z"⟩ b_M_start 2 (some .boolean)) (rd 1) [.ref (pv_ad (vM Y n s c) 0 0), .int x] u (some (.int (nI (km_start n u x).1))) ((km_start n u x).2) := by
  refine ct_mk hV (by decide +kernel) (Nat.le_of_ble_eq_true rfl) (fun X hX => ?_)
  have hX : ox X (vM Y n s c) (rd 1) b_M_start 2 "SlottedMeshModel" gz (some .boolean) := hX
  show ow X (vM Y n s c) (some (.int (nI (km_start n u x).1))) ((km_start n u x).2) u [(0, .ref (pv_ad (vM Y n s c) 0 0)), (1, .int x)] 0 []
  rcases hx : nd n x with _ | a
  · skip
    refine ow_aload_n (pc := 0) hX d_M_start_0 rfl ?_
    refine ow_iload_n (pc := 1) hX d_M_start_1 rfl ?_
    refine ow_callV (pc := 2) hX (kd_M Y n s c) Nat.zero_lt_one (c_M_noNode _ Y n s c hV u x hn) (cw_V hX mz_M_noNode kw_609 ⟨rfl, rfl⟩ (by decide)) rfl (Nat.le_of_ble_eq_true rfl) d_M_start_2 rfl ?_
    refine ow_st (st2 := .int (nI 1) :: _) (by rw [hx]; rfl) ?_
    refine ow_nz_ne (pc := 5) (tgt := 17) hX d_M_start_5 (by decide) (by first | assumption | omega | (have := hu.2.1 a; omega) | (have := hu.2.2.1 a; omega) | (have := hu.2.2.2.2.1 a; omega)) (fun h5 => ?_) (fun h5 => ?_)
    · skip
      refine ow_iconst (pc := 17) (v := nI 0) hX d_M_start_17 (by decide) ?_
      exact ow_zret (pc := 18) hX d_M_start_18 (nb_01 (by first | decide | assumption | omega | exact kbit_le _ _)) (by first | rfl | (simp only [km_start, hx]; done) | (simp only [km_start, hx]; (repeat' split) <;> first | rfl | omega | (simp_all; done))) (by first | rfl | (simp only [km_start, hx]; done) | (simp only [km_start, hx]; (repeat' split) <;> first | rfl | omega | (simp_all; done)))
    · skip
      exact absurd h5 (by decide)
  · skip
    obtain ⟨ha, rfl⟩ := nd_some (by omega) hx
    refine ow_aload_n (pc := 0) hX d_M_start_0 rfl ?_
    refine ow_iload_n (pc := 1) hX d_M_start_1 rfl ?_
    refine ow_callV (pc := 2) hX (kd_M Y n s c) Nat.zero_lt_one (c_M_noNode _ Y n s c hV u (nI a) hn) (cw_V hX mz_M_noNode kw_609 ⟨rfl, rfl⟩ (by decide)) rfl (Nat.le_of_ble_eq_true rfl) d_M_start_2 rfl ?_
    refine ow_st (st2 := .int (nI 0) :: _) (by rw [hx]; rfl) ?_
    refine ow_nz_ne (pc := 5) (tgt := 17) hX d_M_start_5 (by decide) (by first | assumption | omega | (have := hu.2.1 a; omega) | (have := hu.2.2.1 a; omega) | (have := hu.2.2.2.2.1 a; omega)) (fun h5 => ?_) (fun h5 => ?_)
    · skip
      exact absurd h5 (by decide)
    · skip
      refine ow_aload_n (pc := 8) hX d_M_start_8 rfl ?_
      refine ow_gR (pc := 9) hX (kd_M Y n s c) 6 d_M_start_9 kw_507 rfl Nat.zero_lt_one ?_
      refine ow_iload_n (pc := 12) hX d_M_start_12 rfl ?_
      refine ow_aZ (pc := 13) hX rfl d_M_start_13 Nat.zero_lt_one (by show _ < 6; first | assumption | omega) ?_
      refine ow_nz_eq (pc := 14) (tgt := 19) hX d_M_start_14 (by decide) (by first | assumption | omega | (have := hu.2.1 a; omega) | (have := hu.2.2.1 a; omega) | (have := hu.2.2.2.2.1 a; omega)) (fun h14 => ?_) (fun h14 => ?_)
      · skip
        refine ow_aload_n (pc := 19) hX d_M_start_19 rfl ?_
        refine ow_gR (pc := 20) hX (kd_M Y n s c) 6 d_M_start_20 kw_507 rfl Nat.zero_lt_one ?_
        refine ow_iload_n (pc := 23) hX d_M_start_23 rfl ?_
        refine ow_iconst (pc := 24) (v := nI 1) hX d_M_start_24 (by decide) ?_
        refine ow_sZ (pc := 25) hX rfl d_M_start_25 Nat.zero_lt_one (by show _ < 6; first | assumption | omega) (by first | assumption | omega | (have := hu.2.1 a; omega) | (have := hu.2.2.1 a; omega) | (have := hu.2.2.2.2.1 a; omega)) ?_
        refine ow_iconst (pc := 26) (v := nI 1) hX d_M_start_26 (by decide) ?_
        exact ow_zret (pc := 27) hX d_M_start_27 (nb_01 (by first | decide | assumption | omega | exact kbit_le _ _)) (by first | rfl | (simp only [km_start, hx]; done) | (simp only [km_start, hx]; (repeat' split) <;> first | rfl | omega | (simp_all; done))) (by first | rfl | (simp only [km_start, hx]; done) | (simp only [km_start, hx]; (repeat' split) <;> first | rfl | omega | (simp_all; done)))
      · skip
        refine ow_iconst (pc := 17) (v := nI 0) hX d_M_start_17 (by decide) ?_
        exact ow_zret (pc := 18) hX d_M_start_18 (nb_01 (by first | decide | assumption | omega | exact kbit_le _ _)) (by first | rfl | (simp only [km_start, hx]; done) | (simp only [km_start, hx]; (repeat' split) <;> first | rfl | omega | (simp_all; done))) (by first | rfl | (simp only [km_start, hx]; done) | (simp only [km_start, hx]; (repeat' split) <;> first | rfl | omega | (simp_all; done)))
set_option maxRecDepth 100000 in
set_option maxHeartbeats 4000000 in
theorem c_M_pair (l : Launch) (Y : YY) (n s c : Nat) (hV : pv_ok (vM Y n s c)) (u : UU) (x y : Int32) (z : Nat) (hn : n ≤ 6) (hz : z ≤ 1) (hu : wm n u) : Ct l (vM Y n s c) ⟨"SlottedMeshModel", "pair", "(IIZ)Z"⟩ (wz ⟨"SlottedMeshModel", "pair", "(IIZ)Z"⟩ b_M_pair 4 (some .boolean)) (rd 1) [.ref (pv_ad (vM Y n s c) 0 0), .int x, .int y, .int (nI z)] u (some (.int (nI (km_pair n u x y z).1))) ((km_pair n u x y z).2) := by
  refine ct_mk hV (by decide +kernel) (Nat.le_of_ble_eq_true rfl) (fun X hX => ?_)
  have hX : ox X (vM Y n s c) (rd 1) b_M_pair 4 "SlottedMeshModel" gz (some .boolean) := hX
  show ow X (vM Y n s c) (some (.int (nI (km_pair n u x y z).1))) ((km_pair n u x y z).2) u [(0, .ref (pv_ad (vM Y n s c) 0 0)), (1, .int x), (2, .int y), (3, .int (nI z))] 0 []
  rcases hx : nd n x with _ | a
  · skip
    refine ow_aload_n (pc := 0) hX d_M_pair_0 rfl ?_
    refine ow_iload_n (pc := 1) hX d_M_pair_1 rfl ?_
    refine ow_callV (pc := 2) hX (kd_M Y n s c) Nat.zero_lt_one (c_M_noNode _ Y n s c hV u x hn) (cw_V hX mz_M_noNode kw_609 ⟨rfl, rfl⟩ (by decide)) rfl (Nat.le_of_ble_eq_true rfl) d_M_pair_2 rfl ?_
    refine ow_st (st2 := .int (nI 1) :: _) (by rw [hx]; rfl) ?_
    refine ow_nz_ne (pc := 5) (tgt := 36) hX d_M_pair_5 (by decide) (by first | assumption | omega | (have := hu.1 (6 * a + b); omega)) (fun h5 => ?_) (fun h5 => ?_)
    · skip
      refine ow_iconst (pc := 36) (v := nI 0) hX d_M_pair_36 (by decide) ?_
      exact ow_zret (pc := 37) hX d_M_pair_37 (nb_01 (by first | decide | assumption | omega | exact kbit_le _ _)) (by first | rfl | (simp only [km_pair, hx]; done) | (simp only [km_pair, hx, hy]; done) | (simp only [km_pair, hx, hy]; (repeat' split) <;> first | rfl | omega | (simp_all; done))) (by first | rfl | (simp only [km_pair, hx]; done) | (simp only [km_pair, hx, hy]; done) | (simp only [km_pair, hx, hy]; (repeat' split) <;> first | rfl | omega | (simp_all; done)))
    · skip
      exact absurd h5 (by decide)
  · skip
    obtain ⟨ha, rfl⟩ := nd_some (by omega) hx
    rcases hy : nd n y with _ | b
    · skip
      refine ow_aload_n (pc := 0) hX d_M_pair_0 rfl ?_
      refine ow_iload_n (pc := 1) hX d_M_pair_1 rfl ?_
      refine ow_callV (pc := 2) hX (kd_M Y n s c) Nat.zero_lt_one (c_M_noNode _ Y n s c hV u (nI a) hn) (cw_V hX mz_M_noNode kw_609 ⟨rfl, rfl⟩ (by decide)) rfl (Nat.le_of_ble_eq_true rfl) d_M_pair_2 rfl ?_
      refine ow_st (st2 := .int (nI 0) :: _) (by rw [hx]; rfl) ?_
      refine ow_nz_ne (pc := 5) (tgt := 36) hX d_M_pair_5 (by decide) (by first | assumption | omega | (have := hu.1 (6 * a + b); omega)) (fun h5 => ?_) (fun h5 => ?_)
      · skip
        exact absurd h5 (by decide)
      · skip
        refine ow_aload_n (pc := 8) hX d_M_pair_8 rfl ?_
        refine ow_iload_n (pc := 9) hX d_M_pair_9 rfl ?_
        refine ow_callV (pc := 10) hX (kd_M Y n s c) Nat.zero_lt_one (c_M_noNode _ Y n s c hV u y hn) (cw_V hX mz_M_noNode kw_609 ⟨rfl, rfl⟩ (by decide)) rfl (Nat.le_of_ble_eq_true rfl) d_M_pair_10 rfl ?_
        refine ow_st (st2 := .int (nI 1) :: _) (by rw [hy]; rfl) ?_
        refine ow_nz_ne (pc := 13) (tgt := 36) hX d_M_pair_13 (by decide) (by first | assumption | omega | (have := hu.1 (6 * a + b); omega)) (fun h13 => ?_) (fun h13 => ?_)
        · skip
          refine ow_iconst (pc := 36) (v := nI 0) hX d_M_pair_36 (by decide) ?_
          exact ow_zret (pc := 37) hX d_M_pair_37 (nb_01 (by first | decide | assumption | omega | exact kbit_le _ _)) (by first | rfl | (simp only [km_pair, hx]; done) | (simp only [km_pair, hx, hy]; done) | (simp only [km_pair, hx, hy]; (repeat' split) <;> first | rfl | omega | (simp_all; done))) (by first | rfl | (simp only [km_pair, hx]; done) | (simp only [km_pair, hx, hy]; done) | (simp only [km_pair, hx, hy]; (repeat' split) <;> first | rfl | omega | (simp_all; done)))
        · skip
          exact absurd h13 (by decide)
    · skip
      obtain ⟨hb, rfl⟩ := nd_some (by omega) hy
      refine ow_aload_n (pc := 0) hX d_M_pair_0 rfl ?_
      refine ow_iload_n (pc := 1) hX d_M_pair_1 rfl ?_
      refine ow_callV (pc := 2) hX (kd_M Y n s c) Nat.zero_lt_one (c_M_noNode _ Y n s c hV u (nI a) hn) (cw_V hX mz_M_noNode kw_609 ⟨rfl, rfl⟩ (by decide)) rfl (Nat.le_of_ble_eq_true rfl) d_M_pair_2 rfl ?_
      refine ow_st (st2 := .int (nI 0) :: _) (by rw [hx]; rfl) ?_
      refine ow_nz_ne (pc := 5) (tgt := 36) hX d_M_pair_5 (by decide) (by first | assumption | omega | (have := hu.1 (6 * a + b); omega)) (fun h5 => ?_) (fun h5 => ?_)
      · skip
        exact absurd h5 (by decide)
      · skip
        refine ow_aload_n (pc := 8) hX d_M_pair_8 rfl ?_
        refine ow_iload_n (pc := 9) hX d_M_pair_9 rfl ?_
        refine ow_callV (pc := 10) hX (kd_M Y n s c) Nat.zero_lt_one (c_M_noNode _ Y n s c hV u (nI b) hn) (cw_V hX mz_M_noNode kw_609 ⟨rfl, rfl⟩ (by decide)) rfl (Nat.le_of_ble_eq_true rfl) d_M_pair_10 rfl ?_
        refine ow_st (st2 := .int (nI 0) :: _) (by rw [hy]; rfl) ?_
        refine ow_nz_ne (pc := 13) (tgt := 36) hX d_M_pair_13 (by decide) (by first | assumption | omega | (have := hu.1 (6 * a + b); omega)) (fun h13 => ?_) (fun h13 => ?_)
        · skip
          exact absurd h13 (by decide)
        · skip
          refine ow_iload_n (pc := 16) hX d_M_pair_16 rfl ?_
          refine ow_iload_n (pc := 17) hX d_M_pair_17 rfl ?_
          refine ow_nc_eq (pc := 18) (tgt := 36) hX d_M_pair_18 (by decide) (by first | assumption | omega | (have := hu.1 (6 * a + b); omega)) (by first | assumption | omega | (have := hu.1 (6 * a + b); omega)) (fun h18 => ?_) (fun h18 => ?_)
          · skip
            refine ow_iconst (pc := 36) (v := nI 0) hX d_M_pair_36 (by decide) ?_
            exact ow_zret (pc := 37) hX d_M_pair_37 (nb_01 (by first | decide | assumption | omega | exact kbit_le _ _)) (by first | rfl | (simp only [km_pair, hx]; done) | (simp only [km_pair, hx, hy]; done) | (simp only [km_pair, hx, hy]; (repeat' split) <;> first | rfl | omega | (simp_all; done))) (by first | rfl | (simp only [km_pair, hx]; done) | (simp only [km_pair, hx, hy]; done) | (simp only [km_pair, hx, hy]; (repeat' split) <;> first | rfl | omega | (simp_all; done)))
          · skip
            refine ow_aload_n (pc := 21) hX d_M_pair_21 rfl ?_
            refine ow_gR (pc := 22) hX (kd_M Y n s c) 5 d_M_pair_22 kw_506 rfl Nat.zero_lt_one ?_
            refine ow_bipush (pc := 25) (v := nI 6) hX d_M_pair_25 (by decide) ?_
            refine ow_iload_n (pc := 27) hX d_M_pair_27 rfl ?_
            refine ow_muln (pc := 28) hX d_M_pair_28 ?_
            refine ow_iload_n (pc := 29) hX d_M_pair_29 rfl ?_
            refine ow_addn (pc := 30) hX d_M_pair_30 ?_
            refine ow_aZ (pc := 31) hX rfl d_M_pair_31 Nat.zero_lt_one (by show _ < 36; first | assumption | omega) ?_
            refine ow_iload_n (pc := 32) hX d_M_pair_32 rfl ?_
            refine ow_nc_ne (pc := 33) (tgt := 38) hX d_M_pair_33 (by decide) (by first | assumption | omega | (have := hu.1 (6 * a + b); omega)) (by first | assumption | omega | (have := hu.1 (6 * a + b); omega)) (fun h33 => ?_) (fun h33 => ?_)
            · skip
              refine ow_aload_n (pc := 38) hX d_M_pair_38 rfl ?_
              refine ow_gR (pc := 39) hX (kd_M Y n s c) 5 d_M_pair_39 kw_506 rfl Nat.zero_lt_one ?_
              refine ow_bipush (pc := 42) (v := nI 6) hX d_M_pair_42 (by decide) ?_
              refine ow_iload_n (pc := 44) hX d_M_pair_44 rfl ?_
              refine ow_muln (pc := 45) hX d_M_pair_45 ?_
              refine ow_iload_n (pc := 46) hX d_M_pair_46 rfl ?_
              refine ow_addn (pc := 47) hX d_M_pair_47 ?_
              refine ow_iload_n (pc := 48) hX d_M_pair_48 rfl ?_
              refine ow_sZ (pc := 49) hX rfl d_M_pair_49 Nat.zero_lt_one (by show _ < 36; first | assumption | omega) (by first | assumption | omega | (have := hu.1 (6 * a + b); omega)) ?_
              refine ow_aload_n (pc := 50) hX d_M_pair_50 rfl ?_
              refine ow_gR (pc := 51) hX (kd_M Y n s c) 5 d_M_pair_51 kw_506 rfl Nat.zero_lt_one ?_
              refine ow_bipush (pc := 54) (v := nI 6) hX d_M_pair_54 (by decide) ?_
              refine ow_iload_n (pc := 56) hX d_M_pair_56 rfl ?_
              refine ow_muln (pc := 57) hX d_M_pair_57 ?_
              refine ow_iload_n (pc := 58) hX d_M_pair_58 rfl ?_
              refine ow_addn (pc := 59) hX d_M_pair_59 ?_
              refine ow_iload_n (pc := 60) hX d_M_pair_60 rfl ?_
              refine ow_sZ (pc := 61) hX rfl d_M_pair_61 Nat.zero_lt_one (by show _ < 36; first | assumption | omega) (by first | assumption | omega | (have := hu.1 (6 * a + b); omega)) ?_
              refine ow_iconst (pc := 62) (v := nI 1) hX d_M_pair_62 (by decide) ?_
              exact ow_zret (pc := 63) hX d_M_pair_63 (nb_01 (by first | decide | assumption | omega | exact kbit_le _ _)) (by first | rfl | (simp only [km_pair, hx]; done) | (simp only [km_pair, hx, hy]; done) | (simp only [km_pair, hx, hy]; (repeat' split) <;> first | rfl | omega | (simp_all; done))) (by first | rfl | (simp only [km_pair, hx]; done) | (simp only [km_pair, hx, hy]; done) | (simp only [km_pair, hx, hy]; (repeat' split) <;> first | rfl | omega | (simp_all; done)))
            · skip
              refine ow_iconst (pc := 36) (v := nI 0) hX d_M_pair_36 (by decide) ?_
              exact ow_zret (pc := 37) hX d_M_pair_37 (nb_01 (by first | decide | assumption | omega | exact kbit_le _ _)) (by first | rfl | (simp only [km_pair, hx]; done) | (simp only [km_pair, hx, hy]; done) | (simp only [km_pair, hx, hy]; (repeat' split) <;> first | rfl | omega | (simp_all; done))) (by first | rfl | (simp only [km_pair, hx]; done) | (simp only [km_pair, hx, hy]; done) | (simp only [km_pair, hx, hy]; (repeat' split) <;> first | rfl | omega | (simp_all; done)))
set_option maxRecDepth 100000 in
set_option maxHeartbeats 4000000 in
theorem c_M_drift (l : Launch) (Y : YY) (n s c : Nat) (hV : pv_ok (vM Y n s c)) (u : UU) (x d : Int32) (hn : n ≤ 6) : Ct l (vM Y n s c) ⟨"SlottedMeshModel", "drift", "(II)Z"⟩ (wz ⟨"SlottedMeshModel", "drift", "(II)Z"⟩ b_M_drift 3 (some .boolean)) (rd 1) [.ref (pv_ad (vM Y n s c) 0 0), .int x, .int d] u (some (.int (nI (km_drift n u x d).1))) ((km_drift n u x d).2) := by
  refine ct_mk hV (by decide +kernel) (Nat.le_of_ble_eq_true rfl) (fun X hX => ?_)
  have hX : ox X (vM Y n s c) (rd 1) b_M_drift 3 "SlottedMeshModel" gz (some .boolean) := hX
  show ow X (vM Y n s c) (some (.int (nI (km_drift n u x d).1))) ((km_drift n u x d).2) u [(0, .ref (pv_ad (vM Y n s c) 0 0)), (1, .int x), (2, .int d)] 0 []
  rcases hx : nd n x with _ | a
  · skip
    refine ow_aload_n (pc := 0) hX d_M_drift_0 rfl ?_
    refine ow_iload_n (pc := 1) hX d_M_drift_1 rfl ?_
    refine ow_callV (pc := 2) hX (kd_M Y n s c) Nat.zero_lt_one (c_M_noNode _ Y n s c hV u x hn) (cw_V hX mz_M_noNode kw_609 ⟨rfl, rfl⟩ (by decide)) rfl (Nat.le_of_ble_eq_true rfl) d_M_drift_2 rfl ?_
    refine ow_st (st2 := .int (nI 1) :: _) (by rw [hx]; rfl) ?_
    refine ow_nz_ne (pc := 5) (tgt := 23) hX d_M_drift_5 (by decide) (by first | assumption | omega) (fun h5 => ?_) (fun h5 => ?_)
    · skip
      refine ow_iconst (pc := 23) (v := nI 0) hX d_M_drift_23 (by decide) ?_
      exact ow_zret (pc := 24) hX d_M_drift_24 (nb_01 (by first | decide | assumption | omega | exact kbit_le _ _)) (by first | rfl | (simp only [km_drift, hx]; done) | (simp only [km_drift, hx]; first | rw [if_pos h9] | rw [if_neg h9, if_pos h15] | rw [if_neg h9, if_neg h15, if_pos h20] | rw [if_neg h9, if_neg h15, if_neg h20])) (by first | rfl | (simp only [km_drift, hx]; done) | (simp only [km_drift, hx]; first | rw [if_pos h9] | rw [if_neg h9, if_pos h15] | rw [if_neg h9, if_neg h15, if_pos h20] | rw [if_neg h9, if_neg h15, if_neg h20]))
    · skip
      exact absurd h5 (by decide)
  · skip
    obtain ⟨ha, rfl⟩ := nd_some (by omega) hx
    refine ow_aload_n (pc := 0) hX d_M_drift_0 rfl ?_
    refine ow_iload_n (pc := 1) hX d_M_drift_1 rfl ?_
    refine ow_callV (pc := 2) hX (kd_M Y n s c) Nat.zero_lt_one (c_M_noNode _ Y n s c hV u (nI a) hn) (cw_V hX mz_M_noNode kw_609 ⟨rfl, rfl⟩ (by decide)) rfl (Nat.le_of_ble_eq_true rfl) d_M_drift_2 rfl ?_
    refine ow_st (st2 := .int (nI 0) :: _) (by rw [hx]; rfl) ?_
    refine ow_nz_ne (pc := 5) (tgt := 23) hX d_M_drift_5 (by decide) (by first | assumption | omega) (fun h5 => ?_) (fun h5 => ?_)
    · skip
      exact absurd h5 (by decide)
    · skip
      refine ow_iload_n (pc := 8) hX d_M_drift_8 rfl ?_
      refine ow_nz_eq (pc := 9) (tgt := 23) hX d_M_drift_9 (by decide) (by first | assumption | omega) (fun h9 => ?_) (fun h9 => ?_)
      · skip
        refine ow_iconst (pc := 23) (v := nI 0) hX d_M_drift_23 (by decide) ?_
        exact ow_zret (pc := 24) hX d_M_drift_24 (nb_01 (by first | decide | assumption | omega | exact kbit_le _ _)) (by first | rfl | (simp only [km_drift, hx]; done) | (simp only [km_drift, hx]; first | rw [if_pos h9] | rw [if_neg h9, if_pos h15] | rw [if_neg h9, if_neg h15, if_pos h20] | rw [if_neg h9, if_neg h15, if_neg h20])) (by first | rfl | (simp only [km_drift, hx]; done) | (simp only [km_drift, hx]; first | rw [if_pos h9] | rw [if_neg h9, if_pos h15] | rw [if_neg h9, if_neg h15, if_pos h20] | rw [if_neg h9, if_neg h15, if_neg h20]))
      · skip
        refine ow_iload_n (pc := 12) hX d_M_drift_12 rfl ?_
        refine ow_bipush (pc := 13) (v := (-3)) hX d_M_drift_13 (by decide) ?_
        refine ow_ic_lt (pc := 15) (tgt := 23) hX d_M_drift_15 (by decide) (fun h15 => ?_) (fun h15 => ?_)
        · skip
          refine ow_iconst (pc := 23) (v := nI 0) hX d_M_drift_23 (by decide) ?_
          exact ow_zret (pc := 24) hX d_M_drift_24 (nb_01 (by first | decide | assumption | omega | exact kbit_le _ _)) (by first | rfl | (simp only [km_drift, hx]; done) | (simp only [km_drift, hx]; first | rw [if_pos h9] | rw [if_neg h9, if_pos h15] | rw [if_neg h9, if_neg h15, if_pos h20] | rw [if_neg h9, if_neg h15, if_neg h20])) (by first | rfl | (simp only [km_drift, hx]; done) | (simp only [km_drift, hx]; first | rw [if_pos h9] | rw [if_neg h9, if_pos h15] | rw [if_neg h9, if_neg h15, if_pos h20] | rw [if_neg h9, if_neg h15, if_neg h20]))
        · skip
          refine ow_iload_n (pc := 18) hX d_M_drift_18 rfl ?_
          refine ow_iconst (pc := 19) (v := nI 3) hX d_M_drift_19 (by decide) ?_
          refine ow_ic_le (pc := 20) (tgt := 25) hX d_M_drift_20 (by decide) (fun h20 => ?_) (fun h20 => ?_)
          · skip
            refine ow_aload_n (pc := 25) hX d_M_drift_25 rfl ?_
            refine ow_gR (pc := 26) hX (kd_M Y n s c) 9 d_M_drift_26 kw_510 rfl Nat.zero_lt_one ?_
            refine ow_iload_n (pc := 29) hX d_M_drift_29 rfl ?_
            refine ow_iload_n (pc := 30) hX d_M_drift_30 rfl ?_
            refine ow_sI (pc := 31) hX rfl d_M_drift_31 Nat.zero_lt_one (by show _ < 6; first | assumption | omega) ?_
            refine ow_iconst (pc := 32) (v := nI 1) hX d_M_drift_32 (by decide) ?_
            exact ow_zret (pc := 33) hX d_M_drift_33 (nb_01 (by first | decide | assumption | omega | exact kbit_le _ _)) (by first | rfl | (simp only [km_drift, hx]; done) | (simp only [km_drift, hx]; first | rw [if_pos h9] | rw [if_neg h9, if_pos h15] | rw [if_neg h9, if_neg h15, if_pos h20] | rw [if_neg h9, if_neg h15, if_neg h20])) (by first | rfl | (simp only [km_drift, hx]; done) | (simp only [km_drift, hx]; first | rw [if_pos h9] | rw [if_neg h9, if_pos h15] | rw [if_neg h9, if_neg h15, if_pos h20] | rw [if_neg h9, if_neg h15, if_neg h20]))
          · skip
            refine ow_iconst (pc := 23) (v := nI 0) hX d_M_drift_23 (by decide) ?_
            exact ow_zret (pc := 24) hX d_M_drift_24 (nb_01 (by first | decide | assumption | omega | exact kbit_le _ _)) (by first | rfl | (simp only [km_drift, hx]; done) | (simp only [km_drift, hx]; first | rw [if_pos h9] | rw [if_neg h9, if_pos h15] | rw [if_neg h9, if_neg h15, if_pos h20] | rw [if_neg h9, if_neg h15, if_neg h20])) (by first | rfl | (simp only [km_drift, hx]; done) | (simp only [km_drift, hx]; first | rw [if_pos h9] | rw [if_neg h9, if_pos h15] | rw [if_neg h9, if_neg h15, if_pos h20] | rw [if_neg h9, if_neg h15, if_neg h20]))
set_option maxRecDepth 100000 in
set_option maxHeartbeats 4000000 in
theorem c_M_radio (l : Launch) (Y : YY) (n s c : Nat) (hV : pv_ok (vM Y n s c)) (u : UU) (x : Int32) (f g : Int64) (hc : c ≤ 4) : Ct l (vM Y n s c) ⟨"SlottedMeshModel", "radio", "(IJJ)Z"⟩ (wz ⟨"SlottedMeshModel", "radio", "(IJJ)Z"⟩ b_M_radio 6 (some .boolean)) (rd 0) [.ref (pv_ad (vM Y n s c) 0 0), .int x, .long f, .long g] u (some (.int (nI (km_radio c u x f g).1))) ((km_radio c u x f g).2) := by
  refine ct_mk hV (by decide +kernel) (Nat.le_of_ble_eq_true rfl) (fun X hX => ?_)
  have hX : ox X (vM Y n s c) (rd 0) b_M_radio 6 "SlottedMeshModel" gz (some .boolean) := hX
  show ow X (vM Y n s c) (some (.int (nI (km_radio c u x f g).1))) ((km_radio c u x f g).2) u [(0, .ref (pv_ad (vM Y n s c) 0 0)), (1, .int x), (2, .long f), (4, .long g)] 0 []
  rcases hx : nd c x with _ | a
  · skip
    refine ow_iload_n (pc := 0) hX d_M_radio_0 rfl ?_
    refine ow_if_lt (pc := 1) (tgt := 12) hX d_M_radio_1 (by decide) (fun h1 => ?_) (fun h1 => ?_)
    · skip
      refine ow_iconst (pc := 12) (v := nI 0) hX d_M_radio_12 (by decide) ?_
      exact ow_zret (pc := 13) hX d_M_radio_13 (nb_01 (by first | decide | assumption | omega | exact kbit_le _ _)) (by first | rfl | (simp only [km_radio, hx]; done) | (simp only [km_radio, hx]; (repeat' split) <;> first | rfl | omega | (simp_all; done))) (by first | rfl | (simp only [km_radio, hx]; done) | (simp only [km_radio, hx]; (repeat' split) <;> first | rfl | omega | (simp_all; done)))
    · skip
      refine ow_iload_n (pc := 4) hX d_M_radio_4 rfl ?_
      refine ow_aload_n (pc := 5) hX d_M_radio_5 rfl ?_
      refine ow_gK (pc := 6) hX (kd_M Y n s c) 2 d_M_radio_6 kw_503 rfl Nat.zero_lt_one ?_
      refine ow_ic_lt (pc := 9) (tgt := 14) hX d_M_radio_9 (by decide) (fun h9 => ?_) (fun h9 => ?_)
      · skip
        exact (nd_no hx h1 h9).elim
      · skip
        refine ow_iconst (pc := 12) (v := nI 0) hX d_M_radio_12 (by decide) ?_
        exact ow_zret (pc := 13) hX d_M_radio_13 (nb_01 (by first | decide | assumption | omega | exact kbit_le _ _)) (by first | rfl | (simp only [km_radio, hx]; done) | (simp only [km_radio, hx]; (repeat' split) <;> first | rfl | omega | (simp_all; done))) (by first | rfl | (simp only [km_radio, hx]; done) | (simp only [km_radio, hx]; (repeat' split) <;> first | rfl | omega | (simp_all; done)))
  · skip
    obtain ⟨ha, rfl⟩ := nd_some (by omega) hx
    refine ow_iload_n (pc := 0) hX d_M_radio_0 rfl ?_
    refine ow_nz_lt (pc := 1) (tgt := 12) hX d_M_radio_1 (by decide) (by first | assumption | omega) ?_
    refine ow_iload_n (pc := 4) hX d_M_radio_4 rfl ?_
    refine ow_aload_n (pc := 5) hX d_M_radio_5 rfl ?_
    refine ow_gK (pc := 6) hX (kd_M Y n s c) 2 d_M_radio_6 kw_503 rfl Nat.zero_lt_one ?_
    refine ow_nc_lt (pc := 9) (tgt := 14) hX d_M_radio_9 (by decide) (by first | assumption | omega) (by first | assumption | omega) (fun h9 => ?_) (fun h9 => ?_)
    · skip
      refine ow_aload_n (pc := 14) hX d_M_radio_14 rfl ?_
      refine ow_gR (pc := 15) hX (kd_M Y n s c) 10 d_M_radio_15 kw_511 rfl Nat.zero_lt_one ?_
      refine ow_iload_n (pc := 18) hX d_M_radio_18 rfl ?_
      refine ow_lload_n (pc := 19) hX d_M_radio_19 rfl ?_
      refine ow_sL (pc := 20) hX rfl d_M_radio_20 Nat.zero_lt_one (by show _ < 4; first | assumption | omega) ?_
      refine ow_aload_n (pc := 21) hX d_M_radio_21 rfl ?_
      refine ow_gR (pc := 22) hX (kd_M Y n s c) 11 d_M_radio_22 kw_512 rfl Nat.zero_lt_one ?_
      refine ow_iload_n (pc := 25) hX d_M_radio_25 rfl ?_
      refine ow_lload (pc := 26) hX d_M_radio_26 rfl ?_
      refine ow_sL (pc := 28) hX rfl d_M_radio_28 Nat.zero_lt_one (by show _ < 4; first | assumption | omega) ?_
      refine ow_iconst (pc := 29) (v := nI 1) hX d_M_radio_29 (by decide) ?_
      exact ow_zret (pc := 30) hX d_M_radio_30 (nb_01 (by first | decide | assumption | omega | exact kbit_le _ _)) (by first | rfl | (simp only [km_radio, hx]; done) | (simp only [km_radio, hx]; (repeat' split) <;> first | rfl | omega | (simp_all; done))) (by first | rfl | (simp only [km_radio, hx]; done) | (simp only [km_radio, hx]; (repeat' split) <;> first | rfl | omega | (simp_all; done)))
    · skip
      exact absurd ha (by omega)
set_option maxRecDepth 100000 in
set_option maxHeartbeats 4000000 in
theorem c_M_add (l : Launch) (Y : YY) (n s c : Nat) (hV : pv_ok (vM Y n s c)) (u : UU) (r e : Nat) (x v : Int32) (hr : r < 12) (hm : u.1 14 0 r < 4) : Ct l (vM Y n s c) ⟨"SlottedMeshModel", "add", "(IIII)V"⟩ (wz ⟨"SlottedMeshModel", "add", "(IIII)V"⟩ b_M_add 6 none) (rd 0) [.ref (pv_ad (vM Y n s c) 0 0), .int (nI r), .int (nI e), .int x, .int v] u none (km_add u r e x v) := by
  refine ct_mk hV (by decide +kernel) (Nat.le_of_ble_eq_true rfl) (fun X hX => ?_)
  have hX : ox X (vM Y n s c) (rd 0) b_M_add 6 "SlottedMeshModel" gz none := hX
  show ow X (vM Y n s c) none (km_add u r e x v) u [(0, .ref (pv_ad (vM Y n s c) 0 0)), (1, .int (nI r)), (2, .int (nI e)), (3, .int x), (4, .int v)] 0 []
  refine ow_iconst (pc := 0) (v := nI 4) hX d_M_add_0 (by decide) ?_
  refine ow_iload_n (pc := 1) hX d_M_add_1 rfl ?_
  refine ow_muln (pc := 2) hX d_M_add_2 ?_
  refine ow_aload_n (pc := 3) hX d_M_add_3 rfl ?_
  refine ow_gR (pc := 4) hX (kd_M Y n s c) 19 d_M_add_4 kw_520 rfl Nat.zero_lt_one ?_
  refine ow_iload_n (pc := 7) hX d_M_add_7 rfl ?_
  refine ow_aN (pc := 8) hX rfl d_M_add_8 Nat.zero_lt_one (by show _ < 12; first | assumption | omega) ?_
  refine ow_addn (pc := 9) hX d_M_add_9 ?_
  refine ow_istore (pc := 10) (l2 := [(0, _), (1, _), (2, _), (3, _), (4, _), (5, _)]) hX d_M_add_10 (by decide) rfl rfl ?_
  refine ow_aload_n (pc := 12) hX d_M_add_12 rfl ?_
  refine ow_gR (pc := 13) hX (kd_M Y n s c) 20 d_M_add_13 kw_521 rfl Nat.zero_lt_one ?_
  refine ow_iload (pc := 16) hX d_M_add_16 rfl ?_
  refine ow_iload_n (pc := 18) hX d_M_add_18 rfl ?_
  refine ow_sN (pc := 19) hX rfl d_M_add_19 Nat.zero_lt_one (by show _ < 48; first | assumption | omega) ?_
  refine ow_aload_n (pc := 20) hX d_M_add_20 rfl ?_
  refine ow_gR (pc := 21) hX (kd_M Y n s c) 21 d_M_add_21 kw_522 rfl Nat.zero_lt_one ?_
  refine ow_iload (pc := 24) hX d_M_add_24 rfl ?_
  refine ow_iload_n (pc := 26) hX d_M_add_26 rfl ?_
  refine ow_sI (pc := 27) hX rfl d_M_add_27 Nat.zero_lt_one (by show _ < 48; first | assumption | omega) ?_
  refine ow_aload_n (pc := 28) hX d_M_add_28 rfl ?_
  refine ow_gR (pc := 29) hX (kd_M Y n s c) 22 d_M_add_29 kw_523 rfl Nat.zero_lt_one ?_
  refine ow_iload (pc := 32) hX d_M_add_32 rfl ?_
  refine ow_iload (pc := 34) hX d_M_add_34 rfl ?_
  refine ow_sI (pc := 36) hX rfl d_M_add_36 Nat.zero_lt_one (by show _ < 48; first | assumption | omega) ?_
  refine ow_aload_n (pc := 37) hX d_M_add_37 rfl ?_
  refine ow_gR (pc := 38) hX (kd_M Y n s c) 19 d_M_add_38 kw_520 rfl Nat.zero_lt_one ?_
  refine ow_iload_n (pc := 41) hX d_M_add_41 rfl ?_
  refine ow_dup2 (pc := 42) hX d_M_add_42 rfl rfl ?_
  refine ow_aN (pc := 43) hX rfl d_M_add_43 Nat.zero_lt_one (by show _ < 12; first | assumption | omega) ?_
  try simp only [un_1, un_2, ui_1, ui_2, ui_3, ul_1, ul_2, ul_3, ul_4, ur_1, ur_2, ur_3, ur_4, Nat.reduceEqDiff, false_and, and_false, true_and, and_true, and_self, reduceIte]
  refine ow_iconst (pc := 44) (v := nI 1) hX d_M_add_44 (by decide) ?_
  refine ow_addn (pc := 45) hX d_M_add_45 ?_
  refine ow_sN (pc := 46) hX rfl d_M_add_46 Nat.zero_lt_one (by show _ < 12; first | assumption | omega) ?_
  exact ow_vret (pc := 47) hX d_M_add_47 rfl (by rfl)
theorem km_lv_m (r : Nat) (u : UU) (k : Nat) : (fo (km_lv1 r) u k).1 14 0 r = u.1 14 0 r := by
  induction k with
  | zero => rfl
  | succ k ih =>
    show (km_lv1 r k (fo (km_lv1 r) u k)).1 14 0 r = _
    rw [← ih]
    simp [km_lv1, ui_1, un_1]
set_option maxRecDepth 100000 in
set_option maxHeartbeats 4000000 in
theorem w_M_leave {X : OX} (Y : YY) (n s c : Nat) (hX : ox X (vM Y n s c) (rd 0) b_M_leave 3 "SlottedMeshModel" gz none) (r : Nat) (hr : r < 12) (u1 : UU) (m : Nat) (hm : u1.1 14 0 r = m) (hm3 : m ≤ 3) : ∀ j k, k + j = m → ow X (vM Y n s c) none (fo (km_lv1 r) u1 m) (fo (km_lv1 r) u1 k) [(0, .ref (pv_ad (vM Y n s c) 0 0)), (1, .int (nI r)), (2, .int (nI (4 * r + k)))] 14 [] := by
  intro j
  induction j with
  | zero =>
    intro k hk
    refine ow_iload_n (pc := 14) hX d_M_leave_14 rfl ?_
    refine ow_iconst (pc := 15) (v := nI 4) hX d_M_leave_15 (by decide) ?_
    refine ow_iload_n (pc := 16) hX d_M_leave_16 rfl ?_
    refine ow_muln (pc := 17) hX d_M_leave_17 ?_
    refine ow_aload_n (pc := 18) hX d_M_leave_18 rfl ?_
    refine ow_gR (pc := 19) hX (kd_M Y n s c) 19 d_M_leave_19 kw_520 rfl Nat.zero_lt_one ?_
    refine ow_iload_n (pc := 22) hX d_M_leave_22 rfl ?_
    refine ow_aN (pc := 23) hX rfl d_M_leave_23 Nat.zero_lt_one (by show _ < 12; first | assumption | omega) ?_
    refine ow_addn (pc := 24) hX d_M_leave_24 ?_
    rw [km_lv_m, hm]
    refine ow_nc_ge (pc := 25) (tgt := 76) hX d_M_leave_25 (by decide) (by first | assumption | omega) (by first | assumption | omega) (fun h25 => ?_) (fun h25 => ?_)
    · skip
      exact ow_vret (pc := 76) hX d_M_leave_76 rfl (by rw [show m = k by omega])
    · skip
      exact absurd h25 (by omega)
  | succ j ih =>
    intro k hk
    refine ow_iload_n (pc := 14) hX d_M_leave_14 rfl ?_
    refine ow_iconst (pc := 15) (v := nI 4) hX d_M_leave_15 (by decide) ?_
    refine ow_iload_n (pc := 16) hX d_M_leave_16 rfl ?_
    refine ow_muln (pc := 17) hX d_M_leave_17 ?_
    refine ow_aload_n (pc := 18) hX d_M_leave_18 rfl ?_
    refine ow_gR (pc := 19) hX (kd_M Y n s c) 19 d_M_leave_19 kw_520 rfl Nat.zero_lt_one ?_
    refine ow_iload_n (pc := 22) hX d_M_leave_22 rfl ?_
    refine ow_aN (pc := 23) hX rfl d_M_leave_23 Nat.zero_lt_one (by show _ < 12; first | assumption | omega) ?_
    refine ow_addn (pc := 24) hX d_M_leave_24 ?_
    rw [km_lv_m, hm]
    refine ow_nc_ge (pc := 25) (tgt := 76) hX d_M_leave_25 (by decide) (by first | assumption | omega) (by first | assumption | omega) (fun h25 => ?_) (fun h25 => ?_)
    · skip
      exact absurd h25 (by omega)
    · skip
      refine ow_aload_n (pc := 28) hX d_M_leave_28 rfl ?_
      refine ow_gR (pc := 29) hX (kd_M Y n s c) 20 d_M_leave_29 kw_521 rfl Nat.zero_lt_one ?_
      refine ow_iload_n (pc := 32) hX d_M_leave_32 rfl ?_
      refine ow_aload_n (pc := 33) hX d_M_leave_33 rfl ?_
      refine ow_gR (pc := 34) hX (kd_M Y n s c) 20 d_M_leave_34 kw_521 rfl Nat.zero_lt_one ?_
      refine ow_iload_n (pc := 37) hX d_M_leave_37 rfl ?_
      refine ow_iconst (pc := 38) (v := nI 1) hX d_M_leave_38 (by decide) ?_
      refine ow_addn (pc := 39) hX d_M_leave_39 ?_
      refine ow_aN (pc := 40) hX rfl d_M_leave_40 Nat.zero_lt_one (by show _ < 48; first | assumption | omega) ?_
      refine ow_sN (pc := 41) hX rfl d_M_leave_41 Nat.zero_lt_one (by show _ < 48; first | assumption | omega) ?_
      refine ow_aload_n (pc := 42) hX d_M_leave_42 rfl ?_
      refine ow_gR (pc := 43) hX (kd_M Y n s c) 21 d_M_leave_43 kw_522 rfl Nat.zero_lt_one ?_
      refine ow_iload_n (pc := 46) hX d_M_leave_46 rfl ?_
      refine ow_aload_n (pc := 47) hX d_M_leave_47 rfl ?_
      refine ow_gR (pc := 48) hX (kd_M Y n s c) 21 d_M_leave_48 kw_522 rfl Nat.zero_lt_one ?_
      refine ow_iload_n (pc := 51) hX d_M_leave_51 rfl ?_
      refine ow_iconst (pc := 52) (v := nI 1) hX d_M_leave_52 (by decide) ?_
      refine ow_addn (pc := 53) hX d_M_leave_53 ?_
      refine ow_aI (pc := 54) hX rfl d_M_leave_54 Nat.zero_lt_one (by show _ < 48; first | assumption | omega) ?_
      try simp only [un_1, un_2, ui_1, ui_2, ui_3, ul_1, ul_2, ul_3, ul_4, ur_1, ur_2, ur_3, ur_4, Nat.reduceEqDiff, false_and, and_false, true_and, and_true, and_self, reduceIte]
      refine ow_sI (pc := 55) hX rfl d_M_leave_55 Nat.zero_lt_one (by show _ < 48; first | assumption | omega) ?_
      refine ow_aload_n (pc := 56) hX d_M_leave_56 rfl ?_
      refine ow_gR (pc := 57) hX (kd_M Y n s c) 22 d_M_leave_57 kw_523 rfl Nat.zero_lt_one ?_
      refine ow_iload_n (pc := 60) hX d_M_leave_60 rfl ?_
      refine ow_aload_n (pc := 61) hX d_M_leave_61 rfl ?_
      refine ow_gR (pc := 62) hX (kd_M Y n s c) 22 d_M_leave_62 kw_523 rfl Nat.zero_lt_one ?_
      refine ow_iload_n (pc := 65) hX d_M_leave_65 rfl ?_
      refine ow_iconst (pc := 66) (v := nI 1) hX d_M_leave_66 (by decide) ?_
      refine ow_addn (pc := 67) hX d_M_leave_67 ?_
      refine ow_aI (pc := 68) hX rfl d_M_leave_68 Nat.zero_lt_one (by show _ < 48; first | assumption | omega) ?_
      try simp only [un_1, un_2, ui_1, ui_2, ui_3, ul_1, ul_2, ul_3, ul_4, ur_1, ur_2, ur_3, ur_4, Nat.reduceEqDiff, false_and, and_false, true_and, and_true, and_self, reduceIte]
      refine ow_sI (pc := 69) hX rfl d_M_leave_69 Nat.zero_lt_one (by show _ < 48; first | assumption | omega) ?_
      refine ow_iinc (pc := 70) (l2 := [(0, _), (1, _), (2, _)]) hX d_M_leave_70 rfl (ii_1 _) (by decide) rfl rfl ?_
      refine ow_goto (pc := 73) (tgt := 14) hX d_M_leave_73 (by decide) ?_
      exact ih (k + 1) (by omega)
set_option maxRecDepth 100000 in
set_option maxHeartbeats 4000000 in
theorem c_M_leave (l : Launch) (Y : YY) (n s c : Nat) (hV : pv_ok (vM Y n s c)) (u : UU) (r : Nat) (hr : r < 12) (h1 : 1 ≤ u.1 14 0 r) (h4 : u.1 14 0 r ≤ 4) : Ct l (vM Y n s c) ⟨"SlottedMeshModel", "leave", "(I)V"⟩ (wz ⟨"SlottedMeshModel", "leave", "(I)V"⟩ b_M_leave 3 none) (rd 0) [.ref (pv_ad (vM Y n s c) 0 0), .int (nI r)] u none (km_leave u r) := by
  refine ct_mk hV (by decide +kernel) (Nat.le_of_ble_eq_true rfl) (fun X hX => ?_)
  have hX : ox X (vM Y n s c) (rd 0) b_M_leave 3 "SlottedMeshModel" gz none := hX
  show ow X (vM Y n s c) none (km_leave u r) u [(0, .ref (pv_ad (vM Y n s c) 0 0)), (1, .int (nI r))] 0 []
  refine ow_aload_n (pc := 0) hX d_M_leave_0 rfl ?_
  refine ow_gR (pc := 1) hX (kd_M Y n s c) 19 d_M_leave_1 kw_520 rfl Nat.zero_lt_one ?_
  refine ow_iload_n (pc := 4) hX d_M_leave_4 rfl ?_
  refine ow_dup2 (pc := 5) hX d_M_leave_5 rfl rfl ?_
  refine ow_aN (pc := 6) hX rfl d_M_leave_6 Nat.zero_lt_one (by show _ < 12; first | assumption | omega) ?_
  refine ow_iconst (pc := 7) (v := nI 1) hX d_M_leave_7 (by decide) ?_
  refine ow_subn (pc := 8) hX d_M_leave_8 (by first | assumption | omega) ?_
  refine ow_sN (pc := 9) hX rfl d_M_leave_9 Nat.zero_lt_one (by show _ < 12; first | assumption | omega) ?_
  refine ow_iconst (pc := 10) (v := nI 4) hX d_M_leave_10 (by decide) ?_
  refine ow_iload_n (pc := 11) hX d_M_leave_11 rfl ?_
  refine ow_muln (pc := 12) hX d_M_leave_12 ?_
  refine ow_istore_n (pc := 13) (l2 := [(0, _), (1, _), (2, _)]) hX d_M_leave_13 (by decide) rfl rfl ?_
  exact w_M_leave Y n s c hX r hr _ _ (by simp [un_1]) (by omega) (u.1 14 0 r - 1) 0 (by omega)
set_option maxRecDepth 100000 in
set_option maxHeartbeats 4000000 in
theorem c_M_sample (l : Launch) (Y : YY) (n s c : Nat) (hV : pv_ok (vM Y n s c)) (u : UU) (x v : Int32) (hn : n ≤ 6) (hu : wm n u) : Ct l (vM Y n s c) ⟨"SlottedMeshModel", "sample", "(II)I"⟩ (wz ⟨"SlottedMeshModel", "sample", "(II)I"⟩ b_M_sample 3 (some .int)) (rd 1) [.ref (pv_ad (vM Y n s c) 0 0), .int x, .int v] u (some (.int (km_sample n u x v).1)) ((km_sample n u x v).2) := by
  refine ct_mk hV (by decide +kernel) (Nat.le_of_ble_eq_true rfl) (fun X hX => ?_)
  have hX : ox X (vM Y n s c) (rd 1) b_M_sample 3 "SlottedMeshModel" gz (some .int) := hX
  show ow X (vM Y n s c) (some (.int (km_sample n u x v).1)) ((km_sample n u x v).2) u [(0, .ref (pv_ad (vM Y n s c) 0 0)), (1, .int x), (2, .int v)] 0 []
  rcases hx : nd n x with _ | a
  · skip
    refine ow_aload_n (pc := 0) hX d_M_sample_0 rfl ?_
    refine ow_iload_n (pc := 1) hX d_M_sample_1 rfl ?_
    refine ow_callV (pc := 2) hX (kd_M Y n s c) Nat.zero_lt_one (c_M_noNode _ Y n s c hV u x hn) (cw_V hX mz_M_noNode kw_609 ⟨rfl, rfl⟩ (by decide)) rfl (Nat.le_of_ble_eq_true rfl) d_M_sample_2 rfl ?_
    refine ow_st (st2 := .int (nI 1) :: _) (by rw [hx]; rfl) ?_
    refine ow_nz_ne (pc := 5) (tgt := 45) hX d_M_sample_5 (by decide) (by first | assumption | omega | (have := hu.2.1 a; omega) | (have := hu.2.2.1 a; omega) | (have := hu.2.2.2.2.1 a; omega)) (fun h5 => ?_) (fun h5 => ?_)
    · skip
      refine ow_iconst (pc := 45) (v := (-1)) hX d_M_sample_45 (by decide) ?_
      exact ow_iret (pc := 46) hX d_M_sample_46 (by first | rfl | (simp only [km_sample, hx]; done) | (simp only [km_sample, hx]; first | rw [if_pos h9] | rw [if_neg h9, if_pos h18] | rw [if_neg h9, if_neg h18, if_pos h25] | rw [if_neg h9, if_neg h18, if_neg h25, if_pos h32] | rw [if_neg h9, if_neg h18, if_neg h25, if_neg h32, if_pos h42] | (rw [if_neg h9, if_neg h18, if_neg h25, if_neg h32, if_neg h42] <;> first | rfl | (simp [km_add, ui_2, un_2]; done)))) (by first | rfl | (simp only [km_sample, hx]; done) | (simp only [km_sample, hx]; first | rw [if_pos h9] | rw [if_neg h9, if_pos h18] | rw [if_neg h9, if_neg h18, if_pos h25] | rw [if_neg h9, if_neg h18, if_neg h25, if_pos h32] | rw [if_neg h9, if_neg h18, if_neg h25, if_neg h32, if_pos h42] | (rw [if_neg h9, if_neg h18, if_neg h25, if_neg h32, if_neg h42] <;> first | rfl | (simp [km_add, ui_2, un_2]; done))))
    · skip
      exact absurd h5 (by decide)
  · skip
    obtain ⟨ha, rfl⟩ := nd_some (by omega) hx
    refine ow_aload_n (pc := 0) hX d_M_sample_0 rfl ?_
    refine ow_iload_n (pc := 1) hX d_M_sample_1 rfl ?_
    refine ow_callV (pc := 2) hX (kd_M Y n s c) Nat.zero_lt_one (c_M_noNode _ Y n s c hV u (nI a) hn) (cw_V hX mz_M_noNode kw_609 ⟨rfl, rfl⟩ (by decide)) rfl (Nat.le_of_ble_eq_true rfl) d_M_sample_2 rfl ?_
    refine ow_st (st2 := .int (nI 0) :: _) (by rw [hx]; rfl) ?_
    refine ow_nz_ne (pc := 5) (tgt := 45) hX d_M_sample_5 (by decide) (by first | assumption | omega | (have := hu.2.1 a; omega) | (have := hu.2.2.1 a; omega) | (have := hu.2.2.2.2.1 a; omega)) (fun h5 => ?_) (fun h5 => ?_)
    · skip
      exact absurd h5 (by decide)
    · skip
      refine ow_iload_n (pc := 8) hX d_M_sample_8 rfl ?_
      refine ow_nz_eq (pc := 9) (tgt := 45) hX d_M_sample_9 (by decide) (by first | assumption | omega | (have := hu.2.1 a; omega) | (have := hu.2.2.1 a; omega) | (have := hu.2.2.2.2.1 a; omega)) (fun h9 => ?_) (fun h9 => ?_)
      · skip
        refine ow_iconst (pc := 45) (v := (-1)) hX d_M_sample_45 (by decide) ?_
        exact ow_iret (pc := 46) hX d_M_sample_46 (by first | rfl | (simp only [km_sample, hx]; done) | (simp only [km_sample, hx]; first | rw [if_pos h9] | rw [if_neg h9, if_pos h18] | rw [if_neg h9, if_neg h18, if_pos h25] | rw [if_neg h9, if_neg h18, if_neg h25, if_pos h32] | rw [if_neg h9, if_neg h18, if_neg h25, if_neg h32, if_pos h42] | (rw [if_neg h9, if_neg h18, if_neg h25, if_neg h32, if_neg h42] <;> first | rfl | (simp [km_add, ui_2, un_2]; done)))) (by first | rfl | (simp only [km_sample, hx]; done) | (simp only [km_sample, hx]; first | rw [if_pos h9] | rw [if_neg h9, if_pos h18] | rw [if_neg h9, if_neg h18, if_pos h25] | rw [if_neg h9, if_neg h18, if_neg h25, if_pos h32] | rw [if_neg h9, if_neg h18, if_neg h25, if_neg h32, if_pos h42] | (rw [if_neg h9, if_neg h18, if_neg h25, if_neg h32, if_neg h42] <;> first | rfl | (simp [km_add, ui_2, un_2]; done))))
      · skip
        refine ow_aload_n (pc := 12) hX d_M_sample_12 rfl ?_
        refine ow_gR (pc := 13) hX (kd_M Y n s c) 6 d_M_sample_13 kw_507 rfl Nat.zero_lt_one ?_
        refine ow_iload_n (pc := 16) hX d_M_sample_16 rfl ?_
        refine ow_aZ (pc := 17) hX rfl d_M_sample_17 Nat.zero_lt_one (by show _ < 6; first | assumption | omega) ?_
        refine ow_nz_eq (pc := 18) (tgt := 45) hX d_M_sample_18 (by decide) (by first | assumption | omega | (have := hu.2.1 a; omega) | (have := hu.2.2.1 a; omega) | (have := hu.2.2.2.2.1 a; omega)) (fun h18 => ?_) (fun h18 => ?_)
        · skip
          refine ow_iconst (pc := 45) (v := (-1)) hX d_M_sample_45 (by decide) ?_
          exact ow_iret (pc := 46) hX d_M_sample_46 (by first | rfl | (simp only [km_sample, hx]; done) | (simp only [km_sample, hx]; first | rw [if_pos h9] | rw [if_neg h9, if_pos h18] | rw [if_neg h9, if_neg h18, if_pos h25] | rw [if_neg h9, if_neg h18, if_neg h25, if_pos h32] | rw [if_neg h9, if_neg h18, if_neg h25, if_neg h32, if_pos h42] | (rw [if_neg h9, if_neg h18, if_neg h25, if_neg h32, if_neg h42] <;> first | rfl | (simp [km_add, ui_2, un_2]; done)))) (by first | rfl | (simp only [km_sample, hx]; done) | (simp only [km_sample, hx]; first | rw [if_pos h9] | rw [if_neg h9, if_pos h18] | rw [if_neg h9, if_neg h18, if_pos h25] | rw [if_neg h9, if_neg h18, if_neg h25, if_pos h32] | rw [if_neg h9, if_neg h18, if_neg h25, if_neg h32, if_pos h42] | (rw [if_neg h9, if_neg h18, if_neg h25, if_neg h32, if_neg h42] <;> first | rfl | (simp [km_add, ui_2, un_2]; done))))
        · skip
          refine ow_iload_n (pc := 21) hX d_M_sample_21 rfl ?_
          refine ow_sipush (pc := 22) (v := (-1000)) hX d_M_sample_22 (by decide) ?_
          refine ow_ic_lt (pc := 25) (tgt := 45) hX d_M_sample_25 (by decide) (fun h25 => ?_) (fun h25 => ?_)
          · skip
            refine ow_iconst (pc := 45) (v := (-1)) hX d_M_sample_45 (by decide) ?_
            exact ow_iret (pc := 46) hX d_M_sample_46 (by first | rfl | (simp only [km_sample, hx]; done) | (simp only [km_sample, hx]; first | rw [if_pos h9] | rw [if_neg h9, if_pos h18] | rw [if_neg h9, if_neg h18, if_pos h25] | rw [if_neg h9, if_neg h18, if_neg h25, if_pos h32] | rw [if_neg h9, if_neg h18, if_neg h25, if_neg h32, if_pos h42] | (rw [if_neg h9, if_neg h18, if_neg h25, if_neg h32, if_neg h42] <;> first | rfl | (simp [km_add, ui_2, un_2]; done)))) (by first | rfl | (simp only [km_sample, hx]; done) | (simp only [km_sample, hx]; first | rw [if_pos h9] | rw [if_neg h9, if_pos h18] | rw [if_neg h9, if_neg h18, if_pos h25] | rw [if_neg h9, if_neg h18, if_neg h25, if_pos h32] | rw [if_neg h9, if_neg h18, if_neg h25, if_neg h32, if_pos h42] | (rw [if_neg h9, if_neg h18, if_neg h25, if_neg h32, if_neg h42] <;> first | rfl | (simp [km_add, ui_2, un_2]; done))))
          · skip
            refine ow_iload_n (pc := 28) hX d_M_sample_28 rfl ?_
            refine ow_sipush (pc := 29) (v := nI 1000) hX d_M_sample_29 (by decide) ?_
            refine ow_ic_gt (pc := 32) (tgt := 45) hX d_M_sample_32 (by decide) (fun h32 => ?_) (fun h32 => ?_)
            · skip
              refine ow_iconst (pc := 45) (v := (-1)) hX d_M_sample_45 (by decide) ?_
              exact ow_iret (pc := 46) hX d_M_sample_46 (by first | rfl | (simp only [km_sample, hx]; done) | (simp only [km_sample, hx]; first | rw [if_pos h9] | rw [if_neg h9, if_pos h18] | rw [if_neg h9, if_neg h18, if_pos h25] | rw [if_neg h9, if_neg h18, if_neg h25, if_pos h32] | rw [if_neg h9, if_neg h18, if_neg h25, if_neg h32, if_pos h42] | (rw [if_neg h9, if_neg h18, if_neg h25, if_neg h32, if_neg h42] <;> first | rfl | (simp [km_add, ui_2, un_2]; done)))) (by first | rfl | (simp only [km_sample, hx]; done) | (simp only [km_sample, hx]; first | rw [if_pos h9] | rw [if_neg h9, if_pos h18] | rw [if_neg h9, if_neg h18, if_pos h25] | rw [if_neg h9, if_neg h18, if_neg h25, if_pos h32] | rw [if_neg h9, if_neg h18, if_neg h25, if_neg h32, if_pos h42] | (rw [if_neg h9, if_neg h18, if_neg h25, if_neg h32, if_neg h42] <;> first | rfl | (simp [km_add, ui_2, un_2]; done))))
            · skip
              refine ow_aload_n (pc := 35) hX d_M_sample_35 rfl ?_
              refine ow_gR (pc := 36) hX (kd_M Y n s c) 19 d_M_sample_36 kw_520 rfl Nat.zero_lt_one ?_
              refine ow_iload_n (pc := 39) hX d_M_sample_39 rfl ?_
              refine ow_aN (pc := 40) hX rfl d_M_sample_40 Nat.zero_lt_one (by show _ < 12; first | assumption | omega) ?_
              refine ow_iconst (pc := 41) (v := nI 4) hX d_M_sample_41 (by decide) ?_
              refine ow_nc_ne (pc := 42) (tgt := 47) hX d_M_sample_42 (by decide) (by first | assumption | omega | (have := hu.2.1 a; omega) | (have := hu.2.2.1 a; omega) | (have := hu.2.2.2.2.1 a; omega)) (by first | assumption | omega | (have := hu.2.1 a; omega) | (have := hu.2.2.1 a; omega) | (have := hu.2.2.2.2.1 a; omega)) (fun h42 => ?_) (fun h42 => ?_)
              · skip
                refine ow_aload_n (pc := 47) hX d_M_sample_47 rfl ?_
                refine ow_gR (pc := 48) hX (kd_M Y n s c) 26 d_M_sample_48 kw_527 rfl Nat.zero_lt_one ?_
                refine ow_iload_n (pc := 51) hX d_M_sample_51 rfl ?_
                refine ow_dup2 (pc := 52) hX d_M_sample_52 rfl rfl ?_
                refine ow_aI (pc := 53) hX rfl d_M_sample_53 Nat.zero_lt_one (by show _ < 6; first | assumption | omega) ?_
                refine ow_iconst (pc := 54) (v := nI 1) hX d_M_sample_54 (by decide) ?_
                refine ow_iadd (pc := 55) hX d_M_sample_55 ?_
                refine ow_sI (pc := 56) hX rfl d_M_sample_56 Nat.zero_lt_one (by show _ < 6; first | assumption | omega) ?_
                refine ow_aload_n (pc := 57) hX d_M_sample_57 rfl ?_
                refine ow_iload_n (pc := 58) hX d_M_sample_58 rfl ?_
                refine ow_iload_n (pc := 59) hX d_M_sample_59 rfl ?_
                refine ow_aload_n (pc := 60) hX d_M_sample_60 rfl ?_
                refine ow_gR (pc := 61) hX (kd_M Y n s c) 26 d_M_sample_61 kw_527 rfl Nat.zero_lt_one ?_
                refine ow_iload_n (pc := 64) hX d_M_sample_64 rfl ?_
                refine ow_aI (pc := 65) hX rfl d_M_sample_65 Nat.zero_lt_one (by show _ < 6; first | assumption | omega) ?_
                try simp only [un_1, un_2, ui_1, ui_2, ui_3, ul_1, ul_2, ul_3, ul_4, ur_1, ur_2, ur_3, ur_4, Nat.reduceEqDiff, false_and, and_false, true_and, and_true, and_self, reduceIte]
                refine ow_iload_n (pc := 66) hX d_M_sample_66 rfl ?_
                refine ow_callV (pc := 67) hX (kd_M Y n s c) Nat.zero_lt_one (c_M_add _ Y n s c hV _ a a _ v (by omega) (by have := hu.2.2.2.2.1 a; show u.1 14 0 a < 4; omega)) (cw_V hX mz_M_add kw_663 ⟨rfl, rfl⟩ (by decide)) rfl (Nat.le_of_ble_eq_true rfl) d_M_sample_67 rfl ?_
                refine ow_aload_n (pc := 70) hX d_M_sample_70 rfl ?_
                refine ow_gR (pc := 71) hX (kd_M Y n s c) 26 d_M_sample_71 kw_527 rfl Nat.zero_lt_one ?_
                refine ow_iload_n (pc := 74) hX d_M_sample_74 rfl ?_
                refine ow_aI (pc := 75) hX rfl d_M_sample_75 Nat.zero_lt_one (by show _ < 6; first | assumption | omega) ?_
                try simp only [un_1, un_2, ui_1, ui_2, ui_3, ul_1, ul_2, ul_3, ul_4, ur_1, ur_2, ur_3, ur_4, Nat.reduceEqDiff, false_and, and_false, true_and, and_true, and_self, reduceIte]
                exact ow_iret (pc := 76) hX d_M_sample_76 (by first | rfl | (simp only [km_sample, hx]; done) | (simp only [km_sample, hx]; first | rw [if_pos h9] | rw [if_neg h9, if_pos h18] | rw [if_neg h9, if_neg h18, if_pos h25] | rw [if_neg h9, if_neg h18, if_neg h25, if_pos h32] | rw [if_neg h9, if_neg h18, if_neg h25, if_neg h32, if_pos h42] | (rw [if_neg h9, if_neg h18, if_neg h25, if_neg h32, if_neg h42] <;> first | rfl | (simp [km_add, ui_2, un_2]; done)))) (by first | rfl | (simp only [km_sample, hx]; done) | (simp only [km_sample, hx]; first | rw [if_pos h9] | rw [if_neg h9, if_pos h18] | rw [if_neg h9, if_neg h18, if_pos h25] | rw [if_neg h9, if_neg h18, if_neg h25, if_pos h32] | rw [if_neg h9, if_neg h18, if_neg h25, if_neg h32, if_pos h42] | (rw [if_neg h9, if_neg h18, if_neg h25, if_neg h32, if_neg h42] <;> first | rfl | (simp [km_add, ui_2, un_2]; done))))
              · skip
                refine ow_iconst (pc := 45) (v := (-1)) hX d_M_sample_45 (by decide) ?_
                exact ow_iret (pc := 46) hX d_M_sample_46 (by first | rfl | (simp only [km_sample, hx]; done) | (simp only [km_sample, hx]; first | rw [if_pos h9] | rw [if_neg h9, if_pos h18] | rw [if_neg h9, if_neg h18, if_pos h25] | rw [if_neg h9, if_neg h18, if_neg h25, if_pos h32] | rw [if_neg h9, if_neg h18, if_neg h25, if_neg h32, if_pos h42] | (rw [if_neg h9, if_neg h18, if_neg h25, if_neg h32, if_neg h42] <;> first | rfl | (simp [km_add, ui_2, un_2]; done)))) (by first | rfl | (simp only [km_sample, hx]; done) | (simp only [km_sample, hx]; first | rw [if_pos h9] | rw [if_neg h9, if_pos h18] | rw [if_neg h9, if_neg h18, if_pos h25] | rw [if_neg h9, if_neg h18, if_neg h25, if_pos h32] | rw [if_neg h9, if_neg h18, if_neg h25, if_neg h32, if_pos h42] | (rw [if_neg h9, if_neg h18, if_neg h25, if_neg h32, if_neg h42] <;> first | rfl | (simp [km_add, ui_2, un_2]; done))))
set_option maxRecDepth 100000 in
set_option maxHeartbeats 4000000 in
theorem c_M_control (l : Launch) (Y : YY) (n s c : Nat) (hV : pv_ok (vM Y n s c)) (u : UU) (x t p i : Int32) (hn : n ≤ 6) : Ct l (vM Y n s c) ⟨"SlottedMeshModel", "control", "(IIII)Z"⟩ (wz ⟨"SlottedMeshModel", "control", "(IIII)Z"⟩ b_M_control 5 (some .boolean)) (rd 1) [.ref (pv_ad (vM Y n s c) 0 0), .int x, .int t, .int p, .int i] u (some (.int (nI (km_control n u x t p i).1))) ((km_control n u x t p i).2) := by
  refine ct_mk hV (by decide +kernel) (Nat.le_of_ble_eq_true rfl) (fun X hX => ?_)
  have hX : ox X (vM Y n s c) (rd 1) b_M_control 5 "SlottedMeshModel" gz (some .boolean) := hX
  show ow X (vM Y n s c) (some (.int (nI (km_control n u x t p i).1))) ((km_control n u x t p i).2) u [(0, .ref (pv_ad (vM Y n s c) 0 0)), (1, .int x), (2, .int t), (3, .int p), (4, .int i)] 0 []
  rcases hx : nd n x with _ | a
  · skip
    refine ow_aload_n (pc := 0) hX d_M_control_0 rfl ?_
    refine ow_iload_n (pc := 1) hX d_M_control_1 rfl ?_
    refine ow_callV (pc := 2) hX (kd_M Y n s c) Nat.zero_lt_one (c_M_noNode _ Y n s c hV u x hn) (cw_V hX mz_M_noNode kw_609 ⟨rfl, rfl⟩ (by decide)) rfl (Nat.le_of_ble_eq_true rfl) d_M_control_2 rfl ?_
    refine ow_st (st2 := .int (nI 1) :: _) (by rw [hx]; rfl) ?_
    refine ow_nz_ne (pc := 5) (tgt := 48) hX d_M_control_5 (by decide) (by first | assumption | omega) (fun h5 => ?_) (fun h5 => ?_)
    · skip
      refine ow_iconst (pc := 48) (v := nI 0) hX d_M_control_48 (by decide) ?_
      exact ow_zret (pc := 49) hX d_M_control_49 (nb_01 (by first | decide | assumption | omega | exact kbit_le _ _)) (by first | rfl | (simp only [km_control, hx]; done) | (simp only [km_control, hx]; first | rw [if_pos h9] | rw [if_neg h9, if_pos h16] | rw [if_neg h9, if_neg h16, if_pos h23] | rw [if_neg h9, if_neg h16, if_neg h23, if_pos h27] | rw [if_neg h9, if_neg h16, if_neg h23, if_neg h27, if_pos h33] | rw [if_neg h9, if_neg h16, if_neg h23, if_neg h27, if_neg h33, if_pos h38] | rw [if_neg h9, if_neg h16, if_neg h23, if_neg h27, if_neg h33, if_neg h38, if_pos h45] | rw [if_neg h9, if_neg h16, if_neg h23, if_neg h27, if_neg h33, if_neg h38, if_neg h45])) (by first | rfl | (simp only [km_control, hx]; done) | (simp only [km_control, hx]; first | rw [if_pos h9] | rw [if_neg h9, if_pos h16] | rw [if_neg h9, if_neg h16, if_pos h23] | rw [if_neg h9, if_neg h16, if_neg h23, if_pos h27] | rw [if_neg h9, if_neg h16, if_neg h23, if_neg h27, if_pos h33] | rw [if_neg h9, if_neg h16, if_neg h23, if_neg h27, if_neg h33, if_pos h38] | rw [if_neg h9, if_neg h16, if_neg h23, if_neg h27, if_neg h33, if_neg h38, if_pos h45] | rw [if_neg h9, if_neg h16, if_neg h23, if_neg h27, if_neg h33, if_neg h38, if_neg h45]))
    · skip
      exact absurd h5 (by decide)
  · skip
    obtain ⟨ha, rfl⟩ := nd_some (by omega) hx
    refine ow_aload_n (pc := 0) hX d_M_control_0 rfl ?_
    refine ow_iload_n (pc := 1) hX d_M_control_1 rfl ?_
    refine ow_callV (pc := 2) hX (kd_M Y n s c) Nat.zero_lt_one (c_M_noNode _ Y n s c hV u (nI a) hn) (cw_V hX mz_M_noNode kw_609 ⟨rfl, rfl⟩ (by decide)) rfl (Nat.le_of_ble_eq_true rfl) d_M_control_2 rfl ?_
    refine ow_st (st2 := .int (nI 0) :: _) (by rw [hx]; rfl) ?_
    refine ow_nz_ne (pc := 5) (tgt := 48) hX d_M_control_5 (by decide) (by first | assumption | omega) (fun h5 => ?_) (fun h5 => ?_)
    · skip
      exact absurd h5 (by decide)
    · skip
      refine ow_iload_n (pc := 8) hX d_M_control_8 rfl ?_
      refine ow_nz_eq (pc := 9) (tgt := 48) hX d_M_control_9 (by decide) (by first | assumption | omega) (fun h9 => ?_) (fun h9 => ?_)
      · skip
        refine ow_iconst (pc := 48) (v := nI 0) hX d_M_control_48 (by decide) ?_
        exact ow_zret (pc := 49) hX d_M_control_49 (nb_01 (by first | decide | assumption | omega | exact kbit_le _ _)) (by first | rfl | (simp only [km_control, hx]; done) | (simp only [km_control, hx]; first | rw [if_pos h9] | rw [if_neg h9, if_pos h16] | rw [if_neg h9, if_neg h16, if_pos h23] | rw [if_neg h9, if_neg h16, if_neg h23, if_pos h27] | rw [if_neg h9, if_neg h16, if_neg h23, if_neg h27, if_pos h33] | rw [if_neg h9, if_neg h16, if_neg h23, if_neg h27, if_neg h33, if_pos h38] | rw [if_neg h9, if_neg h16, if_neg h23, if_neg h27, if_neg h33, if_neg h38, if_pos h45] | rw [if_neg h9, if_neg h16, if_neg h23, if_neg h27, if_neg h33, if_neg h38, if_neg h45])) (by first | rfl | (simp only [km_control, hx]; done) | (simp only [km_control, hx]; first | rw [if_pos h9] | rw [if_neg h9, if_pos h16] | rw [if_neg h9, if_neg h16, if_pos h23] | rw [if_neg h9, if_neg h16, if_neg h23, if_pos h27] | rw [if_neg h9, if_neg h16, if_neg h23, if_neg h27, if_pos h33] | rw [if_neg h9, if_neg h16, if_neg h23, if_neg h27, if_neg h33, if_pos h38] | rw [if_neg h9, if_neg h16, if_neg h23, if_neg h27, if_neg h33, if_neg h38, if_pos h45] | rw [if_neg h9, if_neg h16, if_neg h23, if_neg h27, if_neg h33, if_neg h38, if_neg h45]))
      · skip
        refine ow_iload_n (pc := 12) hX d_M_control_12 rfl ?_
        refine ow_sipush (pc := 13) (v := (-1000)) hX d_M_control_13 (by decide) ?_
        refine ow_ic_lt (pc := 16) (tgt := 48) hX d_M_control_16 (by decide) (fun h16 => ?_) (fun h16 => ?_)
        · skip
          refine ow_iconst (pc := 48) (v := nI 0) hX d_M_control_48 (by decide) ?_
          exact ow_zret (pc := 49) hX d_M_control_49 (nb_01 (by first | decide | assumption | omega | exact kbit_le _ _)) (by first | rfl | (simp only [km_control, hx]; done) | (simp only [km_control, hx]; first | rw [if_pos h9] | rw [if_neg h9, if_pos h16] | rw [if_neg h9, if_neg h16, if_pos h23] | rw [if_neg h9, if_neg h16, if_neg h23, if_pos h27] | rw [if_neg h9, if_neg h16, if_neg h23, if_neg h27, if_pos h33] | rw [if_neg h9, if_neg h16, if_neg h23, if_neg h27, if_neg h33, if_pos h38] | rw [if_neg h9, if_neg h16, if_neg h23, if_neg h27, if_neg h33, if_neg h38, if_pos h45] | rw [if_neg h9, if_neg h16, if_neg h23, if_neg h27, if_neg h33, if_neg h38, if_neg h45])) (by first | rfl | (simp only [km_control, hx]; done) | (simp only [km_control, hx]; first | rw [if_pos h9] | rw [if_neg h9, if_pos h16] | rw [if_neg h9, if_neg h16, if_pos h23] | rw [if_neg h9, if_neg h16, if_neg h23, if_pos h27] | rw [if_neg h9, if_neg h16, if_neg h23, if_neg h27, if_pos h33] | rw [if_neg h9, if_neg h16, if_neg h23, if_neg h27, if_neg h33, if_pos h38] | rw [if_neg h9, if_neg h16, if_neg h23, if_neg h27, if_neg h33, if_neg h38, if_pos h45] | rw [if_neg h9, if_neg h16, if_neg h23, if_neg h27, if_neg h33, if_neg h38, if_neg h45]))
        · skip
          refine ow_iload_n (pc := 19) hX d_M_control_19 rfl ?_
          refine ow_sipush (pc := 20) (v := nI 1000) hX d_M_control_20 (by decide) ?_
          refine ow_ic_gt (pc := 23) (tgt := 48) hX d_M_control_23 (by decide) (fun h23 => ?_) (fun h23 => ?_)
          · skip
            refine ow_iconst (pc := 48) (v := nI 0) hX d_M_control_48 (by decide) ?_
            exact ow_zret (pc := 49) hX d_M_control_49 (nb_01 (by first | decide | assumption | omega | exact kbit_le _ _)) (by first | rfl | (simp only [km_control, hx]; done) | (simp only [km_control, hx]; first | rw [if_pos h9] | rw [if_neg h9, if_pos h16] | rw [if_neg h9, if_neg h16, if_pos h23] | rw [if_neg h9, if_neg h16, if_neg h23, if_pos h27] | rw [if_neg h9, if_neg h16, if_neg h23, if_neg h27, if_pos h33] | rw [if_neg h9, if_neg h16, if_neg h23, if_neg h27, if_neg h33, if_pos h38] | rw [if_neg h9, if_neg h16, if_neg h23, if_neg h27, if_neg h33, if_neg h38, if_pos h45] | rw [if_neg h9, if_neg h16, if_neg h23, if_neg h27, if_neg h33, if_neg h38, if_neg h45])) (by first | rfl | (simp only [km_control, hx]; done) | (simp only [km_control, hx]; first | rw [if_pos h9] | rw [if_neg h9, if_pos h16] | rw [if_neg h9, if_neg h16, if_pos h23] | rw [if_neg h9, if_neg h16, if_neg h23, if_pos h27] | rw [if_neg h9, if_neg h16, if_neg h23, if_neg h27, if_pos h33] | rw [if_neg h9, if_neg h16, if_neg h23, if_neg h27, if_neg h33, if_pos h38] | rw [if_neg h9, if_neg h16, if_neg h23, if_neg h27, if_neg h33, if_neg h38, if_pos h45] | rw [if_neg h9, if_neg h16, if_neg h23, if_neg h27, if_neg h33, if_neg h38, if_neg h45]))
          · skip
            refine ow_iload_n (pc := 26) hX d_M_control_26 rfl ?_
            refine ow_if_lt (pc := 27) (tgt := 48) hX d_M_control_27 (by decide) (fun h27 => ?_) (fun h27 => ?_)
            · skip
              refine ow_iconst (pc := 48) (v := nI 0) hX d_M_control_48 (by decide) ?_
              exact ow_zret (pc := 49) hX d_M_control_49 (nb_01 (by first | decide | assumption | omega | exact kbit_le _ _)) (by first | rfl | (simp only [km_control, hx]; done) | (simp only [km_control, hx]; first | rw [if_pos h9] | rw [if_neg h9, if_pos h16] | rw [if_neg h9, if_neg h16, if_pos h23] | rw [if_neg h9, if_neg h16, if_neg h23, if_pos h27] | rw [if_neg h9, if_neg h16, if_neg h23, if_neg h27, if_pos h33] | rw [if_neg h9, if_neg h16, if_neg h23, if_neg h27, if_neg h33, if_pos h38] | rw [if_neg h9, if_neg h16, if_neg h23, if_neg h27, if_neg h33, if_neg h38, if_pos h45] | rw [if_neg h9, if_neg h16, if_neg h23, if_neg h27, if_neg h33, if_neg h38, if_neg h45])) (by first | rfl | (simp only [km_control, hx]; done) | (simp only [km_control, hx]; first | rw [if_pos h9] | rw [if_neg h9, if_pos h16] | rw [if_neg h9, if_neg h16, if_pos h23] | rw [if_neg h9, if_neg h16, if_neg h23, if_pos h27] | rw [if_neg h9, if_neg h16, if_neg h23, if_neg h27, if_pos h33] | rw [if_neg h9, if_neg h16, if_neg h23, if_neg h27, if_neg h33, if_pos h38] | rw [if_neg h9, if_neg h16, if_neg h23, if_neg h27, if_neg h33, if_neg h38, if_pos h45] | rw [if_neg h9, if_neg h16, if_neg h23, if_neg h27, if_neg h33, if_neg h38, if_neg h45]))
            · skip
              refine ow_iload_n (pc := 30) hX d_M_control_30 rfl ?_
              refine ow_bipush (pc := 31) (v := nI 16) hX d_M_control_31 (by decide) ?_
              refine ow_ic_gt (pc := 33) (tgt := 48) hX d_M_control_33 (by decide) (fun h33 => ?_) (fun h33 => ?_)
              · skip
                refine ow_iconst (pc := 48) (v := nI 0) hX d_M_control_48 (by decide) ?_
                exact ow_zret (pc := 49) hX d_M_control_49 (nb_01 (by first | decide | assumption | omega | exact kbit_le _ _)) (by first | rfl | (simp only [km_control, hx]; done) | (simp only [km_control, hx]; first | rw [if_pos h9] | rw [if_neg h9, if_pos h16] | rw [if_neg h9, if_neg h16, if_pos h23] | rw [if_neg h9, if_neg h16, if_neg h23, if_pos h27] | rw [if_neg h9, if_neg h16, if_neg h23, if_neg h27, if_pos h33] | rw [if_neg h9, if_neg h16, if_neg h23, if_neg h27, if_neg h33, if_pos h38] | rw [if_neg h9, if_neg h16, if_neg h23, if_neg h27, if_neg h33, if_neg h38, if_pos h45] | rw [if_neg h9, if_neg h16, if_neg h23, if_neg h27, if_neg h33, if_neg h38, if_neg h45])) (by first | rfl | (simp only [km_control, hx]; done) | (simp only [km_control, hx]; first | rw [if_pos h9] | rw [if_neg h9, if_pos h16] | rw [if_neg h9, if_neg h16, if_pos h23] | rw [if_neg h9, if_neg h16, if_neg h23, if_pos h27] | rw [if_neg h9, if_neg h16, if_neg h23, if_neg h27, if_pos h33] | rw [if_neg h9, if_neg h16, if_neg h23, if_neg h27, if_neg h33, if_pos h38] | rw [if_neg h9, if_neg h16, if_neg h23, if_neg h27, if_neg h33, if_neg h38, if_pos h45] | rw [if_neg h9, if_neg h16, if_neg h23, if_neg h27, if_neg h33, if_neg h38, if_neg h45]))
              · skip
                refine ow_iload (pc := 36) hX d_M_control_36 rfl ?_
                refine ow_if_lt (pc := 38) (tgt := 48) hX d_M_control_38 (by decide) (fun h38 => ?_) (fun h38 => ?_)
                · skip
                  refine ow_iconst (pc := 48) (v := nI 0) hX d_M_control_48 (by decide) ?_
                  exact ow_zret (pc := 49) hX d_M_control_49 (nb_01 (by first | decide | assumption | omega | exact kbit_le _ _)) (by first | rfl | (simp only [km_control, hx]; done) | (simp only [km_control, hx]; first | rw [if_pos h9] | rw [if_neg h9, if_pos h16] | rw [if_neg h9, if_neg h16, if_pos h23] | rw [if_neg h9, if_neg h16, if_neg h23, if_pos h27] | rw [if_neg h9, if_neg h16, if_neg h23, if_neg h27, if_pos h33] | rw [if_neg h9, if_neg h16, if_neg h23, if_neg h27, if_neg h33, if_pos h38] | rw [if_neg h9, if_neg h16, if_neg h23, if_neg h27, if_neg h33, if_neg h38, if_pos h45] | rw [if_neg h9, if_neg h16, if_neg h23, if_neg h27, if_neg h33, if_neg h38, if_neg h45])) (by first | rfl | (simp only [km_control, hx]; done) | (simp only [km_control, hx]; first | rw [if_pos h9] | rw [if_neg h9, if_pos h16] | rw [if_neg h9, if_neg h16, if_pos h23] | rw [if_neg h9, if_neg h16, if_neg h23, if_pos h27] | rw [if_neg h9, if_neg h16, if_neg h23, if_neg h27, if_pos h33] | rw [if_neg h9, if_neg h16, if_neg h23, if_neg h27, if_neg h33, if_pos h38] | rw [if_neg h9, if_neg h16, if_neg h23, if_neg h27, if_neg h33, if_neg h38, if_pos h45] | rw [if_neg h9, if_neg h16, if_neg h23, if_neg h27, if_neg h33, if_neg h38, if_neg h45]))
                · skip
                  refine ow_iload (pc := 41) hX d_M_control_41 rfl ?_
                  refine ow_bipush (pc := 43) (v := nI 16) hX d_M_control_43 (by decide) ?_
                  refine ow_ic_le (pc := 45) (tgt := 50) hX d_M_control_45 (by decide) (fun h45 => ?_) (fun h45 => ?_)
                  · skip
                    refine ow_aload_n (pc := 50) hX d_M_control_50 rfl ?_
                    refine ow_gR (pc := 51) hX (kd_M Y n s c) 29 d_M_control_51 kw_530 rfl Nat.zero_lt_one ?_
                    refine ow_iload_n (pc := 54) hX d_M_control_54 rfl ?_
                    refine ow_iload_n (pc := 55) hX d_M_control_55 rfl ?_
                    refine ow_sI (pc := 56) hX rfl d_M_control_56 Nat.zero_lt_one (by show _ < 6; first | assumption | omega) ?_
                    refine ow_aload_n (pc := 57) hX d_M_control_57 rfl ?_
                    refine ow_gR (pc := 58) hX (kd_M Y n s c) 30 d_M_control_58 kw_531 rfl Nat.zero_lt_one ?_
                    refine ow_iload_n (pc := 61) hX d_M_control_61 rfl ?_
                    refine ow_iload_n (pc := 62) hX d_M_control_62 rfl ?_
                    refine ow_sI (pc := 63) hX rfl d_M_control_63 Nat.zero_lt_one (by show _ < 6; first | assumption | omega) ?_
                    refine ow_aload_n (pc := 64) hX d_M_control_64 rfl ?_
                    refine ow_gR (pc := 65) hX (kd_M Y n s c) 31 d_M_control_65 kw_532 rfl Nat.zero_lt_one ?_
                    refine ow_iload_n (pc := 68) hX d_M_control_68 rfl ?_
                    refine ow_iload (pc := 69) hX d_M_control_69 rfl ?_
                    refine ow_sI (pc := 71) hX rfl d_M_control_71 Nat.zero_lt_one (by show _ < 6; first | assumption | omega) ?_
                    refine ow_iconst (pc := 72) (v := nI 1) hX d_M_control_72 (by decide) ?_
                    exact ow_zret (pc := 73) hX d_M_control_73 (nb_01 (by first | decide | assumption | omega | exact kbit_le _ _)) (by first | rfl | (simp only [km_control, hx]; done) | (simp only [km_control, hx]; first | rw [if_pos h9] | rw [if_neg h9, if_pos h16] | rw [if_neg h9, if_neg h16, if_pos h23] | rw [if_neg h9, if_neg h16, if_neg h23, if_pos h27] | rw [if_neg h9, if_neg h16, if_neg h23, if_neg h27, if_pos h33] | rw [if_neg h9, if_neg h16, if_neg h23, if_neg h27, if_neg h33, if_pos h38] | rw [if_neg h9, if_neg h16, if_neg h23, if_neg h27, if_neg h33, if_neg h38, if_pos h45] | rw [if_neg h9, if_neg h16, if_neg h23, if_neg h27, if_neg h33, if_neg h38, if_neg h45])) (by first | rfl | (simp only [km_control, hx]; done) | (simp only [km_control, hx]; first | rw [if_pos h9] | rw [if_neg h9, if_pos h16] | rw [if_neg h9, if_neg h16, if_pos h23] | rw [if_neg h9, if_neg h16, if_neg h23, if_pos h27] | rw [if_neg h9, if_neg h16, if_neg h23, if_neg h27, if_pos h33] | rw [if_neg h9, if_neg h16, if_neg h23, if_neg h27, if_neg h33, if_pos h38] | rw [if_neg h9, if_neg h16, if_neg h23, if_neg h27, if_neg h33, if_neg h38, if_pos h45] | rw [if_neg h9, if_neg h16, if_neg h23, if_neg h27, if_neg h33, if_neg h38, if_neg h45]))
                  · skip
                    refine ow_iconst (pc := 48) (v := nI 0) hX d_M_control_48 (by decide) ?_
                    exact ow_zret (pc := 49) hX d_M_control_49 (nb_01 (by first | decide | assumption | omega | exact kbit_le _ _)) (by first | rfl | (simp only [km_control, hx]; done) | (simp only [km_control, hx]; first | rw [if_pos h9] | rw [if_neg h9, if_pos h16] | rw [if_neg h9, if_neg h16, if_pos h23] | rw [if_neg h9, if_neg h16, if_neg h23, if_pos h27] | rw [if_neg h9, if_neg h16, if_neg h23, if_neg h27, if_pos h33] | rw [if_neg h9, if_neg h16, if_neg h23, if_neg h27, if_neg h33, if_pos h38] | rw [if_neg h9, if_neg h16, if_neg h23, if_neg h27, if_neg h33, if_neg h38, if_pos h45] | rw [if_neg h9, if_neg h16, if_neg h23, if_neg h27, if_neg h33, if_neg h38, if_neg h45])) (by first | rfl | (simp only [km_control, hx]; done) | (simp only [km_control, hx]; first | rw [if_pos h9] | rw [if_neg h9, if_pos h16] | rw [if_neg h9, if_neg h16, if_pos h23] | rw [if_neg h9, if_neg h16, if_neg h23, if_pos h27] | rw [if_neg h9, if_neg h16, if_neg h23, if_neg h27, if_pos h33] | rw [if_neg h9, if_neg h16, if_neg h23, if_neg h27, if_neg h33, if_pos h38] | rw [if_neg h9, if_neg h16, if_neg h23, if_neg h27, if_neg h33, if_neg h38, if_pos h45] | rw [if_neg h9, if_neg h16, if_neg h23, if_neg h27, if_neg h33, if_neg h38, if_neg h45]))
set_option maxRecDepth 100000 in
set_option maxHeartbeats 4000000 in
theorem c_M_rank (l : Launch) (Y : YY) (n s c : Nat) (hV : pv_ok (vM Y n s c)) (u : UU) (x : Int32) (hn : n ≤ 6) (hu : wm n u) : Ct l (vM Y n s c) ⟨"SlottedMeshModel", "rank", "(I)I"⟩ (wz ⟨"SlottedMeshModel", "rank", "(I)I"⟩ b_M_rank 2 (some .int)) (rd 1) [.ref (pv_ad (vM Y n s c) 0 0), .int x] u (some (.int (km_rank n u x))) (u) := by
  refine ct_mk hV (by decide +kernel) (Nat.le_of_ble_eq_true rfl) (fun X hX => ?_)
  have hX : ox X (vM Y n s c) (rd 1) b_M_rank 2 "SlottedMeshModel" gz (some .int) := hX
  show ow X (vM Y n s c) (some (.int (km_rank n u x))) (u) u [(0, .ref (pv_ad (vM Y n s c) 0 0)), (1, .int x)] 0 []
  rcases hx : nd n x with _ | a
  · skip
    refine ow_aload_n (pc := 0) hX d_M_rank_0 rfl ?_
    refine ow_gN (pc := 1) hX (kd_M Y n s c) 12 d_M_rank_1 kw_513 rfl Nat.zero_lt_one ?_
    refine ow_nz_eq (pc := 4) (tgt := 15) hX d_M_rank_4 (by decide) (by first | assumption | omega | (have := hu.2.2.2.2.2.2.2.2.2.1; omega)) (fun h4 => ?_) (fun h4 => ?_)
    · skip
      refine ow_iconst (pc := 15) (v := (-1)) hX d_M_rank_15 (by decide) ?_
      refine ow_goto (pc := 16) (tgt := 25) hX d_M_rank_16 (by decide) ?_
      exact ow_iret (pc := 25) hX d_M_rank_25 (by first | rfl | (simp only [km_rank, hx]; first | rw [if_pos h4] | rw [if_neg h4])) (by first | rfl | (simp only [km_rank, hx]; first | rw [if_pos h4] | rw [if_neg h4]))
    · skip
      refine ow_aload_n (pc := 7) hX d_M_rank_7 rfl ?_
      refine ow_iload_n (pc := 8) hX d_M_rank_8 rfl ?_
      refine ow_callV (pc := 9) hX (kd_M Y n s c) Nat.zero_lt_one (c_M_noNode _ Y n s c hV u x hn) (cw_V hX mz_M_noNode kw_609 ⟨rfl, rfl⟩ (by decide)) rfl (Nat.le_of_ble_eq_true rfl) d_M_rank_9 rfl ?_
      refine ow_st (st2 := .int (nI 1) :: _) (by rw [hx]; rfl) ?_
      refine ow_nz_eq (pc := 12) (tgt := 19) hX d_M_rank_12 (by decide) (by first | assumption | omega | (have := hu.2.2.2.2.2.2.2.2.2.1; omega)) (fun h12 => ?_) (fun h12 => ?_)
      · skip
        exact absurd h12 (by decide)
      · skip
        refine ow_iconst (pc := 15) (v := (-1)) hX d_M_rank_15 (by decide) ?_
        refine ow_goto (pc := 16) (tgt := 25) hX d_M_rank_16 (by decide) ?_
        exact ow_iret (pc := 25) hX d_M_rank_25 (by first | rfl | (simp only [km_rank, hx]; first | rw [if_pos h4] | rw [if_neg h4])) (by first | rfl | (simp only [km_rank, hx]; first | rw [if_pos h4] | rw [if_neg h4]))
  · skip
    obtain ⟨ha, rfl⟩ := nd_some (by omega) hx
    refine ow_aload_n (pc := 0) hX d_M_rank_0 rfl ?_
    refine ow_gN (pc := 1) hX (kd_M Y n s c) 12 d_M_rank_1 kw_513 rfl Nat.zero_lt_one ?_
    refine ow_nz_eq (pc := 4) (tgt := 15) hX d_M_rank_4 (by decide) (by first | assumption | omega | (have := hu.2.2.2.2.2.2.2.2.2.1; omega)) (fun h4 => ?_) (fun h4 => ?_)
    · skip
      refine ow_iconst (pc := 15) (v := (-1)) hX d_M_rank_15 (by decide) ?_
      refine ow_goto (pc := 16) (tgt := 25) hX d_M_rank_16 (by decide) ?_
      exact ow_iret (pc := 25) hX d_M_rank_25 (by first | rfl | (simp only [km_rank, hx]; first | rw [if_pos h4] | rw [if_neg h4])) (by first | rfl | (simp only [km_rank, hx]; first | rw [if_pos h4] | rw [if_neg h4]))
    · skip
      refine ow_aload_n (pc := 7) hX d_M_rank_7 rfl ?_
      refine ow_iload_n (pc := 8) hX d_M_rank_8 rfl ?_
      refine ow_callV (pc := 9) hX (kd_M Y n s c) Nat.zero_lt_one (c_M_noNode _ Y n s c hV u (nI a) hn) (cw_V hX mz_M_noNode kw_609 ⟨rfl, rfl⟩ (by decide)) rfl (Nat.le_of_ble_eq_true rfl) d_M_rank_9 rfl ?_
      refine ow_st (st2 := .int (nI 0) :: _) (by rw [hx]; rfl) ?_
      refine ow_nz_eq (pc := 12) (tgt := 19) hX d_M_rank_12 (by decide) (by first | assumption | omega | (have := hu.2.2.2.2.2.2.2.2.2.1; omega)) (fun h12 => ?_) (fun h12 => ?_)
      · skip
        refine ow_aload_n (pc := 19) hX d_M_rank_19 rfl ?_
        refine ow_gR (pc := 20) hX (kd_M Y n s c) 13 d_M_rank_20 kw_514 rfl Nat.zero_lt_one ?_
        refine ow_iload_n (pc := 23) hX d_M_rank_23 rfl ?_
        refine ow_aN (pc := 24) hX rfl d_M_rank_24 Nat.zero_lt_one (by show _ < 6; first | assumption | omega) ?_
        exact ow_iret (pc := 25) hX d_M_rank_25 (by first | rfl | (simp only [km_rank, hx]; first | rw [if_pos h4] | rw [if_neg h4])) (by first | rfl | (simp only [km_rank, hx]; first | rw [if_pos h4] | rw [if_neg h4]))
      · skip
        exact absurd h12 (by decide)
theorem lt2_of {k : Int32} (h : k ≤ nI 1) : k < nI 2 := by
  rw [Int32.lt_iff_toInt_lt]
  rw [Int32.le_iff_toInt_le] at h
  have e1 : (nI 1).toInt = 1 := by decide
  have e2 : (nI 2).toInt = 2 := by decide
  omega
theorem lt4_of {k : Int32} (h : k ≤ nI 3) : k < nI 4 := by
  rw [Int32.lt_iff_toInt_lt]
  rw [Int32.le_iff_toInt_le] at h
  have e1 : (nI 3).toInt = 3 := by decide
  have e2 : (nI 4).toInt = 4 := by decide
  omega
set_option maxRecDepth 100000 in
set_option maxHeartbeats 4000000 in
theorem c_M_parent (l : Launch) (Y : YY) (n s c : Nat) (hV : pv_ok (vM Y n s c)) (u : UU) (x k : Int32) (hn : n ≤ 6) (hu : wm n u) : Ct l (vM Y n s c) ⟨"SlottedMeshModel", "parent", "(II)I"⟩ (wz ⟨"SlottedMeshModel", "parent", "(II)I"⟩ b_M_parent 3 (some .int)) (rd 1) [.ref (pv_ad (vM Y n s c) 0 0), .int x, .int k] u (some (.int (km_parent n u x k))) (u) := by
  refine ct_mk hV (by decide +kernel) (Nat.le_of_ble_eq_true rfl) (fun X hX => ?_)
  have hX : ox X (vM Y n s c) (rd 1) b_M_parent 3 "SlottedMeshModel" gz (some .int) := hX
  show ow X (vM Y n s c) (some (.int (km_parent n u x k))) (u) u [(0, .ref (pv_ad (vM Y n s c) 0 0)), (1, .int x), (2, .int k)] 0 []
  rcases hx : nd n x with _ | a
  · skip
    refine ow_aload_n (pc := 0) hX d_M_parent_0 rfl ?_
    refine ow_gN (pc := 1) hX (kd_M Y n s c) 12 d_M_parent_1 kw_513 rfl Nat.zero_lt_one ?_
    refine ow_nz_eq (pc := 4) (tgt := 24) hX d_M_parent_4 (by decide) (by first | assumption | omega | (have := hu.2.2.2.2.2.2.2.2.2.1; omega)) (fun h4 => ?_) (fun h4 => ?_)
    · skip
      refine ow_iconst (pc := 24) (v := (-1)) hX d_M_parent_24 (by decide) ?_
      refine ow_goto (pc := 25) (tgt := 38) hX d_M_parent_25 (by decide) ?_
      exact ow_iret (pc := 38) hX d_M_parent_38 (by first | rfl | (simp only [km_parent, hx, hy]; first | rw [if_pos h4] | rw [if_neg h4]) | (simp only [km_parent, hx]; first | rw [if_pos h4] | rw [if_neg h4])) (by first | rfl | (simp only [km_parent, hx, hy]; first | rw [if_pos h4] | rw [if_neg h4]) | (simp only [km_parent, hx]; first | rw [if_pos h4] | rw [if_neg h4]))
    · skip
      refine ow_aload_n (pc := 7) hX d_M_parent_7 rfl ?_
      refine ow_iload_n (pc := 8) hX d_M_parent_8 rfl ?_
      refine ow_callV (pc := 9) hX (kd_M Y n s c) Nat.zero_lt_one (c_M_noNode _ Y n s c hV u x hn) (cw_V hX mz_M_noNode kw_609 ⟨rfl, rfl⟩ (by decide)) rfl (Nat.le_of_ble_eq_true rfl) d_M_parent_9 rfl ?_
      refine ow_st (st2 := .int (nI 1) :: _) (by rw [hx]; rfl) ?_
      refine ow_nz_ne (pc := 12) (tgt := 24) hX d_M_parent_12 (by decide) (by first | assumption | omega | (have := hu.2.2.2.2.2.2.2.2.2.1; omega)) (fun h12 => ?_) (fun h12 => ?_)
      · skip
        refine ow_iconst (pc := 24) (v := (-1)) hX d_M_parent_24 (by decide) ?_
        refine ow_goto (pc := 25) (tgt := 38) hX d_M_parent_25 (by decide) ?_
        exact ow_iret (pc := 38) hX d_M_parent_38 (by first | rfl | (simp only [km_parent, hx, hy]; first | rw [if_pos h4] | rw [if_neg h4]) | (simp only [km_parent, hx]; first | rw [if_pos h4] | rw [if_neg h4])) (by first | rfl | (simp only [km_parent, hx, hy]; first | rw [if_pos h4] | rw [if_neg h4]) | (simp only [km_parent, hx]; first | rw [if_pos h4] | rw [if_neg h4]))
      · skip
        exact absurd h12 (by decide)
  · skip
    obtain ⟨ha, rfl⟩ := nd_some (by omega) hx
    rcases hy : nd 2 k with _ | b
    · skip
      refine ow_aload_n (pc := 0) hX d_M_parent_0 rfl ?_
      refine ow_gN (pc := 1) hX (kd_M Y n s c) 12 d_M_parent_1 kw_513 rfl Nat.zero_lt_one ?_
      refine ow_nz_eq (pc := 4) (tgt := 24) hX d_M_parent_4 (by decide) (by first | assumption | omega | (have := hu.2.2.2.2.2.2.2.2.2.1; omega)) (fun h4 => ?_) (fun h4 => ?_)
      · skip
        refine ow_iconst (pc := 24) (v := (-1)) hX d_M_parent_24 (by decide) ?_
        refine ow_goto (pc := 25) (tgt := 38) hX d_M_parent_25 (by decide) ?_
        exact ow_iret (pc := 38) hX d_M_parent_38 (by first | rfl | (simp only [km_parent, hx, hy]; first | rw [if_pos h4] | rw [if_neg h4]) | (simp only [km_parent, hx]; first | rw [if_pos h4] | rw [if_neg h4])) (by first | rfl | (simp only [km_parent, hx, hy]; first | rw [if_pos h4] | rw [if_neg h4]) | (simp only [km_parent, hx]; first | rw [if_pos h4] | rw [if_neg h4]))
      · skip
        refine ow_aload_n (pc := 7) hX d_M_parent_7 rfl ?_
        refine ow_iload_n (pc := 8) hX d_M_parent_8 rfl ?_
        refine ow_callV (pc := 9) hX (kd_M Y n s c) Nat.zero_lt_one (c_M_noNode _ Y n s c hV u (nI a) hn) (cw_V hX mz_M_noNode kw_609 ⟨rfl, rfl⟩ (by decide)) rfl (Nat.le_of_ble_eq_true rfl) d_M_parent_9 rfl ?_
        refine ow_st (st2 := .int (nI 0) :: _) (by rw [hx]; rfl) ?_
        refine ow_nz_ne (pc := 12) (tgt := 24) hX d_M_parent_12 (by decide) (by first | assumption | omega | (have := hu.2.2.2.2.2.2.2.2.2.1; omega)) (fun h12 => ?_) (fun h12 => ?_)
        · skip
          exact absurd h12 (by decide)
        · skip
          refine ow_iload_n (pc := 15) hX d_M_parent_15 rfl ?_
          refine ow_if_lt (pc := 16) (tgt := 24) hX d_M_parent_16 (by decide) (fun h16 => ?_) (fun h16 => ?_)
          · skip
            refine ow_iconst (pc := 24) (v := (-1)) hX d_M_parent_24 (by decide) ?_
            refine ow_goto (pc := 25) (tgt := 38) hX d_M_parent_25 (by decide) ?_
            exact ow_iret (pc := 38) hX d_M_parent_38 (by first | rfl | (simp only [km_parent, hx, hy]; first | rw [if_pos h4] | rw [if_neg h4]) | (simp only [km_parent, hx]; first | rw [if_pos h4] | rw [if_neg h4])) (by first | rfl | (simp only [km_parent, hx, hy]; first | rw [if_pos h4] | rw [if_neg h4]) | (simp only [km_parent, hx]; first | rw [if_pos h4] | rw [if_neg h4]))
          · skip
            refine ow_iload_n (pc := 19) hX d_M_parent_19 rfl ?_
            refine ow_iconst (pc := 20) (v := nI 1) hX d_M_parent_20 (by decide) ?_
            refine ow_ic_le (pc := 21) (tgt := 28) hX d_M_parent_21 (by decide) (fun h21 => ?_) (fun h21 => ?_)
            · skip
              exact (nd_no hy h16 (lt2_of h21)).elim
            · skip
              refine ow_iconst (pc := 24) (v := (-1)) hX d_M_parent_24 (by decide) ?_
              refine ow_goto (pc := 25) (tgt := 38) hX d_M_parent_25 (by decide) ?_
              exact ow_iret (pc := 38) hX d_M_parent_38 (by first | rfl | (simp only [km_parent, hx, hy]; first | rw [if_pos h4] | rw [if_neg h4]) | (simp only [km_parent, hx]; first | rw [if_pos h4] | rw [if_neg h4])) (by first | rfl | (simp only [km_parent, hx, hy]; first | rw [if_pos h4] | rw [if_neg h4]) | (simp only [km_parent, hx]; first | rw [if_pos h4] | rw [if_neg h4]))
    · skip
      obtain ⟨hb, rfl⟩ := nd_some (by omega) hy
      refine ow_aload_n (pc := 0) hX d_M_parent_0 rfl ?_
      refine ow_gN (pc := 1) hX (kd_M Y n s c) 12 d_M_parent_1 kw_513 rfl Nat.zero_lt_one ?_
      refine ow_nz_eq (pc := 4) (tgt := 24) hX d_M_parent_4 (by decide) (by first | assumption | omega | (have := hu.2.2.2.2.2.2.2.2.2.1; omega)) (fun h4 => ?_) (fun h4 => ?_)
      · skip
        refine ow_iconst (pc := 24) (v := (-1)) hX d_M_parent_24 (by decide) ?_
        refine ow_goto (pc := 25) (tgt := 38) hX d_M_parent_25 (by decide) ?_
        exact ow_iret (pc := 38) hX d_M_parent_38 (by first | rfl | (simp only [km_parent, hx, hy]; first | rw [if_pos h4] | rw [if_neg h4]) | (simp only [km_parent, hx]; first | rw [if_pos h4] | rw [if_neg h4])) (by first | rfl | (simp only [km_parent, hx, hy]; first | rw [if_pos h4] | rw [if_neg h4]) | (simp only [km_parent, hx]; first | rw [if_pos h4] | rw [if_neg h4]))
      · skip
        refine ow_aload_n (pc := 7) hX d_M_parent_7 rfl ?_
        refine ow_iload_n (pc := 8) hX d_M_parent_8 rfl ?_
        refine ow_callV (pc := 9) hX (kd_M Y n s c) Nat.zero_lt_one (c_M_noNode _ Y n s c hV u (nI a) hn) (cw_V hX mz_M_noNode kw_609 ⟨rfl, rfl⟩ (by decide)) rfl (Nat.le_of_ble_eq_true rfl) d_M_parent_9 rfl ?_
        refine ow_st (st2 := .int (nI 0) :: _) (by rw [hx]; rfl) ?_
        refine ow_nz_ne (pc := 12) (tgt := 24) hX d_M_parent_12 (by decide) (by first | assumption | omega | (have := hu.2.2.2.2.2.2.2.2.2.1; omega)) (fun h12 => ?_) (fun h12 => ?_)
        · skip
          exact absurd h12 (by decide)
        · skip
          refine ow_iload_n (pc := 15) hX d_M_parent_15 rfl ?_
          refine ow_nz_lt (pc := 16) (tgt := 24) hX d_M_parent_16 (by decide) (by first | assumption | omega | (have := hu.2.2.2.2.2.2.2.2.2.1; omega)) ?_
          refine ow_iload_n (pc := 19) hX d_M_parent_19 rfl ?_
          refine ow_iconst (pc := 20) (v := nI 1) hX d_M_parent_20 (by decide) ?_
          refine ow_nc_le (pc := 21) (tgt := 28) hX d_M_parent_21 (by decide) (by first | assumption | omega | (have := hu.2.2.2.2.2.2.2.2.2.1; omega)) (by first | assumption | omega | (have := hu.2.2.2.2.2.2.2.2.2.1; omega)) (fun h21 => ?_) (fun h21 => ?_)
          · skip
            refine ow_aload_n (pc := 28) hX d_M_parent_28 rfl ?_
            refine ow_gR (pc := 29) hX (kd_M Y n s c) 14 d_M_parent_29 kw_515 rfl Nat.zero_lt_one ?_
            refine ow_iconst (pc := 32) (v := nI 2) hX d_M_parent_32 (by decide) ?_
            refine ow_iload_n (pc := 33) hX d_M_parent_33 rfl ?_
            refine ow_muln (pc := 34) hX d_M_parent_34 ?_
            refine ow_iload_n (pc := 35) hX d_M_parent_35 rfl ?_
            refine ow_addn (pc := 36) hX d_M_parent_36 ?_
            refine ow_aI (pc := 37) hX rfl d_M_parent_37 Nat.zero_lt_one (by show _ < 12; first | assumption | omega) ?_
            exact ow_iret (pc := 38) hX d_M_parent_38 (by first | rfl | (simp only [km_parent, hx, hy]; first | rw [if_pos h4] | rw [if_neg h4]) | (simp only [km_parent, hx]; first | rw [if_pos h4] | rw [if_neg h4])) (by first | rfl | (simp only [km_parent, hx, hy]; first | rw [if_pos h4] | rw [if_neg h4]) | (simp only [km_parent, hx]; first | rw [if_pos h4] | rw [if_neg h4]))
          · skip
            exact absurd hb (by omega)
set_option maxRecDepth 100000 in
set_option maxHeartbeats 4000000 in
theorem c_M_cell (l : Launch) (Y : YY) (n s c : Nat) (hV : pv_ok (vM Y n s c)) (u : UU) (x y : Int32) (hs : s ≤ 24) (hc : c ≤ 4) (hu : wm n u) : Ct l (vM Y n s c) ⟨"SlottedMeshModel", "cell", "(II)I"⟩ (wz ⟨"SlottedMeshModel", "cell", "(II)I"⟩ b_M_cell 3 (some .int)) (rd 0) [.ref (pv_ad (vM Y n s c) 0 0), .int x, .int y] u (some (.int (km_cell s c u x y))) (u) := by
  refine ct_mk hV (by decide +kernel) (Nat.le_of_ble_eq_true rfl) (fun X hX => ?_)
  have hX : ox X (vM Y n s c) (rd 0) b_M_cell 3 "SlottedMeshModel" gz (some .int) := hX
  show ow X (vM Y n s c) (some (.int (km_cell s c u x y))) (u) u [(0, .ref (pv_ad (vM Y n s c) 0 0)), (1, .int x), (2, .int y)] 0 []
  rcases hx : nd s x with _ | a
  · skip
    refine ow_iload_n (pc := 0) hX d_M_cell_0 rfl ?_
    refine ow_if_lt (pc := 1) (tgt := 24) hX d_M_cell_1 (by decide) (fun h1 => ?_) (fun h1 => ?_)
    · skip
      refine ow_iconst (pc := 24) (v := (-1)) hX d_M_cell_24 (by decide) ?_
      exact ow_iret (pc := 25) hX d_M_cell_25 (by first | rfl | (simp only [km_cell, hx]; done) | (simp only [km_cell, hx, hy]; done) | (simp only [km_cell, hx, hy]; first | rw [if_pos h30] | rw [if_neg h30])) (by first | rfl | (simp only [km_cell, hx]; done) | (simp only [km_cell, hx, hy]; done) | (simp only [km_cell, hx, hy]; first | rw [if_pos h30] | rw [if_neg h30]))
    · skip
      refine ow_iload_n (pc := 4) hX d_M_cell_4 rfl ?_
      refine ow_aload_n (pc := 5) hX d_M_cell_5 rfl ?_
      refine ow_gK (pc := 6) hX (kd_M Y n s c) 1 d_M_cell_6 kw_502 rfl Nat.zero_lt_one ?_
      refine ow_ic_ge (pc := 9) (tgt := 24) hX d_M_cell_9 (by decide) (fun h9 => ?_) (fun h9 => ?_)
      · skip
        refine ow_iconst (pc := 24) (v := (-1)) hX d_M_cell_24 (by decide) ?_
        exact ow_iret (pc := 25) hX d_M_cell_25 (by first | rfl | (simp only [km_cell, hx]; done) | (simp only [km_cell, hx, hy]; done) | (simp only [km_cell, hx, hy]; first | rw [if_pos h30] | rw [if_neg h30])) (by first | rfl | (simp only [km_cell, hx]; done) | (simp only [km_cell, hx, hy]; done) | (simp only [km_cell, hx, hy]; first | rw [if_pos h30] | rw [if_neg h30]))
      · skip
        exact (nd_no hx h1 (by rw [Int32.lt_iff_toInt_lt]; rw [Int32.le_iff_toInt_le] at h9; omega)).elim
  · skip
    obtain ⟨ha, rfl⟩ := nd_some (by omega) hx
    rcases hy : nd c y with _ | b
    · skip
      refine ow_iload_n (pc := 0) hX d_M_cell_0 rfl ?_
      refine ow_nz_lt (pc := 1) (tgt := 24) hX d_M_cell_1 (by decide) (by first | assumption | omega | (have := hu.2.2.2.2.2.2.2.2.2.1; omega)) ?_
      refine ow_iload_n (pc := 4) hX d_M_cell_4 rfl ?_
      refine ow_aload_n (pc := 5) hX d_M_cell_5 rfl ?_
      refine ow_gK (pc := 6) hX (kd_M Y n s c) 1 d_M_cell_6 kw_502 rfl Nat.zero_lt_one ?_
      refine ow_nc_ge (pc := 9) (tgt := 24) hX d_M_cell_9 (by decide) (by first | assumption | omega | (have := hu.2.2.2.2.2.2.2.2.2.1; omega)) (by first | assumption | omega | (have := hu.2.2.2.2.2.2.2.2.2.1; omega)) (fun h9 => ?_) (fun h9 => ?_)
      · skip
        exact absurd ha (by omega)
      · skip
        refine ow_iload_n (pc := 12) hX d_M_cell_12 rfl ?_
        refine ow_if_lt (pc := 13) (tgt := 24) hX d_M_cell_13 (by decide) (fun h13 => ?_) (fun h13 => ?_)
        · skip
          refine ow_iconst (pc := 24) (v := (-1)) hX d_M_cell_24 (by decide) ?_
          exact ow_iret (pc := 25) hX d_M_cell_25 (by first | rfl | (simp only [km_cell, hx]; done) | (simp only [km_cell, hx, hy]; done) | (simp only [km_cell, hx, hy]; first | rw [if_pos h30] | rw [if_neg h30])) (by first | rfl | (simp only [km_cell, hx]; done) | (simp only [km_cell, hx, hy]; done) | (simp only [km_cell, hx, hy]; first | rw [if_pos h30] | rw [if_neg h30]))
        · skip
          refine ow_iload_n (pc := 16) hX d_M_cell_16 rfl ?_
          refine ow_aload_n (pc := 17) hX d_M_cell_17 rfl ?_
          refine ow_gK (pc := 18) hX (kd_M Y n s c) 2 d_M_cell_18 kw_503 rfl Nat.zero_lt_one ?_
          refine ow_ic_lt (pc := 21) (tgt := 26) hX d_M_cell_21 (by decide) (fun h21 => ?_) (fun h21 => ?_)
          · skip
            exact (nd_no hy h13 h21).elim
          · skip
            refine ow_iconst (pc := 24) (v := (-1)) hX d_M_cell_24 (by decide) ?_
            exact ow_iret (pc := 25) hX d_M_cell_25 (by first | rfl | (simp only [km_cell, hx]; done) | (simp only [km_cell, hx, hy]; done) | (simp only [km_cell, hx, hy]; first | rw [if_pos h30] | rw [if_neg h30])) (by first | rfl | (simp only [km_cell, hx]; done) | (simp only [km_cell, hx, hy]; done) | (simp only [km_cell, hx, hy]; first | rw [if_pos h30] | rw [if_neg h30]))
    · skip
      obtain ⟨hb, rfl⟩ := nd_some (by omega) hy
      refine ow_iload_n (pc := 0) hX d_M_cell_0 rfl ?_
      refine ow_nz_lt (pc := 1) (tgt := 24) hX d_M_cell_1 (by decide) (by first | assumption | omega | (have := hu.2.2.2.2.2.2.2.2.2.1; omega)) ?_
      refine ow_iload_n (pc := 4) hX d_M_cell_4 rfl ?_
      refine ow_aload_n (pc := 5) hX d_M_cell_5 rfl ?_
      refine ow_gK (pc := 6) hX (kd_M Y n s c) 1 d_M_cell_6 kw_502 rfl Nat.zero_lt_one ?_
      refine ow_nc_ge (pc := 9) (tgt := 24) hX d_M_cell_9 (by decide) (by first | assumption | omega | (have := hu.2.2.2.2.2.2.2.2.2.1; omega)) (by first | assumption | omega | (have := hu.2.2.2.2.2.2.2.2.2.1; omega)) (fun h9 => ?_) (fun h9 => ?_)
      · skip
        exact absurd ha (by omega)
      · skip
        refine ow_iload_n (pc := 12) hX d_M_cell_12 rfl ?_
        refine ow_nz_lt (pc := 13) (tgt := 24) hX d_M_cell_13 (by decide) (by first | assumption | omega | (have := hu.2.2.2.2.2.2.2.2.2.1; omega)) ?_
        refine ow_iload_n (pc := 16) hX d_M_cell_16 rfl ?_
        refine ow_aload_n (pc := 17) hX d_M_cell_17 rfl ?_
        refine ow_gK (pc := 18) hX (kd_M Y n s c) 2 d_M_cell_18 kw_503 rfl Nat.zero_lt_one ?_
        refine ow_nc_lt (pc := 21) (tgt := 26) hX d_M_cell_21 (by decide) (by first | assumption | omega | (have := hu.2.2.2.2.2.2.2.2.2.1; omega)) (by first | assumption | omega | (have := hu.2.2.2.2.2.2.2.2.2.1; omega)) (fun h21 => ?_) (fun h21 => ?_)
        · skip
          refine ow_aload_n (pc := 26) hX d_M_cell_26 rfl ?_
          refine ow_gN (pc := 27) hX (kd_M Y n s c) 12 d_M_cell_27 kw_513 rfl Nat.zero_lt_one ?_
          refine ow_nz_eq (pc := 30) (tgt := 46) hX d_M_cell_30 (by decide) (by first | assumption | omega | (have := hu.2.2.2.2.2.2.2.2.2.1; omega)) (fun h30 => ?_) (fun h30 => ?_)
          · skip
            refine ow_iconst (pc := 46) (v := nI 0) hX d_M_cell_46 (by decide) ?_
            exact ow_iret (pc := 47) hX d_M_cell_47 (by first | rfl | (simp only [km_cell, hx]; done) | (simp only [km_cell, hx, hy]; done) | (simp only [km_cell, hx, hy]; first | rw [if_pos h30] | rw [if_neg h30])) (by first | rfl | (simp only [km_cell, hx]; done) | (simp only [km_cell, hx, hy]; done) | (simp only [km_cell, hx, hy]; first | rw [if_pos h30] | rw [if_neg h30]))
          · skip
            refine ow_aload_n (pc := 33) hX d_M_cell_33 rfl ?_
            refine ow_gR (pc := 34) hX (kd_M Y n s c) 15 d_M_cell_34 kw_516 rfl Nat.zero_lt_one ?_
            refine ow_iconst (pc := 37) (v := nI 4) hX d_M_cell_37 (by decide) ?_
            refine ow_iload_n (pc := 38) hX d_M_cell_38 rfl ?_
            refine ow_muln (pc := 39) hX d_M_cell_39 ?_
            refine ow_iload_n (pc := 40) hX d_M_cell_40 rfl ?_
            refine ow_addn (pc := 41) hX d_M_cell_41 ?_
            refine ow_aN (pc := 42) hX rfl d_M_cell_42 Nat.zero_lt_one (by show _ < 96; first | assumption | omega) ?_
            refine ow_goto (pc := 43) (tgt := 47) hX d_M_cell_43 (by decide) ?_
            exact ow_iret (pc := 47) hX d_M_cell_47 (by first | rfl | (simp only [km_cell, hx]; done) | (simp only [km_cell, hx, hy]; done) | (simp only [km_cell, hx, hy]; first | rw [if_pos h30] | rw [if_neg h30])) (by first | rfl | (simp only [km_cell, hx]; done) | (simp only [km_cell, hx, hy]; done) | (simp only [km_cell, hx, hy]; first | rw [if_pos h30] | rw [if_neg h30]))
        · skip
          exact absurd hb (by omega)
set_option maxRecDepth 100000 in
set_option maxHeartbeats 4000000 in
theorem c_M_current (l : Launch) (Y : YY) (n s c : Nat) (hV : pv_ok (vM Y n s c)) (u : UU) (x : Int32) (hn : n ≤ 6) (hu : wm n u) : Ct l (vM Y n s c) ⟨"SlottedMeshModel", "current", "(I)Z"⟩ (wz ⟨"SlottedMeshModel", "current", "(I)Z"⟩ b_M_current 2 (some .boolean)) (rd 1) [.ref (pv_ad (vM Y n s c) 0 0), .int x] u (some (.int (nI (km_current n u x)))) (u) := by
  refine ct_mk hV (by decide +kernel) (Nat.le_of_ble_eq_true rfl) (fun X hX => ?_)
  have hX : ox X (vM Y n s c) (rd 1) b_M_current 2 "SlottedMeshModel" gz (some .boolean) := hX
  show ow X (vM Y n s c) (some (.int (nI (km_current n u x)))) (u) u [(0, .ref (pv_ad (vM Y n s c) 0 0)), (1, .int x)] 0 []
  rcases hx : nd n x with _ | a
  · skip
    refine ow_aload_n (pc := 0) hX d_M_current_0 rfl ?_
    refine ow_iload_n (pc := 1) hX d_M_current_1 rfl ?_
    refine ow_callV (pc := 2) hX (kd_M Y n s c) Nat.zero_lt_one (c_M_noNode _ Y n s c hV u x hn) (cw_V hX mz_M_noNode kw_609 ⟨rfl, rfl⟩ (by decide)) rfl (Nat.le_of_ble_eq_true rfl) d_M_current_2 rfl ?_
    refine ow_st (st2 := .int (nI 1) :: _) (by rw [hx]; rfl) ?_
    refine ow_nz_ne (pc := 5) (tgt := 21) hX d_M_current_5 (by decide) (by first | assumption | omega | (have := hu.2.1 a; omega) | (have := hu.2.2.1 a; omega) | (have := hu.2.2.2.2.1 a; omega)) (fun h5 => ?_) (fun h5 => ?_)
    · skip
      refine ow_iconst (pc := 21) (v := nI 0) hX d_M_current_21 (by decide) ?_
      exact ow_zret (pc := 22) hX d_M_current_22 (nb_01 (by first | decide | assumption | omega | exact kbit_le _ _)) (by first | rfl | (simp only [km_current, hx]; done) | (simp only [km_current, hx]; (repeat' split) <;> first | rfl | omega | (simp_all; done))) (by first | rfl | (simp only [km_current, hx]; done) | (simp only [km_current, hx]; (repeat' split) <;> first | rfl | omega | (simp_all; done)))
    · skip
      exact absurd h5 (by decide)
  · skip
    obtain ⟨ha, rfl⟩ := nd_some (by omega) hx
    refine ow_aload_n (pc := 0) hX d_M_current_0 rfl ?_
    refine ow_iload_n (pc := 1) hX d_M_current_1 rfl ?_
    refine ow_callV (pc := 2) hX (kd_M Y n s c) Nat.zero_lt_one (c_M_noNode _ Y n s c hV u (nI a) hn) (cw_V hX mz_M_noNode kw_609 ⟨rfl, rfl⟩ (by decide)) rfl (Nat.le_of_ble_eq_true rfl) d_M_current_2 rfl ?_
    refine ow_st (st2 := .int (nI 0) :: _) (by rw [hx]; rfl) ?_
    refine ow_nz_ne (pc := 5) (tgt := 21) hX d_M_current_5 (by decide) (by first | assumption | omega | (have := hu.2.1 a; omega) | (have := hu.2.2.1 a; omega) | (have := hu.2.2.2.2.1 a; omega)) (fun h5 => ?_) (fun h5 => ?_)
    · skip
      exact absurd h5 (by decide)
    · skip
      refine ow_aload_n (pc := 8) hX d_M_current_8 rfl ?_
      refine ow_gR (pc := 9) hX (kd_M Y n s c) 7 d_M_current_9 kw_508 rfl Nat.zero_lt_one ?_
      refine ow_iload_n (pc := 12) hX d_M_current_12 rfl ?_
      refine ow_aZ (pc := 13) hX rfl d_M_current_13 Nat.zero_lt_one (by show _ < 6; first | assumption | omega) ?_
      refine ow_nz_eq (pc := 14) (tgt := 21) hX d_M_current_14 (by decide) (by first | assumption | omega | (have := hu.2.1 a; omega) | (have := hu.2.2.1 a; omega) | (have := hu.2.2.2.2.1 a; omega)) (fun h14 => ?_) (fun h14 => ?_)
      · skip
        refine ow_iconst (pc := 21) (v := nI 0) hX d_M_current_21 (by decide) ?_
        exact ow_zret (pc := 22) hX d_M_current_22 (nb_01 (by first | decide | assumption | omega | exact kbit_le _ _)) (by first | rfl | (simp only [km_current, hx]; done) | (simp only [km_current, hx]; (repeat' split) <;> first | rfl | omega | (simp_all; done))) (by first | rfl | (simp only [km_current, hx]; done) | (simp only [km_current, hx]; (repeat' split) <;> first | rfl | omega | (simp_all; done)))
      · skip
        refine ow_iconst (pc := 17) (v := nI 1) hX d_M_current_17 (by decide) ?_
        refine ow_goto (pc := 18) (tgt := 22) hX d_M_current_18 (by decide) ?_
        exact ow_zret (pc := 22) hX d_M_current_22 (nb_01 (by first | decide | assumption | omega | exact kbit_le _ _)) (by first | rfl | (simp only [km_current, hx]; done) | (simp only [km_current, hx]; (repeat' split) <;> first | rfl | omega | (simp_all; done))) (by first | rfl | (simp only [km_current, hx]; done) | (simp only [km_current, hx]; (repeat' split) <;> first | rfl | omega | (simp_all; done)))
set_option maxRecDepth 100000 in
set_option maxHeartbeats 4000000 in
theorem c_M_offset (l : Launch) (Y : YY) (n s c : Nat) (hV : pv_ok (vM Y n s c)) (u : UU) (x : Int32) (hn : n ≤ 6) : Ct l (vM Y n s c) ⟨"SlottedMeshModel", "offset", "(I)I"⟩ (wz ⟨"SlottedMeshModel", "offset", "(I)I"⟩ b_M_offset 2 (some .int)) (rd 1) [.ref (pv_ad (vM Y n s c) 0 0), .int x] u (some (.int (km_offset n u x))) (u) := by
  refine ct_mk hV (by decide +kernel) (Nat.le_of_ble_eq_true rfl) (fun X hX => ?_)
  have hX : ox X (vM Y n s c) (rd 1) b_M_offset 2 "SlottedMeshModel" gz (some .int) := hX
  show ow X (vM Y n s c) (some (.int (km_offset n u x))) (u) u [(0, .ref (pv_ad (vM Y n s c) 0 0)), (1, .int x)] 0 []
  rcases hx : nd n x with _ | a
  · skip
    refine ow_aload_n (pc := 0) hX d_M_offset_0 rfl ?_
    refine ow_iload_n (pc := 1) hX d_M_offset_1 rfl ?_
    refine ow_callV (pc := 2) hX (kd_M Y n s c) Nat.zero_lt_one (c_M_noNode _ Y n s c hV u x hn) (cw_V hX mz_M_noNode kw_609 ⟨rfl, rfl⟩ (by decide)) rfl (Nat.le_of_ble_eq_true rfl) d_M_offset_2 rfl ?_
    refine ow_st (st2 := .int (nI 1) :: _) (by rw [hx]; rfl) ?_
    refine ow_nz_eq (pc := 5) (tgt := 14) hX d_M_offset_5 (by decide) (by first | assumption | omega) (fun h5 => ?_) (fun h5 => ?_)
    · skip
      exact absurd h5 (by decide)
    · skip
      refine ow_sipush (pc := 8) (v := (-9999)) hX d_M_offset_8 (by decide) ?_
      refine ow_goto (pc := 11) (tgt := 20) hX d_M_offset_11 (by decide) ?_
      exact ow_iret (pc := 20) hX d_M_offset_20 (by first | rfl | (simp only [km_offset, hx]; done) | (simp only [km_offset, hx]; (repeat' split) <;> first | rfl | omega | (simp_all; done))) (by first | rfl | (simp only [km_offset, hx]; done) | (simp only [km_offset, hx]; (repeat' split) <;> first | rfl | omega | (simp_all; done)))
  · skip
    obtain ⟨ha, rfl⟩ := nd_some (by omega) hx
    refine ow_aload_n (pc := 0) hX d_M_offset_0 rfl ?_
    refine ow_iload_n (pc := 1) hX d_M_offset_1 rfl ?_
    refine ow_callV (pc := 2) hX (kd_M Y n s c) Nat.zero_lt_one (c_M_noNode _ Y n s c hV u (nI a) hn) (cw_V hX mz_M_noNode kw_609 ⟨rfl, rfl⟩ (by decide)) rfl (Nat.le_of_ble_eq_true rfl) d_M_offset_2 rfl ?_
    refine ow_st (st2 := .int (nI 0) :: _) (by rw [hx]; rfl) ?_
    refine ow_nz_eq (pc := 5) (tgt := 14) hX d_M_offset_5 (by decide) (by first | assumption | omega) (fun h5 => ?_) (fun h5 => ?_)
    · skip
      refine ow_aload_n (pc := 14) hX d_M_offset_14 rfl ?_
      refine ow_gR (pc := 15) hX (kd_M Y n s c) 8 d_M_offset_15 kw_509 rfl Nat.zero_lt_one ?_
      refine ow_iload_n (pc := 18) hX d_M_offset_18 rfl ?_
      refine ow_aI (pc := 19) hX rfl d_M_offset_19 Nat.zero_lt_one (by show _ < 6; first | assumption | omega) ?_
      exact ow_iret (pc := 20) hX d_M_offset_20 (by first | rfl | (simp only [km_offset, hx]; done) | (simp only [km_offset, hx]; (repeat' split) <;> first | rfl | omega | (simp_all; done))) (by first | rfl | (simp only [km_offset, hx]; done) | (simp only [km_offset, hx]; (repeat' split) <;> first | rfl | omega | (simp_all; done)))
    · skip
      exact absurd h5 (by decide)
set_option maxRecDepth 100000 in
set_option maxHeartbeats 4000000 in
theorem c_M_latest (l : Launch) (Y : YY) (n s c : Nat) (hV : pv_ok (vM Y n s c)) (u : UU) (x : Int32) (hn : n ≤ 6) : Ct l (vM Y n s c) ⟨"SlottedMeshModel", "latest", "(I)I"⟩ (wz ⟨"SlottedMeshModel", "latest", "(I)I"⟩ b_M_latest 2 (some .int)) (rd 1) [.ref (pv_ad (vM Y n s c) 0 0), .int x] u (some (.int (km_latest n u x))) (u) := by
  refine ct_mk hV (by decide +kernel) (Nat.le_of_ble_eq_true rfl) (fun X hX => ?_)
  have hX : ox X (vM Y n s c) (rd 1) b_M_latest 2 "SlottedMeshModel" gz (some .int) := hX
  show ow X (vM Y n s c) (some (.int (km_latest n u x))) (u) u [(0, .ref (pv_ad (vM Y n s c) 0 0)), (1, .int x)] 0 []
  rcases hx : nd n x with _ | a
  · skip
    refine ow_aload_n (pc := 0) hX d_M_latest_0 rfl ?_
    refine ow_iload_n (pc := 1) hX d_M_latest_1 rfl ?_
    refine ow_callV (pc := 2) hX (kd_M Y n s c) Nat.zero_lt_one (c_M_noNode _ Y n s c hV u x hn) (cw_V hX mz_M_noNode kw_609 ⟨rfl, rfl⟩ (by decide)) rfl (Nat.le_of_ble_eq_true rfl) d_M_latest_2 rfl ?_
    refine ow_st (st2 := .int (nI 1) :: _) (by rw [hx]; rfl) ?_
    refine ow_nz_eq (pc := 5) (tgt := 12) hX d_M_latest_5 (by decide) (by first | assumption | omega) (fun h5 => ?_) (fun h5 => ?_)
    · skip
      exact absurd h5 (by decide)
    · skip
      refine ow_iconst (pc := 8) (v := (-1)) hX d_M_latest_8 (by decide) ?_
      refine ow_goto (pc := 9) (tgt := 18) hX d_M_latest_9 (by decide) ?_
      exact ow_iret (pc := 18) hX d_M_latest_18 (by first | rfl | (simp only [km_latest, hx]; done) | (simp only [km_latest, hx]; (repeat' split) <;> first | rfl | omega | (simp_all; done))) (by first | rfl | (simp only [km_latest, hx]; done) | (simp only [km_latest, hx]; (repeat' split) <;> first | rfl | omega | (simp_all; done)))
  · skip
    obtain ⟨ha, rfl⟩ := nd_some (by omega) hx
    refine ow_aload_n (pc := 0) hX d_M_latest_0 rfl ?_
    refine ow_iload_n (pc := 1) hX d_M_latest_1 rfl ?_
    refine ow_callV (pc := 2) hX (kd_M Y n s c) Nat.zero_lt_one (c_M_noNode _ Y n s c hV u (nI a) hn) (cw_V hX mz_M_noNode kw_609 ⟨rfl, rfl⟩ (by decide)) rfl (Nat.le_of_ble_eq_true rfl) d_M_latest_2 rfl ?_
    refine ow_st (st2 := .int (nI 0) :: _) (by rw [hx]; rfl) ?_
    refine ow_nz_eq (pc := 5) (tgt := 12) hX d_M_latest_5 (by decide) (by first | assumption | omega) (fun h5 => ?_) (fun h5 => ?_)
    · skip
      refine ow_aload_n (pc := 12) hX d_M_latest_12 rfl ?_
      refine ow_gR (pc := 13) hX (kd_M Y n s c) 25 d_M_latest_13 kw_526 rfl Nat.zero_lt_one ?_
      refine ow_iload_n (pc := 16) hX d_M_latest_16 rfl ?_
      refine ow_aI (pc := 17) hX rfl d_M_latest_17 Nat.zero_lt_one (by show _ < 72; first | assumption | omega) ?_
      exact ow_iret (pc := 18) hX d_M_latest_18 (by first | rfl | (simp only [km_latest, hx]; done) | (simp only [km_latest, hx]; (repeat' split) <;> first | rfl | omega | (simp_all; done))) (by first | rfl | (simp only [km_latest, hx]; done) | (simp only [km_latest, hx]; (repeat' split) <;> first | rfl | omega | (simp_all; done)))
    · skip
      exact absurd h5 (by decide)
set_option maxRecDepth 100000 in
set_option maxHeartbeats 4000000 in
theorem c_M_actuator (l : Launch) (Y : YY) (n s c : Nat) (hV : pv_ok (vM Y n s c)) (u : UU) (x : Int32) (hn : n ≤ 6) : Ct l (vM Y n s c) ⟨"SlottedMeshModel", "actuator", "(I)I"⟩ (wz ⟨"SlottedMeshModel", "actuator", "(I)I"⟩ b_M_actuator 2 (some .int)) (rd 1) [.ref (pv_ad (vM Y n s c) 0 0), .int x] u (some (.int (km_actuator n u x))) (u) := by
  refine ct_mk hV (by decide +kernel) (Nat.le_of_ble_eq_true rfl) (fun X hX => ?_)
  have hX : ox X (vM Y n s c) (rd 1) b_M_actuator 2 "SlottedMeshModel" gz (some .int) := hX
  show ow X (vM Y n s c) (some (.int (km_actuator n u x))) (u) u [(0, .ref (pv_ad (vM Y n s c) 0 0)), (1, .int x)] 0 []
  rcases hx : nd n x with _ | a
  · skip
    refine ow_aload_n (pc := 0) hX d_M_actuator_0 rfl ?_
    refine ow_iload_n (pc := 1) hX d_M_actuator_1 rfl ?_
    refine ow_callV (pc := 2) hX (kd_M Y n s c) Nat.zero_lt_one (c_M_noNode _ Y n s c hV u x hn) (cw_V hX mz_M_noNode kw_609 ⟨rfl, rfl⟩ (by decide)) rfl (Nat.le_of_ble_eq_true rfl) d_M_actuator_2 rfl ?_
    refine ow_st (st2 := .int (nI 1) :: _) (by rw [hx]; rfl) ?_
    refine ow_nz_ne (pc := 5) (tgt := 12) hX d_M_actuator_5 (by decide) (by first | assumption | omega) (fun h5 => ?_) (fun h5 => ?_)
    · skip
      refine ow_sipush (pc := 12) (v := (-9999)) hX d_M_actuator_12 (by decide) ?_
      refine ow_goto (pc := 15) (tgt := 24) hX d_M_actuator_15 (by decide) ?_
      exact ow_iret (pc := 24) hX d_M_actuator_24 (by first | rfl | (simp only [km_actuator, hx]; done) | (simp only [km_actuator, hx]; (repeat' split) <;> first | rfl | omega | (simp_all; done))) (by first | rfl | (simp only [km_actuator, hx]; done) | (simp only [km_actuator, hx]; (repeat' split) <;> first | rfl | omega | (simp_all; done)))
    · skip
      exact absurd h5 (by decide)
  · skip
    obtain ⟨ha, rfl⟩ := nd_some (by omega) hx
    refine ow_aload_n (pc := 0) hX d_M_actuator_0 rfl ?_
    refine ow_iload_n (pc := 1) hX d_M_actuator_1 rfl ?_
    refine ow_callV (pc := 2) hX (kd_M Y n s c) Nat.zero_lt_one (c_M_noNode _ Y n s c hV u (nI a) hn) (cw_V hX mz_M_noNode kw_609 ⟨rfl, rfl⟩ (by decide)) rfl (Nat.le_of_ble_eq_true rfl) d_M_actuator_2 rfl ?_
    refine ow_st (st2 := .int (nI 0) :: _) (by rw [hx]; rfl) ?_
    refine ow_nz_ne (pc := 5) (tgt := 12) hX d_M_actuator_5 (by decide) (by first | assumption | omega) (fun h5 => ?_) (fun h5 => ?_)
    · skip
      exact absurd h5 (by decide)
    · skip
      refine ow_iload_n (pc := 8) hX d_M_actuator_8 rfl ?_
      refine ow_nz_ne (pc := 9) (tgt := 18) hX d_M_actuator_9 (by decide) (by first | assumption | omega) (fun h9 => ?_) (fun h9 => ?_)
      · skip
        refine ow_aload_n (pc := 18) hX d_M_actuator_18 rfl ?_
        refine ow_gR (pc := 19) hX (kd_M Y n s c) 33 d_M_actuator_19 kw_534 rfl Nat.zero_lt_one ?_
        refine ow_iload_n (pc := 22) hX d_M_actuator_22 rfl ?_
        refine ow_aI (pc := 23) hX rfl d_M_actuator_23 Nat.zero_lt_one (by show _ < 6; first | assumption | omega) ?_
        exact ow_iret (pc := 24) hX d_M_actuator_24 (by first | rfl | (simp only [km_actuator, hx]; done) | (simp only [km_actuator, hx]; (repeat' split) <;> first | rfl | omega | (simp_all; done))) (by first | rfl | (simp only [km_actuator, hx]; done) | (simp only [km_actuator, hx]; (repeat' split) <;> first | rfl | omega | (simp_all; done)))
      · skip
        refine ow_sipush (pc := 12) (v := (-9999)) hX d_M_actuator_12 (by decide) ?_
        refine ow_goto (pc := 15) (tgt := 24) hX d_M_actuator_15 (by decide) ?_
        exact ow_iret (pc := 24) hX d_M_actuator_24 (by first | rfl | (simp only [km_actuator, hx]; done) | (simp only [km_actuator, hx]; (repeat' split) <;> first | rfl | omega | (simp_all; done))) (by first | rfl | (simp only [km_actuator, hx]; done) | (simp only [km_actuator, hx]; (repeat' split) <;> first | rfl | omega | (simp_all; done)))
set_option maxRecDepth 100000 in
set_option maxHeartbeats 4000000 in
theorem c_M_sent (l : Launch) (Y : YY) (n s c : Nat) (hV : pv_ok (vM Y n s c)) (u : UU)  : Ct l (vM Y n s c) ⟨"SlottedMeshModel", "sent", "()I"⟩ (wz ⟨"SlottedMeshModel", "sent", "()I"⟩ b_M_sent 1 (some .int)) (rd 0) [.ref (pv_ad (vM Y n s c) 0 0)] u (some (.int (u.2.1 0 0 4))) (u) := by
  refine ct_mk hV (by decide +kernel) (Nat.le_of_ble_eq_true rfl) (fun X hX => ?_)
  have hX : ox X (vM Y n s c) (rd 0) b_M_sent 1 "SlottedMeshModel" gz (some .int) := hX
  show ow X (vM Y n s c) (some (.int (u.2.1 0 0 4))) (u) u [(0, .ref (pv_ad (vM Y n s c) 0 0))] 0 []
  refine ow_aload_n (pc := 0) hX d_M_sent_0 rfl ?_
  refine ow_gI (pc := 1) hX (kd_M Y n s c) 4 d_M_sent_1 kw_505 rfl Nat.zero_lt_one ?_
  exact ow_iret (pc := 4) hX d_M_sent_4 (by rfl) (by rfl)
set_option maxRecDepth 100000 in
set_option maxHeartbeats 4000000 in
theorem c_M_count (l : Launch) (Y : YY) (n s c : Nat) (hV : pv_ok (vM Y n s c)) (u : UU) (x k : Int32) (hn : n ≤ 6) : Ct l (vM Y n s c) ⟨"SlottedMeshModel", "count", "(II)I"⟩ (wz ⟨"SlottedMeshModel", "count", "(II)I"⟩ b_M_count 3 (some .int)) (rd 1) [.ref (pv_ad (vM Y n s c) 0 0), .int x, .int k] u (some (.int (km_count n u x k))) (u) := by
  refine ct_mk hV (by decide +kernel) (Nat.le_of_ble_eq_true rfl) (fun X hX => ?_)
  have hX : ox X (vM Y n s c) (rd 1) b_M_count 3 "SlottedMeshModel" gz (some .int) := hX
  show ow X (vM Y n s c) (some (.int (km_count n u x k))) (u) u [(0, .ref (pv_ad (vM Y n s c) 0 0)), (1, .int x), (2, .int k)] 0 []
  rcases hx : nd n x with _ | a
  · skip
    refine ow_aload_n (pc := 0) hX d_M_count_0 rfl ?_
    refine ow_iload_n (pc := 1) hX d_M_count_1 rfl ?_
    refine ow_callV (pc := 2) hX (kd_M Y n s c) Nat.zero_lt_one (c_M_noNode _ Y n s c hV u x hn) (cw_V hX mz_M_noNode kw_609 ⟨rfl, rfl⟩ (by decide)) rfl (Nat.le_of_ble_eq_true rfl) d_M_count_2 rfl ?_
    refine ow_st (st2 := .int (nI 1) :: _) (by rw [hx]; rfl) ?_
    refine ow_nz_ne (pc := 5) (tgt := 17) hX d_M_count_5 (by decide) (by first | assumption | omega) (fun h5 => ?_) (fun h5 => ?_)
    · skip
      refine ow_iconst (pc := 17) (v := (-1)) hX d_M_count_17 (by decide) ?_
      exact ow_iret (pc := 18) hX d_M_count_18 (by first | rfl | (simp only [km_count, hx]; done) | (simp only [km_count, hx, hy]; done)) (by first | rfl | (simp only [km_count, hx]; done) | (simp only [km_count, hx, hy]; done))
    · skip
      exact absurd h5 (by decide)
  · skip
    obtain ⟨ha, rfl⟩ := nd_some (by omega) hx
    rcases hy : nd 4 k with _ | b
    · skip
      refine ow_aload_n (pc := 0) hX d_M_count_0 rfl ?_
      refine ow_iload_n (pc := 1) hX d_M_count_1 rfl ?_
      refine ow_callV (pc := 2) hX (kd_M Y n s c) Nat.zero_lt_one (c_M_noNode _ Y n s c hV u (nI a) hn) (cw_V hX mz_M_noNode kw_609 ⟨rfl, rfl⟩ (by decide)) rfl (Nat.le_of_ble_eq_true rfl) d_M_count_2 rfl ?_
      refine ow_st (st2 := .int (nI 0) :: _) (by rw [hx]; rfl) ?_
      refine ow_nz_ne (pc := 5) (tgt := 17) hX d_M_count_5 (by decide) (by first | assumption | omega) (fun h5 => ?_) (fun h5 => ?_)
      · skip
        exact absurd h5 (by decide)
      · skip
        refine ow_iload_n (pc := 8) hX d_M_count_8 rfl ?_
        refine ow_if_lt (pc := 9) (tgt := 17) hX d_M_count_9 (by decide) (fun h9 => ?_) (fun h9 => ?_)
        · skip
          refine ow_iconst (pc := 17) (v := (-1)) hX d_M_count_17 (by decide) ?_
          exact ow_iret (pc := 18) hX d_M_count_18 (by first | rfl | (simp only [km_count, hx]; done) | (simp only [km_count, hx, hy]; done)) (by first | rfl | (simp only [km_count, hx]; done) | (simp only [km_count, hx, hy]; done))
        · skip
          refine ow_iload_n (pc := 12) hX d_M_count_12 rfl ?_
          refine ow_iconst (pc := 13) (v := nI 3) hX d_M_count_13 (by decide) ?_
          refine ow_ic_le (pc := 14) (tgt := 19) hX d_M_count_14 (by decide) (fun h14 => ?_) (fun h14 => ?_)
          · skip
            exact (nd_no hy h9 (lt4_of h14)).elim
          · skip
            refine ow_iconst (pc := 17) (v := (-1)) hX d_M_count_17 (by decide) ?_
            exact ow_iret (pc := 18) hX d_M_count_18 (by first | rfl | (simp only [km_count, hx]; done) | (simp only [km_count, hx, hy]; done)) (by first | rfl | (simp only [km_count, hx]; done) | (simp only [km_count, hx, hy]; done))
    · skip
      obtain ⟨hb, rfl⟩ := nd_some (by omega) hy
      refine ow_aload_n (pc := 0) hX d_M_count_0 rfl ?_
      refine ow_iload_n (pc := 1) hX d_M_count_1 rfl ?_
      refine ow_callV (pc := 2) hX (kd_M Y n s c) Nat.zero_lt_one (c_M_noNode _ Y n s c hV u (nI a) hn) (cw_V hX mz_M_noNode kw_609 ⟨rfl, rfl⟩ (by decide)) rfl (Nat.le_of_ble_eq_true rfl) d_M_count_2 rfl ?_
      refine ow_st (st2 := .int (nI 0) :: _) (by rw [hx]; rfl) ?_
      refine ow_nz_ne (pc := 5) (tgt := 17) hX d_M_count_5 (by decide) (by first | assumption | omega) (fun h5 => ?_) (fun h5 => ?_)
      · skip
        exact absurd h5 (by decide)
      · skip
        refine ow_iload_n (pc := 8) hX d_M_count_8 rfl ?_
        refine ow_nz_lt (pc := 9) (tgt := 17) hX d_M_count_9 (by decide) (by first | assumption | omega) ?_
        refine ow_iload_n (pc := 12) hX d_M_count_12 rfl ?_
        refine ow_iconst (pc := 13) (v := nI 3) hX d_M_count_13 (by decide) ?_
        refine ow_nc_le (pc := 14) (tgt := 19) hX d_M_count_14 (by decide) (by first | assumption | omega) (by first | assumption | omega) (fun h14 => ?_) (fun h14 => ?_)
        · skip
          refine ow_iload_n (pc := 19) hX d_M_count_19 rfl ?_
          refine ow_nz_ne (pc := 20) (tgt := 32) hX d_M_count_20 (by decide) (by first | assumption | omega) (fun h20 => ?_) (fun h20 => ?_)
          · skip
            refine ow_iload_n (pc := 32) hX d_M_count_32 rfl ?_
            refine ow_iconst (pc := 33) (v := nI 1) hX d_M_count_33 (by decide) ?_
            refine ow_nc_ne (pc := 34) (tgt := 49) hX d_M_count_34 (by decide) (by first | assumption | omega) (by first | assumption | omega) (fun h34 => ?_) (fun h34 => ?_)
            · skip
              refine ow_iload_n (pc := 49) hX d_M_count_49 rfl ?_
              refine ow_iconst (pc := 50) (v := nI 2) hX d_M_count_50 (by decide) ?_
              refine ow_nc_ne (pc := 51) (tgt := 63) hX d_M_count_51 (by decide) (by first | assumption | omega) (by first | assumption | omega) (fun h51 => ?_) (fun h51 => ?_)
              · skip
                obtain rfl : b = 3 := by omega
                refine ow_aload_n (pc := 63) hX d_M_count_63 rfl ?_
                refine ow_gR (pc := 64) hX (kd_M Y n s c) 24 d_M_count_64 kw_525 rfl Nat.zero_lt_one ?_
                refine ow_iload_n (pc := 67) hX d_M_count_67 rfl ?_
                refine ow_aN (pc := 68) hX rfl d_M_count_68 Nat.zero_lt_one (by show _ < 6; first | assumption | omega) ?_
                exact ow_iret (pc := 69) hX d_M_count_69 (by first | rfl | (simp only [km_count, hx]; done) | (simp only [km_count, hx, hy]; done)) (by first | rfl | (simp only [km_count, hx]; done) | (simp only [km_count, hx, hy]; done))
              · skip
                obtain rfl : b = 2 := by omega
                refine ow_aload_n (pc := 54) hX d_M_count_54 rfl ?_
                refine ow_gR (pc := 55) hX (kd_M Y n s c) 23 d_M_count_55 kw_524 rfl Nat.zero_lt_one ?_
                refine ow_iload_n (pc := 58) hX d_M_count_58 rfl ?_
                refine ow_aN (pc := 59) hX rfl d_M_count_59 Nat.zero_lt_one (by show _ < 6; first | assumption | omega) ?_
                refine ow_goto (pc := 60) (tgt := 69) hX d_M_count_60 (by decide) ?_
                exact ow_iret (pc := 69) hX d_M_count_69 (by first | rfl | (simp only [km_count, hx]; done) | (simp only [km_count, hx, hy]; done)) (by first | rfl | (simp only [km_count, hx]; done) | (simp only [km_count, hx, hy]; done))
            · skip
              obtain rfl : b = 1 := by omega
              refine ow_aload_n (pc := 37) hX d_M_count_37 rfl ?_
              refine ow_gR (pc := 38) hX (kd_M Y n s c) 19 d_M_count_38 kw_520 rfl Nat.zero_lt_one ?_
              refine ow_bipush (pc := 41) (v := nI 6) hX d_M_count_41 (by decide) ?_
              refine ow_iload_n (pc := 43) hX d_M_count_43 rfl ?_
              refine ow_addn (pc := 44) hX d_M_count_44 ?_
              refine ow_aN (pc := 45) hX rfl d_M_count_45 Nat.zero_lt_one (by show _ < 12; first | assumption | omega) ?_
              refine ow_goto (pc := 46) (tgt := 69) hX d_M_count_46 (by decide) ?_
              exact ow_iret (pc := 69) hX d_M_count_69 (by first | rfl | (simp only [km_count, hx]; done) | (simp only [km_count, hx, hy]; done)) (by first | rfl | (simp only [km_count, hx]; done) | (simp only [km_count, hx, hy]; done))
          · skip
            obtain rfl : b = 0 := by omega
            refine ow_aload_n (pc := 23) hX d_M_count_23 rfl ?_
            refine ow_gR (pc := 24) hX (kd_M Y n s c) 19 d_M_count_24 kw_520 rfl Nat.zero_lt_one ?_
            refine ow_iload_n (pc := 27) hX d_M_count_27 rfl ?_
            refine ow_aN (pc := 28) hX rfl d_M_count_28 Nat.zero_lt_one (by show _ < 12; first | assumption | omega) ?_
            refine ow_goto (pc := 29) (tgt := 69) hX d_M_count_29 (by decide) ?_
            exact ow_iret (pc := 69) hX d_M_count_69 (by first | rfl | (simp only [km_count, hx]; done) | (simp only [km_count, hx, hy]; done)) (by first | rfl | (simp only [km_count, hx]; done) | (simp only [km_count, hx, hy]; done))
        · skip
          exact absurd hb (by omega)
set_option maxRecDepth 100000 in
set_option maxHeartbeats 4000000 in
theorem c_M_cached (l : Launch) (Y : YY) (n s c : Nat) (hV : pv_ok (vM Y n s c)) (u : UU) (x k : Int32) (hn : n ≤ 6) (hu : wm n u) : Ct l (vM Y n s c) ⟨"SlottedMeshModel", "cached", "(II)I"⟩ (wz ⟨"SlottedMeshModel", "cached", "(II)I"⟩ b_M_cached 3 (some .int)) (rd 1) [.ref (pv_ad (vM Y n s c) 0 0), .int x, .int k] u (some (.int (km_cached n u x k))) (u) := by
  refine ct_mk hV (by decide +kernel) (Nat.le_of_ble_eq_true rfl) (fun X hX => ?_)
  have hX : ox X (vM Y n s c) (rd 1) b_M_cached 3 "SlottedMeshModel" gz (some .int) := hX
  show ow X (vM Y n s c) (some (.int (km_cached n u x k))) (u) u [(0, .ref (pv_ad (vM Y n s c) 0 0)), (1, .int x), (2, .int k)] 0 []
  rcases hx : nd n x with _ | a
  · skip
    refine ow_aload_n (pc := 0) hX d_M_cached_0 rfl ?_
    refine ow_iload_n (pc := 1) hX d_M_cached_1 rfl ?_
    refine ow_callV (pc := 2) hX (kd_M Y n s c) Nat.zero_lt_one (c_M_noNode _ Y n s c hV u x hn) (cw_V hX mz_M_noNode kw_609 ⟨rfl, rfl⟩ (by decide)) rfl (Nat.le_of_ble_eq_true rfl) d_M_cached_2 rfl ?_
    refine ow_st (st2 := .int (nI 1) :: _) (by rw [hx]; rfl) ?_
    refine ow_nz_ne (pc := 5) (tgt := 22) hX d_M_cached_5 (by decide) (by first | assumption | omega) (fun h5 => ?_) (fun h5 => ?_)
    · skip
      refine ow_sipush (pc := 22) (v := (-9999)) hX d_M_cached_22 (by decide) ?_
      refine ow_goto (pc := 25) (tgt := 38) hX d_M_cached_25 (by decide) ?_
      exact ow_iret (pc := 38) hX d_M_cached_38 (by first | rfl | (simp only [km_cached, hx]; done) | (simp only [km_cached, hx, hy]; done)) (by first | rfl | (simp only [km_cached, hx]; done) | (simp only [km_cached, hx, hy]; done))
    · skip
      exact absurd h5 (by decide)
  · skip
    obtain ⟨ha, rfl⟩ := nd_some (by omega) hx
    have hka := hu.2.2.2.2.2.2.2.2.1 a
    rcases hy : nd (u.1 23 0 a) k with _ | b
    · skip
      refine ow_aload_n (pc := 0) hX d_M_cached_0 rfl ?_
      refine ow_iload_n (pc := 1) hX d_M_cached_1 rfl ?_
      refine ow_callV (pc := 2) hX (kd_M Y n s c) Nat.zero_lt_one (c_M_noNode _ Y n s c hV u (nI a) hn) (cw_V hX mz_M_noNode kw_609 ⟨rfl, rfl⟩ (by decide)) rfl (Nat.le_of_ble_eq_true rfl) d_M_cached_2 rfl ?_
      refine ow_st (st2 := .int (nI 0) :: _) (by rw [hx]; rfl) ?_
      refine ow_nz_ne (pc := 5) (tgt := 22) hX d_M_cached_5 (by decide) (by first | assumption | omega) (fun h5 => ?_) (fun h5 => ?_)
      · skip
        exact absurd h5 (by decide)
      · skip
        refine ow_iload_n (pc := 8) hX d_M_cached_8 rfl ?_
        refine ow_if_lt (pc := 9) (tgt := 22) hX d_M_cached_9 (by decide) (fun h9 => ?_) (fun h9 => ?_)
        · skip
          refine ow_sipush (pc := 22) (v := (-9999)) hX d_M_cached_22 (by decide) ?_
          refine ow_goto (pc := 25) (tgt := 38) hX d_M_cached_25 (by decide) ?_
          exact ow_iret (pc := 38) hX d_M_cached_38 (by first | rfl | (simp only [km_cached, hx]; done) | (simp only [km_cached, hx, hy]; done)) (by first | rfl | (simp only [km_cached, hx]; done) | (simp only [km_cached, hx, hy]; done))
        · skip
          refine ow_iload_n (pc := 12) hX d_M_cached_12 rfl ?_
          refine ow_aload_n (pc := 13) hX d_M_cached_13 rfl ?_
          refine ow_gR (pc := 14) hX (kd_M Y n s c) 28 d_M_cached_14 kw_529 rfl Nat.zero_lt_one ?_
          refine ow_iload_n (pc := 17) hX d_M_cached_17 rfl ?_
          refine ow_aN (pc := 18) hX rfl d_M_cached_18 Nat.zero_lt_one (by show _ < 6; first | assumption | omega) ?_
          refine ow_ic_lt (pc := 19) (tgt := 28) hX d_M_cached_19 (by decide) (fun h19 => ?_) (fun h19 => ?_)
          · skip
            exact (nd_no hy h9 h19).elim
          · skip
            refine ow_sipush (pc := 22) (v := (-9999)) hX d_M_cached_22 (by decide) ?_
            refine ow_goto (pc := 25) (tgt := 38) hX d_M_cached_25 (by decide) ?_
            exact ow_iret (pc := 38) hX d_M_cached_38 (by first | rfl | (simp only [km_cached, hx]; done) | (simp only [km_cached, hx, hy]; done)) (by first | rfl | (simp only [km_cached, hx]; done) | (simp only [km_cached, hx, hy]; done))
    · skip
      obtain ⟨hb, rfl⟩ := nd_some (by omega) hy
      refine ow_aload_n (pc := 0) hX d_M_cached_0 rfl ?_
      refine ow_iload_n (pc := 1) hX d_M_cached_1 rfl ?_
      refine ow_callV (pc := 2) hX (kd_M Y n s c) Nat.zero_lt_one (c_M_noNode _ Y n s c hV u (nI a) hn) (cw_V hX mz_M_noNode kw_609 ⟨rfl, rfl⟩ (by decide)) rfl (Nat.le_of_ble_eq_true rfl) d_M_cached_2 rfl ?_
      refine ow_st (st2 := .int (nI 0) :: _) (by rw [hx]; rfl) ?_
      refine ow_nz_ne (pc := 5) (tgt := 22) hX d_M_cached_5 (by decide) (by first | assumption | omega) (fun h5 => ?_) (fun h5 => ?_)
      · skip
        exact absurd h5 (by decide)
      · skip
        refine ow_iload_n (pc := 8) hX d_M_cached_8 rfl ?_
        refine ow_nz_lt (pc := 9) (tgt := 22) hX d_M_cached_9 (by decide) (by first | assumption | omega) ?_
        refine ow_iload_n (pc := 12) hX d_M_cached_12 rfl ?_
        refine ow_aload_n (pc := 13) hX d_M_cached_13 rfl ?_
        refine ow_gR (pc := 14) hX (kd_M Y n s c) 28 d_M_cached_14 kw_529 rfl Nat.zero_lt_one ?_
        refine ow_iload_n (pc := 17) hX d_M_cached_17 rfl ?_
        refine ow_aN (pc := 18) hX rfl d_M_cached_18 Nat.zero_lt_one (by show _ < 6; first | assumption | omega) ?_
        refine ow_nc_lt (pc := 19) (tgt := 28) hX d_M_cached_19 (by decide) (by first | assumption | omega) (by first | assumption | omega) (fun h19 => ?_) (fun h19 => ?_)
        · skip
          refine ow_aload_n (pc := 28) hX d_M_cached_28 rfl ?_
          refine ow_gR (pc := 29) hX (kd_M Y n s c) 27 d_M_cached_29 kw_528 rfl Nat.zero_lt_one ?_
          refine ow_iconst (pc := 32) (v := nI 3) hX d_M_cached_32 (by decide) ?_
          refine ow_iload_n (pc := 33) hX d_M_cached_33 rfl ?_
          refine ow_muln (pc := 34) hX d_M_cached_34 ?_
          refine ow_iload_n (pc := 35) hX d_M_cached_35 rfl ?_
          refine ow_addn (pc := 36) hX d_M_cached_36 ?_
          refine ow_aI (pc := 37) hX rfl d_M_cached_37 Nat.zero_lt_one (by show _ < 18; first | assumption | omega) ?_
          exact ow_iret (pc := 38) hX d_M_cached_38 (by first | rfl | (simp only [km_cached, hx]; done) | (simp only [km_cached, hx, hy]; done)) (by first | rfl | (simp only [km_cached, hx]; done) | (simp only [km_cached, hx, hy]; done))
        · skip
          exact absurd hb (by omega)
set_option maxRecDepth 100000 in
set_option maxHeartbeats 4000000 in
theorem c_M_within (l : Launch) (Y : YY) (n s c : Nat) (hV : pv_ok (vM Y n s c)) (u : UU) (v b : Int32) : Ct l (vM Y n s c) ⟨"SlottedMeshModel", "within", "(II)I"⟩ (wz ⟨"SlottedMeshModel", "within", "(II)I"⟩ b_M_within 2 (some .int)) (rd 0) [.int v, .int b] u (some (.int (kwin v b))) (u) := by
  refine ct_mk hV (by decide +kernel) (Nat.le_of_ble_eq_true rfl) (fun X hX => ?_)
  have hX : ox X (vM Y n s c) (rd 0) b_M_within 2 "SlottedMeshModel" gz (some .int) := hX
  show ow X (vM Y n s c) (some (.int (kwin v b))) (u) u [(0, .int v), (1, .int b)] 0 []
  refine ow_iload_n (pc := 0) hX d_M_within_0 rfl ?_
  refine ow_iload_n (pc := 1) hX d_M_within_1 rfl ?_
  refine ow_ineg (pc := 2) hX d_M_within_2 ?_
  refine ow_ic_ge (pc := 3) (tgt := 11) hX d_M_within_3 (by decide) (fun h3 => ?_) (fun h3 => ?_)
  · skip
    refine ow_iload_n (pc := 11) hX d_M_within_11 rfl ?_
    refine ow_iload_n (pc := 12) hX d_M_within_12 rfl ?_
    refine ow_ic_le (pc := 13) (tgt := 20) hX d_M_within_13 (by decide) (fun h13 => ?_) (fun h13 => ?_)
    · skip
      refine ow_iload_n (pc := 20) hX d_M_within_20 rfl ?_
      exact ow_iret (pc := 21) hX d_M_within_21 (by first | rfl | (unfold kwin; first | rw [if_neg h3] | rw [if_pos h3, if_pos h13] | rw [if_pos h3, if_neg h13])) (by first | rfl | (unfold kwin; first | rw [if_neg h3] | rw [if_pos h3, if_pos h13] | rw [if_pos h3, if_neg h13]))
    · skip
      refine ow_iload_n (pc := 16) hX d_M_within_16 rfl ?_
      refine ow_goto (pc := 17) (tgt := 21) hX d_M_within_17 (by decide) ?_
      exact ow_iret (pc := 21) hX d_M_within_21 (by first | rfl | (unfold kwin; first | rw [if_neg h3] | rw [if_pos h3, if_pos h13] | rw [if_pos h3, if_neg h13])) (by first | rfl | (unfold kwin; first | rw [if_neg h3] | rw [if_pos h3, if_pos h13] | rw [if_pos h3, if_neg h13]))
  · skip
    refine ow_iload_n (pc := 6) hX d_M_within_6 rfl ?_
    refine ow_ineg (pc := 7) hX d_M_within_7 ?_
    refine ow_goto (pc := 8) (tgt := 21) hX d_M_within_8 (by decide) ?_
    exact ow_iret (pc := 21) hX d_M_within_21 (by first | rfl | (unfold kwin; first | rw [if_neg h3] | rw [if_pos h3, if_pos h13] | rw [if_pos h3, if_neg h13])) (by first | rfl | (unfold kwin; first | rw [if_neg h3] | rw [if_pos h3, if_pos h13] | rw [if_pos h3, if_neg h13]))
set_option maxRecDepth 100000 in
set_option maxHeartbeats 4000000 in
theorem c_M_bit (l : Launch) (Y : YY) (n s c : Nat) (hV : pv_ok (vM Y n s c)) (u : UU) (b : Int64) (t : Nat) (ht : t < 2 ^ 31) : Ct l (vM Y n s c) ⟨"SlottedMeshModel", "bit", "(JI)Z"⟩ (wz ⟨"SlottedMeshModel", "bit", "(JI)Z"⟩ b_M_bit 3 (some .boolean)) (rd 0) [.long b, .int (nI t)] u (some (.int (nI (kbitm b t)))) (u) := by
  refine ct_mk hV (by decide +kernel) (Nat.le_of_ble_eq_true rfl) (fun X hX => ?_)
  have hX : ox X (vM Y n s c) (rd 0) b_M_bit 3 "SlottedMeshModel" gz (some .boolean) := hX
  show ow X (vM Y n s c) (some (.int (nI (kbitm b t)))) (u) u [(0, .long b), (2, .int (nI t))] 0 []
  refine ow_lload_n (pc := 0) hX d_M_bit_0 rfl ?_
  refine ow_iload_n (pc := 1) hX d_M_bit_1 rfl ?_
  refine ow_bipush (pc := 2) (v := nI 64) hX d_M_bit_2 (by decide) ?_
  refine ow_remn (pc := 4) hX d_M_bit_4 (by first | assumption | omega) (by first | assumption | omega) (by first | assumption | omega) ?_
  refine ow_lshr (pc := 5) hX d_M_bit_5 ?_
  refine ow_lconst (pc := 6) (v := 1) hX d_M_bit_6 (by decide) ?_
  refine ow_land (pc := 7) hX d_M_bit_7 ?_
  refine ow_lconst (pc := 8) (v := 1) hX d_M_bit_8 (by decide) ?_
  refine ow_lcmp (pc := 9) hX d_M_bit_9 ?_
  refine ow_if_ne (pc := 10) (tgt := 17) hX d_M_bit_10 (by decide) (fun h10 => ?_) (fun h10 => ?_)
  · skip
    rw [lg_cmp_eq] at h10
    refine ow_iconst (pc := 17) (v := nI 0) hX d_M_bit_17 (by decide) ?_
    exact ow_zret (pc := 18) hX d_M_bit_18 (nb_01 (by first | decide | assumption | omega | exact kbit_le _ _)) (by first | rfl | (unfold kbitm; first | rw [if_pos h10] | rw [if_neg h10])) (by first | rfl | (unfold kbitm; first | rw [if_pos h10] | rw [if_neg h10]))
  · skip
    rw [lg_cmp_eq] at h10
    refine ow_iconst (pc := 13) (v := nI 1) hX d_M_bit_13 (by decide) ?_
    refine ow_goto (pc := 14) (tgt := 18) hX d_M_bit_14 (by decide) ?_
    exact ow_zret (pc := 18) hX d_M_bit_18 (nb_01 (by first | decide | assumption | omega | exact kbit_le _ _)) (by first | rfl | (unfold kbitm; first | rw [if_pos h10] | rw [if_neg h10])) (by first | rfl | (unfold kbitm; first | rw [if_pos h10] | rw [if_neg h10]))
set_option maxRecDepth 100000 in
set_option maxHeartbeats 4000000 in
theorem c_M_close (l : Launch) (Y : YY) (n s c : Nat) (hV : pv_ok (vM Y n s c)) (u : UU) (a b : Nat) (ha : a < 6) (hb : b < 6) : Ct l (vM Y n s c) ⟨"SlottedMeshModel", "close", "(II)Z"⟩ (wz ⟨"SlottedMeshModel", "close", "(II)Z"⟩ b_M_close 4 (some .boolean)) (rd 0) [.ref (pv_ad (vM Y n s c) 0 0), .int (nI a), .int (nI b)] u (some (.int (nI (kclm (u.2.1 4 0 a) (u.2.1 4 0 b))))) (u) := by
  refine ct_mk hV (by decide +kernel) (Nat.le_of_ble_eq_true rfl) (fun X hX => ?_)
  have hX : ox X (vM Y n s c) (rd 0) b_M_close 4 "SlottedMeshModel" gz (some .boolean) := hX
  show ow X (vM Y n s c) (some (.int (nI (kclm (u.2.1 4 0 a) (u.2.1 4 0 b))))) (u) u [(0, .ref (pv_ad (vM Y n s c) 0 0)), (1, .int (nI a)), (2, .int (nI b))] 0 []
  refine ow_aload_n (pc := 0) hX d_M_close_0 rfl ?_
  refine ow_gR (pc := 1) hX (kd_M Y n s c) 8 d_M_close_1 kw_509 rfl Nat.zero_lt_one ?_
  refine ow_iload_n (pc := 4) hX d_M_close_4 rfl ?_
  refine ow_aI (pc := 5) hX rfl d_M_close_5 Nat.zero_lt_one (by show _ < 6; first | assumption | omega) ?_
  refine ow_aload_n (pc := 6) hX d_M_close_6 rfl ?_
  refine ow_gR (pc := 7) hX (kd_M Y n s c) 8 d_M_close_7 kw_509 rfl Nat.zero_lt_one ?_
  refine ow_iload_n (pc := 10) hX d_M_close_10 rfl ?_
  refine ow_aI (pc := 11) hX rfl d_M_close_11 Nat.zero_lt_one (by show _ < 6; first | assumption | omega) ?_
  refine ow_isub (pc := 12) hX d_M_close_12 ?_
  refine ow_istore_n (pc := 13) (l2 := [(0, _), (1, _), (2, _), (3, _)]) hX d_M_close_13 (by decide) rfl rfl ?_
  refine ow_iload_n (pc := 14) hX d_M_close_14 rfl ?_
  refine ow_bipush (pc := 15) (v := (-10)) hX d_M_close_15 (by decide) ?_
  refine ow_ic_lt (pc := 17) (tgt := 30) hX d_M_close_17 (by decide) (fun h17 => ?_) (fun h17 => ?_)
  · skip
    refine ow_iconst (pc := 30) (v := nI 0) hX d_M_close_30 (by decide) ?_
    exact ow_zret (pc := 31) hX d_M_close_31 (nb_01 (by first | decide | assumption | omega | exact kbit_le _ _)) (by first | rfl | (unfold kclm; first | rw [if_pos h17] | rw [if_neg h17, if_pos h23] | rw [if_neg h17, if_neg h23])) (by first | rfl | (unfold kclm; first | rw [if_pos h17] | rw [if_neg h17, if_pos h23] | rw [if_neg h17, if_neg h23]))
  · skip
    refine ow_iload_n (pc := 20) hX d_M_close_20 rfl ?_
    refine ow_bipush (pc := 21) (v := nI 10) hX d_M_close_21 (by decide) ?_
    refine ow_ic_gt (pc := 23) (tgt := 30) hX d_M_close_23 (by decide) (fun h23 => ?_) (fun h23 => ?_)
    · skip
      refine ow_iconst (pc := 30) (v := nI 0) hX d_M_close_30 (by decide) ?_
      exact ow_zret (pc := 31) hX d_M_close_31 (nb_01 (by first | decide | assumption | omega | exact kbit_le _ _)) (by first | rfl | (unfold kclm; first | rw [if_pos h17] | rw [if_neg h17, if_pos h23] | rw [if_neg h17, if_neg h23])) (by first | rfl | (unfold kclm; first | rw [if_pos h17] | rw [if_neg h17, if_pos h23] | rw [if_neg h17, if_neg h23]))
    · skip
      refine ow_iconst (pc := 26) (v := nI 1) hX d_M_close_26 (by decide) ?_
      refine ow_goto (pc := 27) (tgt := 31) hX d_M_close_27 (by decide) ?_
      exact ow_zret (pc := 31) hX d_M_close_31 (nb_01 (by first | decide | assumption | omega | exact kbit_le _ _)) (by first | rfl | (unfold kclm; first | rw [if_pos h17] | rw [if_neg h17, if_pos h23] | rw [if_neg h17, if_neg h23])) (by first | rfl | (unfold kclm; first | rw [if_pos h17] | rw [if_neg h17, if_pos h23] | rw [if_neg h17, if_neg h23]))
set_option maxRecDepth 100000 in
set_option maxHeartbeats 4000000 in
theorem c_M_first (l : Launch) (Y : YY) (n s c : Nat) (hV : pv_ok (vM Y n s c)) (u : UU) (a : Nat) (ha : a < 2 ^ 31) : Ct l (vM Y n s c) ⟨"SlottedMeshModel", "first", "(I)I"⟩ (wz ⟨"SlottedMeshModel", "first", "(I)I"⟩ b_M_first 1 (some .int)) (rd 0) [.int (nI a)] u (some (.int (nI (kfst a)))) (u) := by
  refine ct_mk hV (by decide +kernel) (Nat.le_of_ble_eq_true rfl) (fun X hX => ?_)
  have hX : ox X (vM Y n s c) (rd 0) b_M_first 1 "SlottedMeshModel" gz (some .int) := hX
  show ow X (vM Y n s c) (some (.int (nI (kfst a)))) (u) u [(0, .int (nI a))] 0 []
  refine ow_iload_n (pc := 0) hX d_M_first_0 rfl ?_
  refine ow_nz_ne (pc := 1) (tgt := 9) hX d_M_first_1 (by decide) (by first | assumption | omega) (fun h1 => ?_) (fun h1 => ?_)
  · skip
    refine ow_iload_n (pc := 9) hX d_M_first_9 rfl ?_
    refine ow_bipush (pc := 10) (v := nI 10) hX d_M_first_10 (by decide) ?_
    refine ow_divn (pc := 12) hX d_M_first_12 (by first | assumption | omega) (by first | assumption | omega) (by first | assumption | omega) ?_
    refine ow_bipush (pc := 13) (v := nI 10) hX d_M_first_13 (by decide) ?_
    refine ow_remn (pc := 15) hX d_M_first_15 (by first | assumption | omega) (by first | assumption | omega) (by first | assumption | omega) ?_
    exact ow_iret (pc := 16) hX d_M_first_16 (by first | rfl | (unfold kfst; first | rw [if_pos h1] | rw [if_neg h1])) (by first | rfl | (unfold kfst; first | rw [if_pos h1] | rw [if_neg h1]))
  · skip
    refine ow_bipush (pc := 4) (v := nI 9) hX d_M_first_4 (by decide) ?_
    refine ow_goto (pc := 6) (tgt := 16) hX d_M_first_6 (by decide) ?_
    exact ow_iret (pc := 16) hX d_M_first_16 (by first | rfl | (unfold kfst; first | rw [if_pos h1] | rw [if_neg h1])) (by first | rfl | (unfold kfst; first | rw [if_pos h1] | rw [if_neg h1]))
set_option maxRecDepth 100000 in
set_option maxHeartbeats 4000000 in
theorem c_M_second (l : Launch) (Y : YY) (n s c : Nat) (hV : pv_ok (vM Y n s c)) (u : UU) (a : Nat) (ha : a < 2 ^ 31) : Ct l (vM Y n s c) ⟨"SlottedMeshModel", "second", "(I)I"⟩ (wz ⟨"SlottedMeshModel", "second", "(I)I"⟩ b_M_second 1 (some .int)) (rd 0) [.int (nI a)] u (some (.int (nI (ksnd a)))) (u) := by
  refine ct_mk hV (by decide +kernel) (Nat.le_of_ble_eq_true rfl) (fun X hX => ?_)
  have hX : ox X (vM Y n s c) (rd 0) b_M_second 1 "SlottedMeshModel" gz (some .int) := hX
  show ow X (vM Y n s c) (some (.int (nI (ksnd a)))) (u) u [(0, .int (nI a))] 0 []
  refine ow_iload_n (pc := 0) hX d_M_second_0 rfl ?_
  refine ow_sipush (pc := 1) (v := nI 200) hX d_M_second_1 (by decide) ?_
  refine ow_nc_ge (pc := 4) (tgt := 12) hX d_M_second_4 (by decide) (by first | assumption | omega) (by first | assumption | omega) (fun h4 => ?_) (fun h4 => ?_)
  · skip
    refine ow_iload_n (pc := 12) hX d_M_second_12 rfl ?_
    refine ow_bipush (pc := 13) (v := nI 10) hX d_M_second_13 (by decide) ?_
    refine ow_remn (pc := 15) hX d_M_second_15 (by first | assumption | omega) (by first | assumption | omega) (by first | assumption | omega) ?_
    exact ow_iret (pc := 16) hX d_M_second_16 (by first | rfl | (unfold ksnd; first | rw [if_pos h4] | rw [if_neg (by omega)])) (by first | rfl | (unfold ksnd; first | rw [if_pos h4] | rw [if_neg (by omega)]))
  · skip
    refine ow_bipush (pc := 7) (v := nI 9) hX d_M_second_7 (by decide) ?_
    refine ow_goto (pc := 9) (tgt := 16) hX d_M_second_9 (by decide) ?_
    exact ow_iret (pc := 16) hX d_M_second_16 (by first | rfl | (unfold ksnd; first | rw [if_pos h4] | rw [if_neg (by omega)])) (by first | rfl | (unfold ksnd; first | rw [if_pos h4] | rw [if_neg (by omega)]))
theorem km_st1_a {a k : Nat} {w : UU} (h : k = a) : km_st1 a k w = ui (ui w 20 0 (6 * a + k) (nI 0)) 20 0 (36 + 6 * a + k) (w.2.1 20 0 (36 + 6 * a + k)) := by unfold km_st1; rw [if_pos h]
theorem km_st1_b {a k : Nat} {w : UU} (h : ¬ k = a) : km_st1 a k w = ui (ui w 20 0 (6 * a + k) (nI 0)) 20 0 (36 + 6 * a + k) (nI 0) := by unfold km_st1; rw [if_neg h]
set_option maxRecDepth 100000 in
set_option maxHeartbeats 4000000 in
theorem w_M_stop {X : OX} (Y : YY) (n s c : Nat) (hX : ox X (vM Y n s c) (rd 1) b_M_stop 3 "SlottedMeshModel" gz (some .boolean)) (a : Nat) (ha : a < 6) (u1 : UU) : ∀ j k, k + j = 6 → ow X (vM Y n s c) (some (.int (nI 1))) (fo (km_st1 a) u1 6) (fo (km_st1 a) u1 k) [(0, .ref (pv_ad (vM Y n s c) 0 0)), (1, .int (nI a)), (2, .int (nI k))] 77 [] := by
  intro j
  induction j with
  | zero =>
    intro k hk
    refine ow_iload_n (pc := 77) hX d_M_stop_77 rfl ?_
    refine ow_bipush (pc := 78) (v := nI 6) hX d_M_stop_78 (by decide) ?_
    refine ow_nc_ge (pc := 80) (tgt := 138) hX d_M_stop_80 (by decide) (by first | assumption | omega) (by first | assumption | omega) (fun h80 => ?_) (fun h80 => ?_)
    · skip
      refine ow_iconst (pc := 138) (v := nI 1) hX d_M_stop_138 (by decide) ?_
      exact ow_zret (pc := 139) hX d_M_stop_139 (nb_01 (by first | decide | assumption | omega | exact kbit_le _ _)) (by first | rfl | rw [show 6 = k by omega]) (by first | rfl | rw [show 6 = k by omega])
    · skip
      exact absurd h80 (by omega)
  | succ j ih =>
    intro k hk
    refine ow_iload_n (pc := 77) hX d_M_stop_77 rfl ?_
    refine ow_bipush (pc := 78) (v := nI 6) hX d_M_stop_78 (by decide) ?_
    refine ow_nc_ge (pc := 80) (tgt := 138) hX d_M_stop_80 (by decide) (by first | assumption | omega) (by first | assumption | omega) (fun h80 => ?_) (fun h80 => ?_)
    · skip
      exact absurd h80 (by omega)
    · skip
      refine ow_aload_n (pc := 83) hX d_M_stop_83 rfl ?_
      refine ow_gR (pc := 84) hX (kd_M Y n s c) 25 d_M_stop_84 kw_526 rfl Nat.zero_lt_one ?_
      refine ow_bipush (pc := 87) (v := nI 6) hX d_M_stop_87 (by decide) ?_
      refine ow_iload_n (pc := 89) hX d_M_stop_89 rfl ?_
      refine ow_muln (pc := 90) hX d_M_stop_90 ?_
      refine ow_iload_n (pc := 91) hX d_M_stop_91 rfl ?_
      refine ow_addn (pc := 92) hX d_M_stop_92 ?_
      refine ow_iconst (pc := 93) (v := nI 0) hX d_M_stop_93 (by decide) ?_
      refine ow_sI (pc := 94) hX rfl d_M_stop_94 Nat.zero_lt_one (by show _ < 72; first | assumption | omega) ?_
      refine ow_aload_n (pc := 95) hX d_M_stop_95 rfl ?_
      refine ow_gR (pc := 96) hX (kd_M Y n s c) 25 d_M_stop_96 kw_526 rfl Nat.zero_lt_one ?_
      refine ow_bipush (pc := 99) (v := nI 36) hX d_M_stop_99 (by decide) ?_
      refine ow_bipush (pc := 101) (v := nI 6) hX d_M_stop_101 (by decide) ?_
      refine ow_iload_n (pc := 103) hX d_M_stop_103 rfl ?_
      refine ow_muln (pc := 104) hX d_M_stop_104 ?_
      refine ow_addn (pc := 105) hX d_M_stop_105 ?_
      refine ow_iload_n (pc := 106) hX d_M_stop_106 rfl ?_
      refine ow_addn (pc := 107) hX d_M_stop_107 ?_
      refine ow_iload_n (pc := 108) hX d_M_stop_108 rfl ?_
      refine ow_iload_n (pc := 109) hX d_M_stop_109 rfl ?_
      refine ow_nc_ne (pc := 110) (tgt := 130) hX d_M_stop_110 (by decide) (by first | assumption | omega) (by first | assumption | omega) (fun h110 => ?_) (fun h110 => ?_)
      · skip
        refine ow_iconst (pc := 130) (v := nI 0) hX d_M_stop_130 (by decide) ?_
        try rw [if_neg (by omega : ¬ 36 + 6 * a + k = 6 * a + k)]
        refine ow_sI (pc := 131) hX rfl d_M_stop_131 Nat.zero_lt_one (by show _ < 72; first | assumption | omega) ?_
        refine ow_iinc (pc := 132) (l2 := [(0, _), (1, _), (2, _)]) hX d_M_stop_132 rfl (ii_1 _) (by decide) rfl rfl ?_
        refine ow_goto (pc := 135) (tgt := 77) hX d_M_stop_135 (by decide) ?_
        have ih := ih (k + 1) (by omega)
        rw [fo_s (km_st1 a) u1 k] at ih
        first | (rw [km_st1_b h110] at ih; exact ih) | (rw [km_st1_a h110] at ih; exact ih)
      · skip
        refine ow_aload_n (pc := 113) hX d_M_stop_113 rfl ?_
        refine ow_gR (pc := 114) hX (kd_M Y n s c) 25 d_M_stop_114 kw_526 rfl Nat.zero_lt_one ?_
        refine ow_bipush (pc := 117) (v := nI 36) hX d_M_stop_117 (by decide) ?_
        refine ow_bipush (pc := 119) (v := nI 6) hX d_M_stop_119 (by decide) ?_
        refine ow_iload_n (pc := 121) hX d_M_stop_121 rfl ?_
        refine ow_muln (pc := 122) hX d_M_stop_122 ?_
        refine ow_addn (pc := 123) hX d_M_stop_123 ?_
        refine ow_iload_n (pc := 124) hX d_M_stop_124 rfl ?_
        refine ow_addn (pc := 125) hX d_M_stop_125 ?_
        refine ow_aI (pc := 126) hX rfl d_M_stop_126 Nat.zero_lt_one (by show _ < 72; first | assumption | omega) ?_
        try simp only [un_1, un_2, ui_1, ui_2, ui_3, ul_1, ul_2, ul_3, ul_4, ur_1, ur_2, ur_3, ur_4, Nat.reduceEqDiff, false_and, and_false, true_and, and_true, and_self, reduceIte]
        refine ow_goto (pc := 127) (tgt := 131) hX d_M_stop_127 (by decide) ?_
        try rw [if_neg (by omega : ¬ 36 + 6 * a + k = 6 * a + k)]
        refine ow_sI (pc := 131) hX rfl d_M_stop_131 Nat.zero_lt_one (by show _ < 72; first | assumption | omega) ?_
        refine ow_iinc (pc := 132) (l2 := [(0, _), (1, _), (2, _)]) hX d_M_stop_132 rfl (ii_1 _) (by decide) rfl rfl ?_
        refine ow_goto (pc := 135) (tgt := 77) hX d_M_stop_135 (by decide) ?_
        have ih := ih (k + 1) (by omega)
        rw [fo_s (km_st1 a) u1 k] at ih
        first | (rw [km_st1_b h110] at ih; exact ih) | (rw [km_st1_a h110] at ih; exact ih)
set_option maxRecDepth 100000 in
set_option maxHeartbeats 4000000 in
theorem c_M_stop (l : Launch) (Y : YY) (n s c : Nat) (hV : pv_ok (vM Y n s c)) (u : UU) (x : Int32) (hn : n ≤ 6) (hu : wm n u) : Ct l (vM Y n s c) ⟨"SlottedMeshModel", "stop", "(I)Z"⟩ (wz ⟨"SlottedMeshModel", "stop", "(I)Z"⟩ b_M_stop 3 (some .boolean)) (rd 1) [.ref (pv_ad (vM Y n s c) 0 0), .int x] u (some (.int (nI (km_stop n u x).1))) ((km_stop n u x).2) := by
  refine ct_mk hV (by decide +kernel) (Nat.le_of_ble_eq_true rfl) (fun X hX => ?_)
  have hX : ox X (vM Y n s c) (rd 1) b_M_stop 3 "SlottedMeshModel" gz (some .boolean) := hX
  show ow X (vM Y n s c) (some (.int (nI (km_stop n u x).1))) ((km_stop n u x).2) u [(0, .ref (pv_ad (vM Y n s c) 0 0)), (1, .int x)] 0 []
  rcases hx : nd n x with _ | a
  · skip
    refine ow_aload_n (pc := 0) hX d_M_stop_0 rfl ?_
    refine ow_iload_n (pc := 1) hX d_M_stop_1 rfl ?_
    refine ow_callV (pc := 2) hX (kd_M Y n s c) Nat.zero_lt_one (c_M_noNode _ Y n s c hV u x hn) (cw_V hX mz_M_noNode kw_609 ⟨rfl, rfl⟩ (by decide)) rfl (Nat.le_of_ble_eq_true rfl) d_M_stop_2 rfl ?_
    refine ow_st (st2 := .int (nI 1) :: _) (by rw [hx]; rfl) ?_
    refine ow_nz_ne (pc := 5) (tgt := 21) hX d_M_stop_5 (by decide) (by first | assumption | omega | (have := hu.2.1 a; omega) | (have := hu.2.2.1 a; omega) | (have := hu.2.2.2.2.1 a; omega)) (fun h5 => ?_) (fun h5 => ?_)
    · skip
      refine ow_iconst (pc := 21) (v := nI 0) hX d_M_stop_21 (by decide) ?_
      exact ow_zret (pc := 22) hX d_M_stop_22 (nb_01 (by first | decide | assumption | omega | exact kbit_le _ _)) (by first | rfl | (simp only [km_stop, hx]; done) | (simp only [km_stop, hx]; first | rw [if_pos h9] | rw [if_neg h9, if_pos h18])) (by first | rfl | (simp only [km_stop, hx]; done) | (simp only [km_stop, hx]; first | rw [if_pos h9] | rw [if_neg h9, if_pos h18]))
    · skip
      exact absurd h5 (by decide)
  · skip
    obtain ⟨ha, rfl⟩ := nd_some (by omega) hx
    refine ow_aload_n (pc := 0) hX d_M_stop_0 rfl ?_
    refine ow_iload_n (pc := 1) hX d_M_stop_1 rfl ?_
    refine ow_callV (pc := 2) hX (kd_M Y n s c) Nat.zero_lt_one (c_M_noNode _ Y n s c hV u (nI a) hn) (cw_V hX mz_M_noNode kw_609 ⟨rfl, rfl⟩ (by decide)) rfl (Nat.le_of_ble_eq_true rfl) d_M_stop_2 rfl ?_
    refine ow_st (st2 := .int (nI 0) :: _) (by rw [hx]; rfl) ?_
    refine ow_nz_ne (pc := 5) (tgt := 21) hX d_M_stop_5 (by decide) (by first | assumption | omega | (have := hu.2.1 a; omega) | (have := hu.2.2.1 a; omega) | (have := hu.2.2.2.2.1 a; omega)) (fun h5 => ?_) (fun h5 => ?_)
    · skip
      exact absurd h5 (by decide)
    · skip
      refine ow_iload_n (pc := 8) hX d_M_stop_8 rfl ?_
      refine ow_nz_eq (pc := 9) (tgt := 21) hX d_M_stop_9 (by decide) (by first | assumption | omega | (have := hu.2.1 a; omega) | (have := hu.2.2.1 a; omega) | (have := hu.2.2.2.2.1 a; omega)) (fun h9 => ?_) (fun h9 => ?_)
      · skip
        refine ow_iconst (pc := 21) (v := nI 0) hX d_M_stop_21 (by decide) ?_
        exact ow_zret (pc := 22) hX d_M_stop_22 (nb_01 (by first | decide | assumption | omega | exact kbit_le _ _)) (by first | rfl | (simp only [km_stop, hx]; done) | (simp only [km_stop, hx]; first | rw [if_pos h9] | rw [if_neg h9, if_pos h18])) (by first | rfl | (simp only [km_stop, hx]; done) | (simp only [km_stop, hx]; first | rw [if_pos h9] | rw [if_neg h9, if_pos h18]))
      · skip
        refine ow_aload_n (pc := 12) hX d_M_stop_12 rfl ?_
        refine ow_gR (pc := 13) hX (kd_M Y n s c) 6 d_M_stop_13 kw_507 rfl Nat.zero_lt_one ?_
        refine ow_iload_n (pc := 16) hX d_M_stop_16 rfl ?_
        refine ow_aZ (pc := 17) hX rfl d_M_stop_17 Nat.zero_lt_one (by show _ < 6; first | assumption | omega) ?_
        refine ow_nz_ne (pc := 18) (tgt := 23) hX d_M_stop_18 (by decide) (by first | assumption | omega | (have := hu.2.1 a; omega) | (have := hu.2.2.1 a; omega) | (have := hu.2.2.2.2.1 a; omega)) (fun h18 => ?_) (fun h18 => ?_)
        · skip
          refine ow_aload_n (pc := 23) hX d_M_stop_23 rfl ?_
          refine ow_gR (pc := 24) hX (kd_M Y n s c) 6 d_M_stop_24 kw_507 rfl Nat.zero_lt_one ?_
          refine ow_iload_n (pc := 27) hX d_M_stop_27 rfl ?_
          refine ow_iconst (pc := 28) (v := nI 0) hX d_M_stop_28 (by decide) ?_
          refine ow_sZ (pc := 29) hX rfl d_M_stop_29 Nat.zero_lt_one (by show _ < 6; first | assumption | omega) (by first | assumption | omega | (have := hu.2.1 a; omega) | (have := hu.2.2.1 a; omega) | (have := hu.2.2.2.2.1 a; omega)) ?_
          refine ow_aload_n (pc := 30) hX d_M_stop_30 rfl ?_
          refine ow_gR (pc := 31) hX (kd_M Y n s c) 7 d_M_stop_31 kw_508 rfl Nat.zero_lt_one ?_
          refine ow_iload_n (pc := 34) hX d_M_stop_34 rfl ?_
          refine ow_iconst (pc := 35) (v := nI 0) hX d_M_stop_35 (by decide) ?_
          refine ow_sZ (pc := 36) hX rfl d_M_stop_36 Nat.zero_lt_one (by show _ < 6; first | assumption | omega) (by first | assumption | omega | (have := hu.2.1 a; omega) | (have := hu.2.2.1 a; omega) | (have := hu.2.2.2.2.1 a; omega)) ?_
          refine ow_aload_n (pc := 37) hX d_M_stop_37 rfl ?_
          refine ow_gR (pc := 38) hX (kd_M Y n s c) 8 d_M_stop_38 kw_509 rfl Nat.zero_lt_one ?_
          refine ow_iload_n (pc := 41) hX d_M_stop_41 rfl ?_
          refine ow_iconst (pc := 42) (v := nI 0) hX d_M_stop_42 (by decide) ?_
          refine ow_sI (pc := 43) hX rfl d_M_stop_43 Nat.zero_lt_one (by show _ < 6; first | assumption | omega) ?_
          refine ow_aload_n (pc := 44) hX d_M_stop_44 rfl ?_
          refine ow_gR (pc := 45) hX (kd_M Y n s c) 23 d_M_stop_45 kw_524 rfl Nat.zero_lt_one ?_
          refine ow_iload_n (pc := 48) hX d_M_stop_48 rfl ?_
          refine ow_iconst (pc := 49) (v := nI 0) hX d_M_stop_49 (by decide) ?_
          refine ow_sN (pc := 50) hX rfl d_M_stop_50 Nat.zero_lt_one (by show _ < 6; first | assumption | omega) ?_
          refine ow_aload_n (pc := 51) hX d_M_stop_51 rfl ?_
          refine ow_gR (pc := 52) hX (kd_M Y n s c) 24 d_M_stop_52 kw_525 rfl Nat.zero_lt_one ?_
          refine ow_iload_n (pc := 55) hX d_M_stop_55 rfl ?_
          refine ow_iconst (pc := 56) (v := nI 0) hX d_M_stop_56 (by decide) ?_
          refine ow_sN (pc := 57) hX rfl d_M_stop_57 Nat.zero_lt_one (by show _ < 6; first | assumption | omega) ?_
          refine ow_aload_n (pc := 58) hX d_M_stop_58 rfl ?_
          refine ow_gR (pc := 59) hX (kd_M Y n s c) 19 d_M_stop_59 kw_520 rfl Nat.zero_lt_one ?_
          refine ow_iload_n (pc := 62) hX d_M_stop_62 rfl ?_
          refine ow_iconst (pc := 63) (v := nI 0) hX d_M_stop_63 (by decide) ?_
          refine ow_sN (pc := 64) hX rfl d_M_stop_64 Nat.zero_lt_one (by show _ < 12; first | assumption | omega) ?_
          refine ow_aload_n (pc := 65) hX d_M_stop_65 rfl ?_
          refine ow_gR (pc := 66) hX (kd_M Y n s c) 19 d_M_stop_66 kw_520 rfl Nat.zero_lt_one ?_
          refine ow_bipush (pc := 69) (v := nI 6) hX d_M_stop_69 (by decide) ?_
          refine ow_iload_n (pc := 71) hX d_M_stop_71 rfl ?_
          refine ow_addn (pc := 72) hX d_M_stop_72 ?_
          refine ow_iconst (pc := 73) (v := nI 0) hX d_M_stop_73 (by decide) ?_
          refine ow_sN (pc := 74) hX rfl d_M_stop_74 Nat.zero_lt_one (by show _ < 12; first | assumption | omega) ?_
          refine ow_iconst (pc := 75) (v := nI 0) hX d_M_stop_75 (by decide) ?_
          refine ow_istore_n (pc := 76) (l2 := [(0, _), (1, _), (2, _)]) hX d_M_stop_76 (by decide) rfl rfl ?_
          simp only [km_stop, hx]
          rw [if_neg h9, if_neg h18]
          exact w_M_stop Y n s c hX a (by omega) (km_st0 u a) 6 0 (by omega)
        · skip
          refine ow_iconst (pc := 21) (v := nI 0) hX d_M_stop_21 (by decide) ?_
          exact ow_zret (pc := 22) hX d_M_stop_22 (nb_01 (by first | decide | assumption | omega | exact kbit_le _ _)) (by first | rfl | (simp only [km_stop, hx]; done) | (simp only [km_stop, hx]; first | rw [if_pos h9] | rw [if_neg h9, if_pos h18])) (by first | rfl | (simp only [km_stop, hx]; done) | (simp only [km_stop, hx]; first | rw [if_pos h9] | rw [if_neg h9, if_pos h18]))
