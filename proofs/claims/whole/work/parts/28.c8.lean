/-! SlottedMesh: public calls (by program, wip/whole/gen/c8.py) -/
theorem nf_some {n a : Nat} {x : Int32} (hn : n < 2 ^ 31) (h : nf n x = some a) : a < n ∧ a ≠ 0 ∧ x = nI a := by
  unfold nf at h
  split at h
  · cases h
  · rename_i h0
    obtain ⟨h1, h2⟩ := nd_some hn h
    exact ⟨h1, fun e => h0 (by rw [h2, e]; rfl), h2⟩
theorem nf_nI {n a : Nat} (hn : n < 2 ^ 31) (h : a < n) (h0 : a ≠ 0) : nf n (nI a) = some a := by
  unfold nf
  rw [if_neg (nI_ne0 (by omega) (by omega)), nd_nI hn h]
def kc_start (n : Nat) (u : UU) (x : Int32) : Nat × UU := match nd n x with
  | none => (0, u)
  | some a => if u.1 4 a 6 = 0 then (1, un (un u 4 a 6 1) 4 a 7 0) else (0, u)
def kc_stop (n : Nat) (u : UU) (x : Int32) : Nat × UU := match nf n x with
  | none => (0, u)
  | some a => if u.1 4 a 6 = 0 then (0, u) else (1, kc_off n u a)
def kc_drift (n : Nat) (u : UU) (x d : Int32) : Nat × UU := match nf n x with
  | none => (0, u)
  | some a => if kin d (-3) (nI 3) = 0 then (0, u) else (1, ui u 4 a 9 d)
def kc_radio (c : Nat) (u : UU) (x : Int32) (f g : Int64) : Nat × UU := match nd c x with
  | none => (0, u)
  | some a => (1, ul (ul u 5 a 0 f) 5 a 1 g)
def kc_pair (n : Nat) (u : UU) (x y : Int32) (z : Nat) : Nat × UU := match nd n x with
  | none => (0, u)
  | some a => match nd n y with
    | none => (0, u)
    | some b => if a = b then (0, u) else if u.1 7 a b = z then (0, u) else (1, un (un u 7 a b z) 7 b a z)
def kc_control (n : Nat) (u : UU) (x t p i : Int32) : Nat × UU := match nf n x with
  | none => (0, u)
  | some a => if kin t (-1000) (nI 1000) = 0 then (0, u) else if kin p (nI 0) (nI 16) = 0 then (0, u) else if kin i (nI 0) (nI 16) = 0 then (0, u) else (1, ui (ui (ui u 6 a 2 t) 6 a 3 p) 6 a 4 i)
def kc_sample (n : Nat) (u : UU) (x v : Int32) : Int32 × UU := match nf n x with
  | none => (-1, u)
  | some a => if u.1 4 a 6 = 0 then (-1, u) else if kin v (-1000) (nI 1000) = 0 then (-1, u) else if u.1 8 (2 * a) 3 < 4 then ((kc_append u (2 * a) a (u.2.1 4 a 12 + nI 1) v).2.1 4 a 12 + nI 1, ui (kc_append u (2 * a) a (u.2.1 4 a 12 + nI 1) v) 4 a 12 ((kc_append u (2 * a) a (u.2.1 4 a 12 + nI 1) v).2.1 4 a 12 + nI 1)) else (-1, u)
def kc_rank (n : Nat) (u : UU) (x : Int32) : Int32 := if u.1 15 (u.2.2.2 5) 8 = 0 then -1 else match nd n x with
  | none => -1
  | some a => u.2.1 16 (u.2.2.2 5) a
def kc_parent (n : Nat) (u : UU) (x k : Int32) : Int32 := if u.1 15 (u.2.2.2 5) 8 = 0 then -1 else match nd n x with
  | none => -1
  | some a => if k = 0 then u.2.1 17 (u.2.2.2 5) a else if k = nI 1 then u.2.1 18 (u.2.2.2 5) a else -1
def kc_cell (s c : Nat) (u : UU) (x y : Int32) : Int32 := match nd s x with
  | none => -1
  | some a => match nd c y with
    | none => -1
    | some b => if u.1 15 (u.2.2.2 5) 8 = 0 then nI 0 else nI (u.1 20 (u.2.2.2 5) (a * c + b))
def kc_current (n : Nat) (u : UU) (x : Int32) : Nat := match nd n x with
  | none => 0
  | some a => if u.1 4 a 7 = 0 then 0 else 1
def kc_offset (n : Nat) (u : UU) (x : Int32) : Int32 := match nd n x with
  | none => -9999
  | some a => u.2.1 4 a 8
def kc_latest (n : Nat) (u : UU) (x : Int32) : Int32 := match nd n x with
  | none => -1
  | some a => u.2.1 9 0 a
def kc_actuator (n : Nat) (u : UU) (x : Int32) : Int32 := match nf n x with
  | none => -9999
  | some a => u.2.1 4 a 13
def kc_cached (n : Nat) (u : UU) (x k : Int32) : Int32 := match nd n x with
  | none => -9999
  | some a => match nd (u.1 6 a 1) k with
    | none => -9999
    | some b => u.2.1 11 a b
def kc_count (n : Nat) (u : UU) (x k : Int32) : Int32 := match nd n x with
  | none => -1
  | some a => match nd 4 k with
    | some 0 => nI (u.1 8 (2 * a) 3)
    | some 1 => nI (u.1 8 (2 * a + 1) 3)
    | some 2 => nI (u.1 4 a 10)
    | some 3 => nI (u.1 4 a 11)
    | _ => -1
set_option maxRecDepth 100000 in
set_option maxHeartbeats 4000000 in
theorem c_S_start (l : Launch) (Y : YY) (n s c : Nat) (hV : pv_ok (vC Y n s c)) (u : UU) (x : Int32) (hn : n ≤ 6) (hs1 : ∀ i, u.1 4 i 6 ≤ 1) : Ct l (vC Y n s c) ⟨"SlottedMesh", "start", "(I)Z"⟩ (wz ⟨"SlottedMesh", "start", "(I)Z"⟩ b_S_start 2 (some .boolean)) (rd 1) [.ref (pv_ad (vC Y n s c) 0 0), .int x] u (some (.int (nI (kc_start n u x).1))) ((kc_start n u x).2) := by
  refine ct_mk hV (by decide +kernel) (Nat.le_of_ble_eq_true rfl) (fun X hX => ?_)
  have hX : ox X (vC Y n s c) (rd 1) b_S_start 2 "SlottedMesh" gz (some .boolean) := hX
  show ow X (vC Y n s c) (some (.int (nI (kc_start n u x).1))) ((kc_start n u x).2) u [(0, .ref (pv_ad (vC Y n s c) 0 0)), (1, .int x)] 0 []
  rcases hx : nd n x with _ | a
  · skip
    refine ow_aload_n (pc := 0) hX d_S_start_0 rfl ?_
    refine ow_iload_n (pc := 1) hX d_S_start_1 rfl ?_
    refine ow_callV (pc := 2) hX (kd_S Y n s c) Nat.zero_lt_one (c_S_isNode _ Y n s c hV u x hn) (cw_V hX mz_S_isNode kw_233 ⟨rfl, rfl⟩ (by decide)) rfl (Nat.le_of_ble_eq_true rfl) d_S_start_2 rfl ?_
    refine ow_st (st2 := .int (nI 0) :: _) (by rw [hx]; rfl) ?_
    refine ow_nz_eq (pc := 5) (tgt := 20) hX d_S_start_5 (by decide) (by first | assumption | omega | (have := hs1 a; omega)) (fun h5 => ?_) (fun h5 => ?_)
    · skip
      refine ow_iconst (pc := 20) (v := nI 0) hX d_S_start_20 (by decide) ?_
      exact ow_zret (pc := 21) hX d_S_start_21 (nb_01 (by first | decide | assumption | omega | exact kbit_le _ _)) (by first | rfl | (simp only [kc_start, hx]; done) | (simp only [kc_start, hx]; (repeat' split) <;> first | rfl | omega | (simp_all; done))) (by first | rfl | (simp only [kc_start, hx]; done) | (simp only [kc_start, hx]; (repeat' split) <;> first | rfl | omega | (simp_all; done)))
    · skip
      exact absurd h5 (by decide)
  · skip
    obtain ⟨ha, rfl⟩ := nd_some (by omega) hx
    refine ow_aload_n (pc := 0) hX d_S_start_0 rfl ?_
    refine ow_iload_n (pc := 1) hX d_S_start_1 rfl ?_
    refine ow_callV (pc := 2) hX (kd_S Y n s c) Nat.zero_lt_one (c_S_isNode _ Y n s c hV u (nI a) hn) (cw_V hX mz_S_isNode kw_233 ⟨rfl, rfl⟩ (by decide)) rfl (Nat.le_of_ble_eq_true rfl) d_S_start_2 rfl ?_
    refine ow_st (st2 := .int (nI 1) :: _) (by rw [hx]; rfl) ?_
    refine ow_nz_eq (pc := 5) (tgt := 20) hX d_S_start_5 (by decide) (by first | assumption | omega | (have := hs1 a; omega)) (fun h5 => ?_) (fun h5 => ?_)
    · skip
      exact absurd h5 (by decide)
    · skip
      refine ow_aload_n (pc := 8) hX d_S_start_8 rfl ?_
      refine ow_gR (pc := 9) hX (kd_S Y n s c) 2 d_S_start_9 kw_203 rfl Nat.zero_lt_one ?_
      refine ow_iload_n (pc := 12) hX d_S_start_12 rfl ?_
      refine ow_aR (pc := 13) hX rfl d_S_start_13 Nat.zero_lt_one (by show _ < n; first | assumption | omega) ?_
      refine ow_gN (pc := 14) hX (kd_N Y n s c) 6 d_S_start_14 kw_75 rfl (by show _ < n; first | assumption | omega) ?_
      refine ow_nz_eq (pc := 17) (tgt := 22) hX d_S_start_17 (by decide) (by first | assumption | omega | (have := hs1 a; omega)) (fun h17 => ?_) (fun h17 => ?_)
      · skip
        refine ow_aload_n (pc := 22) hX d_S_start_22 rfl ?_
        refine ow_gR (pc := 23) hX (kd_S Y n s c) 2 d_S_start_23 kw_203 rfl Nat.zero_lt_one ?_
        refine ow_iload_n (pc := 26) hX d_S_start_26 rfl ?_
        refine ow_aR (pc := 27) hX rfl d_S_start_27 Nat.zero_lt_one (by show _ < n; first | assumption | omega) ?_
        refine ow_iconst (pc := 28) (v := nI 1) hX d_S_start_28 (by decide) ?_
        refine ow_pZ (pc := 29) hX (kd_N Y n s c) 6 d_S_start_29 kw_75 rfl (by show _ < n; first | assumption | omega) rfl (by decide +kernel) (by first | assumption | omega | (have := hs1 a; omega)) ?_
        refine ow_aload_n (pc := 32) hX d_S_start_32 rfl ?_
        refine ow_gR (pc := 33) hX (kd_S Y n s c) 2 d_S_start_33 kw_203 rfl Nat.zero_lt_one ?_
        refine ow_iload_n (pc := 36) hX d_S_start_36 rfl ?_
        refine ow_aR (pc := 37) hX rfl d_S_start_37 Nat.zero_lt_one (by show _ < n; first | assumption | omega) ?_
        refine ow_iconst (pc := 38) (v := nI 0) hX d_S_start_38 (by decide) ?_
        refine ow_pZ (pc := 39) hX (kd_N Y n s c) 7 d_S_start_39 kw_77 rfl (by show _ < n; first | assumption | omega) rfl (by decide +kernel) (by first | assumption | omega | (have := hs1 a; omega)) ?_
        refine ow_iconst (pc := 42) (v := nI 1) hX d_S_start_42 (by decide) ?_
        exact ow_zret (pc := 43) hX d_S_start_43 (nb_01 (by first | decide | assumption | omega | exact kbit_le _ _)) (by first | rfl | (simp only [kc_start, hx]; done) | (simp only [kc_start, hx]; (repeat' split) <;> first | rfl | omega | (simp_all; done))) (by first | rfl | (simp only [kc_start, hx]; done) | (simp only [kc_start, hx]; (repeat' split) <;> first | rfl | omega | (simp_all; done)))
      · skip
        refine ow_iconst (pc := 20) (v := nI 0) hX d_S_start_20 (by decide) ?_
        exact ow_zret (pc := 21) hX d_S_start_21 (nb_01 (by first | decide | assumption | omega | exact kbit_le _ _)) (by first | rfl | (simp only [kc_start, hx]; done) | (simp only [kc_start, hx]; (repeat' split) <;> first | rfl | omega | (simp_all; done))) (by first | rfl | (simp only [kc_start, hx]; done) | (simp only [kc_start, hx]; (repeat' split) <;> first | rfl | omega | (simp_all; done)))
set_option maxRecDepth 100000 in
set_option maxHeartbeats 4000000 in
theorem c_S_stop (l : Launch) (Y : YY) (n s c : Nat) (hV : pv_ok (vC Y n s c)) (u : UU) (x : Int32) (hn : n ≤ 6) (hs1 : ∀ i, u.1 4 i 6 ≤ 1) : Ct l (vC Y n s c) ⟨"SlottedMesh", "stop", "(I)Z"⟩ (wz ⟨"SlottedMesh", "stop", "(I)Z"⟩ b_S_stop 2 (some .boolean)) (rd 2) [.ref (pv_ad (vC Y n s c) 0 0), .int x] u (some (.int (nI (kc_stop n u x).1))) ((kc_stop n u x).2) := by
  refine ct_mk hV (by decide +kernel) (Nat.le_of_ble_eq_true rfl) (fun X hX => ?_)
  have hX : ox X (vC Y n s c) (rd 2) b_S_stop 2 "SlottedMesh" gz (some .boolean) := hX
  show ow X (vC Y n s c) (some (.int (nI (kc_stop n u x).1))) ((kc_stop n u x).2) u [(0, .ref (pv_ad (vC Y n s c) 0 0)), (1, .int x)] 0 []
  rcases hx : nf n x with _ | a
  · skip
    refine ow_aload_n (pc := 0) hX d_S_stop_0 rfl ?_
    refine ow_iload_n (pc := 1) hX d_S_stop_1 rfl ?_
    refine ow_callV (pc := 2) hX (kd_S Y n s c) Nat.zero_lt_one (c_S_isFieldNode _ Y n s c hV u x hn) (cw_V hX mz_S_isFieldNode kw_316 ⟨rfl, rfl⟩ (by decide)) rfl (Nat.le_of_ble_eq_true rfl) d_S_stop_2 rfl ?_
    refine ow_st (st2 := .int (nI 0) :: _) (by rw [hx]; rfl) ?_
    refine ow_nz_eq (pc := 5) (tgt := 20) hX d_S_stop_5 (by decide) (by first | assumption | omega | (have := hs1 a; omega)) (fun h5 => ?_) (fun h5 => ?_)
    · skip
      refine ow_iconst (pc := 20) (v := nI 0) hX d_S_stop_20 (by decide) ?_
      exact ow_zret (pc := 21) hX d_S_stop_21 (nb_01 (by first | decide | assumption | omega | exact kbit_le _ _)) (by first | rfl | (simp only [kc_stop, hx]; done) | (simp only [kc_stop, hx]; (repeat' split) <;> first | rfl | omega | (simp_all; done))) (by first | rfl | (simp only [kc_stop, hx]; done) | (simp only [kc_stop, hx]; (repeat' split) <;> first | rfl | omega | (simp_all; done)))
    · skip
      exact absurd h5 (by decide)
  · skip
    obtain ⟨ha, ha0, rfl⟩ := nf_some (by omega) hx
    refine ow_aload_n (pc := 0) hX d_S_stop_0 rfl ?_
    refine ow_iload_n (pc := 1) hX d_S_stop_1 rfl ?_
    refine ow_callV (pc := 2) hX (kd_S Y n s c) Nat.zero_lt_one (c_S_isFieldNode _ Y n s c hV u (nI a) hn) (cw_V hX mz_S_isFieldNode kw_316 ⟨rfl, rfl⟩ (by decide)) rfl (Nat.le_of_ble_eq_true rfl) d_S_stop_2 rfl ?_
    refine ow_st (st2 := .int (nI 1) :: _) (by rw [hx]; rfl) ?_
    refine ow_nz_eq (pc := 5) (tgt := 20) hX d_S_stop_5 (by decide) (by first | assumption | omega | (have := hs1 a; omega)) (fun h5 => ?_) (fun h5 => ?_)
    · skip
      exact absurd h5 (by decide)
    · skip
      refine ow_aload_n (pc := 8) hX d_S_stop_8 rfl ?_
      refine ow_gR (pc := 9) hX (kd_S Y n s c) 2 d_S_stop_9 kw_203 rfl Nat.zero_lt_one ?_
      refine ow_iload_n (pc := 12) hX d_S_stop_12 rfl ?_
      refine ow_aR (pc := 13) hX rfl d_S_stop_13 Nat.zero_lt_one (by show _ < n; first | assumption | omega) ?_
      refine ow_gN (pc := 14) hX (kd_N Y n s c) 6 d_S_stop_14 kw_75 rfl (by show _ < n; first | assumption | omega) ?_
      refine ow_nz_ne (pc := 17) (tgt := 22) hX d_S_stop_17 (by decide) (by first | assumption | omega | (have := hs1 a; omega)) (fun h17 => ?_) (fun h17 => ?_)
      · skip
        refine ow_aload_n (pc := 22) hX d_S_stop_22 rfl ?_
        refine ow_gR (pc := 23) hX (kd_S Y n s c) 2 d_S_stop_23 kw_203 rfl Nat.zero_lt_one ?_
        refine ow_iload_n (pc := 26) hX d_S_stop_26 rfl ?_
        refine ow_aR (pc := 27) hX rfl d_S_stop_27 Nat.zero_lt_one (by show _ < n; first | assumption | omega) ?_
        refine ow_callV (pc := 28) hX (kd_N Y n s c) (by show _ < n; first | assumption | omega) (c_N_switchOff _ Y n s c hV u a ha hn) (cw_V hX mz_N_switchOff kw_320 ⟨rfl, rfl⟩ (by decide)) rfl (Nat.le_of_ble_eq_true rfl) d_S_stop_28 rfl ?_
        refine ow_iconst (pc := 31) (v := nI 1) hX d_S_stop_31 (by decide) ?_
        exact ow_zret (pc := 32) hX d_S_stop_32 (nb_01 (by first | decide | assumption | omega | exact kbit_le _ _)) (by first | rfl | (simp only [kc_stop, hx]; done) | (simp only [kc_stop, hx]; (repeat' split) <;> first | rfl | omega | (simp_all; done))) (by first | rfl | (simp only [kc_stop, hx]; done) | (simp only [kc_stop, hx]; (repeat' split) <;> first | rfl | omega | (simp_all; done)))
      · skip
        refine ow_iconst (pc := 20) (v := nI 0) hX d_S_stop_20 (by decide) ?_
        exact ow_zret (pc := 21) hX d_S_stop_21 (nb_01 (by first | decide | assumption | omega | exact kbit_le _ _)) (by first | rfl | (simp only [kc_stop, hx]; done) | (simp only [kc_stop, hx]; (repeat' split) <;> first | rfl | omega | (simp_all; done))) (by first | rfl | (simp only [kc_stop, hx]; done) | (simp only [kc_stop, hx]; (repeat' split) <;> first | rfl | omega | (simp_all; done)))
set_option maxRecDepth 100000 in
set_option maxHeartbeats 4000000 in
theorem c_S_drift (l : Launch) (Y : YY) (n s c : Nat) (hV : pv_ok (vC Y n s c)) (u : UU) (x d : Int32) (hn : n ≤ 6) : Ct l (vC Y n s c) ⟨"SlottedMesh", "drift", "(II)Z"⟩ (wz ⟨"SlottedMesh", "drift", "(II)Z"⟩ b_S_drift 3 (some .boolean)) (rd 2) [.ref (pv_ad (vC Y n s c) 0 0), .int x, .int d] u (some (.int (nI (kc_drift n u x d).1))) ((kc_drift n u x d).2) := by
  refine ct_mk hV (by decide +kernel) (Nat.le_of_ble_eq_true rfl) (fun X hX => ?_)
  have hX : ox X (vC Y n s c) (rd 2) b_S_drift 3 "SlottedMesh" gz (some .boolean) := hX
  show ow X (vC Y n s c) (some (.int (nI (kc_drift n u x d).1))) ((kc_drift n u x d).2) u [(0, .ref (pv_ad (vC Y n s c) 0 0)), (1, .int x), (2, .int d)] 0 []
  rcases hx : nf n x with _ | a
  · skip
    refine ow_aload_n (pc := 0) hX d_S_drift_0 rfl ?_
    refine ow_iload_n (pc := 1) hX d_S_drift_1 rfl ?_
    refine ow_callV (pc := 2) hX (kd_S Y n s c) Nat.zero_lt_one (c_S_isFieldNode _ Y n s c hV u x hn) (cw_V hX mz_S_isFieldNode kw_316 ⟨rfl, rfl⟩ (by decide)) rfl (Nat.le_of_ble_eq_true rfl) d_S_drift_2 rfl ?_
    refine ow_st (st2 := .int (nI 0) :: _) (by rw [hx]; rfl) ?_
    refine ow_nz_eq (pc := 5) (tgt := 18) hX d_S_drift_5 (by decide) (by first | assumption | omega | (have := kin_le d (-3) (nI 3); omega)) (fun h5 => ?_) (fun h5 => ?_)
    · skip
      refine ow_iconst (pc := 18) (v := nI 0) hX d_S_drift_18 (by decide) ?_
      exact ow_zret (pc := 19) hX d_S_drift_19 (nb_01 (by first | decide | assumption | omega | exact kbit_le _ _)) (by first | rfl | (simp only [kc_drift, hx]; done) | (simp only [kc_drift, hx]; (repeat' split) <;> first | rfl | omega | (simp_all; done))) (by first | rfl | (simp only [kc_drift, hx]; done) | (simp only [kc_drift, hx]; (repeat' split) <;> first | rfl | omega | (simp_all; done)))
    · skip
      exact absurd h5 (by decide)
  · skip
    obtain ⟨ha, ha0, rfl⟩ := nf_some (by omega) hx
    refine ow_aload_n (pc := 0) hX d_S_drift_0 rfl ?_
    refine ow_iload_n (pc := 1) hX d_S_drift_1 rfl ?_
    refine ow_callV (pc := 2) hX (kd_S Y n s c) Nat.zero_lt_one (c_S_isFieldNode _ Y n s c hV u (nI a) hn) (cw_V hX mz_S_isFieldNode kw_316 ⟨rfl, rfl⟩ (by decide)) rfl (Nat.le_of_ble_eq_true rfl) d_S_drift_2 rfl ?_
    refine ow_st (st2 := .int (nI 1) :: _) (by rw [hx]; rfl) ?_
    refine ow_nz_eq (pc := 5) (tgt := 18) hX d_S_drift_5 (by decide) (by first | assumption | omega | (have := kin_le d (-3) (nI 3); omega)) (fun h5 => ?_) (fun h5 => ?_)
    · skip
      exact absurd h5 (by decide)
    · skip
      refine ow_iload_n (pc := 8) hX d_S_drift_8 rfl ?_
      refine ow_bipush (pc := 9) (v := (-3)) hX d_S_drift_9 (by decide) ?_
      refine ow_iconst (pc := 11) (v := nI 3) hX d_S_drift_11 (by decide) ?_
      refine ow_callS (pc := 12) hX (c_S_isWithin _ Y n s c hV _ d (-3) (nI 3)) (cw_S hX mz_S_isWithin kw_329 ⟨rfl, rfl⟩ (by decide)) rfl (Nat.le_of_ble_eq_true rfl) d_S_drift_12 rfl ?_
      refine ow_nz_ne (pc := 15) (tgt := 20) hX d_S_drift_15 (by decide) (by first | assumption | omega | (have := kin_le d (-3) (nI 3); omega)) (fun h15 => ?_) (fun h15 => ?_)
      · skip
        refine ow_aload_n (pc := 20) hX d_S_drift_20 rfl ?_
        refine ow_gR (pc := 21) hX (kd_S Y n s c) 2 d_S_drift_21 kw_203 rfl Nat.zero_lt_one ?_
        refine ow_iload_n (pc := 24) hX d_S_drift_24 rfl ?_
        refine ow_aR (pc := 25) hX rfl d_S_drift_25 Nat.zero_lt_one (by show _ < n; first | assumption | omega) ?_
        refine ow_iload_n (pc := 26) hX d_S_drift_26 rfl ?_
        refine ow_pI (pc := 27) hX (kd_N Y n s c) 9 d_S_drift_27 kw_80 rfl (by show _ < n; first | assumption | omega) rfl (by decide +kernel) ?_
        refine ow_iconst (pc := 30) (v := nI 1) hX d_S_drift_30 (by decide) ?_
        exact ow_zret (pc := 31) hX d_S_drift_31 (nb_01 (by first | decide | assumption | omega | exact kbit_le _ _)) (by first | rfl | (simp only [kc_drift, hx]; done) | (simp only [kc_drift, hx]; (repeat' split) <;> first | rfl | omega | (simp_all; done))) (by first | rfl | (simp only [kc_drift, hx]; done) | (simp only [kc_drift, hx]; (repeat' split) <;> first | rfl | omega | (simp_all; done)))
      · skip
        refine ow_iconst (pc := 18) (v := nI 0) hX d_S_drift_18 (by decide) ?_
        exact ow_zret (pc := 19) hX d_S_drift_19 (nb_01 (by first | decide | assumption | omega | exact kbit_le _ _)) (by first | rfl | (simp only [kc_drift, hx]; done) | (simp only [kc_drift, hx]; (repeat' split) <;> first | rfl | omega | (simp_all; done))) (by first | rfl | (simp only [kc_drift, hx]; done) | (simp only [kc_drift, hx]; (repeat' split) <;> first | rfl | omega | (simp_all; done)))
set_option maxRecDepth 100000 in
set_option maxHeartbeats 4000000 in
theorem c_S_radio (l : Launch) (Y : YY) (n s c : Nat) (hV : pv_ok (vC Y n s c)) (u : UU) (x : Int32) (f g : Int64) (hc : c ≤ 4) : Ct l (vC Y n s c) ⟨"SlottedMesh", "radio", "(IJJ)Z"⟩ (wz ⟨"SlottedMesh", "radio", "(IJJ)Z"⟩ b_S_radio 6 (some .boolean)) (rd 1) [.ref (pv_ad (vC Y n s c) 0 0), .int x, .long f, .long g] u (some (.int (nI (kc_radio c u x f g).1))) ((kc_radio c u x f g).2) := by
  refine ct_mk hV (by decide +kernel) (Nat.le_of_ble_eq_true rfl) (fun X hX => ?_)
  have hX : ox X (vC Y n s c) (rd 1) b_S_radio 6 "SlottedMesh" gz (some .boolean) := hX
  show ow X (vC Y n s c) (some (.int (nI (kc_radio c u x f g).1))) ((kc_radio c u x f g).2) u [(0, .ref (pv_ad (vC Y n s c) 0 0)), (1, .int x), (2, .long f), (4, .long g)] 0 []
  rcases hx : nd c x with _ | a
  · skip
    refine ow_aload_n (pc := 0) hX d_S_radio_0 rfl ?_
    refine ow_iload_n (pc := 1) hX d_S_radio_1 rfl ?_
    refine ow_callV (pc := 2) hX (kd_S Y n s c) Nat.zero_lt_one (c_S_isChannel _ Y n s c hV u x) (cw_V hX mz_S_isChannel kw_336 ⟨rfl, rfl⟩ (by decide)) rfl (Nat.le_of_ble_eq_true rfl) d_S_radio_2 rfl ?_
    refine ow_st (st2 := .int (nI 0) :: _) (by rw [hx]; rfl) ?_
    refine ow_nz_ne (pc := 5) (tgt := 10) hX d_S_radio_5 (by decide) (by first | assumption | omega) (fun h5 => ?_) (fun h5 => ?_)
    · skip
      exact absurd h5 (by decide)
    · skip
      refine ow_iconst (pc := 8) (v := nI 0) hX d_S_radio_8 (by decide) ?_
      exact ow_zret (pc := 9) hX d_S_radio_9 (nb_01 (by first | decide | assumption | omega | exact kbit_le _ _)) (by first | rfl | (simp only [kc_radio, hx]; done) | (simp only [kc_radio, hx]; (repeat' split) <;> first | rfl | omega | (simp_all; done))) (by first | rfl | (simp only [kc_radio, hx]; done) | (simp only [kc_radio, hx]; (repeat' split) <;> first | rfl | omega | (simp_all; done)))
  · skip
    obtain ⟨ha, rfl⟩ := nd_some (by omega) hx
    refine ow_aload_n (pc := 0) hX d_S_radio_0 rfl ?_
    refine ow_iload_n (pc := 1) hX d_S_radio_1 rfl ?_
    refine ow_callV (pc := 2) hX (kd_S Y n s c) Nat.zero_lt_one (c_S_isChannel _ Y n s c hV u (nI a)) (cw_V hX mz_S_isChannel kw_336 ⟨rfl, rfl⟩ (by decide)) rfl (Nat.le_of_ble_eq_true rfl) d_S_radio_2 rfl ?_
    refine ow_st (st2 := .int (nI 1) :: _) (by rw [hx]; rfl) ?_
    refine ow_nz_ne (pc := 5) (tgt := 10) hX d_S_radio_5 (by decide) (by first | assumption | omega) (fun h5 => ?_) (fun h5 => ?_)
    · skip
      refine ow_aload_n (pc := 10) hX d_S_radio_10 rfl ?_
      refine ow_gR (pc := 11) hX (kd_S Y n s c) 3 d_S_radio_11 kw_204 rfl Nat.zero_lt_one ?_
      refine ow_iload_n (pc := 14) hX d_S_radio_14 rfl ?_
      refine ow_aR (pc := 15) hX rfl d_S_radio_15 Nat.zero_lt_one (by show _ < c; first | assumption | omega) ?_
      refine ow_lload_n (pc := 16) hX d_S_radio_16 rfl ?_
      refine ow_pL (pc := 17) hX (kd_H Y n s c) 0 d_S_radio_17 kw_154 rfl (by show _ < c; first | assumption | omega) rfl (by decide +kernel) ?_
      refine ow_aload_n (pc := 20) hX d_S_radio_20 rfl ?_
      refine ow_gR (pc := 21) hX (kd_S Y n s c) 3 d_S_radio_21 kw_204 rfl Nat.zero_lt_one ?_
      refine ow_iload_n (pc := 24) hX d_S_radio_24 rfl ?_
      refine ow_aR (pc := 25) hX rfl d_S_radio_25 Nat.zero_lt_one (by show _ < c; first | assumption | omega) ?_
      refine ow_lload (pc := 26) hX d_S_radio_26 rfl ?_
      refine ow_pL (pc := 28) hX (kd_H Y n s c) 1 d_S_radio_28 kw_156 rfl (by show _ < c; first | assumption | omega) rfl (by decide +kernel) ?_
      refine ow_iconst (pc := 31) (v := nI 1) hX d_S_radio_31 (by decide) ?_
      exact ow_zret (pc := 32) hX d_S_radio_32 (nb_01 (by first | decide | assumption | omega | exact kbit_le _ _)) (by first | rfl | (simp only [kc_radio, hx]; done) | (simp only [kc_radio, hx]; (repeat' split) <;> first | rfl | omega | (simp_all; done))) (by first | rfl | (simp only [kc_radio, hx]; done) | (simp only [kc_radio, hx]; (repeat' split) <;> first | rfl | omega | (simp_all; done)))
    · skip
      exact absurd h5 (by decide)
set_option maxRecDepth 100000 in
set_option maxHeartbeats 4000000 in
theorem c_S_pair (l : Launch) (Y : YY) (n s c : Nat) (hV : pv_ok (vC Y n s c)) (u : UU) (x y : Int32) (z : Nat) (hn : n ≤ 6) (hz : z ≤ 1) (hnr : ∀ i j, u.1 7 i j ≤ 1) : Ct l (vC Y n s c) ⟨"SlottedMesh", "pair", "(IIZ)Z"⟩ (wz ⟨"SlottedMesh", "pair", "(IIZ)Z"⟩ b_S_pair 4 (some .boolean)) (rd 1) [.ref (pv_ad (vC Y n s c) 0 0), .int x, .int y, .int (nI z)] u (some (.int (nI (kc_pair n u x y z).1))) ((kc_pair n u x y z).2) := by
  refine ct_mk hV (by decide +kernel) (Nat.le_of_ble_eq_true rfl) (fun X hX => ?_)
  have hX : ox X (vC Y n s c) (rd 1) b_S_pair 4 "SlottedMesh" gz (some .boolean) := hX
  show ow X (vC Y n s c) (some (.int (nI (kc_pair n u x y z).1))) ((kc_pair n u x y z).2) u [(0, .ref (pv_ad (vC Y n s c) 0 0)), (1, .int x), (2, .int y), (3, .int (nI z))] 0 []
  rcases hx : nd n x with _ | a
  · skip
    refine ow_aload_n (pc := 0) hX d_S_pair_0 rfl ?_
    refine ow_iload_n (pc := 1) hX d_S_pair_1 rfl ?_
    refine ow_callV (pc := 2) hX (kd_S Y n s c) Nat.zero_lt_one (c_S_isNode _ Y n s c hV u x hn) (cw_V hX mz_S_isNode kw_233 ⟨rfl, rfl⟩ (by decide)) rfl (Nat.le_of_ble_eq_true rfl) d_S_pair_2 rfl ?_
    refine ow_st (st2 := .int (nI 0) :: _) (by rw [hx]; rfl) ?_
    refine ow_nz_eq (pc := 5) (tgt := 36) hX d_S_pair_5 (by decide) (by first | assumption | omega | (have := hnr a b; omega)) (fun h5 => ?_) (fun h5 => ?_)
    · skip
      refine ow_iconst (pc := 36) (v := nI 0) hX d_S_pair_36 (by decide) ?_
      exact ow_zret (pc := 37) hX d_S_pair_37 (nb_01 (by first | decide | assumption | omega | exact kbit_le _ _)) (by first | rfl | (simp only [kc_pair, hx]; done) | (simp only [kc_pair, hx, hy]; done) | (simp only [kc_pair, hx, hy]; (repeat' split) <;> first | rfl | omega | (simp_all; done))) (by first | rfl | (simp only [kc_pair, hx]; done) | (simp only [kc_pair, hx, hy]; done) | (simp only [kc_pair, hx, hy]; (repeat' split) <;> first | rfl | omega | (simp_all; done)))
    · skip
      exact absurd h5 (by decide)
  · skip
    obtain ⟨ha, rfl⟩ := nd_some (by omega) hx
    rcases hy : nd n y with _ | b
    · skip
      refine ow_aload_n (pc := 0) hX d_S_pair_0 rfl ?_
      refine ow_iload_n (pc := 1) hX d_S_pair_1 rfl ?_
      refine ow_callV (pc := 2) hX (kd_S Y n s c) Nat.zero_lt_one (c_S_isNode _ Y n s c hV u (nI a) hn) (cw_V hX mz_S_isNode kw_233 ⟨rfl, rfl⟩ (by decide)) rfl (Nat.le_of_ble_eq_true rfl) d_S_pair_2 rfl ?_
      refine ow_st (st2 := .int (nI 1) :: _) (by rw [hx]; rfl) ?_
      refine ow_nz_eq (pc := 5) (tgt := 36) hX d_S_pair_5 (by decide) (by first | assumption | omega | (have := hnr a b; omega)) (fun h5 => ?_) (fun h5 => ?_)
      · skip
        exact absurd h5 (by decide)
      · skip
        refine ow_aload_n (pc := 8) hX d_S_pair_8 rfl ?_
        refine ow_iload_n (pc := 9) hX d_S_pair_9 rfl ?_
        refine ow_callV (pc := 10) hX (kd_S Y n s c) Nat.zero_lt_one (c_S_isNode _ Y n s c hV u y hn) (cw_V hX mz_S_isNode kw_233 ⟨rfl, rfl⟩ (by decide)) rfl (Nat.le_of_ble_eq_true rfl) d_S_pair_10 rfl ?_
        refine ow_st (st2 := .int (nI 0) :: _) (by rw [hy]; rfl) ?_
        refine ow_nz_eq (pc := 13) (tgt := 36) hX d_S_pair_13 (by decide) (by first | assumption | omega | (have := hnr a b; omega)) (fun h13 => ?_) (fun h13 => ?_)
        · skip
          refine ow_iconst (pc := 36) (v := nI 0) hX d_S_pair_36 (by decide) ?_
          exact ow_zret (pc := 37) hX d_S_pair_37 (nb_01 (by first | decide | assumption | omega | exact kbit_le _ _)) (by first | rfl | (simp only [kc_pair, hx]; done) | (simp only [kc_pair, hx, hy]; done) | (simp only [kc_pair, hx, hy]; (repeat' split) <;> first | rfl | omega | (simp_all; done))) (by first | rfl | (simp only [kc_pair, hx]; done) | (simp only [kc_pair, hx, hy]; done) | (simp only [kc_pair, hx, hy]; (repeat' split) <;> first | rfl | omega | (simp_all; done)))
        · skip
          exact absurd h13 (by decide)
    · skip
      obtain ⟨hb, rfl⟩ := nd_some (by omega) hy
      refine ow_aload_n (pc := 0) hX d_S_pair_0 rfl ?_
      refine ow_iload_n (pc := 1) hX d_S_pair_1 rfl ?_
      refine ow_callV (pc := 2) hX (kd_S Y n s c) Nat.zero_lt_one (c_S_isNode _ Y n s c hV u (nI a) hn) (cw_V hX mz_S_isNode kw_233 ⟨rfl, rfl⟩ (by decide)) rfl (Nat.le_of_ble_eq_true rfl) d_S_pair_2 rfl ?_
      refine ow_st (st2 := .int (nI 1) :: _) (by rw [hx]; rfl) ?_
      refine ow_nz_eq (pc := 5) (tgt := 36) hX d_S_pair_5 (by decide) (by first | assumption | omega | (have := hnr a b; omega)) (fun h5 => ?_) (fun h5 => ?_)
      · skip
        exact absurd h5 (by decide)
      · skip
        refine ow_aload_n (pc := 8) hX d_S_pair_8 rfl ?_
        refine ow_iload_n (pc := 9) hX d_S_pair_9 rfl ?_
        refine ow_callV (pc := 10) hX (kd_S Y n s c) Nat.zero_lt_one (c_S_isNode _ Y n s c hV u (nI b) hn) (cw_V hX mz_S_isNode kw_233 ⟨rfl, rfl⟩ (by decide)) rfl (Nat.le_of_ble_eq_true rfl) d_S_pair_10 rfl ?_
        refine ow_st (st2 := .int (nI 1) :: _) (by rw [hy]; rfl) ?_
        refine ow_nz_eq (pc := 13) (tgt := 36) hX d_S_pair_13 (by decide) (by first | assumption | omega | (have := hnr a b; omega)) (fun h13 => ?_) (fun h13 => ?_)
        · skip
          exact absurd h13 (by decide)
        · skip
          refine ow_iload_n (pc := 16) hX d_S_pair_16 rfl ?_
          refine ow_iload_n (pc := 17) hX d_S_pair_17 rfl ?_
          refine ow_nc_eq (pc := 18) (tgt := 36) hX d_S_pair_18 (by decide) (by first | assumption | omega | (have := hnr a b; omega)) (by first | assumption | omega | (have := hnr a b; omega)) (fun h18 => ?_) (fun h18 => ?_)
          · skip
            refine ow_iconst (pc := 36) (v := nI 0) hX d_S_pair_36 (by decide) ?_
            exact ow_zret (pc := 37) hX d_S_pair_37 (nb_01 (by first | decide | assumption | omega | exact kbit_le _ _)) (by first | rfl | (simp only [kc_pair, hx]; done) | (simp only [kc_pair, hx, hy]; done) | (simp only [kc_pair, hx, hy]; (repeat' split) <;> first | rfl | omega | (simp_all; done))) (by first | rfl | (simp only [kc_pair, hx]; done) | (simp only [kc_pair, hx, hy]; done) | (simp only [kc_pair, hx, hy]; (repeat' split) <;> first | rfl | omega | (simp_all; done)))
          · skip
            refine ow_aload_n (pc := 21) hX d_S_pair_21 rfl ?_
            refine ow_gR (pc := 22) hX (kd_S Y n s c) 2 d_S_pair_22 kw_203 rfl Nat.zero_lt_one ?_
            refine ow_iload_n (pc := 25) hX d_S_pair_25 rfl ?_
            refine ow_aR (pc := 26) hX rfl d_S_pair_26 Nat.zero_lt_one (by show _ < n; first | assumption | omega) ?_
            refine ow_gR (pc := 27) hX (kd_N Y n s c) 1 d_S_pair_27 kw_64 rfl (by show _ < n; first | assumption | omega) ?_
            refine ow_iload_n (pc := 30) hX d_S_pair_30 rfl ?_
            refine ow_aZ (pc := 31) hX rfl d_S_pair_31 (by show _ < n; first | assumption | omega) (by show _ < n; first | assumption | omega) ?_
            refine ow_iload_n (pc := 32) hX d_S_pair_32 rfl ?_
            refine ow_nc_ne (pc := 33) (tgt := 38) hX d_S_pair_33 (by decide) (by first | assumption | omega | (have := hnr a b; omega)) (by first | assumption | omega | (have := hnr a b; omega)) (fun h33 => ?_) (fun h33 => ?_)
            · skip
              refine ow_aload_n (pc := 38) hX d_S_pair_38 rfl ?_
              refine ow_gR (pc := 39) hX (kd_S Y n s c) 2 d_S_pair_39 kw_203 rfl Nat.zero_lt_one ?_
              refine ow_iload_n (pc := 42) hX d_S_pair_42 rfl ?_
              refine ow_aR (pc := 43) hX rfl d_S_pair_43 Nat.zero_lt_one (by show _ < n; first | assumption | omega) ?_
              refine ow_gR (pc := 44) hX (kd_N Y n s c) 1 d_S_pair_44 kw_64 rfl (by show _ < n; first | assumption | omega) ?_
              refine ow_iload_n (pc := 47) hX d_S_pair_47 rfl ?_
              refine ow_iload_n (pc := 48) hX d_S_pair_48 rfl ?_
              refine ow_sZ (pc := 49) hX rfl d_S_pair_49 (by show _ < n; first | assumption | omega) (by show _ < n; first | assumption | omega) (by first | assumption | omega | (have := hnr a b; omega)) ?_
              refine ow_aload_n (pc := 50) hX d_S_pair_50 rfl ?_
              refine ow_gR (pc := 51) hX (kd_S Y n s c) 2 d_S_pair_51 kw_203 rfl Nat.zero_lt_one ?_
              refine ow_iload_n (pc := 54) hX d_S_pair_54 rfl ?_
              refine ow_aR (pc := 55) hX rfl d_S_pair_55 Nat.zero_lt_one (by show _ < n; first | assumption | omega) ?_
              refine ow_gR (pc := 56) hX (kd_N Y n s c) 1 d_S_pair_56 kw_64 rfl (by show _ < n; first | assumption | omega) ?_
              refine ow_iload_n (pc := 59) hX d_S_pair_59 rfl ?_
              refine ow_iload_n (pc := 60) hX d_S_pair_60 rfl ?_
              refine ow_sZ (pc := 61) hX rfl d_S_pair_61 (by show _ < n; first | assumption | omega) (by show _ < n; first | assumption | omega) (by first | assumption | omega | (have := hnr a b; omega)) ?_
              refine ow_iconst (pc := 62) (v := nI 1) hX d_S_pair_62 (by decide) ?_
              exact ow_zret (pc := 63) hX d_S_pair_63 (nb_01 (by first | decide | assumption | omega | exact kbit_le _ _)) (by first | rfl | (simp only [kc_pair, hx]; done) | (simp only [kc_pair, hx, hy]; done) | (simp only [kc_pair, hx, hy]; (repeat' split) <;> first | rfl | omega | (simp_all; done))) (by first | rfl | (simp only [kc_pair, hx]; done) | (simp only [kc_pair, hx, hy]; done) | (simp only [kc_pair, hx, hy]; (repeat' split) <;> first | rfl | omega | (simp_all; done)))
            · skip
              refine ow_iconst (pc := 36) (v := nI 0) hX d_S_pair_36 (by decide) ?_
              exact ow_zret (pc := 37) hX d_S_pair_37 (nb_01 (by first | decide | assumption | omega | exact kbit_le _ _)) (by first | rfl | (simp only [kc_pair, hx]; done) | (simp only [kc_pair, hx, hy]; done) | (simp only [kc_pair, hx, hy]; (repeat' split) <;> first | rfl | omega | (simp_all; done))) (by first | rfl | (simp only [kc_pair, hx]; done) | (simp only [kc_pair, hx, hy]; done) | (simp only [kc_pair, hx, hy]; (repeat' split) <;> first | rfl | omega | (simp_all; done)))
set_option maxRecDepth 100000 in
set_option maxHeartbeats 4000000 in
theorem c_S_control (l : Launch) (Y : YY) (n s c : Nat) (hV : pv_ok (vC Y n s c)) (u : UU) (x t p i : Int32) (hn : n ≤ 6) : Ct l (vC Y n s c) ⟨"SlottedMesh", "control", "(IIII)Z"⟩ (wz ⟨"SlottedMesh", "control", "(IIII)Z"⟩ b_S_control 5 (some .boolean)) (rd 2) [.ref (pv_ad (vC Y n s c) 0 0), .int x, .int t, .int p, .int i] u (some (.int (nI (kc_control n u x t p i).1))) ((kc_control n u x t p i).2) := by
  refine ct_mk hV (by decide +kernel) (Nat.le_of_ble_eq_true rfl) (fun X hX => ?_)
  have hX : ox X (vC Y n s c) (rd 2) b_S_control 5 "SlottedMesh" gz (some .boolean) := hX
  show ow X (vC Y n s c) (some (.int (nI (kc_control n u x t p i).1))) ((kc_control n u x t p i).2) u [(0, .ref (pv_ad (vC Y n s c) 0 0)), (1, .int x), (2, .int t), (3, .int p), (4, .int i)] 0 []
  rcases hx : nf n x with _ | a
  · skip
    refine ow_aload_n (pc := 0) hX d_S_control_0 rfl ?_
    refine ow_iload_n (pc := 1) hX d_S_control_1 rfl ?_
    refine ow_callV (pc := 2) hX (kd_S Y n s c) Nat.zero_lt_one (c_S_isFieldNode _ Y n s c hV u x hn) (cw_V hX mz_S_isFieldNode kw_316 ⟨rfl, rfl⟩ (by decide)) rfl (Nat.le_of_ble_eq_true rfl) d_S_control_2 rfl ?_
    refine ow_st (st2 := .int (nI 0) :: _) (by rw [hx]; rfl) ?_
    refine ow_nz_eq (pc := 5) (tgt := 42) hX d_S_control_5 (by decide) (by first | assumption | omega | (have := kin_le t (-1000) (nI 1000); omega) | (have := kin_le p (nI 0) (nI 16); omega) | (have := kin_le i (nI 0) (nI 16); omega)) (fun h5 => ?_) (fun h5 => ?_)
    · skip
      refine ow_iconst (pc := 42) (v := nI 0) hX d_S_control_42 (by decide) ?_
      exact ow_zret (pc := 43) hX d_S_control_43 (nb_01 (by first | decide | assumption | omega | exact kbit_le _ _)) (by first | rfl | (simp only [kc_control, hx]; done) | (simp only [kc_control, hx]; (repeat' split) <;> first | rfl | omega | (simp_all; done))) (by first | rfl | (simp only [kc_control, hx]; done) | (simp only [kc_control, hx]; (repeat' split) <;> first | rfl | omega | (simp_all; done)))
    · skip
      exact absurd h5 (by decide)
  · skip
    obtain ⟨ha, ha0, rfl⟩ := nf_some (by omega) hx
    refine ow_aload_n (pc := 0) hX d_S_control_0 rfl ?_
    refine ow_iload_n (pc := 1) hX d_S_control_1 rfl ?_
    refine ow_callV (pc := 2) hX (kd_S Y n s c) Nat.zero_lt_one (c_S_isFieldNode _ Y n s c hV u (nI a) hn) (cw_V hX mz_S_isFieldNode kw_316 ⟨rfl, rfl⟩ (by decide)) rfl (Nat.le_of_ble_eq_true rfl) d_S_control_2 rfl ?_
    refine ow_st (st2 := .int (nI 1) :: _) (by rw [hx]; rfl) ?_
    refine ow_nz_eq (pc := 5) (tgt := 42) hX d_S_control_5 (by decide) (by first | assumption | omega | (have := kin_le t (-1000) (nI 1000); omega) | (have := kin_le p (nI 0) (nI 16); omega) | (have := kin_le i (nI 0) (nI 16); omega)) (fun h5 => ?_) (fun h5 => ?_)
    · skip
      exact absurd h5 (by decide)
    · skip
      refine ow_iload_n (pc := 8) hX d_S_control_8 rfl ?_
      refine ow_sipush (pc := 9) (v := (-1000)) hX d_S_control_9 (by decide) ?_
      refine ow_sipush (pc := 12) (v := nI 1000) hX d_S_control_12 (by decide) ?_
      refine ow_callS (pc := 15) hX (c_S_isWithin _ Y n s c hV _ t (-1000) (nI 1000)) (cw_S hX mz_S_isWithin kw_329 ⟨rfl, rfl⟩ (by decide)) rfl (Nat.le_of_ble_eq_true rfl) d_S_control_15 rfl ?_
      refine ow_nz_eq (pc := 18) (tgt := 42) hX d_S_control_18 (by decide) (by first | assumption | omega | (have := kin_le t (-1000) (nI 1000); omega) | (have := kin_le p (nI 0) (nI 16); omega) | (have := kin_le i (nI 0) (nI 16); omega)) (fun h18 => ?_) (fun h18 => ?_)
      · skip
        refine ow_iconst (pc := 42) (v := nI 0) hX d_S_control_42 (by decide) ?_
        exact ow_zret (pc := 43) hX d_S_control_43 (nb_01 (by first | decide | assumption | omega | exact kbit_le _ _)) (by first | rfl | (simp only [kc_control, hx]; done) | (simp only [kc_control, hx]; (repeat' split) <;> first | rfl | omega | (simp_all; done))) (by first | rfl | (simp only [kc_control, hx]; done) | (simp only [kc_control, hx]; (repeat' split) <;> first | rfl | omega | (simp_all; done)))
      · skip
        refine ow_iload_n (pc := 21) hX d_S_control_21 rfl ?_
        refine ow_iconst (pc := 22) (v := nI 0) hX d_S_control_22 (by decide) ?_
        refine ow_bipush (pc := 23) (v := nI 16) hX d_S_control_23 (by decide) ?_
        refine ow_callS (pc := 25) hX (c_S_isWithin _ Y n s c hV _ p (nI 0) (nI 16)) (cw_S hX mz_S_isWithin kw_329 ⟨rfl, rfl⟩ (by decide)) rfl (Nat.le_of_ble_eq_true rfl) d_S_control_25 rfl ?_
        refine ow_nz_eq (pc := 28) (tgt := 42) hX d_S_control_28 (by decide) (by first | assumption | omega | (have := kin_le t (-1000) (nI 1000); omega) | (have := kin_le p (nI 0) (nI 16); omega) | (have := kin_le i (nI 0) (nI 16); omega)) (fun h28 => ?_) (fun h28 => ?_)
        · skip
          refine ow_iconst (pc := 42) (v := nI 0) hX d_S_control_42 (by decide) ?_
          exact ow_zret (pc := 43) hX d_S_control_43 (nb_01 (by first | decide | assumption | omega | exact kbit_le _ _)) (by first | rfl | (simp only [kc_control, hx]; done) | (simp only [kc_control, hx]; (repeat' split) <;> first | rfl | omega | (simp_all; done))) (by first | rfl | (simp only [kc_control, hx]; done) | (simp only [kc_control, hx]; (repeat' split) <;> first | rfl | omega | (simp_all; done)))
        · skip
          refine ow_iload (pc := 31) hX d_S_control_31 rfl ?_
          refine ow_iconst (pc := 33) (v := nI 0) hX d_S_control_33 (by decide) ?_
          refine ow_bipush (pc := 34) (v := nI 16) hX d_S_control_34 (by decide) ?_
          refine ow_callS (pc := 36) hX (c_S_isWithin _ Y n s c hV _ i (nI 0) (nI 16)) (cw_S hX mz_S_isWithin kw_329 ⟨rfl, rfl⟩ (by decide)) rfl (Nat.le_of_ble_eq_true rfl) d_S_control_36 rfl ?_
          refine ow_nz_ne (pc := 39) (tgt := 44) hX d_S_control_39 (by decide) (by first | assumption | omega | (have := kin_le t (-1000) (nI 1000); omega) | (have := kin_le p (nI 0) (nI 16); omega) | (have := kin_le i (nI 0) (nI 16); omega)) (fun h39 => ?_) (fun h39 => ?_)
          · skip
            refine ow_aload_n (pc := 44) hX d_S_control_44 rfl ?_
            refine ow_gR (pc := 45) hX (kd_S Y n s c) 4 d_S_control_45 kw_205 rfl Nat.zero_lt_one ?_
            refine ow_iload_n (pc := 48) hX d_S_control_48 rfl ?_
            refine ow_aR (pc := 49) hX rfl d_S_control_49 Nat.zero_lt_one (by show _ < n; first | assumption | omega) ?_
            refine ow_iload_n (pc := 50) hX d_S_control_50 rfl ?_
            refine ow_pI (pc := 51) hX (kd_O Y n s c) 2 d_S_control_51 kw_126 rfl (by show _ < n; first | assumption | omega) rfl (by decide +kernel) ?_
            refine ow_aload_n (pc := 54) hX d_S_control_54 rfl ?_
            refine ow_gR (pc := 55) hX (kd_S Y n s c) 4 d_S_control_55 kw_205 rfl Nat.zero_lt_one ?_
            refine ow_iload_n (pc := 58) hX d_S_control_58 rfl ?_
            refine ow_aR (pc := 59) hX rfl d_S_control_59 Nat.zero_lt_one (by show _ < n; first | assumption | omega) ?_
            refine ow_iload_n (pc := 60) hX d_S_control_60 rfl ?_
            refine ow_pI (pc := 61) hX (kd_O Y n s c) 3 d_S_control_61 kw_128 rfl (by show _ < n; first | assumption | omega) rfl (by decide +kernel) ?_
            refine ow_aload_n (pc := 64) hX d_S_control_64 rfl ?_
            refine ow_gR (pc := 65) hX (kd_S Y n s c) 4 d_S_control_65 kw_205 rfl Nat.zero_lt_one ?_
            refine ow_iload_n (pc := 68) hX d_S_control_68 rfl ?_
            refine ow_aR (pc := 69) hX rfl d_S_control_69 Nat.zero_lt_one (by show _ < n; first | assumption | omega) ?_
            refine ow_iload (pc := 70) hX d_S_control_70 rfl ?_
            refine ow_pI (pc := 72) hX (kd_O Y n s c) 4 d_S_control_72 kw_130 rfl (by show _ < n; first | assumption | omega) rfl (by decide +kernel) ?_
            refine ow_iconst (pc := 75) (v := nI 1) hX d_S_control_75 (by decide) ?_
            exact ow_zret (pc := 76) hX d_S_control_76 (nb_01 (by first | decide | assumption | omega | exact kbit_le _ _)) (by first | rfl | (simp only [kc_control, hx]; done) | (simp only [kc_control, hx]; (repeat' split) <;> first | rfl | omega | (simp_all; done))) (by first | rfl | (simp only [kc_control, hx]; done) | (simp only [kc_control, hx]; (repeat' split) <;> first | rfl | omega | (simp_all; done)))
          · skip
            refine ow_iconst (pc := 42) (v := nI 0) hX d_S_control_42 (by decide) ?_
            exact ow_zret (pc := 43) hX d_S_control_43 (nb_01 (by first | decide | assumption | omega | exact kbit_le _ _)) (by first | rfl | (simp only [kc_control, hx]; done) | (simp only [kc_control, hx]; (repeat' split) <;> first | rfl | omega | (simp_all; done))) (by first | rfl | (simp only [kc_control, hx]; done) | (simp only [kc_control, hx]; (repeat' split) <;> first | rfl | omega | (simp_all; done)))
set_option maxRecDepth 100000 in
set_option maxHeartbeats 4000000 in
theorem c_S_sample (l : Launch) (Y : YY) (n s c : Nat) (hV : pv_ok (vC Y n s c)) (u : UU) (x v : Int32) (hn : n ≤ 6) (hs1 : ∀ i, u.1 4 i 6 ≤ 1) (hs4 : ∀ r, u.1 8 r 3 ≤ 4) : Ct l (vC Y n s c) ⟨"SlottedMesh", "sample", "(II)I"⟩ (wz ⟨"SlottedMesh", "sample", "(II)I"⟩ b_S_sample 4 (some .int)) (rd 2) [.ref (pv_ad (vC Y n s c) 0 0), .int x, .int v] u (some (.int (kc_sample n u x v).1)) ((kc_sample n u x v).2) := by
  refine ct_mk hV (by decide +kernel) (Nat.le_of_ble_eq_true rfl) (fun X hX => ?_)
  have hX : ox X (vC Y n s c) (rd 2) b_S_sample 4 "SlottedMesh" gz (some .int) := hX
  show ow X (vC Y n s c) (some (.int (kc_sample n u x v).1)) ((kc_sample n u x v).2) u [(0, .ref (pv_ad (vC Y n s c) 0 0)), (1, .int x), (2, .int v)] 0 []
  rcases hx : nf n x with _ | a
  · skip
    refine ow_aload_n (pc := 0) hX d_S_sample_0 rfl ?_
    refine ow_iload_n (pc := 1) hX d_S_sample_1 rfl ?_
    refine ow_callV (pc := 2) hX (kd_S Y n s c) Nat.zero_lt_one (c_S_isFieldNode _ Y n s c hV u x hn) (cw_V hX mz_S_isFieldNode kw_316 ⟨rfl, rfl⟩ (by decide)) rfl (Nat.le_of_ble_eq_true rfl) d_S_sample_2 rfl ?_
    refine ow_st (st2 := .int (nI 0) :: _) (by rw [hx]; rfl) ?_
    refine ow_nz_eq (pc := 5) (tgt := 33) hX d_S_sample_5 (by decide) (by first | assumption | omega | (have := kin_le v (-1000) (nI 1000); omega) | (have := hs1 a; omega) | (split <;> decide)) (fun h5 => ?_) (fun h5 => ?_)
    · skip
      refine ow_iconst (pc := 33) (v := (-1)) hX d_S_sample_33 (by decide) ?_
      exact ow_iret (pc := 34) hX d_S_sample_34 (by first | rfl | (simp only [kc_sample, hx]; done) | (simp only [kc_sample, hx]; first | rw [if_pos h17] | rw [if_neg h17, if_pos h30] | rw [if_neg h17, if_neg h30, if_pos hq] | rw [if_neg h17, if_neg h30, if_neg hq])) (by first | rfl | (simp only [kc_sample, hx]; done) | (simp only [kc_sample, hx]; first | rw [if_pos h17] | rw [if_neg h17, if_pos h30] | rw [if_neg h17, if_neg h30, if_pos hq] | rw [if_neg h17, if_neg h30, if_neg hq]))
    · skip
      exact absurd h5 (by decide)
  · skip
    obtain ⟨ha, ha0, rfl⟩ := nf_some (by omega) hx
    refine ow_aload_n (pc := 0) hX d_S_sample_0 rfl ?_
    refine ow_iload_n (pc := 1) hX d_S_sample_1 rfl ?_
    refine ow_callV (pc := 2) hX (kd_S Y n s c) Nat.zero_lt_one (c_S_isFieldNode _ Y n s c hV u (nI a) hn) (cw_V hX mz_S_isFieldNode kw_316 ⟨rfl, rfl⟩ (by decide)) rfl (Nat.le_of_ble_eq_true rfl) d_S_sample_2 rfl ?_
    refine ow_st (st2 := .int (nI 1) :: _) (by rw [hx]; rfl) ?_
    refine ow_nz_eq (pc := 5) (tgt := 33) hX d_S_sample_5 (by decide) (by first | assumption | omega | (have := kin_le v (-1000) (nI 1000); omega) | (have := hs1 a; omega) | (split <;> decide)) (fun h5 => ?_) (fun h5 => ?_)
    · skip
      exact absurd h5 (by decide)
    · skip
      refine ow_aload_n (pc := 8) hX d_S_sample_8 rfl ?_
      refine ow_gR (pc := 9) hX (kd_S Y n s c) 2 d_S_sample_9 kw_203 rfl Nat.zero_lt_one ?_
      refine ow_iload_n (pc := 12) hX d_S_sample_12 rfl ?_
      refine ow_aR (pc := 13) hX rfl d_S_sample_13 Nat.zero_lt_one (by show _ < n; first | assumption | omega) ?_
      refine ow_gN (pc := 14) hX (kd_N Y n s c) 6 d_S_sample_14 kw_75 rfl (by show _ < n; first | assumption | omega) ?_
      refine ow_nz_eq (pc := 17) (tgt := 33) hX d_S_sample_17 (by decide) (by first | assumption | omega | (have := kin_le v (-1000) (nI 1000); omega) | (have := hs1 a; omega) | (split <;> decide)) (fun h17 => ?_) (fun h17 => ?_)
      · skip
        refine ow_iconst (pc := 33) (v := (-1)) hX d_S_sample_33 (by decide) ?_
        exact ow_iret (pc := 34) hX d_S_sample_34 (by first | rfl | (simp only [kc_sample, hx]; done) | (simp only [kc_sample, hx]; first | rw [if_pos h17] | rw [if_neg h17, if_pos h30] | rw [if_neg h17, if_neg h30, if_pos hq] | rw [if_neg h17, if_neg h30, if_neg hq])) (by first | rfl | (simp only [kc_sample, hx]; done) | (simp only [kc_sample, hx]; first | rw [if_pos h17] | rw [if_neg h17, if_pos h30] | rw [if_neg h17, if_neg h30, if_pos hq] | rw [if_neg h17, if_neg h30, if_neg hq]))
      · skip
        refine ow_iload_n (pc := 20) hX d_S_sample_20 rfl ?_
        refine ow_sipush (pc := 21) (v := (-1000)) hX d_S_sample_21 (by decide) ?_
        refine ow_sipush (pc := 24) (v := nI 1000) hX d_S_sample_24 (by decide) ?_
        refine ow_callS (pc := 27) hX (c_S_isWithin _ Y n s c hV _ v (-1000) (nI 1000)) (cw_S hX mz_S_isWithin kw_329 ⟨rfl, rfl⟩ (by decide)) rfl (Nat.le_of_ble_eq_true rfl) d_S_sample_27 rfl ?_
        refine ow_nz_ne (pc := 30) (tgt := 35) hX d_S_sample_30 (by decide) (by first | assumption | omega | (have := kin_le v (-1000) (nI 1000); omega) | (have := hs1 a; omega) | (split <;> decide)) (fun h30 => ?_) (fun h30 => ?_)
        · skip
          refine ow_aload_n (pc := 35) hX d_S_sample_35 rfl ?_
          refine ow_gR (pc := 36) hX (kd_S Y n s c) 2 d_S_sample_36 kw_203 rfl Nat.zero_lt_one ?_
          refine ow_iload_n (pc := 39) hX d_S_sample_39 rfl ?_
          refine ow_aR (pc := 40) hX rfl d_S_sample_40 Nat.zero_lt_one (by show _ < n; first | assumption | omega) ?_
          refine ow_astore_n (pc := 41) (l2 := [(0, _), (1, _), (2, _), (3, _)]) hX d_S_sample_41 (by decide) rfl rfl ?_
          refine ow_aload_n (pc := 42) hX d_S_sample_42 rfl ?_
          refine ow_gE (pc := 43) hX (kd_N Y n s c) 2 d_S_sample_43 kw_67 rfl (by show _ < n; first | assumption | omega) ?_
          refine ow_iload_n (pc := 46) hX d_S_sample_46 rfl ?_
          refine ow_aload_n (pc := 47) hX d_S_sample_47 rfl ?_
          refine ow_gI (pc := 48) hX (kd_N Y n s c) 12 d_S_sample_48 kw_85 rfl (by show _ < n; first | assumption | omega) ?_
          refine ow_iconst (pc := 51) (v := nI 1) hX d_S_sample_51 (by decide) ?_
          refine ow_iadd (pc := 52) hX d_S_sample_52 ?_
          refine ow_iload_n (pc := 53) hX d_S_sample_53 rfl ?_
          refine ow_callV (pc := 54) hX (kd_F Y n s c) (by show _ < 2 * n; first | assumption | omega) (c_F_append _ Y n s c hV u (2 * a) a (u.2.1 4 a 12 + nI 1) v (by omega) (hs4 _)) (cw_V hX mz_F_append kw_344 ⟨rfl, rfl⟩ (by decide)) rfl (Nat.le_of_ble_eq_true rfl) d_S_sample_54 rfl ?_
          by_cases hq : u.1 8 (2 * a) 3 < 4
          · skip
            refine ow_st (st2 := .int (nI 1) :: _) (by rw [if_pos hq]; rfl) ?_
            refine ow_nz_ne (pc := 57) (tgt := 62) hX d_S_sample_57 (by decide) (by first | assumption | omega | (have := kin_le v (-1000) (nI 1000); omega) | (have := hs1 a; omega) | (split <;> decide)) (fun h57 => ?_) (fun h57 => ?_)
            · skip
              refine ow_aload_n (pc := 62) hX d_S_sample_62 rfl ?_
              refine ow_dup (pc := 63) hX d_S_sample_63 rfl ?_
              refine ow_gI (pc := 64) hX (kd_N Y n s c) 12 d_S_sample_64 kw_85 rfl (by show _ < n; first | assumption | omega) ?_
              try simp only [un_1, un_2, ui_1, ui_2, ui_3, ul_1, ul_2, ul_3, ul_4, ur_1, ur_2, ur_3, ur_4, Nat.reduceEqDiff, false_and, and_false, true_and, and_true, and_self, reduceIte]
              refine ow_iconst (pc := 67) (v := nI 1) hX d_S_sample_67 (by decide) ?_
              refine ow_iadd (pc := 68) hX d_S_sample_68 ?_
              refine ow_pI (pc := 69) hX (kd_N Y n s c) 12 d_S_sample_69 kw_85 rfl (by show _ < n; first | assumption | omega) rfl (by decide +kernel) ?_
              refine ow_aload_n (pc := 72) hX d_S_sample_72 rfl ?_
              refine ow_gI (pc := 73) hX (kd_N Y n s c) 12 d_S_sample_73 kw_85 rfl (by show _ < n; first | assumption | omega) ?_
              try simp only [un_1, un_2, ui_1, ui_2, ui_3, ul_1, ul_2, ul_3, ul_4, ur_1, ur_2, ur_3, ur_4, Nat.reduceEqDiff, false_and, and_false, true_and, and_true, and_self, reduceIte]
              exact ow_iret (pc := 76) hX d_S_sample_76 (by first | rfl | (simp only [kc_sample, hx]; done) | (simp only [kc_sample, hx]; first | rw [if_pos h17] | rw [if_neg h17, if_pos h30] | rw [if_neg h17, if_neg h30, if_pos hq] | rw [if_neg h17, if_neg h30, if_neg hq])) (by first | rfl | (simp only [kc_sample, hx]; done) | (simp only [kc_sample, hx]; first | rw [if_pos h17] | rw [if_neg h17, if_pos h30] | rw [if_neg h17, if_neg h30, if_pos hq] | rw [if_neg h17, if_neg h30, if_neg hq]))
            · skip
              exact absurd h57 (by decide)
          · skip
            refine ow_st (st2 := .int (nI 0) :: _) (by rw [if_neg hq]; rfl) ?_
            refine ow_nz_ne (pc := 57) (tgt := 62) hX d_S_sample_57 (by decide) (by first | assumption | omega | (have := kin_le v (-1000) (nI 1000); omega) | (have := hs1 a; omega) | (split <;> decide)) (fun h57 => ?_) (fun h57 => ?_)
            · skip
              exact absurd h57 (by decide)
            · skip
              have e9 : kc_append u (2 * a) a (u.2.1 4 a 12 + nI 1) v = u := by unfold kc_append; rw [if_neg hq]
              rw [e9]
              refine ow_iconst (pc := 60) (v := (-1)) hX d_S_sample_60 (by decide) ?_
              exact ow_iret (pc := 61) hX d_S_sample_61 (by first | rfl | (simp only [kc_sample, hx]; done) | (simp only [kc_sample, hx]; first | rw [if_pos h17] | rw [if_neg h17, if_pos h30] | rw [if_neg h17, if_neg h30, if_pos hq] | rw [if_neg h17, if_neg h30, if_neg hq])) (by first | rfl | (simp only [kc_sample, hx]; done) | (simp only [kc_sample, hx]; first | rw [if_pos h17] | rw [if_neg h17, if_pos h30] | rw [if_neg h17, if_neg h30, if_pos hq] | rw [if_neg h17, if_neg h30, if_neg hq]))
        · skip
          refine ow_iconst (pc := 33) (v := (-1)) hX d_S_sample_33 (by decide) ?_
          exact ow_iret (pc := 34) hX d_S_sample_34 (by first | rfl | (simp only [kc_sample, hx]; done) | (simp only [kc_sample, hx]; first | rw [if_pos h17] | rw [if_neg h17, if_pos h30] | rw [if_neg h17, if_neg h30, if_pos hq] | rw [if_neg h17, if_neg h30, if_neg hq])) (by first | rfl | (simp only [kc_sample, hx]; done) | (simp only [kc_sample, hx]; first | rw [if_pos h17] | rw [if_neg h17, if_pos h30] | rw [if_neg h17, if_neg h30, if_pos hq] | rw [if_neg h17, if_neg h30, if_neg hq]))
set_option maxRecDepth 100000 in
set_option maxHeartbeats 4000000 in
theorem c_S_rank (l : Launch) (Y : YY) (n s c : Nat) (hV : pv_ok (vC Y n s c)) (u : UU) (x : Int32) (hn : n ≤ 6) (hp : u.2.2.2 5 < 2) (hm : ∀ i, u.1 15 i 8 ≤ 1) : Ct l (vC Y n s c) ⟨"SlottedMesh", "rank", "(I)I"⟩ (wz ⟨"SlottedMesh", "rank", "(I)I"⟩ b_S_rank 2 (some .int)) (rd 1) [.ref (pv_ad (vC Y n s c) 0 0), .int x] u (some (.int (kc_rank n u x))) (u) := by
  refine ct_mk hV (by decide +kernel) (Nat.le_of_ble_eq_true rfl) (fun X hX => ?_)
  have hX : ox X (vC Y n s c) (rd 1) b_S_rank 2 "SlottedMesh" gz (some .int) := hX
  show ow X (vC Y n s c) (some (.int (kc_rank n u x))) (u) u [(0, .ref (pv_ad (vC Y n s c) 0 0)), (1, .int x)] 0 []
  rcases hx : nd n x with _ | a
  · skip
    refine ow_aload_n (pc := 0) hX d_S_rank_0 rfl ?_
    refine ow_gM (pc := 1) hX (kd_S Y n s c) 5 d_S_rank_1 kw_206 rfl Nat.zero_lt_one ?_
    refine ow_gN (pc := 4) hX (kd_P Y n s c) 8 d_S_rank_4 kw_181 rfl (by show _ < 2; first | assumption | omega) ?_
    refine ow_nz_eq (pc := 7) (tgt := 30) hX d_S_rank_7 (by decide) (by first | assumption | omega | (have := hm (u.2.2.2 5); omega)) (fun h7 => ?_) (fun h7 => ?_)
    · skip
      refine ow_iconst (pc := 30) (v := (-1)) hX d_S_rank_30 (by decide) ?_
      exact ow_iret (pc := 31) hX d_S_rank_31 (by first | rfl | (simp only [kc_rank, hx]; first | rw [if_pos h7] | rw [if_neg h7])) (by first | rfl | (simp only [kc_rank, hx]; first | rw [if_pos h7] | rw [if_neg h7]))
    · skip
      refine ow_aload_n (pc := 10) hX d_S_rank_10 rfl ?_
      refine ow_iload_n (pc := 11) hX d_S_rank_11 rfl ?_
      refine ow_callV (pc := 12) hX (kd_S Y n s c) Nat.zero_lt_one (c_S_isNode _ Y n s c hV u x hn) (cw_V hX mz_S_isNode kw_233 ⟨rfl, rfl⟩ (by decide)) rfl (Nat.le_of_ble_eq_true rfl) d_S_rank_12 rfl ?_
      refine ow_st (st2 := .int (nI 0) :: _) (by rw [hx]; rfl) ?_
      refine ow_nz_eq (pc := 15) (tgt := 30) hX d_S_rank_15 (by decide) (by first | assumption | omega | (have := hm (u.2.2.2 5); omega)) (fun h15 => ?_) (fun h15 => ?_)
      · skip
        refine ow_iconst (pc := 30) (v := (-1)) hX d_S_rank_30 (by decide) ?_
        exact ow_iret (pc := 31) hX d_S_rank_31 (by first | rfl | (simp only [kc_rank, hx]; first | rw [if_pos h7] | rw [if_neg h7])) (by first | rfl | (simp only [kc_rank, hx]; first | rw [if_pos h7] | rw [if_neg h7]))
      · skip
        exact absurd h15 (by decide)
  · skip
    obtain ⟨ha, rfl⟩ := nd_some (by omega) hx
    refine ow_aload_n (pc := 0) hX d_S_rank_0 rfl ?_
    refine ow_gM (pc := 1) hX (kd_S Y n s c) 5 d_S_rank_1 kw_206 rfl Nat.zero_lt_one ?_
    refine ow_gN (pc := 4) hX (kd_P Y n s c) 8 d_S_rank_4 kw_181 rfl (by show _ < 2; first | assumption | omega) ?_
    refine ow_nz_eq (pc := 7) (tgt := 30) hX d_S_rank_7 (by decide) (by first | assumption | omega | (have := hm (u.2.2.2 5); omega)) (fun h7 => ?_) (fun h7 => ?_)
    · skip
      refine ow_iconst (pc := 30) (v := (-1)) hX d_S_rank_30 (by decide) ?_
      exact ow_iret (pc := 31) hX d_S_rank_31 (by first | rfl | (simp only [kc_rank, hx]; first | rw [if_pos h7] | rw [if_neg h7])) (by first | rfl | (simp only [kc_rank, hx]; first | rw [if_pos h7] | rw [if_neg h7]))
    · skip
      refine ow_aload_n (pc := 10) hX d_S_rank_10 rfl ?_
      refine ow_iload_n (pc := 11) hX d_S_rank_11 rfl ?_
      refine ow_callV (pc := 12) hX (kd_S Y n s c) Nat.zero_lt_one (c_S_isNode _ Y n s c hV u (nI a) hn) (cw_V hX mz_S_isNode kw_233 ⟨rfl, rfl⟩ (by decide)) rfl (Nat.le_of_ble_eq_true rfl) d_S_rank_12 rfl ?_
      refine ow_st (st2 := .int (nI 1) :: _) (by rw [hx]; rfl) ?_
      refine ow_nz_eq (pc := 15) (tgt := 30) hX d_S_rank_15 (by decide) (by first | assumption | omega | (have := hm (u.2.2.2 5); omega)) (fun h15 => ?_) (fun h15 => ?_)
      · skip
        exact absurd h15 (by decide)
      · skip
        refine ow_aload_n (pc := 18) hX d_S_rank_18 rfl ?_
        refine ow_gM (pc := 19) hX (kd_S Y n s c) 5 d_S_rank_19 kw_206 rfl Nat.zero_lt_one ?_
        refine ow_gR (pc := 22) hX (kd_P Y n s c) 2 d_S_rank_22 kw_171 rfl (by show _ < 2; first | assumption | omega) ?_
        refine ow_iload_n (pc := 25) hX d_S_rank_25 rfl ?_
        refine ow_aI (pc := 26) hX rfl d_S_rank_26 (by show _ < 2; first | assumption | omega) (by show _ < n; first | assumption | omega) ?_
        refine ow_goto (pc := 27) (tgt := 31) hX d_S_rank_27 (by decide) ?_
        exact ow_iret (pc := 31) hX d_S_rank_31 (by first | rfl | (simp only [kc_rank, hx]; first | rw [if_pos h7] | rw [if_neg h7])) (by first | rfl | (simp only [kc_rank, hx]; first | rw [if_pos h7] | rw [if_neg h7]))
set_option maxRecDepth 100000 in
set_option maxHeartbeats 4000000 in
theorem c_S_parent (l : Launch) (Y : YY) (n s c : Nat) (hV : pv_ok (vC Y n s c)) (u : UU) (x k : Int32) (hn : n ≤ 6) (hp : u.2.2.2 5 < 2) (hm : ∀ i, u.1 15 i 8 ≤ 1) : Ct l (vC Y n s c) ⟨"SlottedMesh", "parent", "(II)I"⟩ (wz ⟨"SlottedMesh", "parent", "(II)I"⟩ b_S_parent 3 (some .int)) (rd 1) [.ref (pv_ad (vC Y n s c) 0 0), .int x, .int k] u (some (.int (kc_parent n u x k))) (u) := by
  refine ct_mk hV (by decide +kernel) (Nat.le_of_ble_eq_true rfl) (fun X hX => ?_)
  have hX : ox X (vC Y n s c) (rd 1) b_S_parent 3 "SlottedMesh" gz (some .int) := hX
  show ow X (vC Y n s c) (some (.int (kc_parent n u x k))) (u) u [(0, .ref (pv_ad (vC Y n s c) 0 0)), (1, .int x), (2, .int k)] 0 []
  rcases hx : nd n x with _ | a
  · skip
    refine ow_aload_n (pc := 0) hX d_S_parent_0 rfl ?_
    refine ow_gM (pc := 1) hX (kd_S Y n s c) 5 d_S_parent_1 kw_206 rfl Nat.zero_lt_one ?_
    refine ow_gN (pc := 4) hX (kd_P Y n s c) 8 d_S_parent_4 kw_181 rfl (by show _ < 2; first | assumption | omega) ?_
    refine ow_nz_eq (pc := 7) (tgt := 18) hX d_S_parent_7 (by decide) (by first | assumption | omega | (have := hm (u.2.2.2 5); omega)) (fun h7 => ?_) (fun h7 => ?_)
    · skip
      refine ow_iconst (pc := 18) (v := (-1)) hX d_S_parent_18 (by decide) ?_
      exact ow_iret (pc := 19) hX d_S_parent_19 (by first | rfl | (simp only [kc_parent, hx]; first | rw [if_pos h7] | rw [if_neg h7, if_pos h21] | rw [if_neg h7, if_neg h21, if_pos h36] | rw [if_neg h7, if_neg h21, if_neg h36] | rw [if_neg h7])) (by first | rfl | (simp only [kc_parent, hx]; first | rw [if_pos h7] | rw [if_neg h7, if_pos h21] | rw [if_neg h7, if_neg h21, if_pos h36] | rw [if_neg h7, if_neg h21, if_neg h36] | rw [if_neg h7]))
    · skip
      refine ow_aload_n (pc := 10) hX d_S_parent_10 rfl ?_
      refine ow_iload_n (pc := 11) hX d_S_parent_11 rfl ?_
      refine ow_callV (pc := 12) hX (kd_S Y n s c) Nat.zero_lt_one (c_S_isNode _ Y n s c hV u x hn) (cw_V hX mz_S_isNode kw_233 ⟨rfl, rfl⟩ (by decide)) rfl (Nat.le_of_ble_eq_true rfl) d_S_parent_12 rfl ?_
      refine ow_st (st2 := .int (nI 0) :: _) (by rw [hx]; rfl) ?_
      refine ow_nz_ne (pc := 15) (tgt := 20) hX d_S_parent_15 (by decide) (by first | assumption | omega | (have := hm (u.2.2.2 5); omega)) (fun h15 => ?_) (fun h15 => ?_)
      · skip
        exact absurd h15 (by decide)
      · skip
        refine ow_iconst (pc := 18) (v := (-1)) hX d_S_parent_18 (by decide) ?_
        exact ow_iret (pc := 19) hX d_S_parent_19 (by first | rfl | (simp only [kc_parent, hx]; first | rw [if_pos h7] | rw [if_neg h7, if_pos h21] | rw [if_neg h7, if_neg h21, if_pos h36] | rw [if_neg h7, if_neg h21, if_neg h36] | rw [if_neg h7])) (by first | rfl | (simp only [kc_parent, hx]; first | rw [if_pos h7] | rw [if_neg h7, if_pos h21] | rw [if_neg h7, if_neg h21, if_pos h36] | rw [if_neg h7, if_neg h21, if_neg h36] | rw [if_neg h7]))
  · skip
    obtain ⟨ha, rfl⟩ := nd_some (by omega) hx
    refine ow_aload_n (pc := 0) hX d_S_parent_0 rfl ?_
    refine ow_gM (pc := 1) hX (kd_S Y n s c) 5 d_S_parent_1 kw_206 rfl Nat.zero_lt_one ?_
    refine ow_gN (pc := 4) hX (kd_P Y n s c) 8 d_S_parent_4 kw_181 rfl (by show _ < 2; first | assumption | omega) ?_
    refine ow_nz_eq (pc := 7) (tgt := 18) hX d_S_parent_7 (by decide) (by first | assumption | omega | (have := hm (u.2.2.2 5); omega)) (fun h7 => ?_) (fun h7 => ?_)
    · skip
      refine ow_iconst (pc := 18) (v := (-1)) hX d_S_parent_18 (by decide) ?_
      exact ow_iret (pc := 19) hX d_S_parent_19 (by first | rfl | (simp only [kc_parent, hx]; first | rw [if_pos h7] | rw [if_neg h7, if_pos h21] | rw [if_neg h7, if_neg h21, if_pos h36] | rw [if_neg h7, if_neg h21, if_neg h36] | rw [if_neg h7])) (by first | rfl | (simp only [kc_parent, hx]; first | rw [if_pos h7] | rw [if_neg h7, if_pos h21] | rw [if_neg h7, if_neg h21, if_pos h36] | rw [if_neg h7, if_neg h21, if_neg h36] | rw [if_neg h7]))
    · skip
      refine ow_aload_n (pc := 10) hX d_S_parent_10 rfl ?_
      refine ow_iload_n (pc := 11) hX d_S_parent_11 rfl ?_
      refine ow_callV (pc := 12) hX (kd_S Y n s c) Nat.zero_lt_one (c_S_isNode _ Y n s c hV u (nI a) hn) (cw_V hX mz_S_isNode kw_233 ⟨rfl, rfl⟩ (by decide)) rfl (Nat.le_of_ble_eq_true rfl) d_S_parent_12 rfl ?_
      refine ow_st (st2 := .int (nI 1) :: _) (by rw [hx]; rfl) ?_
      refine ow_nz_ne (pc := 15) (tgt := 20) hX d_S_parent_15 (by decide) (by first | assumption | omega | (have := hm (u.2.2.2 5); omega)) (fun h15 => ?_) (fun h15 => ?_)
      · skip
        refine ow_iload_n (pc := 20) hX d_S_parent_20 rfl ?_
        refine ow_if_ne (pc := 21) (tgt := 34) hX d_S_parent_21 (by decide) (fun h21 => ?_) (fun h21 => ?_)
        · skip
          refine ow_iload_n (pc := 34) hX d_S_parent_34 rfl ?_
          refine ow_iconst (pc := 35) (v := nI 1) hX d_S_parent_35 (by decide) ?_
          refine ow_ic_ne (pc := 36) (tgt := 51) hX d_S_parent_36 (by decide) (fun h36 => ?_) (fun h36 => ?_)
          · skip
            refine ow_iconst (pc := 51) (v := (-1)) hX d_S_parent_51 (by decide) ?_
            exact ow_iret (pc := 52) hX d_S_parent_52 (by first | rfl | (simp only [kc_parent, hx]; first | rw [if_pos h7] | rw [if_neg h7, if_pos h21] | rw [if_neg h7, if_neg h21, if_pos h36] | rw [if_neg h7, if_neg h21, if_neg h36] | rw [if_neg h7])) (by first | rfl | (simp only [kc_parent, hx]; first | rw [if_pos h7] | rw [if_neg h7, if_pos h21] | rw [if_neg h7, if_neg h21, if_pos h36] | rw [if_neg h7, if_neg h21, if_neg h36] | rw [if_neg h7]))
          · skip
            refine ow_aload_n (pc := 39) hX d_S_parent_39 rfl ?_
            refine ow_gM (pc := 40) hX (kd_S Y n s c) 5 d_S_parent_40 kw_206 rfl Nat.zero_lt_one ?_
            refine ow_gR (pc := 43) hX (kd_P Y n s c) 4 d_S_parent_43 kw_175 rfl (by show _ < 2; first | assumption | omega) ?_
            refine ow_iload_n (pc := 46) hX d_S_parent_46 rfl ?_
            refine ow_aI (pc := 47) hX rfl d_S_parent_47 (by show _ < 2; first | assumption | omega) (by show _ < n; first | assumption | omega) ?_
            refine ow_goto (pc := 48) (tgt := 52) hX d_S_parent_48 (by decide) ?_
            exact ow_iret (pc := 52) hX d_S_parent_52 (by first | rfl | (simp only [kc_parent, hx]; first | rw [if_pos h7] | rw [if_neg h7, if_pos h21] | rw [if_neg h7, if_neg h21, if_pos h36] | rw [if_neg h7, if_neg h21, if_neg h36] | rw [if_neg h7])) (by first | rfl | (simp only [kc_parent, hx]; first | rw [if_pos h7] | rw [if_neg h7, if_pos h21] | rw [if_neg h7, if_neg h21, if_pos h36] | rw [if_neg h7, if_neg h21, if_neg h36] | rw [if_neg h7]))
        · skip
          refine ow_aload_n (pc := 24) hX d_S_parent_24 rfl ?_
          refine ow_gM (pc := 25) hX (kd_S Y n s c) 5 d_S_parent_25 kw_206 rfl Nat.zero_lt_one ?_
          refine ow_gR (pc := 28) hX (kd_P Y n s c) 3 d_S_parent_28 kw_173 rfl (by show _ < 2; first | assumption | omega) ?_
          refine ow_iload_n (pc := 31) hX d_S_parent_31 rfl ?_
          refine ow_aI (pc := 32) hX rfl d_S_parent_32 (by show _ < 2; first | assumption | omega) (by show _ < n; first | assumption | omega) ?_
          exact ow_iret (pc := 33) hX d_S_parent_33 (by first | rfl | (simp only [kc_parent, hx]; first | rw [if_pos h7] | rw [if_neg h7, if_pos h21] | rw [if_neg h7, if_neg h21, if_pos h36] | rw [if_neg h7, if_neg h21, if_neg h36] | rw [if_neg h7])) (by first | rfl | (simp only [kc_parent, hx]; first | rw [if_pos h7] | rw [if_neg h7, if_pos h21] | rw [if_neg h7, if_neg h21, if_pos h36] | rw [if_neg h7, if_neg h21, if_neg h36] | rw [if_neg h7]))
      · skip
        exact absurd h15 (by decide)
theorem kin_nd {s : Nat} {x : Int32} (h0 : 0 < s) (hs : s < 2 ^ 31) : kin x (nI 0) (nI (s - 1)) = kb (nd s x) := by
  unfold kin nd
  rw [nI_0]
  by_cases h1 : x < 0
  · rw [if_pos h1, if_pos h1]; rfl
  · rw [if_neg h1, if_neg h1]
    obtain ⟨j, hj, rfl⟩ := nI_of h1
    have e1 : nI (s - 1) < nI j ↔ nI s ≤ nI j := by rw [nI_ltI (by omega) hj, nI_leI hs hj]; omega
    by_cases h2 : nI s ≤ nI j
    · rw [if_pos h2, if_pos (e1.mpr h2)]; rfl
    · rw [if_neg h2, if_neg (fun q => h2 (e1.mp q))]; rfl
set_option maxRecDepth 100000 in
set_option maxHeartbeats 4000000 in
theorem c_S_cell (l : Launch) (Y : YY) (n s c : Nat) (hV : pv_ok (vC Y n s c)) (u : UU) (x y : Int32) (h0 : 0 < s) (hs : s < 2 ^ 31) (hc : c ≤ 4) (hp : u.2.2.2 5 < 2) (hm : ∀ i, u.1 15 i 8 ≤ 1) : Ct l (vC Y n s c) ⟨"SlottedMesh", "cell", "(II)I"⟩ (wz ⟨"SlottedMesh", "cell", "(II)I"⟩ b_S_cell 3 (some .int)) (rd 1) [.ref (pv_ad (vC Y n s c) 0 0), .int x, .int y] u (some (.int (kc_cell s c u x y))) (u) := by
  refine ct_mk hV (by decide +kernel) (Nat.le_of_ble_eq_true rfl) (fun X hX => ?_)
  have hX : ox X (vC Y n s c) (rd 1) b_S_cell 3 "SlottedMesh" gz (some .int) := hX
  show ow X (vC Y n s c) (some (.int (kc_cell s c u x y))) (u) u [(0, .ref (pv_ad (vC Y n s c) 0 0)), (1, .int x), (2, .int y)] 0 []
  rcases hx : nd s x with _ | a
  · skip
    refine ow_iload_n (pc := 0) hX d_S_cell_0 rfl ?_
    refine ow_iconst (pc := 1) (v := nI 0) hX d_S_cell_1 (by decide) ?_
    refine ow_aload_n (pc := 2) hX d_S_cell_2 rfl ?_
    refine ow_gK (pc := 3) hX (kd_S Y n s c) 0 d_S_cell_3 kw_201 rfl Nat.zero_lt_one ?_
    refine ow_iconst (pc := 6) (v := nI 1) hX d_S_cell_6 (by decide) ?_
    refine ow_subn (pc := 7) hX d_S_cell_7 (by first | assumption | omega | (have := hm (u.2.2.2 5); omega)) ?_
    refine ow_callS (pc := 8) hX (c_S_isWithin _ Y n s c hV u x (nI 0) (nI (s - 1))) (cw_S hX mz_S_isWithin kw_329 ⟨rfl, rfl⟩ (by decide)) rfl (Nat.le_of_ble_eq_true rfl) d_S_cell_8 rfl ?_
    refine ow_st (st2 := .int (nI 0) :: _) (by rw [kin_nd h0 hs, hx]; rfl) ?_
    refine ow_nz_eq (pc := 11) (tgt := 22) hX d_S_cell_11 (by decide) (by first | assumption | omega | (have := hm (u.2.2.2 5); omega)) (fun h11 => ?_) (fun h11 => ?_)
    · skip
      refine ow_iconst (pc := 22) (v := (-1)) hX d_S_cell_22 (by decide) ?_
      exact ow_iret (pc := 23) hX d_S_cell_23 (by first | rfl | (simp only [kc_cell, hx]; done) | (simp only [kc_cell, hx, hy]; done) | (simp only [kc_cell, hx, hy]; first | rw [if_pos h31] | rw [if_neg h31])) (by first | rfl | (simp only [kc_cell, hx]; done) | (simp only [kc_cell, hx, hy]; done) | (simp only [kc_cell, hx, hy]; first | rw [if_pos h31] | rw [if_neg h31]))
    · skip
      exact absurd h11 (by decide)
  · skip
    obtain ⟨ha, rfl⟩ := nd_some (by omega) hx
    rcases hy : nd c y with _ | b
    · skip
      refine ow_iload_n (pc := 0) hX d_S_cell_0 rfl ?_
      refine ow_iconst (pc := 1) (v := nI 0) hX d_S_cell_1 (by decide) ?_
      refine ow_aload_n (pc := 2) hX d_S_cell_2 rfl ?_
      refine ow_gK (pc := 3) hX (kd_S Y n s c) 0 d_S_cell_3 kw_201 rfl Nat.zero_lt_one ?_
      refine ow_iconst (pc := 6) (v := nI 1) hX d_S_cell_6 (by decide) ?_
      refine ow_subn (pc := 7) hX d_S_cell_7 (by first | assumption | omega | (have := hm (u.2.2.2 5); omega)) ?_
      refine ow_callS (pc := 8) hX (c_S_isWithin _ Y n s c hV u (nI a) (nI 0) (nI (s - 1))) (cw_S hX mz_S_isWithin kw_329 ⟨rfl, rfl⟩ (by decide)) rfl (Nat.le_of_ble_eq_true rfl) d_S_cell_8 rfl ?_
      refine ow_st (st2 := .int (nI 1) :: _) (by rw [kin_nd h0 hs, hx]; rfl) ?_
      refine ow_nz_eq (pc := 11) (tgt := 22) hX d_S_cell_11 (by decide) (by first | assumption | omega | (have := hm (u.2.2.2 5); omega)) (fun h11 => ?_) (fun h11 => ?_)
      · skip
        exact absurd h11 (by decide)
      · skip
        refine ow_aload_n (pc := 14) hX d_S_cell_14 rfl ?_
        refine ow_iload_n (pc := 15) hX d_S_cell_15 rfl ?_
        refine ow_callV (pc := 16) hX (kd_S Y n s c) Nat.zero_lt_one (c_S_isChannel _ Y n s c hV u y) (cw_V hX mz_S_isChannel kw_336 ⟨rfl, rfl⟩ (by decide)) rfl (Nat.le_of_ble_eq_true rfl) d_S_cell_16 rfl ?_
        refine ow_st (st2 := .int (nI 0) :: _) (by rw [hy]; rfl) ?_
        refine ow_nz_ne (pc := 19) (tgt := 24) hX d_S_cell_19 (by decide) (by first | assumption | omega | (have := hm (u.2.2.2 5); omega)) (fun h19 => ?_) (fun h19 => ?_)
        · skip
          exact absurd h19 (by decide)
        · skip
          refine ow_iconst (pc := 22) (v := (-1)) hX d_S_cell_22 (by decide) ?_
          exact ow_iret (pc := 23) hX d_S_cell_23 (by first | rfl | (simp only [kc_cell, hx]; done) | (simp only [kc_cell, hx, hy]; done) | (simp only [kc_cell, hx, hy]; first | rw [if_pos h31] | rw [if_neg h31])) (by first | rfl | (simp only [kc_cell, hx]; done) | (simp only [kc_cell, hx, hy]; done) | (simp only [kc_cell, hx, hy]; first | rw [if_pos h31] | rw [if_neg h31]))
    · skip
      obtain ⟨hb, rfl⟩ := nd_some (by omega) hy
      refine ow_iload_n (pc := 0) hX d_S_cell_0 rfl ?_
      refine ow_iconst (pc := 1) (v := nI 0) hX d_S_cell_1 (by decide) ?_
      refine ow_aload_n (pc := 2) hX d_S_cell_2 rfl ?_
      refine ow_gK (pc := 3) hX (kd_S Y n s c) 0 d_S_cell_3 kw_201 rfl Nat.zero_lt_one ?_
      refine ow_iconst (pc := 6) (v := nI 1) hX d_S_cell_6 (by decide) ?_
      refine ow_subn (pc := 7) hX d_S_cell_7 (by first | assumption | omega | (have := hm (u.2.2.2 5); omega)) ?_
      refine ow_callS (pc := 8) hX (c_S_isWithin _ Y n s c hV u (nI a) (nI 0) (nI (s - 1))) (cw_S hX mz_S_isWithin kw_329 ⟨rfl, rfl⟩ (by decide)) rfl (Nat.le_of_ble_eq_true rfl) d_S_cell_8 rfl ?_
      refine ow_st (st2 := .int (nI 1) :: _) (by rw [kin_nd h0 hs, hx]; rfl) ?_
      refine ow_nz_eq (pc := 11) (tgt := 22) hX d_S_cell_11 (by decide) (by first | assumption | omega | (have := hm (u.2.2.2 5); omega)) (fun h11 => ?_) (fun h11 => ?_)
      · skip
        exact absurd h11 (by decide)
      · skip
        refine ow_aload_n (pc := 14) hX d_S_cell_14 rfl ?_
        refine ow_iload_n (pc := 15) hX d_S_cell_15 rfl ?_
        refine ow_callV (pc := 16) hX (kd_S Y n s c) Nat.zero_lt_one (c_S_isChannel _ Y n s c hV u (nI b)) (cw_V hX mz_S_isChannel kw_336 ⟨rfl, rfl⟩ (by decide)) rfl (Nat.le_of_ble_eq_true rfl) d_S_cell_16 rfl ?_
        refine ow_st (st2 := .int (nI 1) :: _) (by rw [hy]; rfl) ?_
        refine ow_nz_ne (pc := 19) (tgt := 24) hX d_S_cell_19 (by decide) (by first | assumption | omega | (have := hm (u.2.2.2 5); omega)) (fun h19 => ?_) (fun h19 => ?_)
        · skip
          refine ow_aload_n (pc := 24) hX d_S_cell_24 rfl ?_
          refine ow_gM (pc := 25) hX (kd_S Y n s c) 5 d_S_cell_25 kw_206 rfl Nat.zero_lt_one ?_
          refine ow_gN (pc := 28) hX (kd_P Y n s c) 8 d_S_cell_28 kw_181 rfl (by show _ < 2; first | assumption | omega) ?_
          refine ow_nz_eq (pc := 31) (tgt := 46) hX d_S_cell_31 (by decide) (by first | assumption | omega | (have := hm (u.2.2.2 5); omega)) (fun h31 => ?_) (fun h31 => ?_)
          · skip
            refine ow_iconst (pc := 46) (v := nI 0) hX d_S_cell_46 (by decide) ?_
            exact ow_iret (pc := 47) hX d_S_cell_47 (by first | rfl | (simp only [kc_cell, hx]; done) | (simp only [kc_cell, hx, hy]; done) | (simp only [kc_cell, hx, hy]; first | rw [if_pos h31] | rw [if_neg h31])) (by first | rfl | (simp only [kc_cell, hx]; done) | (simp only [kc_cell, hx, hy]; done) | (simp only [kc_cell, hx, hy]; first | rw [if_pos h31] | rw [if_neg h31]))
          · skip
            refine ow_aload_n (pc := 34) hX d_S_cell_34 rfl ?_
            refine ow_gM (pc := 35) hX (kd_S Y n s c) 5 d_S_cell_35 kw_206 rfl Nat.zero_lt_one ?_
            refine ow_iload_n (pc := 38) hX d_S_cell_38 rfl ?_
            refine ow_iload_n (pc := 39) hX d_S_cell_39 rfl ?_
            refine ow_callV (pc := 40) hX (kd_P Y n s c) (by show _ < 2; first | assumption | omega) (c_P_codeAt _ Y n s c hV u (u.2.2.2 5) a b hp ha hb) (cw_V hX mz_P_codeAt kw_367 ⟨rfl, rfl⟩ (by decide)) rfl (Nat.le_of_ble_eq_true rfl) d_S_cell_40 rfl ?_
            refine ow_goto (pc := 43) (tgt := 47) hX d_S_cell_43 (by decide) ?_
            exact ow_iret (pc := 47) hX d_S_cell_47 (by first | rfl | (simp only [kc_cell, hx]; done) | (simp only [kc_cell, hx, hy]; done) | (simp only [kc_cell, hx, hy]; first | rw [if_pos h31] | rw [if_neg h31])) (by first | rfl | (simp only [kc_cell, hx]; done) | (simp only [kc_cell, hx, hy]; done) | (simp only [kc_cell, hx, hy]; first | rw [if_pos h31] | rw [if_neg h31]))
        · skip
          exact absurd h19 (by decide)
set_option maxRecDepth 100000 in
set_option maxHeartbeats 4000000 in
theorem c_S_current (l : Launch) (Y : YY) (n s c : Nat) (hV : pv_ok (vC Y n s c)) (u : UU) (x : Int32) (hn : n ≤ 6) (hs1 : ∀ i, u.1 4 i 7 ≤ 1) : Ct l (vC Y n s c) ⟨"SlottedMesh", "current", "(I)Z"⟩ (wz ⟨"SlottedMesh", "current", "(I)Z"⟩ b_S_current 2 (some .boolean)) (rd 1) [.ref (pv_ad (vC Y n s c) 0 0), .int x] u (some (.int (nI (kc_current n u x)))) (u) := by
  refine ct_mk hV (by decide +kernel) (Nat.le_of_ble_eq_true rfl) (fun X hX => ?_)
  have hX : ox X (vC Y n s c) (rd 1) b_S_current 2 "SlottedMesh" gz (some .boolean) := hX
  show ow X (vC Y n s c) (some (.int (nI (kc_current n u x)))) (u) u [(0, .ref (pv_ad (vC Y n s c) 0 0)), (1, .int x)] 0 []
  rcases hx : nd n x with _ | a
  · skip
    refine ow_aload_n (pc := 0) hX d_S_current_0 rfl ?_
    refine ow_iload_n (pc := 1) hX d_S_current_1 rfl ?_
    refine ow_callV (pc := 2) hX (kd_S Y n s c) Nat.zero_lt_one (c_S_isNode _ Y n s c hV u x hn) (cw_V hX mz_S_isNode kw_233 ⟨rfl, rfl⟩ (by decide)) rfl (Nat.le_of_ble_eq_true rfl) d_S_current_2 rfl ?_
    refine ow_st (st2 := .int (nI 0) :: _) (by rw [hx]; rfl) ?_
    refine ow_nz_eq (pc := 5) (tgt := 24) hX d_S_current_5 (by decide) (by first | assumption | omega | (have := hs1 a; omega)) (fun h5 => ?_) (fun h5 => ?_)
    · skip
      refine ow_iconst (pc := 24) (v := nI 0) hX d_S_current_24 (by decide) ?_
      exact ow_zret (pc := 25) hX d_S_current_25 (nb_01 (by first | decide | assumption | omega | exact kbit_le _ _)) (by first | rfl | (simp only [kc_current, hx]; done) | (simp only [kc_current, hx]; (repeat' split) <;> first | rfl | omega | (simp_all; done))) (by first | rfl | (simp only [kc_current, hx]; done) | (simp only [kc_current, hx]; (repeat' split) <;> first | rfl | omega | (simp_all; done)))
    · skip
      exact absurd h5 (by decide)
  · skip
    obtain ⟨ha, rfl⟩ := nd_some (by omega) hx
    refine ow_aload_n (pc := 0) hX d_S_current_0 rfl ?_
    refine ow_iload_n (pc := 1) hX d_S_current_1 rfl ?_
    refine ow_callV (pc := 2) hX (kd_S Y n s c) Nat.zero_lt_one (c_S_isNode _ Y n s c hV u (nI a) hn) (cw_V hX mz_S_isNode kw_233 ⟨rfl, rfl⟩ (by decide)) rfl (Nat.le_of_ble_eq_true rfl) d_S_current_2 rfl ?_
    refine ow_st (st2 := .int (nI 1) :: _) (by rw [hx]; rfl) ?_
    refine ow_nz_eq (pc := 5) (tgt := 24) hX d_S_current_5 (by decide) (by first | assumption | omega | (have := hs1 a; omega)) (fun h5 => ?_) (fun h5 => ?_)
    · skip
      exact absurd h5 (by decide)
    · skip
      refine ow_aload_n (pc := 8) hX d_S_current_8 rfl ?_
      refine ow_gR (pc := 9) hX (kd_S Y n s c) 2 d_S_current_9 kw_203 rfl Nat.zero_lt_one ?_
      refine ow_iload_n (pc := 12) hX d_S_current_12 rfl ?_
      refine ow_aR (pc := 13) hX rfl d_S_current_13 Nat.zero_lt_one (by show _ < n; first | assumption | omega) ?_
      refine ow_gN (pc := 14) hX (kd_N Y n s c) 7 d_S_current_14 kw_77 rfl (by show _ < n; first | assumption | omega) ?_
      refine ow_nz_eq (pc := 17) (tgt := 24) hX d_S_current_17 (by decide) (by first | assumption | omega | (have := hs1 a; omega)) (fun h17 => ?_) (fun h17 => ?_)
      · skip
        refine ow_iconst (pc := 24) (v := nI 0) hX d_S_current_24 (by decide) ?_
        exact ow_zret (pc := 25) hX d_S_current_25 (nb_01 (by first | decide | assumption | omega | exact kbit_le _ _)) (by first | rfl | (simp only [kc_current, hx]; done) | (simp only [kc_current, hx]; (repeat' split) <;> first | rfl | omega | (simp_all; done))) (by first | rfl | (simp only [kc_current, hx]; done) | (simp only [kc_current, hx]; (repeat' split) <;> first | rfl | omega | (simp_all; done)))
      · skip
        refine ow_iconst (pc := 20) (v := nI 1) hX d_S_current_20 (by decide) ?_
        refine ow_goto (pc := 21) (tgt := 25) hX d_S_current_21 (by decide) ?_
        exact ow_zret (pc := 25) hX d_S_current_25 (nb_01 (by first | decide | assumption | omega | exact kbit_le _ _)) (by first | rfl | (simp only [kc_current, hx]; done) | (simp only [kc_current, hx]; (repeat' split) <;> first | rfl | omega | (simp_all; done))) (by first | rfl | (simp only [kc_current, hx]; done) | (simp only [kc_current, hx]; (repeat' split) <;> first | rfl | omega | (simp_all; done)))
set_option maxRecDepth 100000 in
set_option maxHeartbeats 4000000 in
theorem c_S_offset (l : Launch) (Y : YY) (n s c : Nat) (hV : pv_ok (vC Y n s c)) (u : UU) (x : Int32) (hn : n ≤ 6) : Ct l (vC Y n s c) ⟨"SlottedMesh", "offset", "(I)I"⟩ (wz ⟨"SlottedMesh", "offset", "(I)I"⟩ b_S_offset 2 (some .int)) (rd 1) [.ref (pv_ad (vC Y n s c) 0 0), .int x] u (some (.int (kc_offset n u x))) (u) := by
  refine ct_mk hV (by decide +kernel) (Nat.le_of_ble_eq_true rfl) (fun X hX => ?_)
  have hX : ox X (vC Y n s c) (rd 1) b_S_offset 2 "SlottedMesh" gz (some .int) := hX
  show ow X (vC Y n s c) (some (.int (kc_offset n u x))) (u) u [(0, .ref (pv_ad (vC Y n s c) 0 0)), (1, .int x)] 0 []
  rcases hx : nd n x with _ | a
  · skip
    refine ow_aload_n (pc := 0) hX d_S_offset_0 rfl ?_
    refine ow_iload_n (pc := 1) hX d_S_offset_1 rfl ?_
    refine ow_callV (pc := 2) hX (kd_S Y n s c) Nat.zero_lt_one (c_S_isNode _ Y n s c hV u x hn) (cw_V hX mz_S_isNode kw_233 ⟨rfl, rfl⟩ (by decide)) rfl (Nat.le_of_ble_eq_true rfl) d_S_offset_2 rfl ?_
    refine ow_st (st2 := .int (nI 0) :: _) (by rw [hx]; rfl) ?_
    refine ow_nz_eq (pc := 5) (tgt := 20) hX d_S_offset_5 (by decide) (by first | assumption | omega) (fun h5 => ?_) (fun h5 => ?_)
    · skip
      refine ow_sipush (pc := 20) (v := (-9999)) hX d_S_offset_20 (by decide) ?_
      exact ow_iret (pc := 23) hX d_S_offset_23 (by first | rfl | (simp only [kc_offset, hx]; done) | (simp only [kc_offset, hx]; (repeat' split) <;> first | rfl | omega | (simp_all; done))) (by first | rfl | (simp only [kc_offset, hx]; done) | (simp only [kc_offset, hx]; (repeat' split) <;> first | rfl | omega | (simp_all; done)))
    · skip
      exact absurd h5 (by decide)
  · skip
    obtain ⟨ha, rfl⟩ := nd_some (by omega) hx
    refine ow_aload_n (pc := 0) hX d_S_offset_0 rfl ?_
    refine ow_iload_n (pc := 1) hX d_S_offset_1 rfl ?_
    refine ow_callV (pc := 2) hX (kd_S Y n s c) Nat.zero_lt_one (c_S_isNode _ Y n s c hV u (nI a) hn) (cw_V hX mz_S_isNode kw_233 ⟨rfl, rfl⟩ (by decide)) rfl (Nat.le_of_ble_eq_true rfl) d_S_offset_2 rfl ?_
    refine ow_st (st2 := .int (nI 1) :: _) (by rw [hx]; rfl) ?_
    refine ow_nz_eq (pc := 5) (tgt := 20) hX d_S_offset_5 (by decide) (by first | assumption | omega) (fun h5 => ?_) (fun h5 => ?_)
    · skip
      exact absurd h5 (by decide)
    · skip
      refine ow_aload_n (pc := 8) hX d_S_offset_8 rfl ?_
      refine ow_gR (pc := 9) hX (kd_S Y n s c) 2 d_S_offset_9 kw_203 rfl Nat.zero_lt_one ?_
      refine ow_iload_n (pc := 12) hX d_S_offset_12 rfl ?_
      refine ow_aR (pc := 13) hX rfl d_S_offset_13 Nat.zero_lt_one (by show _ < n; first | assumption | omega) ?_
      refine ow_gI (pc := 14) hX (kd_N Y n s c) 8 d_S_offset_14 kw_79 rfl (by show _ < n; first | assumption | omega) ?_
      refine ow_goto (pc := 17) (tgt := 23) hX d_S_offset_17 (by decide) ?_
      exact ow_iret (pc := 23) hX d_S_offset_23 (by first | rfl | (simp only [kc_offset, hx]; done) | (simp only [kc_offset, hx]; (repeat' split) <;> first | rfl | omega | (simp_all; done))) (by first | rfl | (simp only [kc_offset, hx]; done) | (simp only [kc_offset, hx]; (repeat' split) <;> first | rfl | omega | (simp_all; done)))
set_option maxRecDepth 100000 in
set_option maxHeartbeats 4000000 in
theorem c_S_latest (l : Launch) (Y : YY) (n s c : Nat) (hV : pv_ok (vC Y n s c)) (u : UU) (x : Int32) (hn : n ≤ 6) (h1 : 0 < n) : Ct l (vC Y n s c) ⟨"SlottedMesh", "latest", "(I)I"⟩ (wz ⟨"SlottedMesh", "latest", "(I)I"⟩ b_S_latest 2 (some .int)) (rd 1) [.ref (pv_ad (vC Y n s c) 0 0), .int x] u (some (.int (kc_latest n u x))) (u) := by
  refine ct_mk hV (by decide +kernel) (Nat.le_of_ble_eq_true rfl) (fun X hX => ?_)
  have hX : ox X (vC Y n s c) (rd 1) b_S_latest 2 "SlottedMesh" gz (some .int) := hX
  show ow X (vC Y n s c) (some (.int (kc_latest n u x))) (u) u [(0, .ref (pv_ad (vC Y n s c) 0 0)), (1, .int x)] 0 []
  rcases hx : nd n x with _ | a
  · skip
    refine ow_aload_n (pc := 0) hX d_S_latest_0 rfl ?_
    refine ow_iload_n (pc := 1) hX d_S_latest_1 rfl ?_
    refine ow_callV (pc := 2) hX (kd_S Y n s c) Nat.zero_lt_one (c_S_isNode _ Y n s c hV u x hn) (cw_V hX mz_S_isNode kw_233 ⟨rfl, rfl⟩ (by decide)) rfl (Nat.le_of_ble_eq_true rfl) d_S_latest_2 rfl ?_
    refine ow_st (st2 := .int (nI 0) :: _) (by rw [hx]; rfl) ?_
    refine ow_nz_eq (pc := 5) (tgt := 22) hX d_S_latest_5 (by decide) (by first | assumption | omega) (fun h5 => ?_) (fun h5 => ?_)
    · skip
      refine ow_iconst (pc := 22) (v := (-1)) hX d_S_latest_22 (by decide) ?_
      exact ow_iret (pc := 23) hX d_S_latest_23 (by first | rfl | (simp only [kc_latest, hx]; done) | (simp only [kc_latest, hx]; (repeat' split) <;> first | rfl | omega | (simp_all; done))) (by first | rfl | (simp only [kc_latest, hx]; done) | (simp only [kc_latest, hx]; (repeat' split) <;> first | rfl | omega | (simp_all; done)))
    · skip
      exact absurd h5 (by decide)
  · skip
    obtain ⟨ha, rfl⟩ := nd_some (by omega) hx
    refine ow_aload_n (pc := 0) hX d_S_latest_0 rfl ?_
    refine ow_iload_n (pc := 1) hX d_S_latest_1 rfl ?_
    refine ow_callV (pc := 2) hX (kd_S Y n s c) Nat.zero_lt_one (c_S_isNode _ Y n s c hV u (nI a) hn) (cw_V hX mz_S_isNode kw_233 ⟨rfl, rfl⟩ (by decide)) rfl (Nat.le_of_ble_eq_true rfl) d_S_latest_2 rfl ?_
    refine ow_st (st2 := .int (nI 1) :: _) (by rw [hx]; rfl) ?_
    refine ow_nz_eq (pc := 5) (tgt := 22) hX d_S_latest_5 (by decide) (by first | assumption | omega) (fun h5 => ?_) (fun h5 => ?_)
    · skip
      exact absurd h5 (by decide)
    · skip
      refine ow_aload_n (pc := 8) hX d_S_latest_8 rfl ?_
      refine ow_gR (pc := 9) hX (kd_S Y n s c) 2 d_S_latest_9 kw_203 rfl Nat.zero_lt_one ?_
      refine ow_iconst (pc := 12) (v := nI 0) hX d_S_latest_12 (by decide) ?_
      refine ow_aR (pc := 13) hX rfl d_S_latest_13 Nat.zero_lt_one (by show _ < n; first | assumption | omega) ?_
      refine ow_gR (pc := 14) hX (kd_N Y n s c) 4 d_S_latest_14 kw_71 rfl (by show _ < n; first | assumption | omega) ?_
      refine ow_iload_n (pc := 17) hX d_S_latest_17 rfl ?_
      refine ow_aI (pc := 18) hX rfl d_S_latest_18 (by show _ < n; first | assumption | omega) (by show _ < n; first | assumption | omega) ?_
      refine ow_goto (pc := 19) (tgt := 23) hX d_S_latest_19 (by decide) ?_
      exact ow_iret (pc := 23) hX d_S_latest_23 (by first | rfl | (simp only [kc_latest, hx]; done) | (simp only [kc_latest, hx]; (repeat' split) <;> first | rfl | omega | (simp_all; done))) (by first | rfl | (simp only [kc_latest, hx]; done) | (simp only [kc_latest, hx]; (repeat' split) <;> first | rfl | omega | (simp_all; done)))
set_option maxRecDepth 100000 in
set_option maxHeartbeats 4000000 in
theorem c_S_actuator (l : Launch) (Y : YY) (n s c : Nat) (hV : pv_ok (vC Y n s c)) (u : UU) (x : Int32) (hn : n ≤ 6) : Ct l (vC Y n s c) ⟨"SlottedMesh", "actuator", "(I)I"⟩ (wz ⟨"SlottedMesh", "actuator", "(I)I"⟩ b_S_actuator 2 (some .int)) (rd 2) [.ref (pv_ad (vC Y n s c) 0 0), .int x] u (some (.int (kc_actuator n u x))) (u) := by
  refine ct_mk hV (by decide +kernel) (Nat.le_of_ble_eq_true rfl) (fun X hX => ?_)
  have hX : ox X (vC Y n s c) (rd 2) b_S_actuator 2 "SlottedMesh" gz (some .int) := hX
  show ow X (vC Y n s c) (some (.int (kc_actuator n u x))) (u) u [(0, .ref (pv_ad (vC Y n s c) 0 0)), (1, .int x)] 0 []
  rcases hx : nf n x with _ | a
  · skip
    refine ow_aload_n (pc := 0) hX d_S_actuator_0 rfl ?_
    refine ow_iload_n (pc := 1) hX d_S_actuator_1 rfl ?_
    refine ow_callV (pc := 2) hX (kd_S Y n s c) Nat.zero_lt_one (c_S_isFieldNode _ Y n s c hV u x hn) (cw_V hX mz_S_isFieldNode kw_316 ⟨rfl, rfl⟩ (by decide)) rfl (Nat.le_of_ble_eq_true rfl) d_S_actuator_2 rfl ?_
    refine ow_st (st2 := .int (nI 0) :: _) (by rw [hx]; rfl) ?_
    refine ow_nz_eq (pc := 5) (tgt := 20) hX d_S_actuator_5 (by decide) (by first | assumption | omega) (fun h5 => ?_) (fun h5 => ?_)
    · skip
      refine ow_sipush (pc := 20) (v := (-9999)) hX d_S_actuator_20 (by decide) ?_
      exact ow_iret (pc := 23) hX d_S_actuator_23 (by first | rfl | (simp only [kc_actuator, hx]; done) | (simp only [kc_actuator, hx]; (repeat' split) <;> first | rfl | omega | (simp_all; done))) (by first | rfl | (simp only [kc_actuator, hx]; done) | (simp only [kc_actuator, hx]; (repeat' split) <;> first | rfl | omega | (simp_all; done)))
    · skip
      exact absurd h5 (by decide)
  · skip
    obtain ⟨ha, ha0, rfl⟩ := nf_some (by omega) hx
    refine ow_aload_n (pc := 0) hX d_S_actuator_0 rfl ?_
    refine ow_iload_n (pc := 1) hX d_S_actuator_1 rfl ?_
    refine ow_callV (pc := 2) hX (kd_S Y n s c) Nat.zero_lt_one (c_S_isFieldNode _ Y n s c hV u (nI a) hn) (cw_V hX mz_S_isFieldNode kw_316 ⟨rfl, rfl⟩ (by decide)) rfl (Nat.le_of_ble_eq_true rfl) d_S_actuator_2 rfl ?_
    refine ow_st (st2 := .int (nI 1) :: _) (by rw [hx]; rfl) ?_
    refine ow_nz_eq (pc := 5) (tgt := 20) hX d_S_actuator_5 (by decide) (by first | assumption | omega) (fun h5 => ?_) (fun h5 => ?_)
    · skip
      exact absurd h5 (by decide)
    · skip
      refine ow_aload_n (pc := 8) hX d_S_actuator_8 rfl ?_
      refine ow_gR (pc := 9) hX (kd_S Y n s c) 2 d_S_actuator_9 kw_203 rfl Nat.zero_lt_one ?_
      refine ow_iload_n (pc := 12) hX d_S_actuator_12 rfl ?_
      refine ow_aR (pc := 13) hX rfl d_S_actuator_13 Nat.zero_lt_one (by show _ < n; first | assumption | omega) ?_
      refine ow_gI (pc := 14) hX (kd_N Y n s c) 13 d_S_actuator_14 kw_86 rfl (by show _ < n; first | assumption | omega) ?_
      refine ow_goto (pc := 17) (tgt := 23) hX d_S_actuator_17 (by decide) ?_
      exact ow_iret (pc := 23) hX d_S_actuator_23 (by first | rfl | (simp only [kc_actuator, hx]; done) | (simp only [kc_actuator, hx]; (repeat' split) <;> first | rfl | omega | (simp_all; done))) (by first | rfl | (simp only [kc_actuator, hx]; done) | (simp only [kc_actuator, hx]; (repeat' split) <;> first | rfl | omega | (simp_all; done)))
set_option maxRecDepth 100000 in
set_option maxHeartbeats 4000000 in
theorem c_S_sent (l : Launch) (Y : YY) (n s c : Nat) (hV : pv_ok (vC Y n s c)) (u : UU)  : Ct l (vC Y n s c) ⟨"SlottedMesh", "sent", "()I"⟩ (wz ⟨"SlottedMesh", "sent", "()I"⟩ b_S_sent 1 (some .int)) (rd 0) [.ref (pv_ad (vC Y n s c) 0 0)] u (some (.int (u.2.1 0 0 8))) (u) := by
  refine ct_mk hV (by decide +kernel) (Nat.le_of_ble_eq_true rfl) (fun X hX => ?_)
  have hX : ox X (vC Y n s c) (rd 0) b_S_sent 1 "SlottedMesh" gz (some .int) := hX
  show ow X (vC Y n s c) (some (.int (u.2.1 0 0 8))) (u) u [(0, .ref (pv_ad (vC Y n s c) 0 0))] 0 []
  refine ow_aload_n (pc := 0) hX d_S_sent_0 rfl ?_
  refine ow_gI (pc := 1) hX (kd_S Y n s c) 8 d_S_sent_1 kw_209 rfl Nat.zero_lt_one ?_
  exact ow_iret (pc := 4) hX d_S_sent_4 (by rfl) (by rfl)
theorem nd_no {n : Nat} {x : Int32} (h : nd n x = none) (h1 : ¬ x < 0) (h2 : x < nI n) : False := by
  unfold nd at h
  rw [if_neg h1] at h
  split at h
  · rename_i h3
    rw [Int32.le_iff_toInt_le] at h3
    rw [Int32.lt_iff_toInt_lt] at h2
    omega
  · cases h
theorem nd_out {x : Int32} (h : nd 4 x = none) : x.toInt < 0 ∨ 3 < x.toInt := by
  by_cases h1 : x < 0
  · left
    rw [Int32.lt_iff_toInt_lt] at h1
    exact h1
  · right
    by_cases h2 : x < nI 4
    · exact (nd_no h h1 h2).elim
    · rw [Int32.lt_iff_toInt_lt, nI_toInt (by decide)] at h2
      omega
set_option maxRecDepth 100000 in
set_option maxHeartbeats 4000000 in
theorem c_S_count (l : Launch) (Y : YY) (n s c : Nat) (hV : pv_ok (vC Y n s c)) (u : UU) (x k : Int32) (hn : n ≤ 6) : Ct l (vC Y n s c) ⟨"SlottedMesh", "count", "(II)I"⟩ (wz ⟨"SlottedMesh", "count", "(II)I"⟩ b_S_count 3 (some .int)) (rd 1) [.ref (pv_ad (vC Y n s c) 0 0), .int x, .int k] u (some (.int (kc_count n u x k))) (u) := by
  refine ct_mk hV (by decide +kernel) (Nat.le_of_ble_eq_true rfl) (fun X hX => ?_)
  have hX : ox X (vC Y n s c) (rd 1) b_S_count 3 "SlottedMesh" gz (some .int) := hX
  show ow X (vC Y n s c) (some (.int (kc_count n u x k))) (u) u [(0, .ref (pv_ad (vC Y n s c) 0 0)), (1, .int x), (2, .int k)] 0 []
  rcases hx : nd n x with _ | a
  · skip
    refine ow_aload_n (pc := 0) hX d_S_count_0 rfl ?_
    refine ow_iload_n (pc := 1) hX d_S_count_1 rfl ?_
    refine ow_callV (pc := 2) hX (kd_S Y n s c) Nat.zero_lt_one (c_S_isNode _ Y n s c hV u x hn) (cw_V hX mz_S_isNode kw_233 ⟨rfl, rfl⟩ (by decide)) rfl (Nat.le_of_ble_eq_true rfl) d_S_count_2 rfl ?_
    refine ow_st (st2 := .int (nI 0) :: _) (by rw [hx]; rfl) ?_
    refine ow_nz_ne (pc := 5) (tgt := 10) hX d_S_count_5 (by decide) (by first | assumption | omega) (fun h5 => ?_) (fun h5 => ?_)
    · skip
      exact absurd h5 (by decide)
    · skip
      refine ow_iconst (pc := 8) (v := (-1)) hX d_S_count_8 (by decide) ?_
      exact ow_iret (pc := 9) hX d_S_count_9 (by first | rfl | (simp only [kc_count, hx]; done)) (by first | rfl | (simp only [kc_count, hx]; done))
  · obtain ⟨ha, rfl⟩ := nd_some (by omega) hx
    refine ow_aload_n (pc := 0) hX d_S_count_0 rfl ?_
    refine ow_iload_n (pc := 1) hX d_S_count_1 rfl ?_
    refine ow_callV (pc := 2) hX (kd_S Y n s c) Nat.zero_lt_one (c_S_isNode _ Y n s c hV u (nI a) hn) (cw_V hX mz_S_isNode kw_233 ⟨rfl, rfl⟩ (by decide)) rfl (Nat.le_of_ble_eq_true rfl) d_S_count_2 rfl ?_
    refine ow_st (st2 := .int (nI 1) :: _) (by rw [hx]; rfl) ?_
    refine ow_nz_ne (pc := 5) (tgt := 10) hX d_S_count_5 (by decide) (by first | assumption | omega) (fun h5 => ?_) (fun h5 => ?_)
    · skip
      refine ow_iload_n (pc := 10) hX d_S_count_10 rfl ?_
      rcases hy : nd 4 k with _ | b
      · refine ow_tableOut (pc := 11) (tgt := 86) hX d_S_count_11 (nd_out hy) (by decide) ?_
        refine ow_iconst (pc := 86) (v := (-1)) hX d_S_count_86 (by decide) ?_
        exact ow_iret (pc := 87) hX d_S_count_87 (by first | rfl | (simp only [kc_count, hx, hy]; done)) (by first | rfl | (simp only [kc_count, hx, hy]; done))
      · obtain ⟨hb, rfl⟩ := nd_some (by omega) hy
        rcases (by omega : b = 0 ∨ b = 1 ∨ b = 2 ∨ b = 3) with rfl | rfl | rfl | rfl
        · refine ow_tableIn (pc := 11) (tgt := 40) (off := 29) hX d_S_count_11 (by decide) (by decide) (by decide) (by decide) ?_
          refine ow_aload_n (pc := 40) hX d_S_count_40 rfl ?_
          refine ow_gR (pc := 41) hX (kd_S Y n s c) 2 d_S_count_41 kw_203 rfl Nat.zero_lt_one ?_
          refine ow_iload_n (pc := 44) hX d_S_count_44 rfl ?_
          refine ow_aR (pc := 45) hX rfl d_S_count_45 Nat.zero_lt_one (by show _ < n; first | assumption | omega) ?_
          refine ow_gE (pc := 46) hX (kd_N Y n s c) 2 d_S_count_46 kw_67 rfl (by show _ < n; first | assumption | omega) ?_
          refine ow_gN (pc := 49) hX (kd_F Y n s c) 3 d_S_count_49 kw_49 rfl (by show _ < 2 * n; first | assumption | omega) ?_
          exact ow_iret (pc := 52) hX d_S_count_52 (by first | rfl | (simp only [kc_count, hx, hy]; done)) (by first | rfl | (simp only [kc_count, hx, hy]; done))
        · refine ow_tableIn (pc := 11) (tgt := 53) (off := 42) hX d_S_count_11 (by decide) (by decide) (by decide) (by decide) ?_
          refine ow_aload_n (pc := 53) hX d_S_count_53 rfl ?_
          refine ow_gR (pc := 54) hX (kd_S Y n s c) 2 d_S_count_54 kw_203 rfl Nat.zero_lt_one ?_
          refine ow_iload_n (pc := 57) hX d_S_count_57 rfl ?_
          refine ow_aR (pc := 58) hX rfl d_S_count_58 Nat.zero_lt_one (by show _ < n; first | assumption | omega) ?_
          refine ow_gO (pc := 59) hX (kd_N Y n s c) 3 d_S_count_59 kw_69 rfl (by show _ < n; first | assumption | omega) ?_
          refine ow_gN (pc := 62) hX (kd_F Y n s c) 3 d_S_count_62 kw_49 rfl (by show _ < 2 * n; first | assumption | omega) ?_
          exact ow_iret (pc := 65) hX d_S_count_65 (by first | rfl | (simp only [kc_count, hx, hy]; done)) (by first | rfl | (simp only [kc_count, hx, hy]; done))
        · refine ow_tableIn (pc := 11) (tgt := 66) (off := 55) hX d_S_count_11 (by decide) (by decide) (by decide) (by decide) ?_
          refine ow_aload_n (pc := 66) hX d_S_count_66 rfl ?_
          refine ow_gR (pc := 67) hX (kd_S Y n s c) 2 d_S_count_67 kw_203 rfl Nat.zero_lt_one ?_
          refine ow_iload_n (pc := 70) hX d_S_count_70 rfl ?_
          refine ow_aR (pc := 71) hX rfl d_S_count_71 Nat.zero_lt_one (by show _ < n; first | assumption | omega) ?_
          refine ow_gN (pc := 72) hX (kd_N Y n s c) 10 d_S_count_72 kw_82 rfl (by show _ < n; first | assumption | omega) ?_
          exact ow_iret (pc := 75) hX d_S_count_75 (by first | rfl | (simp only [kc_count, hx, hy]; done)) (by first | rfl | (simp only [kc_count, hx, hy]; done))
        · refine ow_tableIn (pc := 11) (tgt := 76) (off := 65) hX d_S_count_11 (by decide) (by decide) (by decide) (by decide) ?_
          refine ow_aload_n (pc := 76) hX d_S_count_76 rfl ?_
          refine ow_gR (pc := 77) hX (kd_S Y n s c) 2 d_S_count_77 kw_203 rfl Nat.zero_lt_one ?_
          refine ow_iload_n (pc := 80) hX d_S_count_80 rfl ?_
          refine ow_aR (pc := 81) hX rfl d_S_count_81 Nat.zero_lt_one (by show _ < n; first | assumption | omega) ?_
          refine ow_gN (pc := 82) hX (kd_N Y n s c) 11 d_S_count_82 kw_84 rfl (by show _ < n; first | assumption | omega) ?_
          exact ow_iret (pc := 85) hX d_S_count_85 (by first | rfl | (simp only [kc_count, hx, hy]; done)) (by first | rfl | (simp only [kc_count, hx, hy]; done))
    · skip
      exact absurd h5 (by decide)
set_option maxRecDepth 100000 in
set_option maxHeartbeats 4000000 in
theorem c_S_cached (l : Launch) (Y : YY) (n s c : Nat) (hV : pv_ok (vC Y n s c)) (u : UU) (x k : Int32) (hn : n ≤ 6) (hk : ∀ i, u.1 6 i 1 ≤ 3) : Ct l (vC Y n s c) ⟨"SlottedMesh", "cached", "(II)I"⟩ (wz ⟨"SlottedMesh", "cached", "(II)I"⟩ b_S_cached 3 (some .int)) (rd 1) [.ref (pv_ad (vC Y n s c) 0 0), .int x, .int k] u (some (.int (kc_cached n u x k))) (u) := by
  refine ct_mk hV (by decide +kernel) (Nat.le_of_ble_eq_true rfl) (fun X hX => ?_)
  have hX : ox X (vC Y n s c) (rd 1) b_S_cached 3 "SlottedMesh" gz (some .int) := hX
  show ow X (vC Y n s c) (some (.int (kc_cached n u x k))) (u) u [(0, .ref (pv_ad (vC Y n s c) 0 0)), (1, .int x), (2, .int k)] 0 []
  rcases hx : nd n x with _ | a
  · skip
    refine ow_aload_n (pc := 0) hX d_S_cached_0 rfl ?_
    refine ow_iload_n (pc := 1) hX d_S_cached_1 rfl ?_
    refine ow_callV (pc := 2) hX (kd_S Y n s c) Nat.zero_lt_one (c_S_isNode _ Y n s c hV u x hn) (cw_V hX mz_S_isNode kw_233 ⟨rfl, rfl⟩ (by decide)) rfl (Nat.le_of_ble_eq_true rfl) d_S_cached_2 rfl ?_
    refine ow_st (st2 := .int (nI 0) :: _) (by rw [hx]; rfl) ?_
    refine ow_nz_eq (pc := 5) (tgt := 25) hX d_S_cached_5 (by decide) (by first | assumption | omega) (fun h5 => ?_) (fun h5 => ?_)
    · skip
      refine ow_sipush (pc := 25) (v := (-9999)) hX d_S_cached_25 (by decide) ?_
      exact ow_iret (pc := 28) hX d_S_cached_28 (by first | rfl | (simp only [kc_cached, hx]; done)) (by first | rfl | (simp only [kc_cached, hx]; done))
    · skip
      exact absurd h5 (by decide)
  · obtain ⟨ha, rfl⟩ := nd_some (by omega) hx
    have hka := hk a
    rcases hy : nd (u.1 6 a 1) k with _ | b
    · skip
      refine ow_aload_n (pc := 0) hX d_S_cached_0 rfl ?_
      refine ow_iload_n (pc := 1) hX d_S_cached_1 rfl ?_
      refine ow_callV (pc := 2) hX (kd_S Y n s c) Nat.zero_lt_one (c_S_isNode _ Y n s c hV u (nI a) hn) (cw_V hX mz_S_isNode kw_233 ⟨rfl, rfl⟩ (by decide)) rfl (Nat.le_of_ble_eq_true rfl) d_S_cached_2 rfl ?_
      refine ow_st (st2 := .int (nI 1) :: _) (by rw [hx]; rfl) ?_
      refine ow_nz_eq (pc := 5) (tgt := 25) hX d_S_cached_5 (by decide) (by first | assumption | omega) (fun h5 => ?_) (fun h5 => ?_)
      · skip
        exact absurd h5 (by decide)
      · skip
        refine ow_iload_n (pc := 8) hX d_S_cached_8 rfl ?_
        refine ow_if_lt (pc := 9) (tgt := 25) hX d_S_cached_9 (by decide) (fun h9 => ?_) (fun h9 => ?_)
        · skip
          refine ow_sipush (pc := 25) (v := (-9999)) hX d_S_cached_25 (by decide) ?_
          exact ow_iret (pc := 28) hX d_S_cached_28 (by first | rfl | (simp only [kc_cached, hx, hy]; done)) (by first | rfl | (simp only [kc_cached, hx, hy]; done))
        · skip
          refine ow_iload_n (pc := 12) hX d_S_cached_12 rfl ?_
          refine ow_aload_n (pc := 13) hX d_S_cached_13 rfl ?_
          refine ow_gR (pc := 14) hX (kd_S Y n s c) 4 d_S_cached_14 kw_205 rfl Nat.zero_lt_one ?_
          refine ow_iload_n (pc := 17) hX d_S_cached_17 rfl ?_
          refine ow_aR (pc := 18) hX rfl d_S_cached_18 Nat.zero_lt_one (by show _ < n; first | assumption | omega) ?_
          refine ow_gN (pc := 19) hX (kd_O Y n s c) 1 d_S_cached_19 kw_124 rfl (by show _ < n; first | assumption | omega) ?_
          refine ow_ic_lt (pc := 22) (tgt := 29) hX d_S_cached_22 (by decide) (fun h22 => ?_) (fun h22 => ?_)
          · skip
            exact (nd_no hy h9 h22).elim
          · skip
            refine ow_sipush (pc := 25) (v := (-9999)) hX d_S_cached_25 (by decide) ?_
            exact ow_iret (pc := 28) hX d_S_cached_28 (by first | rfl | (simp only [kc_cached, hx, hy]; done)) (by first | rfl | (simp only [kc_cached, hx, hy]; done))
    · obtain ⟨hb, rfl⟩ := nd_some (by omega) hy
      refine ow_aload_n (pc := 0) hX d_S_cached_0 rfl ?_
      refine ow_iload_n (pc := 1) hX d_S_cached_1 rfl ?_
      refine ow_callV (pc := 2) hX (kd_S Y n s c) Nat.zero_lt_one (c_S_isNode _ Y n s c hV u (nI a) hn) (cw_V hX mz_S_isNode kw_233 ⟨rfl, rfl⟩ (by decide)) rfl (Nat.le_of_ble_eq_true rfl) d_S_cached_2 rfl ?_
      refine ow_st (st2 := .int (nI 1) :: _) (by rw [hx]; rfl) ?_
      refine ow_nz_eq (pc := 5) (tgt := 25) hX d_S_cached_5 (by decide) (by first | assumption | omega) (fun h5 => ?_) (fun h5 => ?_)
      · skip
        exact absurd h5 (by decide)
      · skip
        refine ow_iload_n (pc := 8) hX d_S_cached_8 rfl ?_
        refine ow_nz_lt (pc := 9) (tgt := 25) hX d_S_cached_9 (by decide) (by first | assumption | omega) ?_
        refine ow_iload_n (pc := 12) hX d_S_cached_12 rfl ?_
        refine ow_aload_n (pc := 13) hX d_S_cached_13 rfl ?_
        refine ow_gR (pc := 14) hX (kd_S Y n s c) 4 d_S_cached_14 kw_205 rfl Nat.zero_lt_one ?_
        refine ow_iload_n (pc := 17) hX d_S_cached_17 rfl ?_
        refine ow_aR (pc := 18) hX rfl d_S_cached_18 Nat.zero_lt_one (by show _ < n; first | assumption | omega) ?_
        refine ow_gN (pc := 19) hX (kd_O Y n s c) 1 d_S_cached_19 kw_124 rfl (by show _ < n; first | assumption | omega) ?_
        refine ow_nc_lt (pc := 22) (tgt := 29) hX d_S_cached_22 (by decide) (by first | assumption | omega) (by first | assumption | omega) (fun h22 => ?_) (fun h22 => ?_)
        · skip
          refine ow_aload_n (pc := 29) hX d_S_cached_29 rfl ?_
          refine ow_gR (pc := 30) hX (kd_S Y n s c) 4 d_S_cached_30 kw_205 rfl Nat.zero_lt_one ?_
          refine ow_iload_n (pc := 33) hX d_S_cached_33 rfl ?_
          refine ow_aR (pc := 34) hX rfl d_S_cached_34 Nat.zero_lt_one (by show _ < n; first | assumption | omega) ?_
          refine ow_gR (pc := 35) hX (kd_O Y n s c) 0 d_S_cached_35 kw_122 rfl (by show _ < n; first | assumption | omega) ?_
          refine ow_iload_n (pc := 38) hX d_S_cached_38 rfl ?_
          refine ow_aI (pc := 39) hX rfl d_S_cached_39 (by show _ < n; first | assumption | omega) (by show _ < 3; first | assumption | omega) ?_
          exact ow_iret (pc := 40) hX d_S_cached_40 (by first | rfl | (simp only [kc_cached, hx, hy]; done)) (by first | rfl | (simp only [kc_cached, hx, hy]; done))
        · skip
          exact absurd hb (by omega)
