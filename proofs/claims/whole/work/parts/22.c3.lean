/-! Plan: searches and places (by program, wip/whole/gen/c3.py) -/
/-- a near node of a rank -/
def knr (u : UU) (p i : Nat) (rk : Int32) : Nat → Bool := fun k => decide (u.1 7 i k ≠ 0 ∧ u.2.1 16 p k = rk)
def kc_next (n : Nat) (u : UU) (p i : Nat) (rk : Int32) (f : Nat) : Option Nat := fnd (knr u p i rk) (n - f) f
theorem knr_t {u : UU} {p i k : Nat} {rk : Int32} (h1 : ¬ u.1 7 i k = 0) (h2 : u.2.1 16 p k = rk) : knr u p i rk k = true := decide_eq_true ⟨h1, h2⟩
theorem knr_f1 {u : UU} {p i k : Nat} {rk : Int32} (h1 : u.1 7 i k = 0) : knr u p i rk k = false := decide_eq_false (fun h => h.1 h1)
theorem knr_f2 {u : UU} {p i k : Nat} {rk : Int32} (h2 : ¬ u.2.1 16 p k = rk) : knr u p i rk k = false := decide_eq_false (fun h => h2 h.2)
theorem fnd_t {p : Nat → Bool} {j k : Nat} (h : p k = true) : fnd p (j + 1) k = some k := by unfold fnd; rw [if_pos h]
theorem fnd_f {p : Nat → Bool} {j k : Nat} (h : p k = false) : fnd p (j + 1) k = fnd p j (k + 1) := by
  rw [fnd, if_neg (by rw [h]; decide)]
set_option maxRecDepth 100000 in
set_option maxHeartbeats 4000000 in
theorem w_P_next {X : OX} (Y : YY) (n s c : Nat) (hX : ox X (vC Y n s c) (rd 0) b_P_nextNearOfRank 5 "SlottedMesh$Plan" gz (some .int)) (u : UU) (p i : Nat) (rk : Int32) (f : Nat) (hp : p < 2) (hi : i < n) (hz : ∀ a b, u.1 7 a b ≤ 1) (hn : n ≤ 6) : ∀ j k, k + j = n → ow X (vC Y n s c) (some (.int (io (fnd (knr u p i rk) j k)))) u u [(0, .ref (pv_ad (vC Y n s c) 15 p)), (1, .ref (pv_ad (vC Y n s c) 4 i)), (2, .int rk), (3, .int (nI f)), (4, .int (nI k))] 3 [] := by
  intro j
  induction j with
  | zero =>
    intro k hk
    refine ow_iload (pc := 3) hX d_P_nextNearOfRank_3 rfl ?_
    refine ow_aload_n (pc := 5) hX d_P_nextNearOfRank_5 rfl ?_
    refine ow_gR (pc := 6) hX (kd_P Y n s c) 2 d_P_nextNearOfRank_6 kw_170 rfl (by show _ < 2; first | assumption | omega) ?_
    refine ow_len (pc := 9) hX rfl (by decide) d_P_nextNearOfRank_9 (by show _ < 2; first | assumption | omega) ?_
    refine ow_st (st2 := .int (nI (n)) :: _) rfl ?_
    refine ow_nc_ge (pc := 10) (tgt := 43) hX d_P_nextNearOfRank_10 (by decide) (by first | assumption | omega | (have := hz i k; omega)) (by first | assumption | omega | (have := hz i k; omega)) (fun h10 => ?_) (fun h10 => ?_)
    · skip
      refine ow_iconst (pc := 43) (v := (-1)) hX d_P_nextNearOfRank_43 (by decide) ?_
      exact ow_iret (pc := 44) hX d_P_nextNearOfRank_44 (by first | rfl | (unfold fnd; rfl)) (by first | rfl | (unfold fnd; rfl))
    · skip
      exact absurd h10 (by omega)
  | succ j ih =>
    intro k hk
    refine ow_iload (pc := 3) hX d_P_nextNearOfRank_3 rfl ?_
    refine ow_aload_n (pc := 5) hX d_P_nextNearOfRank_5 rfl ?_
    refine ow_gR (pc := 6) hX (kd_P Y n s c) 2 d_P_nextNearOfRank_6 kw_170 rfl (by show _ < 2; first | assumption | omega) ?_
    refine ow_len (pc := 9) hX rfl (by decide) d_P_nextNearOfRank_9 (by show _ < 2; first | assumption | omega) ?_
    refine ow_st (st2 := .int (nI (n)) :: _) rfl ?_
    refine ow_nc_ge (pc := 10) (tgt := 43) hX d_P_nextNearOfRank_10 (by decide) (by first | assumption | omega | (have := hz i k; omega)) (by first | assumption | omega | (have := hz i k; omega)) (fun h10 => ?_) (fun h10 => ?_)
    · skip
      exact absurd h10 (by omega)
    · skip
      refine ow_aload_n (pc := 13) hX d_P_nextNearOfRank_13 rfl ?_
      refine ow_gR (pc := 14) hX (kd_N Y n s c) 1 d_P_nextNearOfRank_14 kw_65 rfl (by show _ < n; first | assumption | omega) ?_
      refine ow_iload (pc := 17) hX d_P_nextNearOfRank_17 rfl ?_
      refine ow_aZ (pc := 19) hX rfl d_P_nextNearOfRank_19 (by show _ < n; first | assumption | omega) (by show _ < n; first | assumption | omega) ?_
      refine ow_nz_eq (pc := 20) (tgt := 37) hX d_P_nextNearOfRank_20 (by decide) (by first | assumption | omega | (have := hz i k; omega)) (fun h20 => ?_) (fun h20 => ?_)
      · skip
        refine ow_iinc (pc := 37) (l2 := [(0, _), (1, _), (2, _), (3, _), (4, _)]) hX d_P_nextNearOfRank_37 rfl (ii_1 _) (by decide) rfl rfl ?_
        refine ow_goto (pc := 40) (tgt := 3) hX d_P_nextNearOfRank_40 (by decide) ?_
        first | rw [fnd_f (knr_f1 h20)] | rw [fnd_f (knr_f2 h31)]
        exact ih (k + 1) (by omega)
      · skip
        refine ow_aload_n (pc := 23) hX d_P_nextNearOfRank_23 rfl ?_
        refine ow_gR (pc := 24) hX (kd_P Y n s c) 2 d_P_nextNearOfRank_24 kw_170 rfl (by show _ < 2; first | assumption | omega) ?_
        refine ow_iload (pc := 27) hX d_P_nextNearOfRank_27 rfl ?_
        refine ow_aI (pc := 29) hX rfl d_P_nextNearOfRank_29 (by show _ < 2; first | assumption | omega) (by show _ < n; first | assumption | omega) ?_
        refine ow_iload_n (pc := 30) hX d_P_nextNearOfRank_30 rfl ?_
        refine ow_ic_ne (pc := 31) (tgt := 37) hX d_P_nextNearOfRank_31 (by decide) (fun h31 => ?_) (fun h31 => ?_)
        · skip
          refine ow_iinc (pc := 37) (l2 := [(0, _), (1, _), (2, _), (3, _), (4, _)]) hX d_P_nextNearOfRank_37 rfl (ii_1 _) (by decide) rfl rfl ?_
          refine ow_goto (pc := 40) (tgt := 3) hX d_P_nextNearOfRank_40 (by decide) ?_
          first | rw [fnd_f (knr_f1 h20)] | rw [fnd_f (knr_f2 h31)]
          exact ih (k + 1) (by omega)
        · skip
          refine ow_iload (pc := 34) hX d_P_nextNearOfRank_34 rfl ?_
          exact ow_iret (pc := 36) hX d_P_nextNearOfRank_36 (by first | rfl | rw [fnd_t (knr_t h20 h31)]; rfl) (by first | rfl | rw [fnd_t (knr_t h20 h31)]; rfl)
set_option maxRecDepth 100000 in
set_option maxHeartbeats 4000000 in
theorem c_P_nextNearOfRank (l : Launch) (Y : YY) (n s c : Nat) (hV : pv_ok (vC Y n s c)) (u : UU) (p i : Nat) (rk : Int32) (f : Nat) (hp : p < 2) (hi : i < n) (hz : ∀ a b, u.1 7 a b ≤ 1) (hn : n ≤ 6) (hf : f ≤ n) : Ct l (vC Y n s c) ⟨"SlottedMesh$Plan", "nextNearOfRank", "(LSlottedMesh$Node;II)I"⟩ (wz ⟨"SlottedMesh$Plan", "nextNearOfRank", "(LSlottedMesh$Node;II)I"⟩ b_P_nextNearOfRank 5 (some .int)) (rd 0) [.ref (pv_ad (vC Y n s c) 15 p), .ref (pv_ad (vC Y n s c) 4 i), .int rk, .int (nI f)] u (some (.int (io (kc_next n u p i rk f)))) (u) := by
  refine ct_mk hV (by decide +kernel) (Nat.le_of_ble_eq_true rfl) (fun X hX => ?_)
  have hX : ox X (vC Y n s c) (rd 0) b_P_nextNearOfRank 5 "SlottedMesh$Plan" gz (some .int) := hX
  show ow X (vC Y n s c) (some (.int (io (kc_next n u p i rk f)))) (u) u [(0, .ref (pv_ad (vC Y n s c) 15 p)), (1, .ref (pv_ad (vC Y n s c) 4 i)), (2, .int rk), (3, .int (nI f))] 0 []
  refine ow_iload_n (pc := 0) hX d_P_nextNearOfRank_0 rfl ?_
  refine ow_istore (pc := 1) (l2 := [(0, _), (1, _), (2, _), (3, _), (4, _)]) hX d_P_nextNearOfRank_1 (by decide) rfl rfl ?_
  exact w_P_next Y n s c hX u p i rk f hp hi hz hn (n - f) f (by omega)
def kc_fill (c : Nat) (u : UU) (p a x : Nat) : UU := fo (fun k w => un w 20 p (a * c + k) x) u c
set_option maxRecDepth 100000 in
set_option maxHeartbeats 4000000 in
theorem w_P_fillSlot {X : OX} (Y : YY) (n s c : Nat) (hX : ox X (vC Y n s c) (rd 0) b_P_fillSlot 4 "SlottedMesh$Plan" gz none) (u : UU) (p a x : Nat) (hp : p < 2) (ha : a < s) (hc : c ≤ 4) : ∀ j k, k + j = c → ow X (vC Y n s c) none (fo (fun k w => un w 20 p (a * c + k) x) u c) (fo (fun k w => un w 20 p (a * c + k) x) u k) [(0, .ref (pv_ad (vC Y n s c) 15 p)), (1, .int (nI a)), (2, .int (nI x)), (3, .int (nI k))] 2 [] := by
  intro j
  induction j with
  | zero =>
    intro k hk
    refine ow_iload_n (pc := 2) hX d_P_fillSlot_2 rfl ?_
    refine ow_aload_n (pc := 3) hX d_P_fillSlot_3 rfl ?_
    refine ow_gK (pc := 4) hX (kd_P Y n s c) 1 d_P_fillSlot_4 kw_169 rfl (by show _ < 2; first | assumption | omega) ?_
    refine ow_nc_ge (pc := 7) (tgt := 30) hX d_P_fillSlot_7 (by decide) (by first | assumption | omega) (by first | assumption | omega) (fun h7 => ?_) (fun h7 => ?_)
    · skip
      exact ow_vret (pc := 30) hX d_P_fillSlot_30 rfl (by rw [show c = k by omega])
    · skip
      exact absurd h7 (by omega)
  | succ j ih =>
    intro k hk
    refine ow_iload_n (pc := 2) hX d_P_fillSlot_2 rfl ?_
    refine ow_aload_n (pc := 3) hX d_P_fillSlot_3 rfl ?_
    refine ow_gK (pc := 4) hX (kd_P Y n s c) 1 d_P_fillSlot_4 kw_169 rfl (by show _ < 2; first | assumption | exact ix_lt ha h7 | omega) ?_
    refine ow_nc_ge (pc := 7) (tgt := 30) hX d_P_fillSlot_7 (by decide) (by first | assumption | omega) (by first | assumption | omega) (fun h7 => ?_) (fun h7 => ?_)
    · skip
      exact absurd h7 (by omega)
    · skip
      refine ow_aload_n (pc := 10) hX d_P_fillSlot_10 rfl ?_
      refine ow_gR (pc := 11) hX (kd_P Y n s c) 6 d_P_fillSlot_11 kw_177 rfl (by show _ < 2; first | assumption | exact ix_lt ha h7 | omega) ?_
      refine ow_iload_n (pc := 14) hX d_P_fillSlot_14 rfl ?_
      refine ow_aload_n (pc := 15) hX d_P_fillSlot_15 rfl ?_
      refine ow_gK (pc := 16) hX (kd_P Y n s c) 1 d_P_fillSlot_16 kw_169 rfl (by show _ < 2; first | assumption | exact ix_lt ha h7 | omega) ?_
      refine ow_muln (pc := 19) hX d_P_fillSlot_19 ?_
      refine ow_iload_n (pc := 20) hX d_P_fillSlot_20 rfl ?_
      refine ow_addn (pc := 21) hX d_P_fillSlot_21 ?_
      refine ow_iload_n (pc := 22) hX d_P_fillSlot_22 rfl ?_
      refine ow_sN (pc := 23) hX rfl d_P_fillSlot_23 (by show _ < 2; first | assumption | exact ix_lt ha h7 | omega) (by show _ < s * c; first | assumption | exact ix_lt ha h7 | omega) ?_
      refine ow_iinc (pc := 24) (l2 := [(0, _), (1, _), (2, _), (3, _)]) hX d_P_fillSlot_24 rfl (ii_1 _) (by decide) rfl rfl ?_
      refine ow_goto (pc := 27) (tgt := 2) hX d_P_fillSlot_27 (by decide) ?_
      exact ih (k + 1) (by omega)
set_option maxRecDepth 100000 in
set_option maxHeartbeats 4000000 in
theorem c_P_fillSlot (l : Launch) (Y : YY) (n s c : Nat) (hV : pv_ok (vC Y n s c)) (u : UU) (p a x : Nat) (hp : p < 2) (ha : a < s) (hc : c ≤ 4) : Ct l (vC Y n s c) ⟨"SlottedMesh$Plan", "fillSlot", "(II)V"⟩ (wz ⟨"SlottedMesh$Plan", "fillSlot", "(II)V"⟩ b_P_fillSlot 4 none) (rd 0) [.ref (pv_ad (vC Y n s c) 15 p), .int (nI a), .int (nI x)] u none (kc_fill c u p a x) := by
  refine ct_mk hV (by decide +kernel) (Nat.le_of_ble_eq_true rfl) (fun X hX => ?_)
  have hX : ox X (vC Y n s c) (rd 0) b_P_fillSlot 4 "SlottedMesh$Plan" gz none := hX
  show ow X (vC Y n s c) none (kc_fill c u p a x) u [(0, .ref (pv_ad (vC Y n s c) 15 p)), (1, .int (nI a)), (2, .int (nI x))] 0 []
  refine ow_iconst (pc := 0) (v := nI 0) hX d_P_fillSlot_0 (by decide) ?_
  refine ow_istore_n (pc := 1) (l2 := [(0, _), (1, _), (2, _), (3, _)]) hX d_P_fillSlot_1 (by decide) rfl rfl ?_
  exact w_P_fillSlot Y n s c hX u p a x hp ha hc c 0 (by omega)
/-- the least free channel of slot a for a cell of x and y; j channels from k on are left -/
def kfree (g : Nat → Nat) (c a x y : Nat) : Nat → Nat → Option Nat
  | 0, _ => none
  | j + 1, k => if g (a * c + k) = 0 then some k else if g (a * c + k) / 100 * 100 = 100 then none else if ktouch (g (a * c + k)) x ≠ 0 then none else if ktouch (g (a * c + k)) y ≠ 0 then none else kfree g c a x y j (k + 1)
theorem kfree_lt {g : Nat → Nat} {c a x y j k b : Nat} (h : kfree g c a x y j k = some b) (hk : k + j = c) : b < c := by
  induction j generalizing k with
  | zero => cases h
  | succ j ih =>
    unfold kfree at h
    split at h
    · cases h; omega
    · split at h
      · cases h
      · split at h
        · cases h
        · split at h
          · cases h
          · exact ih h (by omega)
set_option maxRecDepth 100000 in
set_option maxHeartbeats 4000000 in
theorem w_P_free {X : OX} (Y : YY) (n s c : Nat) (hX : ox X (vC Y n s c) (rd 2) b_P_freeChannel 6 "SlottedMesh$Plan" gz (some .int)) (hV : pv_ok (vC Y n s c)) (u : UU) (p a x y : Nat) (hp : p < 2) (ha : a < s) (hc : c ≤ 4) (hx : x < 10) (hy : y < 10) (hg : ∀ q, u.1 20 p q < 400) : ∀ j k, k + j = c → ow X (vC Y n s c) (some (.int (io (kfree (fun q => u.1 20 p q) c a x y j k)))) u u [(0, .ref (pv_ad (vC Y n s c) 15 p)), (1, .int (nI a)), (2, .int (nI x)), (3, .int (nI y)), (4, .int (nI k))] 3 [] := by
  intro j
  induction j with
  | zero =>
    intro k hk
    refine ow_iload (pc := 3) hX d_P_freeChannel_3 rfl ?_
    refine ow_aload_n (pc := 5) hX d_P_freeChannel_5 rfl ?_
    refine ow_gK (pc := 6) hX (kd_P Y n s c) 1 d_P_freeChannel_6 kw_169 rfl (by show _ < 2; first | assumption | omega) ?_
    refine ow_nc_ge (pc := 9) (tgt := 65) hX d_P_freeChannel_9 (by decide) (by first | assumption | omega | (have := hg (a * c + k); omega) | (have := ktouch_le (u.1 20 p (a * c + k)) x; have := ktouch_le (u.1 20 p (a * c + k)) y; omega)) (by first | assumption | omega | (have := hg (a * c + k); omega) | (have := ktouch_le (u.1 20 p (a * c + k)) x; have := ktouch_le (u.1 20 p (a * c + k)) y; omega)) (fun h9 => ?_) (fun h9 => ?_)
    · skip
      refine ow_iconst (pc := 65) (v := (-1)) hX d_P_freeChannel_65 (by decide) ?_
      exact ow_iret (pc := 66) hX d_P_freeChannel_66 (by first | rfl | (unfold kfree; rfl)) (by first | rfl | (unfold kfree; rfl))
    · skip
      exact absurd h9 (by omega)
  | succ j ih =>
    intro k hk
    refine ow_iload (pc := 3) hX d_P_freeChannel_3 rfl ?_
    refine ow_aload_n (pc := 5) hX d_P_freeChannel_5 rfl ?_
    refine ow_gK (pc := 6) hX (kd_P Y n s c) 1 d_P_freeChannel_6 kw_169 rfl (by show _ < 2; first | assumption | omega) ?_
    refine ow_nc_ge (pc := 9) (tgt := 65) hX d_P_freeChannel_9 (by decide) (by first | assumption | omega | (have := hg (a * c + k); omega) | (have := ktouch_le (u.1 20 p (a * c + k)) x; have := ktouch_le (u.1 20 p (a * c + k)) y; omega)) (by first | assumption | omega | (have := hg (a * c + k); omega) | (have := ktouch_le (u.1 20 p (a * c + k)) x; have := ktouch_le (u.1 20 p (a * c + k)) y; omega)) (fun h9 => ?_) (fun h9 => ?_)
    · skip
      exact absurd h9 (by omega)
    · skip
      refine ow_aload_n (pc := 12) hX d_P_freeChannel_12 rfl ?_
      refine ow_iload_n (pc := 13) hX d_P_freeChannel_13 rfl ?_
      refine ow_iload (pc := 14) hX d_P_freeChannel_14 rfl ?_
      refine ow_callV (pc := 16) hX (kd_P Y n s c) (by show _ < 2; first | assumption | omega) (c_P_codeAt _ Y n s c hV u p a k hp ha h9) (cw_V hX mz_P_codeAt kw_268 ⟨rfl, rfl⟩ (by decide)) rfl (Nat.le_of_ble_eq_true rfl) d_P_freeChannel_16 rfl ?_
      refine ow_istore (pc := 19) (l2 := [(0, _), (1, _), (2, _), (3, _), (4, _), (5, _)]) hX d_P_freeChannel_19 (by decide) rfl rfl ?_
      refine ow_iload (pc := 21) hX d_P_freeChannel_21 rfl ?_
      refine ow_nz_ne (pc := 23) (tgt := 29) hX d_P_freeChannel_23 (by decide) (by first | assumption | omega | (have := hg (a * c + k); omega) | (have := ktouch_le (u.1 20 p (a * c + k)) x; have := ktouch_le (u.1 20 p (a * c + k)) y; omega)) (fun h23 => ?_) (fun h23 => ?_)
      · skip
        refine ow_iload (pc := 29) hX d_P_freeChannel_29 rfl ?_
        refine ow_callS (pc := 31) hX (c_P_kindOf _ Y n s c hV u (u.1 20 p (a * c + k)) (by have := hg (a * c + k); omega)) (cw_S hX mz_P_kindOf kw_288 ⟨rfl, rfl⟩ (by decide)) rfl (Nat.le_of_ble_eq_true rfl) d_P_freeChannel_31 rfl ?_
        refine ow_bipush (pc := 34) (v := nI 100) hX d_P_freeChannel_34 (by decide) ?_
        refine ow_nc_eq (pc := 36) (tgt := 57) hX d_P_freeChannel_36 (by decide) (by first | assumption | omega | (have := hg (a * c + k); omega) | (have := ktouch_le (u.1 20 p (a * c + k)) x; have := ktouch_le (u.1 20 p (a * c + k)) y; omega)) (by first | assumption | omega | (have := hg (a * c + k); omega) | (have := ktouch_le (u.1 20 p (a * c + k)) x; have := ktouch_le (u.1 20 p (a * c + k)) y; omega)) (fun h36 => ?_) (fun h36 => ?_)
        · skip
          refine ow_iconst (pc := 57) (v := (-1)) hX d_P_freeChannel_57 (by decide) ?_
          exact ow_iret (pc := 58) hX d_P_freeChannel_58 (by first | rfl | (simp only [kfree]; simp [*]; done) | (simp only [kfree]; simp [*]; rfl)) (by first | rfl | (simp only [kfree]; simp [*]; done) | (simp only [kfree]; simp [*]; rfl))
        · skip
          refine ow_iload (pc := 39) hX d_P_freeChannel_39 rfl ?_
          refine ow_iload_n (pc := 41) hX d_P_freeChannel_41 rfl ?_
          refine ow_callS (pc := 42) hX (c_P_touches _ Y n s c hV u (u.1 20 p (a * c + k)) x (by have := hg (a * c + k); omega) (by omega)) (cw_S hX mz_P_touches kw_291 ⟨rfl, rfl⟩ (by decide)) rfl (Nat.le_of_ble_eq_true rfl) d_P_freeChannel_42 rfl ?_
          refine ow_nz_ne (pc := 45) (tgt := 57) hX d_P_freeChannel_45 (by decide) (by first | assumption | omega | (have := hg (a * c + k); omega) | (have := ktouch_le (u.1 20 p (a * c + k)) x; have := ktouch_le (u.1 20 p (a * c + k)) y; omega)) (fun h45 => ?_) (fun h45 => ?_)
          · skip
            refine ow_iconst (pc := 57) (v := (-1)) hX d_P_freeChannel_57 (by decide) ?_
            exact ow_iret (pc := 58) hX d_P_freeChannel_58 (by first | rfl | (simp only [kfree]; simp [*]; done) | (simp only [kfree]; simp [*]; rfl)) (by first | rfl | (simp only [kfree]; simp [*]; done) | (simp only [kfree]; simp [*]; rfl))
          · skip
            refine ow_iload (pc := 48) hX d_P_freeChannel_48 rfl ?_
            refine ow_iload_n (pc := 50) hX d_P_freeChannel_50 rfl ?_
            refine ow_callS (pc := 51) hX (c_P_touches _ Y n s c hV u (u.1 20 p (a * c + k)) y (by have := hg (a * c + k); omega) (by omega)) (cw_S hX mz_P_touches kw_291 ⟨rfl, rfl⟩ (by decide)) rfl (Nat.le_of_ble_eq_true rfl) d_P_freeChannel_51 rfl ?_
            refine ow_nz_eq (pc := 54) (tgt := 59) hX d_P_freeChannel_54 (by decide) (by first | assumption | omega | (have := hg (a * c + k); omega) | (have := ktouch_le (u.1 20 p (a * c + k)) x; have := ktouch_le (u.1 20 p (a * c + k)) y; omega)) (fun h54 => ?_) (fun h54 => ?_)
            · skip
              refine ow_iinc (pc := 59) (l2 := [(0, _), (1, _), (2, _), (3, _), (4, _), (5, _)]) hX d_P_freeChannel_59 rfl (ii_1 _) (by decide) rfl rfl ?_
              refine ow_goto (pc := 62) (tgt := 3) hX d_P_freeChannel_62 (by decide) ?_
              have e : kfree (fun q => u.1 20 p q) c a x y (j + 1) k = kfree (fun q => u.1 20 p q) c a x y j (k + 1) := by simp only [kfree]; simp [*]
              rw [e]
              refine ow_loc (l2 := [(0, _), (1, _), (2, _), (3, _), (4, _)]) (fun q hq => by simp only [List.mem_cons, List.not_mem_nil, or_false] at hq ⊢; rcases hq with rfl | rfl | rfl | rfl | rfl <;> simp) (ih (k + 1) (by omega))
            · skip
              refine ow_iconst (pc := 57) (v := (-1)) hX d_P_freeChannel_57 (by decide) ?_
              exact ow_iret (pc := 58) hX d_P_freeChannel_58 (by first | rfl | (simp only [kfree]; simp [*]; done) | (simp only [kfree]; simp [*]; rfl)) (by first | rfl | (simp only [kfree]; simp [*]; done) | (simp only [kfree]; simp [*]; rfl))
      · skip
        refine ow_iload (pc := 26) hX d_P_freeChannel_26 rfl ?_
        exact ow_iret (pc := 28) hX d_P_freeChannel_28 (by first | rfl | (simp only [kfree]; simp [*]; done) | (simp only [kfree]; simp [*]; rfl)) (by first | rfl | (simp only [kfree]; simp [*]; done) | (simp only [kfree]; simp [*]; rfl))
set_option maxRecDepth 100000 in
set_option maxHeartbeats 4000000 in
theorem c_P_freeChannel (l : Launch) (Y : YY) (n s c : Nat) (hV : pv_ok (vC Y n s c)) (u : UU) (p a x y : Nat) (hp : p < 2) (ha : a < s) (hc : c ≤ 4) (hx : x < 10) (hy : y < 10) (hg : ∀ q, u.1 20 p q < 400) : Ct l (vC Y n s c) ⟨"SlottedMesh$Plan", "freeChannel", "(III)I"⟩ (wz ⟨"SlottedMesh$Plan", "freeChannel", "(III)I"⟩ b_P_freeChannel 6 (some .int)) (rd 2) [.ref (pv_ad (vC Y n s c) 15 p), .int (nI a), .int (nI x), .int (nI y)] u (some (.int (io (kfree (fun q => u.1 20 p q) c a x y c 0)))) (u) := by
  refine ct_mk hV (by decide +kernel) (Nat.le_of_ble_eq_true rfl) (fun X hX => ?_)
  have hX : ox X (vC Y n s c) (rd 2) b_P_freeChannel 6 "SlottedMesh$Plan" gz (some .int) := hX
  show ow X (vC Y n s c) (some (.int (io (kfree (fun q => u.1 20 p q) c a x y c 0)))) (u) u [(0, .ref (pv_ad (vC Y n s c) 15 p)), (1, .int (nI a)), (2, .int (nI x)), (3, .int (nI y))] 0 []
  refine ow_iconst (pc := 0) (v := nI 0) hX d_P_freeChannel_0 (by decide) ?_
  refine ow_istore (pc := 1) (l2 := [(0, _), (1, _), (2, _), (3, _), (4, _)]) hX d_P_freeChannel_1 (by decide) rfl rfl ?_
  exact w_P_free Y n s c hX hV u p a x y hp ha hc hx hy hg c 0 (by omega)
