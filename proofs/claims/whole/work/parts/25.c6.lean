/-! Plan: ranks, parents, make (by program, wip/whole/gen/c6.py) -/
def kfr (o : Option Nat) : Nat := match o with
  | some a => a + 1
  | none => 0
theorem io_1 (o : Option Nat) : io o + nI 1 = nI (kfr o) := by
  cases o with
  | none => decide
  | some a => exact nI_add a 1
theorem fnd_lt {q : Nat → Bool} {j k b : Nat} (h : fnd q j k = some b) : b < k + j := by
  induction j generalizing k with
  | zero => cases h
  | succ j ih =>
    rw [fnd] at h
    split at h
    · cases h; omega
    · have := ih h; omega
theorem kfr_le {n : Nat} {u : UU} {p i f : Nat} {rk : Int32} (hf : f ≤ n) : kfr (kc_next n u p i rk f) ≤ n := by
  unfold kfr
  split
  · rename_i a h
    have := fnd_lt h
    omega
  · omega
/-- one node's parents -/
def kpar1 (n p k : Nat) (w : UU) : UU := ui (ui w 17 p k (io (kc_next n w p k (w.2.1 16 p k - nI 1) 0))) 18 p k (io (kc_next n (ui w 17 p k (io (kc_next n w p k (w.2.1 16 p k - nI 1) 0))) p k (w.2.1 16 p k - nI 1) (kfr (kc_next n w p k (w.2.1 16 p k - nI 1) 0))))
def kpars (n p : Nat) : Nat → Nat → UU → UU
  | 0, _, w => w
  | j + 1, k, w => kpars n p j (k + 1) (kpar1 n p k w)
def kc_parents (n : Nat) (u : UU) (p : Nat) : UU := kpars n p (n - 1) 1 (ui (ui u 17 p 0 (-1)) 18 p 0 (-1))
set_option maxRecDepth 100000 in
set_option maxHeartbeats 4000000 in
theorem w_P_parents {X : OX} (Y : YY) (n s c : Nat) (hX : ox X (vC Y n s c) (rd 1) b_P_findParents 3 "SlottedMesh$Plan" gz none) (hV : pv_ok (vC Y n s c)) (p : Nat) (hp : p < 2) (hn : n ≤ 6) : ∀ j k w, (∀ a b, w.1 7 a b ≤ 1) → k + j = n → ow X (vC Y n s c) none (kpars n p j k w) w [(0, .ref (pv_ad (vC Y n s c) 15 p)), (1, .ref (pv_ad (vC Y n s c) 1 0)), (2, .int (nI k))] 16 [] := by
  intro j
  induction j with
  | zero =>
    intro k w hz hk
    refine ow_iload_n (pc := 16) hX d_P_findParents_16 rfl ?_
    refine ow_aload_n (pc := 17) hX d_P_findParents_17 rfl ?_
    refine ow_len (pc := 18) hX rfl (by decide) d_P_findParents_18 Nat.zero_lt_one ?_
    refine ow_st (st2 := .int (nI (n)) :: _) rfl ?_
    refine ow_nc_ge (pc := 19) (tgt := 79) hX d_P_findParents_19 (by decide) (by first | assumption | omega) (by first | assumption | omega) (fun h19 => ?_) (fun h19 => ?_)
    · skip
      exact ow_vret (pc := 79) hX d_P_findParents_79 rfl (by rfl)
    · skip
      exact absurd h19 (by omega)
  | succ j ih =>
    intro k w hz hk
    refine ow_iload_n (pc := 16) hX d_P_findParents_16 rfl ?_
    refine ow_aload_n (pc := 17) hX d_P_findParents_17 rfl ?_
    refine ow_len (pc := 18) hX rfl (by decide) d_P_findParents_18 Nat.zero_lt_one ?_
    refine ow_st (st2 := .int (nI (n)) :: _) rfl ?_
    refine ow_nc_ge (pc := 19) (tgt := 79) hX d_P_findParents_19 (by decide) (by first | assumption | omega) (by first | assumption | omega) (fun h19 => ?_) (fun h19 => ?_)
    · skip
      exact absurd h19 (by omega)
    · skip
      refine ow_aload_n (pc := 22) hX d_P_findParents_22 rfl ?_
      refine ow_gR (pc := 23) hX (kd_P Y n s c) 3 d_P_findParents_23 kw_172 rfl (by show _ < 2; first | assumption | omega) ?_
      refine ow_iload_n (pc := 26) hX d_P_findParents_26 rfl ?_
      refine ow_aload_n (pc := 27) hX d_P_findParents_27 rfl ?_
      refine ow_aload_n (pc := 28) hX d_P_findParents_28 rfl ?_
      refine ow_iload_n (pc := 29) hX d_P_findParents_29 rfl ?_
      refine ow_aR (pc := 30) hX rfl d_P_findParents_30 Nat.zero_lt_one (by show _ < n; first | assumption | omega) ?_
      refine ow_aload_n (pc := 31) hX d_P_findParents_31 rfl ?_
      refine ow_gR (pc := 32) hX (kd_P Y n s c) 2 d_P_findParents_32 kw_170 rfl (by show _ < 2; first | assumption | omega) ?_
      refine ow_iload_n (pc := 35) hX d_P_findParents_35 rfl ?_
      refine ow_aI (pc := 36) hX rfl d_P_findParents_36 (by show _ < 2; first | assumption | omega) (by show _ < n; first | assumption | omega) ?_
      refine ow_iconst (pc := 37) (v := nI 1) hX d_P_findParents_37 (by decide) ?_
      refine ow_isub (pc := 38) hX d_P_findParents_38 ?_
      refine ow_iconst (pc := 39) (v := nI 0) hX d_P_findParents_39 (by decide) ?_
      refine ow_callV (pc := 40) hX (kd_P Y n s c) (by show _ < 2; first | assumption | omega) (c_P_nextNearOfRank _ Y n s c hV w p k (w.2.1 16 p k - nI 1) 0 hp h19 hz hn (by omega)) (cw_V hX mz_P_nextNearOfRank kw_252 ⟨rfl, rfl⟩ (by decide)) rfl (Nat.le_of_ble_eq_true rfl) d_P_findParents_40 rfl ?_
      refine ow_sI (pc := 43) hX rfl d_P_findParents_43 (by show _ < 2; first | assumption | omega) (by show _ < n; first | assumption | omega) ?_
      refine ow_aload_n (pc := 44) hX d_P_findParents_44 rfl ?_
      refine ow_gR (pc := 45) hX (kd_P Y n s c) 4 d_P_findParents_45 kw_174 rfl (by show _ < 2; first | assumption | omega) ?_
      refine ow_iload_n (pc := 48) hX d_P_findParents_48 rfl ?_
      refine ow_aload_n (pc := 49) hX d_P_findParents_49 rfl ?_
      refine ow_aload_n (pc := 50) hX d_P_findParents_50 rfl ?_
      refine ow_iload_n (pc := 51) hX d_P_findParents_51 rfl ?_
      refine ow_aR (pc := 52) hX rfl d_P_findParents_52 Nat.zero_lt_one (by show _ < n; first | assumption | omega) ?_
      refine ow_aload_n (pc := 53) hX d_P_findParents_53 rfl ?_
      refine ow_gR (pc := 54) hX (kd_P Y n s c) 2 d_P_findParents_54 kw_170 rfl (by show _ < 2; first | assumption | omega) ?_
      refine ow_iload_n (pc := 57) hX d_P_findParents_57 rfl ?_
      refine ow_aI (pc := 58) hX rfl d_P_findParents_58 (by show _ < 2; first | assumption | omega) (by show _ < n; first | assumption | omega) ?_
      try simp only [un_1, un_2, ui_1, ui_2, ui_3, ul_1, ul_2, ul_3, ul_4, ur_1, ur_2, ur_3, ur_4, Nat.reduceEqDiff, false_and, and_false, true_and, and_true, and_self, reduceIte]
      refine ow_iconst (pc := 59) (v := nI 1) hX d_P_findParents_59 (by decide) ?_
      refine ow_isub (pc := 60) hX d_P_findParents_60 ?_
      refine ow_aload_n (pc := 61) hX d_P_findParents_61 rfl ?_
      refine ow_gR (pc := 62) hX (kd_P Y n s c) 3 d_P_findParents_62 kw_172 rfl (by show _ < 2; first | assumption | omega) ?_
      refine ow_iload_n (pc := 65) hX d_P_findParents_65 rfl ?_
      refine ow_aI (pc := 66) hX rfl d_P_findParents_66 (by show _ < 2; first | assumption | omega) (by show _ < n; first | assumption | omega) ?_
      try simp only [un_1, un_2, ui_1, ui_2, ui_3, ul_1, ul_2, ul_3, ul_4, ur_1, ur_2, ur_3, ur_4, Nat.reduceEqDiff, false_and, and_false, true_and, and_true, and_self, reduceIte]
      refine ow_iconst (pc := 67) (v := nI 1) hX d_P_findParents_67 (by decide) ?_
      refine ow_iadd (pc := 68) hX d_P_findParents_68 ?_
      rw [io_1]
      refine ow_callV (pc := 69) hX (kd_P Y n s c) (by show _ < 2; first | assumption | omega) (c_P_nextNearOfRank _ Y n s c hV _ p k (w.2.1 16 p k - nI 1) _ hp h19 hz hn (kfr_le (by omega))) (cw_V hX mz_P_nextNearOfRank kw_252 ⟨rfl, rfl⟩ (by decide)) rfl (Nat.le_of_ble_eq_true rfl) d_P_findParents_69 rfl ?_
      refine ow_sI (pc := 72) hX rfl d_P_findParents_72 (by show _ < 2; first | assumption | omega) (by show _ < n; first | assumption | omega) ?_
      refine ow_iinc (pc := 73) (l2 := [(0, _), (1, _), (2, _)]) hX d_P_findParents_73 rfl (ii_1 _) (by decide) rfl rfl ?_
      refine ow_goto (pc := 76) (tgt := 16) hX d_P_findParents_76 (by decide) ?_
      exact ih (k + 1) _ hz (by omega)
set_option maxRecDepth 100000 in
set_option maxHeartbeats 4000000 in
theorem c_P_findParents (l : Launch) (Y : YY) (n s c : Nat) (hV : pv_ok (vC Y n s c)) (u : UU) (p : Nat) (hp : p < 2) (hn : n ≤ 6) (h1 : 1 ≤ n) (hz : ∀ a b, u.1 7 a b ≤ 1) : Ct l (vC Y n s c) ⟨"SlottedMesh$Plan", "findParents", "([LSlottedMesh$Node;)V"⟩ (wz ⟨"SlottedMesh$Plan", "findParents", "([LSlottedMesh$Node;)V"⟩ b_P_findParents 3 none) (rd 1) [.ref (pv_ad (vC Y n s c) 15 p), .ref (pv_ad (vC Y n s c) 1 0)] u none (kc_parents n u p) := by
  refine ct_mk hV (by decide +kernel) (Nat.le_of_ble_eq_true rfl) (fun X hX => ?_)
  have hX : ox X (vC Y n s c) (rd 1) b_P_findParents 3 "SlottedMesh$Plan" gz none := hX
  show ow X (vC Y n s c) none (kc_parents n u p) u [(0, .ref (pv_ad (vC Y n s c) 15 p)), (1, .ref (pv_ad (vC Y n s c) 1 0))] 0 []
  refine ow_aload_n (pc := 0) hX d_P_findParents_0 rfl ?_
  refine ow_gR (pc := 1) hX (kd_P Y n s c) 3 d_P_findParents_1 kw_172 rfl (by show _ < 2; first | assumption | omega) ?_
  refine ow_iconst (pc := 4) (v := nI 0) hX d_P_findParents_4 (by decide) ?_
  refine ow_iconst (pc := 5) (v := (-1)) hX d_P_findParents_5 (by decide) ?_
  refine ow_sI (pc := 6) hX rfl d_P_findParents_6 (by show _ < 2; first | assumption | omega) (by show _ < n; first | assumption | omega) ?_
  refine ow_aload_n (pc := 7) hX d_P_findParents_7 rfl ?_
  refine ow_gR (pc := 8) hX (kd_P Y n s c) 4 d_P_findParents_8 kw_174 rfl (by show _ < 2; first | assumption | omega) ?_
  refine ow_iconst (pc := 11) (v := nI 0) hX d_P_findParents_11 (by decide) ?_
  refine ow_iconst (pc := 12) (v := (-1)) hX d_P_findParents_12 (by decide) ?_
  refine ow_sI (pc := 13) hX rfl d_P_findParents_13 (by show _ < 2; first | assumption | omega) (by show _ < n; first | assumption | omega) ?_
  refine ow_iconst (pc := 14) (v := nI 1) hX d_P_findParents_14 (by decide) ?_
  refine ow_istore_n (pc := 15) (l2 := [(0, _), (1, _), (2, _)]) hX d_P_findParents_15 (by decide) rfl rfl ?_
  exact w_P_parents Y n s c hX hV p hp hn (n - 1) 1 _ hz (by omega)
/-- how many of the first m q holds of -/
def cn (q : Nat → Bool) : Nat → Nat
  | 0 => 0
  | m + 1 => cn q m + (if q m then 1 else 0)
theorem cn_le (q : Nat → Bool) (m : Nat) : cn q m ≤ m := by
  induction m with
  | zero => exact Nat.le_refl 0
  | succ m ih => rw [cn]; split <;> omega
theorem cn_lt {q : Nat → Bool} {m k : Nat} (hk : k < m) (h : q k = false) : cn q m < m := by
  induction m with
  | zero => omega
  | succ m ih =>
    rw [cn]
    by_cases e : k = m
    · subst e
      have := cn_le q k
      rw [if_neg (by rw [h]; decide)]; omega
    · have := ih (by omega)
      split <;> omega
theorem cn_eq {q r : Nat → Bool} {m : Nat} (h : ∀ k, k < m → q k = r k) : cn q m = cn r m := by
  induction m with
  | zero => rfl
  | succ m ih => rw [cn, cn, ih (fun k hk => h k (by omega)), h m (by omega)]
theorem cn_up {q r : Nat → Bool} {m k : Nat} (hk : k < m) (h : q k = false) (h1 : r k = true) (h2 : ∀ a, a ≠ k → r a = q a) : cn r m = cn q m + 1 := by
  induction m with
  | zero => omega
  | succ m ih =>
    rw [cn, cn]
    by_cases e : k = m
    · subst e
      rw [cn_eq (q := r) (r := q) (fun a ha => h2 a (by omega)), h1, h]
      simp
    · rw [ih (by omega), h2 m (Ne.symm e)]
      split <;> omega
def kas (w : UU) (p : Nat) : Nat → Bool := fun k => decide (w.2.1 16 p k ≠ -1)
/-- one look at node k in round r -/
def krk1 (n p r k : Nat) (w : UU × Nat) : UU × Nat := if w.1.2.1 16 p k = -1 ∧ kc_next n w.1 p k (nI (r - 1)) 0 ≠ none then (un (ui w.1 16 p k (nI r)) 19 p w.2 k, w.2 + 1) else w
def krk2 (n p r : Nat) : Nat → Nat → UU × Nat → UU × Nat
  | 0, _, w => w
  | j + 1, k, w => krk2 n p r j (k + 1) (krk1 n p r k w)
def krk3 (n p : Nat) : Nat → Nat → UU × Nat → UU × Nat
  | 0, _, w => w
  | j + 1, r, w => krk3 n p j (r + 1) (krk2 n p r n 0 w)
def krk0 (n : Nat) (u : UU) (p : Nat) : UU := un (ui (fo (fun j w => ui w 16 p j (-1)) u n) 16 p 0 (nI 0)) 19 p 0 0
def kc_ranks (n : Nat) (u : UU) (p : Nat) : UU × Nat := krk3 n p (n - 1) 1 (krk0 n u p, 1)
/-- as many were found as have a rank; near's places are 0 or 1 -/
def kri (n p : Nat) (w : UU × Nat) : Prop := w.2 = cn (kas w.1 p) n ∧ ∀ a b, w.1.1 7 a b ≤ 1
theorem kri_1 {n p r k : Nat} {w : UU × Nat} (h : kri n p w) (hk : k < n) (hr : r < 2 ^ 31) : kri n p (krk1 n p r k w) := by
  unfold krk1
  split
  · rename_i h1
    refine ⟨?_, fun a b => ?_⟩
    · show w.2 + 1 = _
      rw [h.1]
      refine (cn_up hk ?_ ?_ ?_).symm
      · simp [kas, h1.1]
      · show decide ((ui w.1 16 p k (nI r)).2.1 16 p k ≠ -1) = true
        rw [ui_2, if_pos ⟨rfl, rfl, rfl⟩]
        exact decide_eq_true (nI_m1 hr)
      · intro a ha
        show decide ((ui w.1 16 p k (nI r)).2.1 16 p a ≠ -1) = decide (w.1.2.1 16 p a ≠ -1)
        rw [ui_2, if_neg (fun q => ha q.2.2)]
    · show (un (ui w.1 16 p k (nI r)) 19 p w.2 k).1 7 a b ≤ 1
      rw [un_1, if_neg (by omega)]
      exact h.2 a b
  · exact h
theorem krk1_a {n p r k : Nat} {w : UU × Nat} (h : ¬ w.1.2.1 16 p k = -1) : krk1 n p r k w = w := by unfold krk1; rw [if_neg (fun q => h q.1)]
theorem krk1_b {n p r k : Nat} {w : UU × Nat} (h : kc_next n w.1 p k (nI (r - 1)) 0 = none) : krk1 n p r k w = w := by unfold krk1; rw [if_neg (fun q => q.2 h)]
theorem krk1_c {n p r k b : Nat} {w : UU × Nat} (h : w.1.2.1 16 p k = -1) (ho : kc_next n w.1 p k (nI (r - 1)) 0 = some b) : krk1 n p r k w = (un (ui w.1 16 p k (nI r)) 19 p w.2 k, w.2 + 1) := by
  unfold krk1; rw [if_pos ⟨h, by rw [ho]; exact fun q => by cases q⟩]
theorem kri_2 {n p r : Nat} (hr : r < 2 ^ 31) : ∀ j k (w : UU × Nat), kri n p w → k + j = n → kri n p (krk2 n p r j k w) := by
  intro j
  induction j with
  | zero => intro k w h _; exact h
  | succ j ih => intro k w h hk; exact ih (k + 1) _ (kri_1 h (by omega) hr) (by omega)
set_option maxRecDepth 100000 in
set_option maxHeartbeats 4000000 in
theorem w_P_ranks2 {X : OX} (Y : YY) (n s c : Nat) (hX : ox X (vC Y n s c) (rd 1) b_P_findRanks 5 "SlottedMesh$Plan" gz (some .boolean)) (hV : pv_ok (vC Y n s c)) (p : Nat) (hp : p < 2) (hn : n ≤ 6) (r : Nat) (rr : Option Value) (uu : UU) : ∀ j k (w : UU × Nat), kri n p w → (1 ≤ r ∧ r < n) → k + j = n → (∀ z : UU × Nat, z = krk2 n p r j k w → ow X (vC Y n s c) rr uu z.1 [(0, .ref (pv_ad (vC Y n s c) 15 p)), (1, .ref (pv_ad (vC Y n s c) 1 0)), (2, .int (nI z.2)), (3, .int (nI r)), (4, .int (nI n))] 94 []) → ow X (vC Y n s c) rr uu w.1 [(0, .ref (pv_ad (vC Y n s c) 15 p)), (1, .ref (pv_ad (vC Y n s c) 1 0)), (2, .int (nI w.2)), (3, .int (nI r)), (4, .int (nI k))] 35 [] := by
  intro j
  induction j with
  | zero =>
    intro k w hI hr hk K
    refine ow_iload (pc := 35) hX d_P_findRanks_35 rfl ?_
    refine ow_aload_n (pc := 37) hX d_P_findRanks_37 rfl ?_
    refine ow_len (pc := 38) hX rfl (by decide) d_P_findRanks_38 Nat.zero_lt_one ?_
    refine ow_st (st2 := .int (nI (n)) :: _) rfl ?_
    refine ow_nc_ge (pc := 39) (tgt := 94) hX d_P_findRanks_39 (by decide) (by first | assumption | omega | (have := cn_le (kas w.1 p) n; have := hI.1; omega)) (by first | assumption | omega | (have := cn_le (kas w.1 p) n; have := hI.1; omega)) (fun h39 => ?_) (fun h39 => ?_)
    · skip
      have e9 : k = n := by omega
      subst e9
      exact K w rfl
    · skip
      exact absurd h39 (by omega)
  | succ j ih =>
    intro k w hI hr hk K
    refine ow_iload (pc := 35) hX d_P_findRanks_35 rfl ?_
    refine ow_aload_n (pc := 37) hX d_P_findRanks_37 rfl ?_
    refine ow_len (pc := 38) hX rfl (by decide) d_P_findRanks_38 Nat.zero_lt_one ?_
    refine ow_st (st2 := .int (nI (n)) :: _) rfl ?_
    refine ow_nc_ge (pc := 39) (tgt := 94) hX d_P_findRanks_39 (by decide) (by first | assumption | omega | (have := cn_le (kas w.1 p) n; have := hI.1; omega)) (by first | assumption | omega | (have := cn_le (kas w.1 p) n; have := hI.1; omega)) (fun h39 => ?_) (fun h39 => ?_)
    · skip
      exact absurd h39 (by omega)
    · skip
      refine ow_aload_n (pc := 42) hX d_P_findRanks_42 rfl ?_
      refine ow_gR (pc := 43) hX (kd_P Y n s c) 2 d_P_findRanks_43 kw_170 rfl (by show _ < 2; first | assumption | omega | (have h9 := cn_lt (q := kas w.1 p) h39 (by simp [kas, h50]); have := hI.1; omega)) ?_
      refine ow_iload (pc := 46) hX d_P_findRanks_46 rfl ?_
      refine ow_aI (pc := 48) hX rfl d_P_findRanks_48 (by show _ < 2; first | assumption | omega | (have h9 := cn_lt (q := kas w.1 p) h39 (by simp [kas, h50]); have := hI.1; omega)) (by show _ < n; first | assumption | omega | (have h9 := cn_lt (q := kas w.1 p) h39 (by simp [kas, h50]); have := hI.1; omega)) ?_
      refine ow_iconst (pc := 49) (v := (-1)) hX d_P_findRanks_49 (by decide) ?_
      refine ow_ic_ne (pc := 50) (tgt := 88) hX d_P_findRanks_50 (by decide) (fun h50 => ?_) (fun h50 => ?_)
      · skip
        refine ow_iinc (pc := 88) (l2 := [(0, _), (1, _), (2, _), (3, _), (4, _)]) hX d_P_findRanks_88 rfl (ii_1 _) (by decide) rfl rfl ?_
        refine ow_goto (pc := 91) (tgt := 35) hX d_P_findRanks_91 (by decide) ?_
        first | exact ih (k + 1) w hI hr (by omega) (fun z hz => K z (by rw [hz, krk2, krk1_a h50])) | exact ih (k + 1) w hI hr (by omega) (fun z hz => K z (by rw [hz, krk2, krk1_b ho])) | exact ih (k + 1) (un (ui w.1 16 p k (nI r)) 19 p w.2 k, w.2 + 1) (by rw [← krk1_c h50 ho]; exact kri_1 hI h39 (by omega)) hr (by omega) (fun z hz => K z (by rw [hz, krk2, krk1_c h50 ho]))
      · skip
        refine ow_aload_n (pc := 53) hX d_P_findRanks_53 rfl ?_
        refine ow_aload_n (pc := 54) hX d_P_findRanks_54 rfl ?_
        refine ow_iload (pc := 55) hX d_P_findRanks_55 rfl ?_
        refine ow_aR (pc := 57) hX rfl d_P_findRanks_57 Nat.zero_lt_one (by show _ < n; first | assumption | omega | (have h9 := cn_lt (q := kas w.1 p) h39 (by simp [kas, h50]); have := hI.1; omega)) ?_
        refine ow_iload_n (pc := 58) hX d_P_findRanks_58 rfl ?_
        refine ow_iconst (pc := 59) (v := nI 1) hX d_P_findRanks_59 (by decide) ?_
        refine ow_subn (pc := 60) hX d_P_findRanks_60 (by first | assumption | omega | (have := cn_le (kas w.1 p) n; have := hI.1; omega)) ?_
        refine ow_iconst (pc := 61) (v := nI 0) hX d_P_findRanks_61 (by decide) ?_
        refine ow_callV (pc := 62) hX (kd_P Y n s c) (by show _ < 2; first | assumption | omega | (have h9 := cn_lt (q := kas w.1 p) h39 (by simp [kas, h50]); have := hI.1; omega)) (c_P_nextNearOfRank _ Y n s c hV w.1 p k (nI (r - 1)) 0 hp h39 hI.2 hn (by omega)) (cw_V hX mz_P_nextNearOfRank kw_252 ⟨rfl, rfl⟩ (by decide)) rfl (Nat.le_of_ble_eq_true rfl) d_P_findRanks_62 rfl ?_
        rcases ho : kc_next n w.1 p k (nI (r - 1)) 0 with _ | b
        · skip
          refine ow_st (st2 := .int (-1) :: _) rfl ?_
          refine ow_iconst (pc := 65) (v := (-1)) hX d_P_findRanks_65 (by decide) ?_
          refine ow_ic_eq (pc := 66) (tgt := 88) hX d_P_findRanks_66 (by decide) (fun h66 => ?_) (fun h66 => ?_)
          · skip
            refine ow_iinc (pc := 88) (l2 := [(0, _), (1, _), (2, _), (3, _), (4, _)]) hX d_P_findRanks_88 rfl (ii_1 _) (by decide) rfl rfl ?_
            refine ow_goto (pc := 91) (tgt := 35) hX d_P_findRanks_91 (by decide) ?_
            first | exact ih (k + 1) w hI hr (by omega) (fun z hz => K z (by rw [hz, krk2, krk1_a h50])) | exact ih (k + 1) w hI hr (by omega) (fun z hz => K z (by rw [hz, krk2, krk1_b ho])) | exact ih (k + 1) (un (ui w.1 16 p k (nI r)) 19 p w.2 k, w.2 + 1) (by rw [← krk1_c h50 ho]; exact kri_1 hI h39 (by omega)) hr (by omega) (fun z hz => K z (by rw [hz, krk2, krk1_c h50 ho]))
          · skip
            exact absurd rfl h66
        · skip
          have hb : b < n := by have := fnd_lt ho; omega
          refine ow_st (st2 := .int (nI b) :: _) rfl ?_
          refine ow_iconst (pc := 65) (v := (-1)) hX d_P_findRanks_65 (by decide) ?_
          refine ow_ic_eq (pc := 66) (tgt := 88) hX d_P_findRanks_66 (by decide) (fun h66 => ?_) (fun h66 => ?_)
          · skip
            exact absurd h66 (nI_m1 (by first | assumption | omega | (have := cn_le (kas w.1 p) n; have := hI.1; omega)))
          · skip
            refine ow_aload_n (pc := 69) hX d_P_findRanks_69 rfl ?_
            refine ow_gR (pc := 70) hX (kd_P Y n s c) 2 d_P_findRanks_70 kw_170 rfl (by show _ < 2; first | assumption | omega | (have h9 := cn_lt (q := kas w.1 p) h39 (by simp [kas, h50]); have := hI.1; omega)) ?_
            refine ow_iload (pc := 73) hX d_P_findRanks_73 rfl ?_
            refine ow_iload_n (pc := 75) hX d_P_findRanks_75 rfl ?_
            refine ow_sI (pc := 76) hX rfl d_P_findRanks_76 (by show _ < 2; first | assumption | omega | (have h9 := cn_lt (q := kas w.1 p) h39 (by simp [kas, h50]); have := hI.1; omega)) (by show _ < n; first | assumption | omega | (have h9 := cn_lt (q := kas w.1 p) h39 (by simp [kas, h50]); have := hI.1; omega)) ?_
            refine ow_aload_n (pc := 77) hX d_P_findRanks_77 rfl ?_
            refine ow_gR (pc := 78) hX (kd_P Y n s c) 5 d_P_findRanks_78 kw_176 rfl (by show _ < 2; first | assumption | omega | (have h9 := cn_lt (q := kas w.1 p) h39 (by simp [kas, h50]); have := hI.1; omega)) ?_
            refine ow_iload_n (pc := 81) hX d_P_findRanks_81 rfl ?_
            refine ow_iload (pc := 82) hX d_P_findRanks_82 rfl ?_
            refine ow_sN (pc := 84) hX rfl d_P_findRanks_84 (by show _ < 2; first | assumption | omega | (have h9 := cn_lt (q := kas w.1 p) h39 (by simp [kas, h50]); have := hI.1; omega)) (by show _ < n; first | assumption | omega | (have h9 := cn_lt (q := kas w.1 p) h39 (by simp [kas, h50]); have := hI.1; omega)) ?_
            refine ow_iinc (pc := 85) (l2 := [(0, _), (1, _), (2, _), (3, _), (4, _)]) hX d_P_findRanks_85 rfl (ii_1 _) (by decide) rfl rfl ?_
            refine ow_iinc (pc := 88) (l2 := [(0, _), (1, _), (2, _), (3, _), (4, _)]) hX d_P_findRanks_88 rfl (ii_1 _) (by decide) rfl rfl ?_
            refine ow_goto (pc := 91) (tgt := 35) hX d_P_findRanks_91 (by decide) ?_
            first | exact ih (k + 1) w hI hr (by omega) (fun z hz => K z (by rw [hz, krk2, krk1_a h50])) | exact ih (k + 1) w hI hr (by omega) (fun z hz => K z (by rw [hz, krk2, krk1_b ho])) | exact ih (k + 1) (un (ui w.1 16 p k (nI r)) 19 p w.2 k, w.2 + 1) (by rw [← krk1_c h50 ho]; exact kri_1 hI h39 (by omega)) hr (by omega) (fun z hz => K z (by rw [hz, krk2, krk1_c h50 ho]))
set_option maxRecDepth 100000 in
set_option maxHeartbeats 4000000 in
theorem w_P_ranks3 {X : OX} (Y : YY) (n s c : Nat) (hX : ox X (vC Y n s c) (rd 1) b_P_findRanks 5 "SlottedMesh$Plan" gz (some .boolean)) (hV : pv_ok (vC Y n s c)) (p : Nat) (hp : p < 2) (hn : n ≤ 6) : ∀ j r (w : UU × Nat), kri n p w → 1 ≤ r → r + j = n → ow X (vC Y n s c) (some (.int (nI (if (krk3 n p j r w).2 = n then 1 else 0)))) (krk3 n p j r w).1 w.1 [(0, .ref (pv_ad (vC Y n s c) 15 p)), (1, .ref (pv_ad (vC Y n s c) 1 0)), (2, .int (nI w.2)), (3, .int (nI r))] 26 [] := by
  intro j
  induction j with
  | zero =>
    intro r w hI hr1 hk
    refine ow_iload_n (pc := 26) hX d_P_findRanks_26 rfl ?_
    refine ow_aload_n (pc := 27) hX d_P_findRanks_27 rfl ?_
    refine ow_len (pc := 28) hX rfl (by decide) d_P_findRanks_28 Nat.zero_lt_one ?_
    refine ow_st (st2 := .int (nI (n)) :: _) rfl ?_
    refine ow_nc_ge (pc := 29) (tgt := 100) hX d_P_findRanks_29 (by decide) (by first | assumption | omega | (have := cn_le (kas w.1 p) n; have := hI.1; omega)) (by first | assumption | omega | (have := cn_le (kas w.1 p) n; have := hI.1; omega)) (fun h29 => ?_) (fun h29 => ?_)
    · skip
      refine ow_iload_n (pc := 100) hX d_P_findRanks_100 rfl ?_
      refine ow_aload_n (pc := 101) hX d_P_findRanks_101 rfl ?_
      refine ow_len (pc := 102) hX rfl (by decide) d_P_findRanks_102 Nat.zero_lt_one ?_
      refine ow_st (st2 := .int (nI (n)) :: _) rfl ?_
      refine ow_nc_ne (pc := 103) (tgt := 110) hX d_P_findRanks_103 (by decide) (by first | assumption | omega | (have := cn_le (kas w.1 p) n; have := hI.1; omega)) (by first | assumption | omega | (have := cn_le (kas w.1 p) n; have := hI.1; omega)) (fun h103 => ?_) (fun h103 => ?_)
      · skip
        refine ow_iconst (pc := 110) (v := nI 0) hX d_P_findRanks_110 (by decide) ?_
        exact ow_zret (pc := 111) hX d_P_findRanks_111 (nb_01 (by first | decide | assumption | omega | exact kbit_le _ _)) (by first | rfl | (rw [krk3]; first | rw [if_pos h103] | rw [if_neg h103])) (by first | rfl | (rw [krk3]; first | rw [if_pos h103] | rw [if_neg h103]))
      · skip
        refine ow_iconst (pc := 106) (v := nI 1) hX d_P_findRanks_106 (by decide) ?_
        refine ow_goto (pc := 107) (tgt := 111) hX d_P_findRanks_107 (by decide) ?_
        exact ow_zret (pc := 111) hX d_P_findRanks_111 (nb_01 (by first | decide | assumption | omega | exact kbit_le _ _)) (by first | rfl | (rw [krk3]; first | rw [if_pos h103] | rw [if_neg h103])) (by first | rfl | (rw [krk3]; first | rw [if_pos h103] | rw [if_neg h103]))
    · skip
      exact absurd h29 (by omega)
  | succ j ih =>
    intro r w hI hr1 hk
    refine ow_iload_n (pc := 26) hX d_P_findRanks_26 rfl ?_
    refine ow_aload_n (pc := 27) hX d_P_findRanks_27 rfl ?_
    refine ow_len (pc := 28) hX rfl (by decide) d_P_findRanks_28 Nat.zero_lt_one ?_
    refine ow_st (st2 := .int (nI (n)) :: _) rfl ?_
    refine ow_nc_ge (pc := 29) (tgt := 100) hX d_P_findRanks_29 (by decide) (by first | assumption | omega) (by first | assumption | omega) (fun h29 => ?_) (fun h29 => ?_)
    · skip
      exact absurd h29 (by omega)
    · skip
      refine ow_iconst (pc := 32) (v := nI 0) hX d_P_findRanks_32 (by decide) ?_
      refine ow_istore (pc := 33) (l2 := [(0, _), (1, _), (2, _), (3, _), (4, _)]) hX d_P_findRanks_33 (by decide) rfl rfl ?_
      refine w_P_ranks2 Y n s c hX hV p hp hn r _ _ n 0 w hI ⟨hr1, h29⟩ (by omega) (fun z hz => ?_)
      refine ow_iinc (pc := 94) (l2 := [(0, _), (1, _), (2, _), (3, _), (4, _)]) hX d_P_findRanks_94 rfl (ii_1 _) (by decide) rfl rfl ?_
      refine ow_goto (pc := 97) (tgt := 26) hX d_P_findRanks_97 (by decide) ?_
      rw [krk3, ← hz]
      refine ow_loc (l2 := [(0, _), (1, _), (2, _), (3, _)]) (fun q hq => by simp only [List.mem_cons, List.not_mem_nil, or_false] at hq ⊢; rcases hq with rfl | rfl | rfl | rfl <;> simp) (ih (r + 1) z (by rw [hz]; exact kri_2 (by omega) n 0 w hI (by omega)) (by omega) (by omega))
theorem kri_0 {n p : Nat} {u : UU} (h1 : 1 ≤ n) (hz : ∀ a b, u.1 7 a b ≤ 1) : kri n p (krk0 n u p, 1) := by
  have hf : ∀ m, (fo (fun j w => ui w 16 p j (-1)) u m).1 = u.1 ∧ ∀ k, k < m → (fo (fun j w => ui w 16 p j (-1)) u m).2.1 16 p k = -1 := by
    intro m
    induction m with
    | zero => exact ⟨rfl, fun k hk => by omega⟩
    | succ m ih =>
      refine ⟨ih.1, fun k hk => ?_⟩
      show (ui (fo (fun j w => ui w 16 p j (-1)) u m) 16 p m (-1)).2.1 16 p k = -1
      rw [ui_2]
      split
      · rfl
      · exact ih.2 k (by omega)
  refine ⟨?_, fun a b => ?_⟩
  · have e : ∀ k, k < n → kas (krk0 n u p) p k = decide (k = 0) := by
      intro k hk
      show decide ((ui (fo (fun j w => ui w 16 p j (-1)) u n) 16 p 0 (nI 0)).2.1 16 p k ≠ -1) = decide (k = 0)
      rw [ui_2]
      by_cases h0 : k = 0
      · subst h0
        rw [if_pos ⟨rfl, rfl, rfl⟩]
        decide
      · rw [if_neg (fun q => h0 q.2.2), (hf n).2 k hk]
        simp [h0]
    rw [cn_eq e]
    clear e hf
    induction n with
    | zero => omega
    | succ n ih =>
      rw [cn]
      by_cases h0 : n = 0
      · subst h0; rfl
      · rw [← ih (by omega)]
        simp [h0]
  · show (un (ui (fo (fun j w => ui w 16 p j (-1)) u n) 16 p 0 (nI 0)) 19 p 0 0).1 7 a b ≤ 1
    rw [un_1, if_neg (by omega)]
    show (fo (fun j w => ui w 16 p j (-1)) u n).1 7 a b ≤ 1
    rw [(hf n).1]
    exact hz a b
set_option maxRecDepth 100000 in
set_option maxHeartbeats 4000000 in
theorem c_P_findRanks (l : Launch) (Y : YY) (n s c : Nat) (hV : pv_ok (vC Y n s c)) (u : UU) (p : Nat) (hp : p < 2) (hn : n ≤ 6) (h1 : 1 ≤ n) (hz : ∀ a b, u.1 7 a b ≤ 1) : Ct l (vC Y n s c) ⟨"SlottedMesh$Plan", "findRanks", "([LSlottedMesh$Node;)Z"⟩ (wz ⟨"SlottedMesh$Plan", "findRanks", "([LSlottedMesh$Node;)Z"⟩ b_P_findRanks 5 (some .boolean)) (rd 1) [.ref (pv_ad (vC Y n s c) 15 p), .ref (pv_ad (vC Y n s c) 1 0)] u (some (.int (nI (if (kc_ranks n u p).2 = n then 1 else 0)))) ((kc_ranks n u p).1) := by
  refine ct_mk hV (by decide +kernel) (Nat.le_of_ble_eq_true rfl) (fun X hX => ?_)
  have hX : ox X (vC Y n s c) (rd 1) b_P_findRanks 5 "SlottedMesh$Plan" gz (some .boolean) := hX
  show ow X (vC Y n s c) (some (.int (nI (if (kc_ranks n u p).2 = n then 1 else 0)))) ((kc_ranks n u p).1) u [(0, .ref (pv_ad (vC Y n s c) 15 p)), (1, .ref (pv_ad (vC Y n s c) 1 0))] 0 []
  refine ow_aload_n (pc := 0) hX d_P_findRanks_0 rfl ?_
  refine ow_gR (pc := 1) hX (kd_P Y n s c) 2 d_P_findRanks_1 kw_170 rfl (by show _ < 2; first | assumption | omega) ?_
  refine ow_iconst (pc := 4) (v := (-1)) hX d_P_findRanks_4 (by decide) ?_
  refine ow_callS (pc := 5) hX (c_A_fill_i _ Y n s c hV u 16 p 0 (-1) rfl hp (by show n < 2 ^ 31; omega)) (cw_S hX mz_A_fill kw_245 ⟨rfl, rfl⟩ (by decide)) rfl (Nat.le_of_ble_eq_true rfl) d_P_findRanks_5 rfl ?_
  refine ow_aload_n (pc := 8) hX d_P_findRanks_8 rfl ?_
  refine ow_gR (pc := 9) hX (kd_P Y n s c) 2 d_P_findRanks_9 kw_170 rfl (by show _ < 2; first | assumption | omega) ?_
  refine ow_iconst (pc := 12) (v := nI 0) hX d_P_findRanks_12 (by decide) ?_
  refine ow_iconst (pc := 13) (v := nI 0) hX d_P_findRanks_13 (by decide) ?_
  refine ow_sI (pc := 14) hX rfl d_P_findRanks_14 (by show _ < 2; first | assumption | omega) (by show _ < n; first | assumption | omega) ?_
  refine ow_aload_n (pc := 15) hX d_P_findRanks_15 rfl ?_
  refine ow_gR (pc := 16) hX (kd_P Y n s c) 5 d_P_findRanks_16 kw_176 rfl (by show _ < 2; first | assumption | omega) ?_
  refine ow_iconst (pc := 19) (v := nI 0) hX d_P_findRanks_19 (by decide) ?_
  refine ow_iconst (pc := 20) (v := nI 0) hX d_P_findRanks_20 (by decide) ?_
  refine ow_sN (pc := 21) hX rfl d_P_findRanks_21 (by show _ < 2; first | assumption | omega) (by show _ < n; first | assumption | omega) ?_
  refine ow_iconst (pc := 22) (v := nI 1) hX d_P_findRanks_22 (by decide) ?_
  refine ow_istore_n (pc := 23) (l2 := [(0, _), (1, _), (2, _)]) hX d_P_findRanks_23 (by decide) rfl rfl ?_
  refine ow_iconst (pc := 24) (v := nI 1) hX d_P_findRanks_24 (by decide) ?_
  refine ow_istore_n (pc := 25) (l2 := [(0, _), (1, _), (2, _), (3, _)]) hX d_P_findRanks_25 (by decide) rfl rfl ?_
  exact w_P_ranks3 Y n s c hX hV p hp hn (n - 1) 1 (krk0 n u p, 1) (kri_0 h1 hz) (by omega) (by omega)
