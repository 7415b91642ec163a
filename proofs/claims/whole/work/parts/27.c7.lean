/-! Plan.make; SlottedMesh: small calls (by program, wip/whole/gen/c7.py) -/
theorem kfl20 (u : UU) (p v : Nat) (m : Nat) : (fo (fun j w => un w 20 p j v) u m).2 = u.2 ∧ ∀ a b c, (fo (fun j w => un w 20 p j v) u m).1 a b c = if a = 20 ∧ b = p ∧ c < m then v else u.1 a b c := by
  induction m with
  | zero => exact ⟨rfl, fun a b c => by rw [if_neg (by omega)]; rfl⟩
  | succ m ih =>
    refine ⟨ih.1, fun a b c => ?_⟩
    show (un (fo (fun j w => un w 20 p j v) u m) 20 p m v).1 a b c = _
    rw [un_1, ih.2]
    by_cases h1 : a = 20 ∧ b = p ∧ c = m
    · rw [if_pos h1, if_pos (by omega)]
    · rw [if_neg h1]
      by_cases h2 : a = 20 ∧ b = p ∧ c < m
      · rw [if_pos h2, if_pos (by omega)]
      · rw [if_neg h2, if_neg (by omega)]
/-- a plan that is empty -/
def kmk (s c : Nat) (u : UU) (p : Nat) : UU := fo (fun j w => un w 20 p j 0) (un (un u 15 p 8 0) 15 p 7 0) (s * c)
theorem kmk_z {s c : Nat} {u : UU} {p : Nat} (hz : ∀ a b, u.1 7 a b ≤ 1) : ∀ a b, (kmk s c u p).1 7 a b ≤ 1 := fun a b => by
  unfold kmk
  rw [(kfl20 _ p 0 (s * c)).2, if_neg (by omega), un_1, if_neg (by omega), un_1, if_neg (by omega)]
  exact hz a b
theorem kmk_g {s c : Nat} {u : UU} {p : Nat} (hg : ∀ q, u.1 20 p q < 400) : ∀ q, (kmk s c u p).1 20 p q < 400 := fun q => by
  unfold kmk
  rw [(kfl20 _ p 0 (s * c)).2]
  split
  · omega
  · rw [un_1, if_neg (by omega), un_1, if_neg (by omega)]; exact hg q
def kc_mk3 (n s c : Nat) (u : UU) (p : Nat) (R : UU) : Nat × UU := if (kadvs s c p n 0 u).1 = 0 then (0, un (kadvs s c p n 0 u).2 15 p 8 0) else if (klnks s c p (kfa n R p) (ksa n R p) (n - 1) 1 (kadvs s c p n 0 u).2).1 = 0 then (0, un (klnks s c p (kfa n R p) (ksa n R p) (n - 1) 1 (kadvs s c p n 0 u).2).2 15 p 8 0) else (1, un (klnks s c p (kfa n R p) (ksa n R p) (n - 1) 1 (kadvs s c p n 0 u).2).2 15 p 8 1)
def kc_make (n s c : Nat) (u : UU) (p : Nat) : Nat × UU := if (kc_ranks n (kmk s c u p) p).2 = n then kc_mk3 n s c (kc_parents n (kc_ranks n (kmk s c u p) p).1 p) p (kc_ranks n (kmk s c u p) p).1 else (0, (kc_ranks n (kmk s c u p) p).1)
theorem kadvs_lt {s c p : Nat} : ∀ j k w, (kadvs s c p j k w).1 < 2 ^ 31 := by
  intro j
  induction j with
  | zero => intro k w; show 1 < 2 ^ 31; decide
  | succ j ih => intro k w; rw [kadvs]; split; (· show 0 < 2 ^ 31; decide); exact ih _ _
theorem klnks_lt {s c p : Nat} {fa sa : Nat → Option Nat} : ∀ j k w, (klnks s c p fa sa j k w).1 < 2 ^ 31 := by
  intro j
  induction j with
  | zero => intro k w; show 1 < 2 ^ 31; decide
  | succ j ih =>
    intro k w
    rw [klnks]
    split
    · show 0 < 2 ^ 31; decide
    · unfold kl1 kl2 kl3
      repeat' split
      all_goals first | exact ih _ _ | (show 0 < 2 ^ 31; decide)
set_option maxRecDepth 100000 in
set_option maxHeartbeats 4000000 in
theorem c_P_make (l : Launch) (Y : YY) (n s c : Nat) (hV : pv_ok (vC Y n s c)) (u : UU) (p : Nat) (hp : p < 2) (hs : s < 2 ^ 31) (hsc : s * c < 2 ^ 31) (h0 : 0 < c) (hc : c ≤ 4) (hn : n ≤ 6) (h1 : 1 ≤ n) (hz : ∀ a b, u.1 7 a b ≤ 1) (hg : ∀ q, u.1 20 p q < 400) : Ct l (vC Y n s c) ⟨"SlottedMesh$Plan", "make", "([LSlottedMesh$Node;)Z"⟩ (wz ⟨"SlottedMesh$Plan", "make", "([LSlottedMesh$Node;)Z"⟩ b_P_make 2 (some .boolean)) (rd 5) [.ref (pv_ad (vC Y n s c) 15 p), .ref (pv_ad (vC Y n s c) 1 0)] u (some (.int (nI (kc_make n s c u p).1))) ((kc_make n s c u p).2) := by
  refine ct_mk hV (by decide +kernel) (Nat.le_of_ble_eq_true rfl) (fun X hX => ?_)
  have hX : ox X (vC Y n s c) (rd 5) b_P_make 2 "SlottedMesh$Plan" gz (some .boolean) := hX
  show ow X (vC Y n s c) (some (.int (nI (kc_make n s c u p).1))) ((kc_make n s c u p).2) u [(0, .ref (pv_ad (vC Y n s c) 15 p)), (1, .ref (pv_ad (vC Y n s c) 1 0))] 0 []
  refine ow_aload_n (pc := 0) hX d_P_make_0 rfl ?_
  refine ow_iconst (pc := 1) (v := nI 0) hX d_P_make_1 (by decide) ?_
  refine ow_pZ (pc := 2) hX (kd_P Y n s c) 8 d_P_make_2 kw_180 rfl (by show _ < 2; first | assumption | omega) rfl (by decide +kernel) (by first | assumption | omega | exact kadvs_lt _ _ _ | exact klnks_lt _ _ _ | (split <;> decide)) ?_
  refine ow_aload_n (pc := 5) hX d_P_make_5 rfl ?_
  refine ow_iconst (pc := 6) (v := nI 0) hX d_P_make_6 (by decide) ?_
  refine ow_pN (pc := 7) hX (kd_P Y n s c) 7 d_P_make_7 kw_179 rfl (by show _ < 2; first | assumption | omega) rfl (by decide +kernel) ?_
  refine ow_aload_n (pc := 10) hX d_P_make_10 rfl ?_
  refine ow_gR (pc := 11) hX (kd_P Y n s c) 6 d_P_make_11 kw_177 rfl (by show _ < 2; first | assumption | omega) ?_
  refine ow_iconst (pc := 14) (v := nI 0) hX d_P_make_14 (by decide) ?_
  refine ow_callS (pc := 15) hX (c_A_fill_n _ Y n s c hV _ 20 p 0 0 rfl hp (by show s * c < 2 ^ 31; exact hsc)) (cw_S hX mz_A_fill kw_245 ⟨rfl, rfl⟩ (by decide)) rfl (Nat.le_of_ble_eq_true rfl) d_P_make_15 rfl ?_
  refine ow_aload_n (pc := 18) hX d_P_make_18 rfl ?_
  refine ow_aload_n (pc := 19) hX d_P_make_19 rfl ?_
  refine ow_callV (pc := 20) hX (kd_P Y n s c) (by show _ < 2; first | assumption | omega) (c_P_findRanks _ Y n s c hV (kmk s c u p) p hp hn h1 (kmk_z hz)) (cw_V hX mz_P_findRanks kw_248 ⟨rfl, rfl⟩ (by decide)) rfl (Nat.le_of_ble_eq_true rfl) d_P_make_20 rfl ?_
  refine ow_nz_ne (pc := 23) (tgt := 28) hX d_P_make_23 (by decide) (by first | assumption | omega | exact kadvs_lt _ _ _ | exact klnks_lt _ _ _ | (split <;> decide)) (fun h23 => ?_) (fun h23 => ?_)
  · skip
    have hf : (kc_ranks n (kmk s c u p) p).2 = n := Classical.byContradiction (fun q => h23 (by rw [if_neg q]))
    have hz2 : ∀ a b, (kc_ranks n (kmk s c u p) p).1.1 7 a b ≤ 1 := fun a b => by rw [(kro_all h1 (by omega)).1 7 a b (by decide)]; exact kmk_z hz a b
    have hJ := kj_all h1 (by omega) (kmk_g hg) hf
    refine ow_aload_n (pc := 28) hX d_P_make_28 rfl ?_
    refine ow_aload_n (pc := 29) hX d_P_make_29 rfl ?_
    refine ow_callV (pc := 30) hX (kd_P Y n s c) (by show _ < 2; first | assumption | omega) (c_P_findParents _ Y n s c hV (kc_ranks n (kmk s c u p) p).1 p hp hn h1 hz2) (cw_V hX mz_P_findParents kw_256 ⟨rfl, rfl⟩ (by decide)) rfl (Nat.le_of_ble_eq_true rfl) d_P_make_30 rfl ?_
    refine ow_aload_n (pc := 33) hX d_P_make_33 rfl ?_
    refine ow_aload_n (pc := 34) hX d_P_make_34 rfl ?_
    refine ow_callV (pc := 35) hX (kd_P Y n s c) (by show _ < 2; first | assumption | omega) (c_P_placeAdverts _ Y n s c hV (kc_parents n (kc_ranks n (kmk s c u p) p).1 p) p hp hs h0 hc hn hJ.1) (cw_V hX mz_P_placeAdverts kw_260 ⟨rfl, rfl⟩ (by decide)) rfl (Nat.le_of_ble_eq_true rfl) d_P_make_35 rfl ?_
    refine ow_nz_eq (pc := 38) (tgt := 52) hX d_P_make_38 (by decide) (by first | assumption | omega | exact kadvs_lt _ _ _ | exact klnks_lt _ _ _ | (split <;> decide)) (fun h38 => ?_) (fun h38 => ?_)
    · skip
      refine ow_iconst (pc := 52) (v := nI 0) hX d_P_make_52 (by decide) ?_
      refine ow_pZ (pc := 53) hX (kd_P Y n s c) 8 d_P_make_53 kw_180 rfl (by show _ < 2; first | assumption | omega) rfl (by decide +kernel) (by first | assumption | omega | exact kadvs_lt _ _ _ | exact klnks_lt _ _ _ | (split <;> decide)) ?_
      refine ow_aload_n (pc := 56) hX d_P_make_56 rfl ?_
      refine ow_gN (pc := 57) hX (kd_P Y n s c) 8 d_P_make_57 kw_180 rfl (by show _ < 2; first | assumption | omega) ?_
      try simp only [un_1, un_2, ui_1, ui_2, ui_3, ul_1, ul_2, ul_3, ul_4, ur_1, ur_2, ur_3, ur_4, Nat.reduceEqDiff, false_and, and_false, true_and, and_true, and_self, reduceIte]
      exact ow_zret (pc := 60) hX d_P_make_60 (nb_01 (by first | decide | assumption | omega | exact kbit_le _ _)) (by (unfold kc_make; first | (rw [if_neg (fun q => by rw [if_pos q] at h23; cases h23)]; done) | (rw [if_pos hf]; unfold kc_mk3; first | rw [if_pos h38] | rw [if_neg h38, if_pos h45] | rw [if_neg h38, if_neg h45]))) (by (unfold kc_make; first | (rw [if_neg (fun q => by rw [if_pos q] at h23; cases h23)]; done) | (rw [if_pos hf]; unfold kc_mk3; first | rw [if_pos h38] | rw [if_neg h38, if_pos h45] | rw [if_neg h38, if_neg h45])))
    · skip
      refine ow_aload_n (pc := 41) hX d_P_make_41 rfl ?_
      refine ow_callV (pc := 42) hX (kd_P Y n s c) (by show _ < 2; first | assumption | omega) (c_P_placeLinks _ Y n s c hV _ p hp hs h0 hc hn h1 (kfa n (kc_ranks n (kmk s c u p) p).1 p) (ksa n (kc_ranks n (kmk s c u p) p).1 p) (kj_advs hn n 0 _ hJ (by omega))) (cw_V hX mz_P_placeLinks kw_276 ⟨rfl, rfl⟩ (by decide)) rfl (Nat.le_of_ble_eq_true rfl) d_P_make_42 rfl ?_
      refine ow_nz_eq (pc := 45) (tgt := 52) hX d_P_make_45 (by decide) (by first | assumption | omega | exact kadvs_lt _ _ _ | exact klnks_lt _ _ _ | (split <;> decide)) (fun h45 => ?_) (fun h45 => ?_)
      · skip
        refine ow_iconst (pc := 52) (v := nI 0) hX d_P_make_52 (by decide) ?_
        refine ow_pZ (pc := 53) hX (kd_P Y n s c) 8 d_P_make_53 kw_180 rfl (by show _ < 2; first | assumption | omega) rfl (by decide +kernel) (by first | assumption | omega | exact kadvs_lt _ _ _ | exact klnks_lt _ _ _ | (split <;> decide)) ?_
        refine ow_aload_n (pc := 56) hX d_P_make_56 rfl ?_
        refine ow_gN (pc := 57) hX (kd_P Y n s c) 8 d_P_make_57 kw_180 rfl (by show _ < 2; first | assumption | omega) ?_
        try simp only [un_1, un_2, ui_1, ui_2, ui_3, ul_1, ul_2, ul_3, ul_4, ur_1, ur_2, ur_3, ur_4, Nat.reduceEqDiff, false_and, and_false, true_and, and_true, and_self, reduceIte]
        exact ow_zret (pc := 60) hX d_P_make_60 (nb_01 (by first | decide | assumption | omega | exact kbit_le _ _)) (by (unfold kc_make; first | (rw [if_neg (fun q => by rw [if_pos q] at h23; cases h23)]; done) | (rw [if_pos hf]; unfold kc_mk3; first | rw [if_pos h38] | rw [if_neg h38, if_pos h45] | rw [if_neg h38, if_neg h45]))) (by (unfold kc_make; first | (rw [if_neg (fun q => by rw [if_pos q] at h23; cases h23)]; done) | (rw [if_pos hf]; unfold kc_mk3; first | rw [if_pos h38] | rw [if_neg h38, if_pos h45] | rw [if_neg h38, if_neg h45])))
      · skip
        refine ow_iconst (pc := 48) (v := nI 1) hX d_P_make_48 (by decide) ?_
        refine ow_goto (pc := 49) (tgt := 53) hX d_P_make_49 (by decide) ?_
        refine ow_pZ (pc := 53) hX (kd_P Y n s c) 8 d_P_make_53 kw_180 rfl (by show _ < 2; first | assumption | omega) rfl (by decide +kernel) (by first | assumption | omega | exact kadvs_lt _ _ _ | exact klnks_lt _ _ _ | (split <;> decide)) ?_
        refine ow_aload_n (pc := 56) hX d_P_make_56 rfl ?_
        refine ow_gN (pc := 57) hX (kd_P Y n s c) 8 d_P_make_57 kw_180 rfl (by show _ < 2; first | assumption | omega) ?_
        try simp only [un_1, un_2, ui_1, ui_2, ui_3, ul_1, ul_2, ul_3, ul_4, ur_1, ur_2, ur_3, ur_4, Nat.reduceEqDiff, false_and, and_false, true_and, and_true, and_self, reduceIte]
        exact ow_zret (pc := 60) hX d_P_make_60 (nb_01 (by first | decide | assumption | omega | exact kbit_le _ _)) (by (unfold kc_make; first | (rw [if_neg (fun q => by rw [if_pos q] at h23; cases h23)]; done) | (rw [if_pos hf]; unfold kc_mk3; first | rw [if_pos h38] | rw [if_neg h38, if_pos h45] | rw [if_neg h38, if_neg h45]))) (by (unfold kc_make; first | (rw [if_neg (fun q => by rw [if_pos q] at h23; cases h23)]; done) | (rw [if_pos hf]; unfold kc_mk3; first | rw [if_pos h38] | rw [if_neg h38, if_pos h45] | rw [if_neg h38, if_neg h45])))
  · skip
    refine ow_iconst (pc := 26) (v := nI 0) hX d_P_make_26 (by decide) ?_
    exact ow_zret (pc := 27) hX d_P_make_27 (nb_01 (by first | decide | assumption | omega | exact kbit_le _ _)) (by (unfold kc_make; first | (rw [if_neg (fun q => by rw [if_pos q] at h23; cases h23)]; done) | (rw [if_pos hf]; unfold kc_mk3; first | rw [if_pos h38] | rw [if_neg h38, if_pos h45] | rw [if_neg h38, if_neg h45]))) (by (unfold kc_make; first | (rw [if_neg (fun q => by rw [if_pos q] at h23; cases h23)]; done) | (rw [if_pos hf]; unfold kc_mk3; first | rw [if_pos h38] | rw [if_neg h38, if_pos h45] | rw [if_neg h38, if_neg h45])))
/-- a number that names one of n things -/
def nd (n : Nat) (x : Int32) : Option Nat := if x < 0 then none else if nI n ≤ x then none else some x.toNatClampNeg
theorem nd_some {n a : Nat} {x : Int32} (hn : n < 2 ^ 31) (h : nd n x = some a) : a < n ∧ x = nI a := by
  unfold nd at h
  split at h
  · cases h
  · split at h
    · cases h
    · rename_i h1 h2
      obtain ⟨j, hj, rfl⟩ : ∃ j : Nat, j < n ∧ x = nI j := by
        rcases pk_ix x hn with h3 | h3 | h3
        · exact absurd h3 h1
        · exact absurd h3 h2
        · exact h3
      rw [nI_clamp (by omega)] at h
      cases h
      exact ⟨hj, rfl⟩
theorem nd_nI {n a : Nat} (hn : n < 2 ^ 31) (h : a < n) : nd n (nI a) = some a := by
  unfold nd
  rw [if_neg (nI_pos (by omega)), if_neg (nI_ge h hn), nI_clamp (by omega)]
def kb (o : Option Nat) : Nat := match o with
  | some _ => 1
  | none => 0
theorem kb_le (o : Option Nat) : kb o ≤ 1 := by cases o <;> simp [kb]
/-- a field node -/
def nf (n : Nat) (x : Int32) : Option Nat := if x = 0 then none else nd n x
def kin (v lo hi : Int32) : Nat := if v < lo then 0 else if hi < v then 0 else 1
theorem kin_le (v lo hi : Int32) : kin v lo hi ≤ 1 := by unfold kin; split; (· omega); split <;> omega
set_option maxRecDepth 100000 in
set_option maxHeartbeats 4000000 in
theorem c_S_isNode (l : Launch) (Y : YY) (n s c : Nat) (hV : pv_ok (vC Y n s c)) (u : UU) (x : Int32) (hn : n ≤ 6) : Ct l (vC Y n s c) ⟨"SlottedMesh", "isNode", "(I)Z"⟩ (wz ⟨"SlottedMesh", "isNode", "(I)Z"⟩ b_S_isNode 2 (some .boolean)) (rd 0) [.ref (pv_ad (vC Y n s c) 0 0), .int x] u (some (.int (nI (kb (nd n x))))) (u) := by
  refine ct_mk hV (by decide +kernel) (Nat.le_of_ble_eq_true rfl) (fun X hX => ?_)
  have hX : ox X (vC Y n s c) (rd 0) b_S_isNode 2 "SlottedMesh" gz (some .boolean) := hX
  show ow X (vC Y n s c) (some (.int (nI (kb (nd n x))))) (u) u [(0, .ref (pv_ad (vC Y n s c) 0 0)), (1, .int x)] 0 []
  refine ow_iload_n (pc := 0) hX d_S_isNode_0 rfl ?_
  refine ow_if_lt (pc := 1) (tgt := 17) hX d_S_isNode_1 (by decide) (fun h1 => ?_) (fun h1 => ?_)
  · skip
    refine ow_iconst (pc := 17) (v := nI 0) hX d_S_isNode_17 (by decide) ?_
    exact ow_zret (pc := 18) hX d_S_isNode_18 (nb_01 (by first | decide | assumption | omega | exact kbit_le _ _)) (by first | rfl | ((unfold nd; first | rw [if_pos h1] | rw [if_neg h1, if_pos h10] | rw [if_neg h1, if_neg h10]) <;> rfl)) (by first | rfl | ((unfold nd; first | rw [if_pos h1] | rw [if_neg h1, if_pos h10] | rw [if_neg h1, if_neg h10]) <;> rfl))
  · skip
    refine ow_iload_n (pc := 4) hX d_S_isNode_4 rfl ?_
    refine ow_aload_n (pc := 5) hX d_S_isNode_5 rfl ?_
    refine ow_gR (pc := 6) hX (kd_S Y n s c) 2 d_S_isNode_6 kw_203 rfl Nat.zero_lt_one ?_
    refine ow_len (pc := 9) hX rfl (by decide) d_S_isNode_9 Nat.zero_lt_one ?_
    refine ow_st (st2 := .int (nI (n)) :: _) rfl ?_
    refine ow_ic_ge (pc := 10) (tgt := 17) hX d_S_isNode_10 (by decide) (fun h10 => ?_) (fun h10 => ?_)
    · skip
      refine ow_iconst (pc := 17) (v := nI 0) hX d_S_isNode_17 (by decide) ?_
      exact ow_zret (pc := 18) hX d_S_isNode_18 (nb_01 (by first | decide | assumption | omega | exact kbit_le _ _)) (by first | rfl | ((unfold nd; first | rw [if_pos h1] | rw [if_neg h1, if_pos h10] | rw [if_neg h1, if_neg h10]) <;> rfl)) (by first | rfl | ((unfold nd; first | rw [if_pos h1] | rw [if_neg h1, if_pos h10] | rw [if_neg h1, if_neg h10]) <;> rfl))
    · skip
      refine ow_iconst (pc := 13) (v := nI 1) hX d_S_isNode_13 (by decide) ?_
      refine ow_goto (pc := 14) (tgt := 18) hX d_S_isNode_14 (by decide) ?_
      exact ow_zret (pc := 18) hX d_S_isNode_18 (nb_01 (by first | decide | assumption | omega | exact kbit_le _ _)) (by first | rfl | ((unfold nd; first | rw [if_pos h1] | rw [if_neg h1, if_pos h10] | rw [if_neg h1, if_neg h10]) <;> rfl)) (by first | rfl | ((unfold nd; first | rw [if_pos h1] | rw [if_neg h1, if_pos h10] | rw [if_neg h1, if_neg h10]) <;> rfl))
set_option maxRecDepth 100000 in
set_option maxHeartbeats 4000000 in
theorem c_S_isChannel (l : Launch) (Y : YY) (n s c : Nat) (hV : pv_ok (vC Y n s c)) (u : UU) (x : Int32) : Ct l (vC Y n s c) ⟨"SlottedMesh", "isChannel", "(I)Z"⟩ (wz ⟨"SlottedMesh", "isChannel", "(I)Z"⟩ b_S_isChannel 2 (some .boolean)) (rd 0) [.ref (pv_ad (vC Y n s c) 0 0), .int x] u (some (.int (nI (kb (nd c x))))) (u) := by
  refine ct_mk hV (by decide +kernel) (Nat.le_of_ble_eq_true rfl) (fun X hX => ?_)
  have hX : ox X (vC Y n s c) (rd 0) b_S_isChannel 2 "SlottedMesh" gz (some .boolean) := hX
  show ow X (vC Y n s c) (some (.int (nI (kb (nd c x))))) (u) u [(0, .ref (pv_ad (vC Y n s c) 0 0)), (1, .int x)] 0 []
  refine ow_iload_n (pc := 0) hX d_S_isChannel_0 rfl ?_
  refine ow_if_lt (pc := 1) (tgt := 16) hX d_S_isChannel_1 (by decide) (fun h1 => ?_) (fun h1 => ?_)
  · skip
    refine ow_iconst (pc := 16) (v := nI 0) hX d_S_isChannel_16 (by decide) ?_
    exact ow_zret (pc := 17) hX d_S_isChannel_17 (nb_01 (by first | decide | assumption | omega | exact kbit_le _ _)) (by first | rfl | ((unfold nd; first | rw [if_pos h1] | rw [if_neg h1, if_pos h9] | rw [if_neg h1, if_neg h9]) <;> rfl)) (by first | rfl | ((unfold nd; first | rw [if_pos h1] | rw [if_neg h1, if_pos h9] | rw [if_neg h1, if_neg h9]) <;> rfl))
  · skip
    refine ow_iload_n (pc := 4) hX d_S_isChannel_4 rfl ?_
    refine ow_aload_n (pc := 5) hX d_S_isChannel_5 rfl ?_
    refine ow_gK (pc := 6) hX (kd_S Y n s c) 1 d_S_isChannel_6 kw_202 rfl Nat.zero_lt_one ?_
    refine ow_ic_ge (pc := 9) (tgt := 16) hX d_S_isChannel_9 (by decide) (fun h9 => ?_) (fun h9 => ?_)
    · skip
      refine ow_iconst (pc := 16) (v := nI 0) hX d_S_isChannel_16 (by decide) ?_
      exact ow_zret (pc := 17) hX d_S_isChannel_17 (nb_01 (by first | decide | assumption | omega | exact kbit_le _ _)) (by first | rfl | ((unfold nd; first | rw [if_pos h1] | rw [if_neg h1, if_pos h9] | rw [if_neg h1, if_neg h9]) <;> rfl)) (by first | rfl | ((unfold nd; first | rw [if_pos h1] | rw [if_neg h1, if_pos h9] | rw [if_neg h1, if_neg h9]) <;> rfl))
    · skip
      refine ow_iconst (pc := 12) (v := nI 1) hX d_S_isChannel_12 (by decide) ?_
      refine ow_goto (pc := 13) (tgt := 17) hX d_S_isChannel_13 (by decide) ?_
      exact ow_zret (pc := 17) hX d_S_isChannel_17 (nb_01 (by first | decide | assumption | omega | exact kbit_le _ _)) (by first | rfl | ((unfold nd; first | rw [if_pos h1] | rw [if_neg h1, if_pos h9] | rw [if_neg h1, if_neg h9]) <;> rfl)) (by first | rfl | ((unfold nd; first | rw [if_pos h1] | rw [if_neg h1, if_pos h9] | rw [if_neg h1, if_neg h9]) <;> rfl))
set_option maxRecDepth 100000 in
set_option maxHeartbeats 4000000 in
theorem c_S_isWithin (l : Launch) (Y : YY) (n s c : Nat) (hV : pv_ok (vC Y n s c)) (u : UU) (v lo hi : Int32) : Ct l (vC Y n s c) ⟨"SlottedMesh", "isWithin", "(III)Z"⟩ (wz ⟨"SlottedMesh", "isWithin", "(III)Z"⟩ b_S_isWithin 3 (some .boolean)) (rd 0) [.int v, .int lo, .int hi] u (some (.int (nI (kin v lo hi)))) (u) := by
  refine ct_mk hV (by decide +kernel) (Nat.le_of_ble_eq_true rfl) (fun X hX => ?_)
  have hX : ox X (vC Y n s c) (rd 0) b_S_isWithin 3 "SlottedMesh" gz (some .boolean) := hX
  show ow X (vC Y n s c) (some (.int (nI (kin v lo hi)))) (u) u [(0, .int v), (1, .int lo), (2, .int hi)] 0 []
  refine ow_iload_n (pc := 0) hX d_S_isWithin_0 rfl ?_
  refine ow_iload_n (pc := 1) hX d_S_isWithin_1 rfl ?_
  refine ow_ic_lt (pc := 2) (tgt := 14) hX d_S_isWithin_2 (by decide) (fun h2 => ?_) (fun h2 => ?_)
  · skip
    refine ow_iconst (pc := 14) (v := nI 0) hX d_S_isWithin_14 (by decide) ?_
    exact ow_zret (pc := 15) hX d_S_isWithin_15 (nb_01 (by first | decide | assumption | omega | exact kbit_le _ _)) (by first | rfl | (unfold kin; first | rw [if_pos h2] | rw [if_neg h2, if_pos h7] | rw [if_neg h2, if_neg h7])) (by first | rfl | (unfold kin; first | rw [if_pos h2] | rw [if_neg h2, if_pos h7] | rw [if_neg h2, if_neg h7]))
  · skip
    refine ow_iload_n (pc := 5) hX d_S_isWithin_5 rfl ?_
    refine ow_iload_n (pc := 6) hX d_S_isWithin_6 rfl ?_
    refine ow_ic_gt (pc := 7) (tgt := 14) hX d_S_isWithin_7 (by decide) (fun h7 => ?_) (fun h7 => ?_)
    · skip
      refine ow_iconst (pc := 14) (v := nI 0) hX d_S_isWithin_14 (by decide) ?_
      exact ow_zret (pc := 15) hX d_S_isWithin_15 (nb_01 (by first | decide | assumption | omega | exact kbit_le _ _)) (by first | rfl | (unfold kin; first | rw [if_pos h2] | rw [if_neg h2, if_pos h7] | rw [if_neg h2, if_neg h7])) (by first | rfl | (unfold kin; first | rw [if_pos h2] | rw [if_neg h2, if_pos h7] | rw [if_neg h2, if_neg h7]))
    · skip
      refine ow_iconst (pc := 10) (v := nI 1) hX d_S_isWithin_10 (by decide) ?_
      refine ow_goto (pc := 11) (tgt := 15) hX d_S_isWithin_11 (by decide) ?_
      exact ow_zret (pc := 15) hX d_S_isWithin_15 (nb_01 (by first | decide | assumption | omega | exact kbit_le _ _)) (by first | rfl | (unfold kin; first | rw [if_pos h2] | rw [if_neg h2, if_pos h7] | rw [if_neg h2, if_neg h7])) (by first | rfl | (unfold kin; first | rw [if_pos h2] | rw [if_neg h2, if_pos h7] | rw [if_neg h2, if_neg h7]))
set_option maxRecDepth 100000 in
set_option maxHeartbeats 4000000 in
theorem c_S_isFieldNode (l : Launch) (Y : YY) (n s c : Nat) (hV : pv_ok (vC Y n s c)) (u : UU) (x : Int32) (hn : n ≤ 6) : Ct l (vC Y n s c) ⟨"SlottedMesh", "isFieldNode", "(I)Z"⟩ (wz ⟨"SlottedMesh", "isFieldNode", "(I)Z"⟩ b_S_isFieldNode 2 (some .boolean)) (rd 1) [.ref (pv_ad (vC Y n s c) 0 0), .int x] u (some (.int (nI (kb (nf n x))))) (u) := by
  refine ct_mk hV (by decide +kernel) (Nat.le_of_ble_eq_true rfl) (fun X hX => ?_)
  have hX : ox X (vC Y n s c) (rd 1) b_S_isFieldNode 2 "SlottedMesh" gz (some .boolean) := hX
  show ow X (vC Y n s c) (some (.int (nI (kb (nf n x))))) (u) u [(0, .ref (pv_ad (vC Y n s c) 0 0)), (1, .int x)] 0 []
  refine ow_aload_n (pc := 0) hX d_S_isFieldNode_0 rfl ?_
  refine ow_iload_n (pc := 1) hX d_S_isFieldNode_1 rfl ?_
  refine ow_callV (pc := 2) hX (kd_S Y n s c) Nat.zero_lt_one (c_S_isNode _ Y n s c hV u x hn) (cw_V hX mz_S_isNode kw_233 ⟨rfl, rfl⟩ (by decide)) rfl (Nat.le_of_ble_eq_true rfl) d_S_isFieldNode_2 rfl ?_
  rcases hx : nd n x with _ | a
  · skip
    refine ow_st (st2 := .int (nI 0) :: _) rfl ?_
    refine ow_nz_eq (pc := 5) (tgt := 16) hX d_S_isFieldNode_5 (by decide) (by first | assumption | omega | (have := kb_le (nd n x); omega)) (fun h5 => ?_) (fun h5 => ?_)
    · skip
      refine ow_iconst (pc := 16) (v := nI 0) hX d_S_isFieldNode_16 (by decide) ?_
      exact ow_zret (pc := 17) hX d_S_isFieldNode_17 (nb_01 (by first | decide | assumption | omega | exact kbit_le _ _)) (by first | rfl | (unfold nf; split <;> simp_all [kb])) (by first | rfl | (unfold nf; split <;> simp_all [kb]))
    · skip
      exact absurd h5 (by decide)
  · skip
    refine ow_st (st2 := .int (nI 1) :: _) rfl ?_
    refine ow_nz_eq (pc := 5) (tgt := 16) hX d_S_isFieldNode_5 (by decide) (by first | assumption | omega | (have := kb_le (nd n x); omega)) (fun h5 => ?_) (fun h5 => ?_)
    · skip
      exact absurd h5 (by decide)
    · skip
      refine ow_iload_n (pc := 8) hX d_S_isFieldNode_8 rfl ?_
      refine ow_if_eq (pc := 9) (tgt := 16) hX d_S_isFieldNode_9 (by decide) (fun h9 => ?_) (fun h9 => ?_)
      · skip
        refine ow_iconst (pc := 16) (v := nI 0) hX d_S_isFieldNode_16 (by decide) ?_
        exact ow_zret (pc := 17) hX d_S_isFieldNode_17 (nb_01 (by first | decide | assumption | omega | exact kbit_le _ _)) (by first | rfl | (unfold nf; split <;> simp_all [kb])) (by first | rfl | (unfold nf; split <;> simp_all [kb]))
      · skip
        refine ow_iconst (pc := 12) (v := nI 1) hX d_S_isFieldNode_12 (by decide) ?_
        refine ow_goto (pc := 13) (tgt := 17) hX d_S_isFieldNode_13 (by decide) ?_
        exact ow_zret (pc := 17) hX d_S_isFieldNode_17 (nb_01 (by first | decide | assumption | omega | exact kbit_le _ _)) (by first | rfl | (unfold nf; split <;> simp_all [kb])) (by first | rfl | (unfold nf; split <;> simp_all [kb]))
