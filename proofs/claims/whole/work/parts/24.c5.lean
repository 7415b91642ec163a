/-! Plan: loops over the nodes (by program, wip/whole/gen/c5.py) -/
theorem kc_advert_lt {s c : Nat} {u : UU} {p x : Nat} : (kc_advert s c u p x).1 < 2 ^ 31 := by
  have := @kc_adv_le c u p x (fnd (kadv c u p) s 0)
  unfold kc_advert; omega
theorem kc_link_lt {s c : Nat} {u : UU} {p d x y : Nat} : (kc_link s c u p d x y).1 < 2 ^ 31 := by
  have := @kc_lnk_le c u p (d + 10 * x + y) (klink (fun q => u.1 20 p q) c x y s 0)
  unfold kc_link; omega
/-- codes and order are numbers of cells and nodes -/
def ki (n p : Nat) (w : UU) : Prop := (∀ q, w.1 20 p q < 400) ∧ ∀ k, k < n → w.1 19 p k < n
theorem ki_adv {n p c x : Nat} {w : UU} {o : Option Nat} (h : ki n p w) (hx : x < 10) : ki n p (kc_adv c w p x o).2 := by
  cases o with
  | none => exact h
  | some a =>
    refine ⟨fun q => ?_, fun k hk => ?_⟩
    · show (un (kc_fill c w p a (100 + 10 * x)) 15 p 7 _).1 20 p q < 400
      rw [un_1, if_neg (by omega), kc_fill_1]
      split
      · omega
      · exact h.1 q
    · show (un (kc_fill c w p a (100 + 10 * x)) 15 p 7 _).1 19 p k < n
      rw [un_1, if_neg (by omega), kc_fill_1, if_neg (by omega)]
      exact h.2 k hk
theorem ki_lnk {n p c z : Nat} {w : UU} {o : Option (Nat × Nat)} (h : ki n p w) (hz : z < 400) : ki n p (kc_lnk c w p z o).2 := by
  cases o with
  | none => exact h
  | some a =>
    refine ⟨fun q => ?_, fun k hk => ?_⟩
    · show (un (un w 20 p (a.1 * c + a.2) z) 15 p 7 _).1 20 p q < 400
      rw [un_1, if_neg (by omega), un_1]
      split
      · exact hz
      · exact h.1 q
    · show (un (un w 20 p (a.1 * c + a.2) z) 15 p 7 _).1 19 p k < n
      rw [un_1, if_neg (by omega), un_1, if_neg (by omega)]
      exact h.2 k hk
theorem kc_lnk_2 {c p z : Nat} {w : UU} {o : Option (Nat × Nat)} : (kc_lnk c w p z o).2.2 = w.2 := by cases o <;> rfl
theorem kc_lnk_o {c p z : Nat} {w : UU} {o : Option (Nat × Nat)} (i k : Nat) : (kc_lnk c w p z o).2.1 19 i k = w.1 19 i k := by
  cases o with
  | none => rfl
  | some a =>
    show (un (un w 20 p (a.1 * c + a.2) z) 15 p 7 _).1 19 i k = _
    rw [un_1, if_neg (by omega), un_1, if_neg (by omega)]
def kadvs (s c p : Nat) : Nat → Nat → UU → Nat × UU
  | 0, _, w => (1, w)
  | j + 1, k, w => if (kc_advert s c w p (w.1 19 p k)).1 = 0 then (0, (kc_advert s c w p (w.1 19 p k)).2) else kadvs s c p j (k + 1) (kc_advert s c w p (w.1 19 p k)).2
set_option maxRecDepth 100000 in
set_option maxHeartbeats 4000000 in
theorem w_P_adverts {X : OX} (Y : YY) (n s c : Nat) (hX : ox X (vC Y n s c) (rd 2) b_P_placeAdverts 2 "SlottedMesh$Plan" gz (some .boolean)) (hV : pv_ok (vC Y n s c)) (p : Nat) (hp : p < 2) (hs : s < 2 ^ 31) (h0 : 0 < c) (hc : c ≤ 4) (hn : n ≤ 6) : ∀ j k w, ki n p w → k + j = n → ow X (vC Y n s c) (some (.int (nI (kadvs s c p j k w).1))) (kadvs s c p j k w).2 w [(0, .ref (pv_ad (vC Y n s c) 15 p)), (1, .int (nI k))] 2 [] := by
  intro j
  induction j with
  | zero =>
    intro k w hI hk
    refine ow_iload_n (pc := 2) hX d_P_placeAdverts_2 rfl ?_
    refine ow_aload_n (pc := 3) hX d_P_placeAdverts_3 rfl ?_
    refine ow_gR (pc := 4) hX (kd_P Y n s c) 5 d_P_placeAdverts_4 kw_176 rfl (by show _ < 2; first | assumption | omega) ?_
    refine ow_len (pc := 7) hX rfl (by decide) d_P_placeAdverts_7 (by show _ < 2; first | assumption | omega) ?_
    refine ow_st (st2 := .int (nI (n)) :: _) rfl ?_
    refine ow_nc_ge (pc := 8) (tgt := 32) hX d_P_placeAdverts_8 (by decide) (by first | assumption | omega | exact kc_advert_lt) (by first | assumption | omega | exact kc_advert_lt) (fun h8 => ?_) (fun h8 => ?_)
    · skip
      refine ow_iconst (pc := 32) (v := nI 1) hX d_P_placeAdverts_32 (by decide) ?_
      exact ow_zret (pc := 33) hX d_P_placeAdverts_33 (nb_01 (by first | decide | assumption | omega | exact kbit_le _ _)) (by first | rfl | (unfold kadvs; rfl)) (by first | rfl | (unfold kadvs; rfl))
    · skip
      exact absurd h8 (by omega)
  | succ j ih =>
    intro k w hI hk
    refine ow_iload_n (pc := 2) hX d_P_placeAdverts_2 rfl ?_
    refine ow_aload_n (pc := 3) hX d_P_placeAdverts_3 rfl ?_
    refine ow_gR (pc := 4) hX (kd_P Y n s c) 5 d_P_placeAdverts_4 kw_176 rfl (by show _ < 2; first | assumption | omega) ?_
    refine ow_len (pc := 7) hX rfl (by decide) d_P_placeAdverts_7 (by show _ < 2; first | assumption | omega) ?_
    refine ow_st (st2 := .int (nI (n)) :: _) rfl ?_
    refine ow_nc_ge (pc := 8) (tgt := 32) hX d_P_placeAdverts_8 (by decide) (by first | assumption | omega | exact kc_advert_lt) (by first | assumption | omega | exact kc_advert_lt) (fun h8 => ?_) (fun h8 => ?_)
    · skip
      exact absurd h8 (by omega)
    · skip
      refine ow_aload_n (pc := 11) hX d_P_placeAdverts_11 rfl ?_
      refine ow_aload_n (pc := 12) hX d_P_placeAdverts_12 rfl ?_
      refine ow_gR (pc := 13) hX (kd_P Y n s c) 5 d_P_placeAdverts_13 kw_176 rfl (by show _ < 2; first | assumption | omega) ?_
      refine ow_iload_n (pc := 16) hX d_P_placeAdverts_16 rfl ?_
      refine ow_aN (pc := 17) hX rfl d_P_placeAdverts_17 (by show _ < 2; first | assumption | omega) (by show _ < n; first | assumption | omega) ?_
      refine ow_callV (pc := 18) hX (kd_P Y n s c) (by show _ < 2; first | assumption | omega) (c_P_placeAdvert _ Y n s c hV w p (w.1 19 p k) hp hs h0 hc hI.1) (cw_V hX mz_P_placeAdvert kw_264 ⟨rfl, rfl⟩ (by decide)) rfl (Nat.le_of_ble_eq_true rfl) d_P_placeAdverts_18 rfl ?_
      refine ow_nz_ne (pc := 21) (tgt := 26) hX d_P_placeAdverts_21 (by decide) (by first | assumption | omega | exact kc_advert_lt) (fun h21 => ?_) (fun h21 => ?_)
      · skip
        refine ow_iinc (pc := 26) (l2 := [(0, _), (1, _)]) hX d_P_placeAdverts_26 rfl (ii_1 _) (by decide) rfl rfl ?_
        refine ow_goto (pc := 29) (tgt := 2) hX d_P_placeAdverts_29 (by decide) ?_
        rw [kadvs, if_neg h21]
        exact ih (k + 1) _ (ki_adv hI (by have := hI.2 k h8; omega)) (by omega)
      · skip
        refine ow_iconst (pc := 24) (v := nI 0) hX d_P_placeAdverts_24 (by decide) ?_
        exact ow_zret (pc := 25) hX d_P_placeAdverts_25 (nb_01 (by first | decide | assumption | omega | exact kbit_le _ _)) (by rw [kadvs, if_pos h21]) (by rw [kadvs, if_pos h21])
set_option maxRecDepth 100000 in
set_option maxHeartbeats 4000000 in
theorem c_P_placeAdverts (l : Launch) (Y : YY) (n s c : Nat) (hV : pv_ok (vC Y n s c)) (u : UU) (p : Nat) (hp : p < 2) (hs : s < 2 ^ 31) (h0 : 0 < c) (hc : c ≤ 4) (hn : n ≤ 6) (hI : ki n p u) : Ct l (vC Y n s c) ⟨"SlottedMesh$Plan", "placeAdverts", "()Z"⟩ (wz ⟨"SlottedMesh$Plan", "placeAdverts", "()Z"⟩ b_P_placeAdverts 2 (some .boolean)) (rd 2) [.ref (pv_ad (vC Y n s c) 15 p)] u (some (.int (nI (kadvs s c p n 0 u).1))) ((kadvs s c p n 0 u).2) := by
  refine ct_mk hV (by decide +kernel) (Nat.le_of_ble_eq_true rfl) (fun X hX => ?_)
  have hX : ox X (vC Y n s c) (rd 2) b_P_placeAdverts 2 "SlottedMesh$Plan" gz (some .boolean) := hX
  show ow X (vC Y n s c) (some (.int (nI (kadvs s c p n 0 u).1))) ((kadvs s c p n 0 u).2) u [(0, .ref (pv_ad (vC Y n s c) 15 p))] 0 []
  refine ow_iconst (pc := 0) (v := nI 0) hX d_P_placeAdverts_0 (by decide) ?_
  refine ow_istore_n (pc := 1) (l2 := [(0, _), (1, _)]) hX d_P_placeAdverts_1 (by decide) rfl rfl ?_
  exact w_P_adverts Y n s c hX hV p hp hs h0 hc hn n 0 u hI (by omega)
def kl3 (s c p x f : Nat) (rest : UU → Nat × UU) (w : UU) : Nat × UU := if (kc_link s c w p 300 f x).1 = 0 then (0, (kc_link s c w p 300 f x).2) else rest (kc_link s c w p 300 f x).2
def kl2 (s c p x f : Nat) (g : Option Nat) (rest : UU → Nat × UU) (w : UU) : Nat × UU := match g with
  | none => kl3 s c p x f rest w
  | some g => if (kc_link s c w p 200 x g).1 = 0 then (0, (kc_link s c w p 200 x g).2) else kl3 s c p x f rest (kc_link s c w p 200 x g).2
def kl1 (s c p x f : Nat) (g : Option Nat) (rest : UU → Nat × UU) (w : UU) : Nat × UU := if (kc_link s c w p 200 x f).1 = 0 then (0, (kc_link s c w p 200 x f).2) else kl2 s c p x f g rest (kc_link s c w p 200 x f).2
def klnks (s c p : Nat) (fa sa : Nat → Option Nat) : Nat → Nat → UU → Nat × UU
  | 0, _, w => (1, w)
  | j + 1, k, w => match fa (w.1 19 p k) with
    | none => (0, w)
    | some f => kl1 s c p (w.1 19 p k) f (sa (w.1 19 p k)) (klnks s c p fa sa j (k + 1)) w
/-- the parents of the nodes, in the order -/
def kj (n p : Nat) (fa sa : Nat → Option Nat) (w : UU) : Prop := ki n p w ∧ (∀ i, i < n → w.2.1 17 p i = io (fa i)) ∧ (∀ i, i < n → w.2.1 18 p i = io (sa i)) ∧ (∀ k, 1 ≤ k → k < n → ∃ a, fa (w.1 19 p k) = some a ∧ a < n) ∧ ∀ i a, sa i = some a → a < n
theorem kj_link {n p s c d x y : Nat} {fa sa : Nat → Option Nat} {w : UU} (h : kj n p fa sa w) (hz : d + 10 * x + y < 400) : kj n p fa sa (kc_link s c w p d x y).2 := by
  unfold kc_link
  refine ⟨ki_lnk h.1 hz, fun i hi => ?_, fun i hi => ?_, fun k h1 h2 => ?_, h.2.2.2.2⟩
  · rw [kc_lnk_2]; exact h.2.1 i hi
  · rw [kc_lnk_2]; exact h.2.2.1 i hi
  · rw [kc_lnk_o]; exact h.2.2.2.1 k h1 h2
theorem kl_e {s c p : Nat} {fa sa : Nat → Option Nat} {j k f : Nat} {w : UU} (h : fa (w.1 19 p k) = some f) : klnks s c p fa sa (j + 1) k w = kl1 s c p (w.1 19 p k) f (sa (w.1 19 p k)) (klnks s c p fa sa j (k + 1)) w := by
  rw [klnks, h]
set_option maxRecDepth 100000 in
set_option maxHeartbeats 4000000 in
theorem w_P_links {X : OX} (Y : YY) (n s c : Nat) (hX : ox X (vC Y n s c) (rd 4) b_P_placeLinks 6 "SlottedMesh$Plan" gz (some .boolean)) (hV : pv_ok (vC Y n s c)) (p : Nat) (hp : p < 2) (hs : s < 2 ^ 31) (h0 : 0 < c) (hc : c ≤ 4) (hn : n ≤ 6) (fa sa : Nat → Option Nat) : ∀ j k w, kj n p fa sa w → 1 ≤ k → k + j = n → ow X (vC Y n s c) (some (.int (nI (klnks s c p fa sa j k w).1))) (klnks s c p fa sa j k w).2 w [(0, .ref (pv_ad (vC Y n s c) 15 p)), (1, .int (nI k))] 2 [] := by
  intro j
  induction j with
  | zero =>
    intro k w hI hk1 hk
    refine ow_iload_n (pc := 2) hX d_P_placeLinks_2 rfl ?_
    refine ow_aload_n (pc := 3) hX d_P_placeLinks_3 rfl ?_
    refine ow_gR (pc := 4) hX (kd_P Y n s c) 5 d_P_placeLinks_4 kw_176 rfl (by show _ < 2; first | assumption | omega) ?_
    refine ow_len (pc := 7) hX rfl (by decide) d_P_placeLinks_7 (by show _ < 2; first | assumption | omega) ?_
    refine ow_st (st2 := .int (nI (n)) :: _) rfl ?_
    refine ow_nc_ge (pc := 8) (tgt := 96) hX d_P_placeLinks_8 (by decide) (by first | assumption | omega | exact kc_link_lt) (by first | assumption | omega | exact kc_link_lt) (fun h8 => ?_) (fun h8 => ?_)
    · skip
      refine ow_iconst (pc := 96) (v := nI 1) hX d_P_placeLinks_96 (by decide) ?_
      exact ow_zret (pc := 97) hX d_P_placeLinks_97 (nb_01 (by first | decide | assumption | omega | exact kbit_le _ _)) (by first | rfl | (unfold klnks; rfl)) (by first | rfl | (unfold klnks; rfl))
    · skip
      exact absurd h8 (by omega)
  | succ j ih =>
    intro k w hI hk1 hk
    refine ow_iload_n (pc := 2) hX d_P_placeLinks_2 rfl ?_
    refine ow_aload_n (pc := 3) hX d_P_placeLinks_3 rfl ?_
    refine ow_gR (pc := 4) hX (kd_P Y n s c) 5 d_P_placeLinks_4 kw_176 rfl (by show _ < 2; first | assumption | omega) ?_
    refine ow_len (pc := 7) hX rfl (by decide) d_P_placeLinks_7 (by show _ < 2; first | assumption | omega) ?_
    refine ow_st (st2 := .int (nI (n)) :: _) rfl ?_
    refine ow_nc_ge (pc := 8) (tgt := 96) hX d_P_placeLinks_8 (by decide) (by first | assumption | omega | exact kc_link_lt) (by first | assumption | omega | exact kc_link_lt) (fun h8 => ?_) (fun h8 => ?_)
    · skip
      exact absurd h8 (by omega)
    · skip
      refine ow_aload_n (pc := 11) hX d_P_placeLinks_11 rfl ?_
      refine ow_gR (pc := 12) hX (kd_P Y n s c) 5 d_P_placeLinks_12 kw_176 rfl (by show _ < 2; first | assumption | omega) ?_
      refine ow_iload_n (pc := 15) hX d_P_placeLinks_15 rfl ?_
      refine ow_aN (pc := 16) hX rfl d_P_placeLinks_16 (by show _ < 2; first | assumption | omega) (by show _ < n; first | assumption | omega) ?_
      have hx : w.1 19 p k < n := hI.1.2 k h8
      refine ow_istore_n (pc := 17) (l2 := [(0, _), (1, _), (2, _)]) hX d_P_placeLinks_17 (by decide) rfl rfl ?_
      refine ow_aload_n (pc := 18) hX d_P_placeLinks_18 rfl ?_
      refine ow_gR (pc := 19) hX (kd_P Y n s c) 3 d_P_placeLinks_19 kw_172 rfl (by show _ < 2; first | assumption | omega) ?_
      refine ow_iload_n (pc := 22) hX d_P_placeLinks_22 rfl ?_
      refine ow_aI (pc := 23) hX rfl d_P_placeLinks_23 (by show _ < 2; first | assumption | omega) (by show _ < n; first | assumption | omega) ?_
      obtain ⟨f, hf, hfn⟩ := hI.2.2.2.1 k hk1 h8
      refine ow_val (show w.2.1 17 p (w.1 19 p k) = nI f from by rw [hI.2.1 _ hx, hf]; rfl) ?_
      refine ow_istore_n (pc := 24) (l2 := [(0, _), (1, _), (2, _), (3, _)]) hX d_P_placeLinks_24 (by decide) rfl rfl ?_
      refine ow_aload_n (pc := 25) hX d_P_placeLinks_25 rfl ?_
      refine ow_gR (pc := 26) hX (kd_P Y n s c) 4 d_P_placeLinks_26 kw_174 rfl (by show _ < 2; first | assumption | omega) ?_
      refine ow_iload_n (pc := 29) hX d_P_placeLinks_29 rfl ?_
      refine ow_aI (pc := 30) hX rfl d_P_placeLinks_30 (by show _ < 2; first | assumption | omega) (by show _ < n; first | assumption | omega) ?_
      rcases hg : sa (w.1 19 p k) with _ | g
      · skip
        refine ow_val (show w.2.1 18 p (w.1 19 p k) = -1 from by rw [hI.2.2.1 _ hx, hg]; rfl) ?_
        refine ow_istore (pc := 31) (l2 := [(0, _), (1, _), (2, _), (3, _), (4, _)]) hX d_P_placeLinks_31 (by decide) rfl rfl ?_
        refine ow_aload_n (pc := 33) hX d_P_placeLinks_33 rfl ?_
        refine ow_sipush (pc := 34) (v := nI 200) hX d_P_placeLinks_34 (by decide) ?_
        refine ow_iload_n (pc := 37) hX d_P_placeLinks_37 rfl ?_
        refine ow_iload_n (pc := 38) hX d_P_placeLinks_38 rfl ?_
        refine ow_callV (pc := 39) hX (kd_P Y n s c) (by show _ < 2; first | assumption | omega) (c_P_placeLink _ Y n s c hV _ p 200 _ _ hp hs hc (by omega) (by omega) (by first | exact hI.1.1 | exact (kj_link hI (by omega)).1.1 | exact (kj_link (kj_link hI (by omega)) (by omega)).1.1)) (cw_V hX mz_P_placeLink kw_280 ⟨rfl, rfl⟩ (by decide)) rfl (Nat.le_of_ble_eq_true rfl) d_P_placeLinks_39 rfl ?_
        refine ow_nz_eq (pc := 42) (tgt := 80) hX d_P_placeLinks_42 (by decide) (by first | assumption | omega | exact kc_link_lt) (fun h42 => ?_) (fun h42 => ?_)
        · skip
          refine ow_iconst (pc := 80) (v := nI 0) hX d_P_placeLinks_80 (by decide) ?_
          refine ow_istore (pc := 81) (l2 := [(0, _), (1, _), (2, _), (3, _), (4, _), (5, _)]) hX d_P_placeLinks_81 (by decide) rfl rfl ?_
          refine ow_iload (pc := 83) hX d_P_placeLinks_83 rfl ?_
          refine ow_nz_ne (pc := 85) (tgt := 90) hX d_P_placeLinks_85 (by decide) (by first | assumption | omega | exact kc_link_lt) (fun h85 => ?_) (fun h85 => ?_)
          · skip
            exact absurd h85 (by decide)
          · skip
            refine ow_iconst (pc := 88) (v := nI 0) hX d_P_placeLinks_88 (by decide) ?_
            exact ow_zret (pc := 89) hX d_P_placeLinks_89 (nb_01 (by first | decide | assumption | omega | exact kbit_le _ _)) (by rw [kl_e hf, hg]; simp only [kl1, kl2, kl3]; first | rw [if_pos h42] | rw [if_neg h42, if_neg h61, if_pos h73] | rw [if_neg h42, if_pos h61] | rw [if_neg h42, if_pos h73]) (by rw [kl_e hf, hg]; simp only [kl1, kl2, kl3]; first | rw [if_pos h42] | rw [if_neg h42, if_neg h61, if_pos h73] | rw [if_neg h42, if_pos h61] | rw [if_neg h42, if_pos h73])
        · skip
          refine ow_iload (pc := 45) hX d_P_placeLinks_45 rfl ?_
          refine ow_iconst (pc := 47) (v := (-1)) hX d_P_placeLinks_47 (by decide) ?_
          refine ow_ic_eq (pc := 48) (tgt := 64) hX d_P_placeLinks_48 (by decide) (fun h48 => ?_) (fun h48 => ?_)
          · skip
            refine ow_aload_n (pc := 64) hX d_P_placeLinks_64 rfl ?_
            refine ow_sipush (pc := 65) (v := nI 300) hX d_P_placeLinks_65 (by decide) ?_
            refine ow_iload_n (pc := 68) hX d_P_placeLinks_68 rfl ?_
            refine ow_iload_n (pc := 69) hX d_P_placeLinks_69 rfl ?_
            refine ow_callV (pc := 70) hX (kd_P Y n s c) (by show _ < 2; first | assumption | omega) (c_P_placeLink _ Y n s c hV _ p 300 _ _ hp hs hc (by omega) (by omega) (by first | exact hI.1.1 | exact (kj_link hI (by omega)).1.1 | exact (kj_link (kj_link hI (by omega)) (by omega)).1.1)) (cw_V hX mz_P_placeLink kw_280 ⟨rfl, rfl⟩ (by decide)) rfl (Nat.le_of_ble_eq_true rfl) d_P_placeLinks_70 rfl ?_
            refine ow_nz_eq (pc := 73) (tgt := 80) hX d_P_placeLinks_73 (by decide) (by first | assumption | omega | exact kc_link_lt) (fun h73 => ?_) (fun h73 => ?_)
            · skip
              refine ow_iconst (pc := 80) (v := nI 0) hX d_P_placeLinks_80 (by decide) ?_
              refine ow_istore (pc := 81) (l2 := [(0, _), (1, _), (2, _), (3, _), (4, _), (5, _)]) hX d_P_placeLinks_81 (by decide) rfl rfl ?_
              refine ow_iload (pc := 83) hX d_P_placeLinks_83 rfl ?_
              refine ow_nz_ne (pc := 85) (tgt := 90) hX d_P_placeLinks_85 (by decide) (by first | assumption | omega | exact kc_link_lt) (fun h85 => ?_) (fun h85 => ?_)
              · skip
                exact absurd h85 (by decide)
              · skip
                refine ow_iconst (pc := 88) (v := nI 0) hX d_P_placeLinks_88 (by decide) ?_
                exact ow_zret (pc := 89) hX d_P_placeLinks_89 (nb_01 (by first | decide | assumption | omega | exact kbit_le _ _)) (by rw [kl_e hf, hg]; simp only [kl1, kl2, kl3]; first | rw [if_pos h42] | rw [if_neg h42, if_neg h61, if_pos h73] | rw [if_neg h42, if_pos h61] | rw [if_neg h42, if_pos h73]) (by rw [kl_e hf, hg]; simp only [kl1, kl2, kl3]; first | rw [if_pos h42] | rw [if_neg h42, if_neg h61, if_pos h73] | rw [if_neg h42, if_pos h61] | rw [if_neg h42, if_pos h73])
            · skip
              refine ow_iconst (pc := 76) (v := nI 1) hX d_P_placeLinks_76 (by decide) ?_
              refine ow_goto (pc := 77) (tgt := 81) hX d_P_placeLinks_77 (by decide) ?_
              refine ow_istore (pc := 81) (l2 := [(0, _), (1, _), (2, _), (3, _), (4, _), (5, _)]) hX d_P_placeLinks_81 (by decide) rfl rfl ?_
              refine ow_iload (pc := 83) hX d_P_placeLinks_83 rfl ?_
              refine ow_nz_ne (pc := 85) (tgt := 90) hX d_P_placeLinks_85 (by decide) (by first | assumption | omega | exact kc_link_lt) (fun h85 => ?_) (fun h85 => ?_)
              · skip
                refine ow_iinc (pc := 90) (l2 := [(0, _), (1, _), (2, _), (3, _), (4, _), (5, _)]) hX d_P_placeLinks_90 rfl (ii_1 _) (by decide) rfl rfl ?_
                refine ow_goto (pc := 93) (tgt := 2) hX d_P_placeLinks_93 (by decide) ?_
                rw [kl_e hf, hg]
                simp only [kl1, kl2, kl3]
                first | rw [if_neg h42, if_neg h61, if_neg h73] | rw [if_neg h42, if_neg h73]
                refine ow_loc (l2 := [(0, _), (1, _)]) (fun q hq => by simp only [List.mem_cons, List.not_mem_nil, or_false] at hq ⊢; rcases hq with rfl | rfl <;> simp) (ih (k + 1) _ (by first | exact kj_link (kj_link (kj_link hI (by omega)) (by omega)) (by omega) | exact kj_link (kj_link hI (by omega)) (by omega)) (by omega) (by omega))
              · skip
                exact absurd h85 (by decide)
          · skip
            exact absurd rfl h48
      · skip
        have hgn := hI.2.2.2.2 _ _ hg
        refine ow_val (show w.2.1 18 p (w.1 19 p k) = nI g from by rw [hI.2.2.1 _ hx, hg]; rfl) ?_
        refine ow_istore (pc := 31) (l2 := [(0, _), (1, _), (2, _), (3, _), (4, _)]) hX d_P_placeLinks_31 (by decide) rfl rfl ?_
        refine ow_aload_n (pc := 33) hX d_P_placeLinks_33 rfl ?_
        refine ow_sipush (pc := 34) (v := nI 200) hX d_P_placeLinks_34 (by decide) ?_
        refine ow_iload_n (pc := 37) hX d_P_placeLinks_37 rfl ?_
        refine ow_iload_n (pc := 38) hX d_P_placeLinks_38 rfl ?_
        refine ow_callV (pc := 39) hX (kd_P Y n s c) (by show _ < 2; first | assumption | omega) (c_P_placeLink _ Y n s c hV _ p 200 _ _ hp hs hc (by omega) (by omega) (by first | exact hI.1.1 | exact (kj_link hI (by omega)).1.1 | exact (kj_link (kj_link hI (by omega)) (by omega)).1.1)) (cw_V hX mz_P_placeLink kw_280 ⟨rfl, rfl⟩ (by decide)) rfl (Nat.le_of_ble_eq_true rfl) d_P_placeLinks_39 rfl ?_
        refine ow_nz_eq (pc := 42) (tgt := 80) hX d_P_placeLinks_42 (by decide) (by first | assumption | omega | exact kc_link_lt) (fun h42 => ?_) (fun h42 => ?_)
        · skip
          refine ow_iconst (pc := 80) (v := nI 0) hX d_P_placeLinks_80 (by decide) ?_
          refine ow_istore (pc := 81) (l2 := [(0, _), (1, _), (2, _), (3, _), (4, _), (5, _)]) hX d_P_placeLinks_81 (by decide) rfl rfl ?_
          refine ow_iload (pc := 83) hX d_P_placeLinks_83 rfl ?_
          refine ow_nz_ne (pc := 85) (tgt := 90) hX d_P_placeLinks_85 (by decide) (by first | assumption | omega | exact kc_link_lt) (fun h85 => ?_) (fun h85 => ?_)
          · skip
            exact absurd h85 (by decide)
          · skip
            refine ow_iconst (pc := 88) (v := nI 0) hX d_P_placeLinks_88 (by decide) ?_
            exact ow_zret (pc := 89) hX d_P_placeLinks_89 (nb_01 (by first | decide | assumption | omega | exact kbit_le _ _)) (by rw [kl_e hf, hg]; simp only [kl1, kl2, kl3]; first | rw [if_pos h42] | rw [if_neg h42, if_neg h61, if_pos h73] | rw [if_neg h42, if_pos h61] | rw [if_neg h42, if_pos h73]) (by rw [kl_e hf, hg]; simp only [kl1, kl2, kl3]; first | rw [if_pos h42] | rw [if_neg h42, if_neg h61, if_pos h73] | rw [if_neg h42, if_pos h61] | rw [if_neg h42, if_pos h73])
        · skip
          refine ow_iload (pc := 45) hX d_P_placeLinks_45 rfl ?_
          refine ow_iconst (pc := 47) (v := (-1)) hX d_P_placeLinks_47 (by decide) ?_
          refine ow_ic_eq (pc := 48) (tgt := 64) hX d_P_placeLinks_48 (by decide) (fun h48 => ?_) (fun h48 => ?_)
          · skip
            exact absurd h48 (nI_m1 (by first | assumption | omega | exact kc_link_lt))
          · skip
            refine ow_aload_n (pc := 51) hX d_P_placeLinks_51 rfl ?_
            refine ow_sipush (pc := 52) (v := nI 200) hX d_P_placeLinks_52 (by decide) ?_
            refine ow_iload_n (pc := 55) hX d_P_placeLinks_55 rfl ?_
            refine ow_iload (pc := 56) hX d_P_placeLinks_56 rfl ?_
            refine ow_callV (pc := 58) hX (kd_P Y n s c) (by show _ < 2; first | assumption | omega) (c_P_placeLink _ Y n s c hV _ p 200 _ _ hp hs hc (by omega) (by omega) (by first | exact hI.1.1 | exact (kj_link hI (by omega)).1.1 | exact (kj_link (kj_link hI (by omega)) (by omega)).1.1)) (cw_V hX mz_P_placeLink kw_280 ⟨rfl, rfl⟩ (by decide)) rfl (Nat.le_of_ble_eq_true rfl) d_P_placeLinks_58 rfl ?_
            refine ow_nz_eq (pc := 61) (tgt := 80) hX d_P_placeLinks_61 (by decide) (by first | assumption | omega | exact kc_link_lt) (fun h61 => ?_) (fun h61 => ?_)
            · skip
              refine ow_iconst (pc := 80) (v := nI 0) hX d_P_placeLinks_80 (by decide) ?_
              refine ow_istore (pc := 81) (l2 := [(0, _), (1, _), (2, _), (3, _), (4, _), (5, _)]) hX d_P_placeLinks_81 (by decide) rfl rfl ?_
              refine ow_iload (pc := 83) hX d_P_placeLinks_83 rfl ?_
              refine ow_nz_ne (pc := 85) (tgt := 90) hX d_P_placeLinks_85 (by decide) (by first | assumption | omega | exact kc_link_lt) (fun h85 => ?_) (fun h85 => ?_)
              · skip
                exact absurd h85 (by decide)
              · skip
                refine ow_iconst (pc := 88) (v := nI 0) hX d_P_placeLinks_88 (by decide) ?_
                exact ow_zret (pc := 89) hX d_P_placeLinks_89 (nb_01 (by first | decide | assumption | omega | exact kbit_le _ _)) (by rw [kl_e hf, hg]; simp only [kl1, kl2, kl3]; first | rw [if_pos h42] | rw [if_neg h42, if_neg h61, if_pos h73] | rw [if_neg h42, if_pos h61] | rw [if_neg h42, if_pos h73]) (by rw [kl_e hf, hg]; simp only [kl1, kl2, kl3]; first | rw [if_pos h42] | rw [if_neg h42, if_neg h61, if_pos h73] | rw [if_neg h42, if_pos h61] | rw [if_neg h42, if_pos h73])
            · skip
              refine ow_aload_n (pc := 64) hX d_P_placeLinks_64 rfl ?_
              refine ow_sipush (pc := 65) (v := nI 300) hX d_P_placeLinks_65 (by decide) ?_
              refine ow_iload_n (pc := 68) hX d_P_placeLinks_68 rfl ?_
              refine ow_iload_n (pc := 69) hX d_P_placeLinks_69 rfl ?_
              refine ow_callV (pc := 70) hX (kd_P Y n s c) (by show _ < 2; first | assumption | omega) (c_P_placeLink _ Y n s c hV _ p 300 _ _ hp hs hc (by omega) (by omega) (by first | exact hI.1.1 | exact (kj_link hI (by omega)).1.1 | exact (kj_link (kj_link hI (by omega)) (by omega)).1.1)) (cw_V hX mz_P_placeLink kw_280 ⟨rfl, rfl⟩ (by decide)) rfl (Nat.le_of_ble_eq_true rfl) d_P_placeLinks_70 rfl ?_
              refine ow_nz_eq (pc := 73) (tgt := 80) hX d_P_placeLinks_73 (by decide) (by first | assumption | omega | exact kc_link_lt) (fun h73 => ?_) (fun h73 => ?_)
              · skip
                refine ow_iconst (pc := 80) (v := nI 0) hX d_P_placeLinks_80 (by decide) ?_
                refine ow_istore (pc := 81) (l2 := [(0, _), (1, _), (2, _), (3, _), (4, _), (5, _)]) hX d_P_placeLinks_81 (by decide) rfl rfl ?_
                refine ow_iload (pc := 83) hX d_P_placeLinks_83 rfl ?_
                refine ow_nz_ne (pc := 85) (tgt := 90) hX d_P_placeLinks_85 (by decide) (by first | assumption | omega | exact kc_link_lt) (fun h85 => ?_) (fun h85 => ?_)
                · skip
                  exact absurd h85 (by decide)
                · skip
                  refine ow_iconst (pc := 88) (v := nI 0) hX d_P_placeLinks_88 (by decide) ?_
                  exact ow_zret (pc := 89) hX d_P_placeLinks_89 (nb_01 (by first | decide | assumption | omega | exact kbit_le _ _)) (by rw [kl_e hf, hg]; simp only [kl1, kl2, kl3]; first | rw [if_pos h42] | rw [if_neg h42, if_neg h61, if_pos h73] | rw [if_neg h42, if_pos h61] | rw [if_neg h42, if_pos h73]) (by rw [kl_e hf, hg]; simp only [kl1, kl2, kl3]; first | rw [if_pos h42] | rw [if_neg h42, if_neg h61, if_pos h73] | rw [if_neg h42, if_pos h61] | rw [if_neg h42, if_pos h73])
              · skip
                refine ow_iconst (pc := 76) (v := nI 1) hX d_P_placeLinks_76 (by decide) ?_
                refine ow_goto (pc := 77) (tgt := 81) hX d_P_placeLinks_77 (by decide) ?_
                refine ow_istore (pc := 81) (l2 := [(0, _), (1, _), (2, _), (3, _), (4, _), (5, _)]) hX d_P_placeLinks_81 (by decide) rfl rfl ?_
                refine ow_iload (pc := 83) hX d_P_placeLinks_83 rfl ?_
                refine ow_nz_ne (pc := 85) (tgt := 90) hX d_P_placeLinks_85 (by decide) (by first | assumption | omega | exact kc_link_lt) (fun h85 => ?_) (fun h85 => ?_)
                · skip
                  refine ow_iinc (pc := 90) (l2 := [(0, _), (1, _), (2, _), (3, _), (4, _), (5, _)]) hX d_P_placeLinks_90 rfl (ii_1 _) (by decide) rfl rfl ?_
                  refine ow_goto (pc := 93) (tgt := 2) hX d_P_placeLinks_93 (by decide) ?_
                  rw [kl_e hf, hg]
                  simp only [kl1, kl2, kl3]
                  first | rw [if_neg h42, if_neg h61, if_neg h73] | rw [if_neg h42, if_neg h73]
                  refine ow_loc (l2 := [(0, _), (1, _)]) (fun q hq => by simp only [List.mem_cons, List.not_mem_nil, or_false] at hq ⊢; rcases hq with rfl | rfl <;> simp) (ih (k + 1) _ (by first | exact kj_link (kj_link (kj_link hI (by omega)) (by omega)) (by omega) | exact kj_link (kj_link hI (by omega)) (by omega)) (by omega) (by omega))
                · skip
                  exact absurd h85 (by decide)
set_option maxRecDepth 100000 in
set_option maxHeartbeats 4000000 in
theorem c_P_placeLinks (l : Launch) (Y : YY) (n s c : Nat) (hV : pv_ok (vC Y n s c)) (u : UU) (p : Nat) (hp : p < 2) (hs : s < 2 ^ 31) (h0 : 0 < c) (hc : c ≤ 4) (hn : n ≤ 6) (h1 : 1 ≤ n) (fa sa : Nat → Option Nat) (hI : kj n p fa sa u) : Ct l (vC Y n s c) ⟨"SlottedMesh$Plan", "placeLinks", "()Z"⟩ (wz ⟨"SlottedMesh$Plan", "placeLinks", "()Z"⟩ b_P_placeLinks 6 (some .boolean)) (rd 4) [.ref (pv_ad (vC Y n s c) 15 p)] u (some (.int (nI (klnks s c p fa sa (n - 1) 1 u).1))) ((klnks s c p fa sa (n - 1) 1 u).2) := by
  refine ct_mk hV (by decide +kernel) (Nat.le_of_ble_eq_true rfl) (fun X hX => ?_)
  have hX : ox X (vC Y n s c) (rd 4) b_P_placeLinks 6 "SlottedMesh$Plan" gz (some .boolean) := hX
  show ow X (vC Y n s c) (some (.int (nI (klnks s c p fa sa (n - 1) 1 u).1))) ((klnks s c p fa sa (n - 1) 1 u).2) u [(0, .ref (pv_ad (vC Y n s c) 15 p))] 0 []
  refine ow_iconst (pc := 0) (v := nI 1) hX d_P_placeLinks_0 (by decide) ?_
  refine ow_istore_n (pc := 1) (l2 := [(0, _), (1, _)]) hX d_P_placeLinks_1 (by decide) rfl rfl ?_
  exact w_P_links Y n s c hX hV p hp hs h0 hc hn fa sa (n - 1) 1 u hI (by omega) (by omega)
/-- do first parents lead from a node to node b, within j steps -/
def kleads (fa : Nat → Option Nat) (b : Nat) : Nat → Option Nat → Nat
  | 0, _ => 0
  | _ + 1, none => 0
  | j + 1, some a => if a = b then 1 else kleads fa b j (fa a)
theorem kleads_le (fa : Nat → Option Nat) (b : Nat) (j : Nat) (q : Option Nat) : kleads fa b j q ≤ 1 := by
  induction j generalizing q with
  | zero => unfold kleads; omega
  | succ j ih =>
    cases q with
    | none => unfold kleads; omega
    | some a =>
      rw [kleads]
      split
      · omega
      · exact ih _
set_option maxRecDepth 100000 in
set_option maxHeartbeats 4000000 in
theorem w_P_leads {X : OX} (Y : YY) (n s c : Nat) (hX : ox X (vC Y n s c) (rd 0) b_P_leadsUp 5 "SlottedMesh$Plan" gz (some .boolean)) (u : UU) (p x b : Nat) (hp : p < 2) (hb : b < 10) (hn : n ≤ 6) (fa : Nat → Option Nat) (hfa : ∀ i, i < n → u.2.1 17 p i = io (fa i)) (hf1 : ∀ i a, fa i = some a → a < n) : ∀ j k q, (∀ a, q = some a → a < n) → k + j = n → ow X (vC Y n s c) (some (.int (nI (kleads fa b j q)))) u u [(0, .ref (pv_ad (vC Y n s c) 15 p)), (1, .int (nI x)), (2, .int (nI b)), (3, .int (io q)), (4, .int (nI k))] 5 [] := by
  intro j
  induction j with
  | zero =>
    intro k q hq hk
    rcases q with _ | a
    · skip
      refine ow_loc (l2 := [(0, .ref (pv_ad (vC Y n s c) 15 p)), (1, .int (nI x)), (2, .int (nI b)), (3, .int (-1)), (4, .int (nI k))]) (fun z hz => hz) ?_
      refine ow_iload (pc := 5) hX d_P_leadsUp_5 rfl ?_
      refine ow_aload_n (pc := 7) hX d_P_leadsUp_7 rfl ?_
      refine ow_gR (pc := 8) hX (kd_P Y n s c) 3 d_P_leadsUp_8 kw_172 rfl (by show _ < 2; first | assumption | omega) ?_
      refine ow_len (pc := 11) hX rfl (by decide) d_P_leadsUp_11 (by show _ < 2; first | assumption | omega) ?_
      refine ow_st (st2 := .int (nI (n)) :: _) rfl ?_
      refine ow_nc_ge (pc := 12) (tgt := 40) hX d_P_leadsUp_12 (by decide) (by first | assumption | omega) (by first | assumption | omega) (fun h12 => ?_) (fun h12 => ?_)
      · skip
        refine ow_iconst (pc := 40) (v := nI 0) hX d_P_leadsUp_40 (by decide) ?_
        exact ow_zret (pc := 41) hX d_P_leadsUp_41 (nb_01 (by first | decide | assumption | omega | exact kbit_le _ _)) (by first | rfl | (unfold kleads; rfl)) (by first | rfl | (unfold kleads; rfl))
      · skip
        exact absurd h12 (by omega)
    · skip
      have ha := hq a rfl
      refine ow_loc (l2 := [(0, .ref (pv_ad (vC Y n s c) 15 p)), (1, .int (nI x)), (2, .int (nI b)), (3, .int (nI a)), (4, .int (nI k))]) (fun z hz => hz) ?_
      refine ow_iload (pc := 5) hX d_P_leadsUp_5 rfl ?_
      refine ow_aload_n (pc := 7) hX d_P_leadsUp_7 rfl ?_
      refine ow_gR (pc := 8) hX (kd_P Y n s c) 3 d_P_leadsUp_8 kw_172 rfl (by show _ < 2; first | assumption | omega) ?_
      refine ow_len (pc := 11) hX rfl (by decide) d_P_leadsUp_11 (by show _ < 2; first | assumption | omega) ?_
      refine ow_st (st2 := .int (nI (n)) :: _) rfl ?_
      refine ow_nc_ge (pc := 12) (tgt := 40) hX d_P_leadsUp_12 (by decide) (by first | assumption | omega) (by first | assumption | omega) (fun h12 => ?_) (fun h12 => ?_)
      · skip
        refine ow_iconst (pc := 40) (v := nI 0) hX d_P_leadsUp_40 (by decide) ?_
        exact ow_zret (pc := 41) hX d_P_leadsUp_41 (nb_01 (by first | decide | assumption | omega | exact kbit_le _ _)) (by first | rfl | (unfold kleads; rfl)) (by first | rfl | (unfold kleads; rfl))
      · skip
        exact absurd h12 (by omega)
  | succ j ih =>
    intro k q hq hk
    rcases q with _ | a
    · skip
      refine ow_loc (l2 := [(0, .ref (pv_ad (vC Y n s c) 15 p)), (1, .int (nI x)), (2, .int (nI b)), (3, .int (-1)), (4, .int (nI k))]) (fun z hz => hz) ?_
      refine ow_iload (pc := 5) hX d_P_leadsUp_5 rfl ?_
      refine ow_aload_n (pc := 7) hX d_P_leadsUp_7 rfl ?_
      refine ow_gR (pc := 8) hX (kd_P Y n s c) 3 d_P_leadsUp_8 kw_172 rfl (by show _ < 2; first | assumption | omega) ?_
      refine ow_len (pc := 11) hX rfl (by decide) d_P_leadsUp_11 (by show _ < 2; first | assumption | omega) ?_
      refine ow_st (st2 := .int (nI (n)) :: _) rfl ?_
      refine ow_nc_ge (pc := 12) (tgt := 40) hX d_P_leadsUp_12 (by decide) (by first | assumption | omega) (by first | assumption | omega) (fun h12 => ?_) (fun h12 => ?_)
      · skip
        exact absurd h12 (by omega)
      · skip
        refine ow_iload_n (pc := 15) hX d_P_leadsUp_15 rfl ?_
        refine ow_iconst (pc := 16) (v := (-1)) hX d_P_leadsUp_16 (by decide) ?_
        refine ow_ic_eq (pc := 17) (tgt := 40) hX d_P_leadsUp_17 (by decide) (fun h17 => ?_) (fun h17 => ?_)
        · skip
          refine ow_iconst (pc := 40) (v := nI 0) hX d_P_leadsUp_40 (by decide) ?_
          exact ow_zret (pc := 41) hX d_P_leadsUp_41 (nb_01 (by first | decide | assumption | omega | exact kbit_le _ _)) (by first | rfl | (rw [kleads, if_pos h22])) (by first | rfl | (rw [kleads, if_pos h22]))
        · skip
          exact absurd rfl h17
    · skip
      have ha := hq a rfl
      refine ow_loc (l2 := [(0, .ref (pv_ad (vC Y n s c) 15 p)), (1, .int (nI x)), (2, .int (nI b)), (3, .int (nI a)), (4, .int (nI k))]) (fun z hz => hz) ?_
      refine ow_iload (pc := 5) hX d_P_leadsUp_5 rfl ?_
      refine ow_aload_n (pc := 7) hX d_P_leadsUp_7 rfl ?_
      refine ow_gR (pc := 8) hX (kd_P Y n s c) 3 d_P_leadsUp_8 kw_172 rfl (by show _ < 2; first | assumption | omega) ?_
      refine ow_len (pc := 11) hX rfl (by decide) d_P_leadsUp_11 (by show _ < 2; first | assumption | omega) ?_
      refine ow_st (st2 := .int (nI (n)) :: _) rfl ?_
      refine ow_nc_ge (pc := 12) (tgt := 40) hX d_P_leadsUp_12 (by decide) (by first | assumption | omega) (by first | assumption | omega) (fun h12 => ?_) (fun h12 => ?_)
      · skip
        exact absurd h12 (by omega)
      · skip
        refine ow_iload_n (pc := 15) hX d_P_leadsUp_15 rfl ?_
        refine ow_iconst (pc := 16) (v := (-1)) hX d_P_leadsUp_16 (by decide) ?_
        refine ow_ic_eq (pc := 17) (tgt := 40) hX d_P_leadsUp_17 (by decide) (fun h17 => ?_) (fun h17 => ?_)
        · skip
          exact absurd h17 (nI_m1 (by first | assumption | omega))
        · skip
          refine ow_iload_n (pc := 20) hX d_P_leadsUp_20 rfl ?_
          refine ow_iload_n (pc := 21) hX d_P_leadsUp_21 rfl ?_
          refine ow_nc_ne (pc := 22) (tgt := 27) hX d_P_leadsUp_22 (by decide) (by first | assumption | omega) (by first | assumption | omega) (fun h22 => ?_) (fun h22 => ?_)
          · skip
            refine ow_aload_n (pc := 27) hX d_P_leadsUp_27 rfl ?_
            refine ow_gR (pc := 28) hX (kd_P Y n s c) 3 d_P_leadsUp_28 kw_172 rfl (by show _ < 2; first | assumption | omega) ?_
            refine ow_iload_n (pc := 31) hX d_P_leadsUp_31 rfl ?_
            refine ow_aI (pc := 32) hX rfl d_P_leadsUp_32 (by show _ < 2; first | assumption | omega) (by show _ < n; first | assumption | omega) ?_
            refine ow_val (hfa a ha) ?_
            refine ow_istore_n (pc := 33) (l2 := [(0, _), (1, _), (2, _), (3, _), (4, _)]) hX d_P_leadsUp_33 (by decide) rfl rfl ?_
            refine ow_iinc (pc := 34) (l2 := [(0, _), (1, _), (2, _), (3, _), (4, _)]) hX d_P_leadsUp_34 rfl (ii_1 _) (by decide) rfl rfl ?_
            refine ow_goto (pc := 37) (tgt := 5) hX d_P_leadsUp_37 (by decide) ?_
            rw [kleads, if_neg h22]
            exact ih (k + 1) _ (fun z hz => hf1 _ _ hz) (by omega)
          · skip
            refine ow_iconst (pc := 25) (v := nI 1) hX d_P_leadsUp_25 (by decide) ?_
            exact ow_zret (pc := 26) hX d_P_leadsUp_26 (nb_01 (by first | decide | assumption | omega | exact kbit_le _ _)) (by first | rfl | (rw [kleads, if_pos h22])) (by first | rfl | (rw [kleads, if_pos h22]))
set_option maxRecDepth 100000 in
set_option maxHeartbeats 4000000 in
theorem c_P_leadsUp (l : Launch) (Y : YY) (n s c : Nat) (hV : pv_ok (vC Y n s c)) (u : UU) (p x b : Nat) (hp : p < 2) (hb : b < 10) (hn : n ≤ 6) (fa : Nat → Option Nat) (hfa : ∀ i, i < n → u.2.1 17 p i = io (fa i)) (hf1 : ∀ i a, fa i = some a → a < n) (hx : x < n) : Ct l (vC Y n s c) ⟨"SlottedMesh$Plan", "leadsUp", "(II)Z"⟩ (wz ⟨"SlottedMesh$Plan", "leadsUp", "(II)Z"⟩ b_P_leadsUp 5 (some .boolean)) (rd 0) [.ref (pv_ad (vC Y n s c) 15 p), .int (nI x), .int (nI b)] u (some (.int (nI (kleads fa b n (some x))))) (u) := by
  refine ct_mk hV (by decide +kernel) (Nat.le_of_ble_eq_true rfl) (fun X hX => ?_)
  have hX : ox X (vC Y n s c) (rd 0) b_P_leadsUp 5 "SlottedMesh$Plan" gz (some .boolean) := hX
  show ow X (vC Y n s c) (some (.int (nI (kleads fa b n (some x))))) (u) u [(0, .ref (pv_ad (vC Y n s c) 15 p)), (1, .int (nI x)), (2, .int (nI b))] 0 []
  refine ow_iload_n (pc := 0) hX d_P_leadsUp_0 rfl ?_
  refine ow_istore_n (pc := 1) (l2 := [(0, _), (1, _), (2, _), (3, _)]) hX d_P_leadsUp_1 (by decide) rfl rfl ?_
  refine ow_iconst (pc := 2) (v := nI 0) hX d_P_leadsUp_2 (by decide) ?_
  refine ow_istore (pc := 3) (l2 := [(0, _), (1, _), (2, _), (3, _), (4, _)]) hX d_P_leadsUp_3 (by decide) rfl rfl ?_
  exact w_P_leads Y n s c hX u p x b hp hb hn fa hfa hf1 n 0 (some x) (fun a h => by cases h; exact hx) (by omega)
