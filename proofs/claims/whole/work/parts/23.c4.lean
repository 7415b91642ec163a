/-! Plan: adverts and links (by program, wip/whole/gen/c4.py) -/
theorem nI_m1 {b : Nat} (hb : b < 2 ^ 31) : ¬ nI b = -1 := by
  intro h
  have h1 := congrArg Int32.toInt h
  rw [nI_toInt hb] at h1
  have h2 : (-1 : Int32).toInt = -1 := by decide
  omega
theorem kc_fill_1 (c : Nat) (u : UU) (p a x k i q : Nat) : (kc_fill c u p a x).1 k i q = if k = 20 ∧ i = p ∧ a * c ≤ q ∧ q < a * c + c then x else u.1 k i q := by
  unfold kc_fill
  suffices h : ∀ m, (fo (fun k w => un w 20 p (a * c + k) x) u m).1 k i q = if k = 20 ∧ i = p ∧ a * c ≤ q ∧ q < a * c + m then x else u.1 k i q from h c
  intro m
  induction m with
  | zero =>
    rw [if_neg (by omega)]
    rfl
  | succ m ih =>
    show (un (fo (fun k w => un w 20 p (a * c + k) x) u m) 20 p (a * c + m) x).1 k i q = _
    rw [un_1, ih]
    by_cases h1 : k = 20 ∧ i = p ∧ q = a * c + m
    · rw [if_pos h1, if_pos (by omega)]
    · rw [if_neg h1]
      by_cases h2 : k = 20 ∧ i = p ∧ a * c ≤ q ∧ q < a * c + m
      · rw [if_pos h2, if_pos (by omega)]
      · rw [if_neg h2, if_neg (by omega)]
theorem kc_fill_2 (c : Nat) (u : UU) (p a x : Nat) : (kc_fill c u p a x).2 = u.2 := by
  unfold kc_fill
  suffices h : ∀ m, (fo (fun k w => un w 20 p (a * c + k) x) u m).2 = u.2 from h c
  intro m
  induction m with
  | zero => rfl
  | succ m ih =>
    show (un _ 20 p (a * c + m) x).2 = _
    rw [un_2, ih]
def kadv (c : Nat) (u : UU) (p : Nat) : Nat → Bool := fun a => decide (u.1 20 p (a * c + 0) = 0)
def kc_adv (c : Nat) (u : UU) (p x : Nat) (o : Option Nat) : Nat × UU := match o with
  | some a => (1, un (kc_fill c u p a (100 + 10 * x)) 15 p 7 ((kc_fill c u p a (100 + 10 * x)).1 15 p 7 + 1))
  | none => (0, u)
def kc_advert (s c : Nat) (u : UU) (p x : Nat) : Nat × UU := kc_adv c u p x (fnd (kadv c u p) s 0)
theorem kc_adv_le {c : Nat} {u : UU} {p x : Nat} {o : Option Nat} : (kc_adv c u p x o).1 ≤ 1 := by cases o <;> simp [kc_adv]
set_option maxRecDepth 100000 in
set_option maxHeartbeats 4000000 in
theorem w_P_advert {X : OX} (Y : YY) (n s c : Nat) (hX : ox X (vC Y n s c) (rd 1) b_P_placeAdvert 3 "SlottedMesh$Plan" gz (some .boolean)) (hV : pv_ok (vC Y n s c)) (u : UU) (p x : Nat) (hp : p < 2) (hs : s < 2 ^ 31) (h0 : 0 < c) (hc : c ≤ 4) (hg : ∀ q, u.1 20 p q < 400) : ∀ j k, k + j = s → ow X (vC Y n s c) (some (.int (nI (kc_adv c u p x (fnd (kadv c u p) j k)).1))) (kc_adv c u p x (fnd (kadv c u p) j k)).2 u [(0, .ref (pv_ad (vC Y n s c) 15 p)), (1, .int (nI x)), (2, .int (nI k))] 2 [] := by
  intro j
  induction j with
  | zero =>
    intro k hk
    refine ow_iload_n (pc := 2) hX d_P_placeAdvert_2 rfl ?_
    refine ow_aload_n (pc := 3) hX d_P_placeAdvert_3 rfl ?_
    refine ow_gK (pc := 4) hX (kd_P Y n s c) 0 d_P_placeAdvert_4 kw_168 rfl (by show _ < 2; first | assumption | omega) ?_
    refine ow_nc_ge (pc := 7) (tgt := 49) hX d_P_placeAdvert_7 (by decide) (by first | assumption | omega | (have := hg (k * c + 0); omega)) (by first | assumption | omega | (have := hg (k * c + 0); omega)) (fun h7 => ?_) (fun h7 => ?_)
    · skip
      refine ow_iconst (pc := 49) (v := nI 0) hX d_P_placeAdvert_49 (by decide) ?_
      exact ow_zret (pc := 50) hX d_P_placeAdvert_50 (nb_01 (by first | decide | assumption | omega | exact kbit_le _ _)) (by first | rfl | (unfold fnd; rfl)) (by first | rfl | (unfold fnd; rfl))
    · skip
      exact absurd h7 (by omega)
  | succ j ih =>
    intro k hk
    refine ow_iload_n (pc := 2) hX d_P_placeAdvert_2 rfl ?_
    refine ow_aload_n (pc := 3) hX d_P_placeAdvert_3 rfl ?_
    refine ow_gK (pc := 4) hX (kd_P Y n s c) 0 d_P_placeAdvert_4 kw_168 rfl (by show _ < 2; first | assumption | omega) ?_
    refine ow_nc_ge (pc := 7) (tgt := 49) hX d_P_placeAdvert_7 (by decide) (by first | assumption | omega | (have := hg (k * c + 0); omega)) (by first | assumption | omega | (have := hg (k * c + 0); omega)) (fun h7 => ?_) (fun h7 => ?_)
    · skip
      exact absurd h7 (by omega)
    · skip
      refine ow_aload_n (pc := 10) hX d_P_placeAdvert_10 rfl ?_
      refine ow_iload_n (pc := 11) hX d_P_placeAdvert_11 rfl ?_
      refine ow_iconst (pc := 12) (v := nI 0) hX d_P_placeAdvert_12 (by decide) ?_
      refine ow_callV (pc := 13) hX (kd_P Y n s c) (by show _ < 2; first | assumption | omega) (c_P_codeAt _ Y n s c hV u p k 0 hp h7 h0) (cw_V hX mz_P_codeAt kw_268 ⟨rfl, rfl⟩ (by decide)) rfl (Nat.le_of_ble_eq_true rfl) d_P_placeAdvert_13 rfl ?_
      refine ow_nz_ne (pc := 16) (tgt := 43) hX d_P_placeAdvert_16 (by decide) (by first | assumption | omega | (have := hg (k * c + 0); omega)) (fun h16 => ?_) (fun h16 => ?_)
      · skip
        refine ow_iinc (pc := 43) (l2 := [(0, _), (1, _), (2, _)]) hX d_P_placeAdvert_43 rfl (ii_1 _) (by decide) rfl rfl ?_
        refine ow_goto (pc := 46) (tgt := 2) hX d_P_placeAdvert_46 (by decide) ?_
        rw [fnd_f (decide_eq_false h16)]
        exact ih (k + 1) (by omega)
      · skip
        refine ow_aload_n (pc := 19) hX d_P_placeAdvert_19 rfl ?_
        refine ow_iload_n (pc := 20) hX d_P_placeAdvert_20 rfl ?_
        refine ow_bipush (pc := 21) (v := nI 100) hX d_P_placeAdvert_21 (by decide) ?_
        refine ow_bipush (pc := 23) (v := nI 10) hX d_P_placeAdvert_23 (by decide) ?_
        refine ow_iload_n (pc := 25) hX d_P_placeAdvert_25 rfl ?_
        refine ow_muln (pc := 26) hX d_P_placeAdvert_26 ?_
        refine ow_addn (pc := 27) hX d_P_placeAdvert_27 ?_
        refine ow_callV (pc := 28) hX (kd_P Y n s c) (by show _ < 2; first | assumption | omega) (c_P_fillSlot _ Y n s c hV u p k _ hp h7 hc) (cw_V hX mz_P_fillSlot kw_272 ⟨rfl, rfl⟩ (by decide)) rfl (Nat.le_of_ble_eq_true rfl) d_P_placeAdvert_28 rfl ?_
        refine ow_aload_n (pc := 31) hX d_P_placeAdvert_31 rfl ?_
        refine ow_dup (pc := 32) hX d_P_placeAdvert_32 rfl ?_
        refine ow_gN (pc := 33) hX (kd_P Y n s c) 7 d_P_placeAdvert_33 kw_179 rfl (by show _ < 2; first | assumption | omega) ?_
        try simp only [un_1, un_2, ui_1, ui_2, ui_3, ul_1, ul_2, ul_3, ul_4, ur_1, ur_2, ur_3, ur_4, Nat.reduceEqDiff, false_and, and_false, true_and, and_true, and_self, reduceIte]
        refine ow_iconst (pc := 36) (v := nI 1) hX d_P_placeAdvert_36 (by decide) ?_
        refine ow_addn (pc := 37) hX d_P_placeAdvert_37 ?_
        refine ow_pN (pc := 38) hX (kd_P Y n s c) 7 d_P_placeAdvert_38 kw_179 rfl (by show _ < 2; first | assumption | omega) rfl (by decide +kernel) ?_
        refine ow_iconst (pc := 41) (v := nI 1) hX d_P_placeAdvert_41 (by decide) ?_
        exact ow_zret (pc := 42) hX d_P_placeAdvert_42 (nb_01 (by first | decide | assumption | omega | exact kbit_le _ _)) (by rw [fnd_t (decide_eq_true h16)]; rfl) (by rw [fnd_t (decide_eq_true h16)]; rfl)
set_option maxRecDepth 100000 in
set_option maxHeartbeats 4000000 in
theorem c_P_placeAdvert (l : Launch) (Y : YY) (n s c : Nat) (hV : pv_ok (vC Y n s c)) (u : UU) (p x : Nat) (hp : p < 2) (hs : s < 2 ^ 31) (h0 : 0 < c) (hc : c ≤ 4) (hg : ∀ q, u.1 20 p q < 400) : Ct l (vC Y n s c) ⟨"SlottedMesh$Plan", "placeAdvert", "(I)Z"⟩ (wz ⟨"SlottedMesh$Plan", "placeAdvert", "(I)Z"⟩ b_P_placeAdvert 3 (some .boolean)) (rd 1) [.ref (pv_ad (vC Y n s c) 15 p), .int (nI x)] u (some (.int (nI (kc_advert s c u p x).1))) ((kc_advert s c u p x).2) := by
  refine ct_mk hV (by decide +kernel) (Nat.le_of_ble_eq_true rfl) (fun X hX => ?_)
  have hX : ox X (vC Y n s c) (rd 1) b_P_placeAdvert 3 "SlottedMesh$Plan" gz (some .boolean) := hX
  show ow X (vC Y n s c) (some (.int (nI (kc_advert s c u p x).1))) ((kc_advert s c u p x).2) u [(0, .ref (pv_ad (vC Y n s c) 15 p)), (1, .int (nI x))] 0 []
  refine ow_iconst (pc := 0) (v := nI 0) hX d_P_placeAdvert_0 (by decide) ?_
  refine ow_istore_n (pc := 1) (l2 := [(0, _), (1, _), (2, _)]) hX d_P_placeAdvert_1 (by decide) rfl rfl ?_
  exact w_P_advert Y n s c hX hV u p x hp hs h0 hc hg s 0 (by omega)
/-- the first slot from k on, of j, with a free channel for x and y -/
def klink (g : Nat → Nat) (c x y : Nat) : Nat → Nat → Option (Nat × Nat)
  | 0, _ => none
  | j + 1, k => match kfree g c k x y c 0 with
    | some b => some (k, b)
    | none => klink g c x y j (k + 1)
def kc_lnk (c : Nat) (u : UU) (p z : Nat) (o : Option (Nat × Nat)) : Nat × UU := match o with
  | some q => (1, un (un u 20 p (q.1 * c + q.2) z) 15 p 7 (u.1 15 p 7 + 1))
  | none => (0, u)
def kc_link (s c : Nat) (u : UU) (p d x y : Nat) : Nat × UU := kc_lnk c u p (d + 10 * x + y) (klink (fun q => u.1 20 p q) c x y s 0)
theorem kc_lnk_le {c : Nat} {u : UU} {p z : Nat} {o : Option (Nat × Nat)} : (kc_lnk c u p z o).1 ≤ 1 := by cases o <;> simp [kc_lnk]
theorem klink_s {g : Nat → Nat} {c x y j k b : Nat} (h : kfree g c k x y c 0 = some b) : klink g c x y (j + 1) k = some (k, b) := by
  simp only [klink, h]
theorem klink_n {g : Nat → Nat} {c x y j k : Nat} (h : kfree g c k x y c 0 = none) : klink g c x y (j + 1) k = klink g c x y j (k + 1) := by
  simp only [klink, h]
set_option maxRecDepth 100000 in
set_option maxHeartbeats 4000000 in
theorem w_P_link {X : OX} (Y : YY) (n s c : Nat) (hX : ox X (vC Y n s c) (rd 3) b_P_placeLink 6 "SlottedMesh$Plan" gz (some .boolean)) (hV : pv_ok (vC Y n s c)) (u : UU) (p d x y : Nat) (hp : p < 2) (hs : s < 2 ^ 31) (hc : c ≤ 4) (hx : x < 10) (hy : y < 10) (hg : ∀ q, u.1 20 p q < 400) : ∀ j k, k + j = s → ow X (vC Y n s c) (some (.int (nI (kc_lnk c u p (d + 10 * x + y) (klink (fun q => u.1 20 p q) c x y j k)).1))) (kc_lnk c u p (d + 10 * x + y) (klink (fun q => u.1 20 p q) c x y j k)).2 u [(0, .ref (pv_ad (vC Y n s c) 15 p)), (1, .int (nI d)), (2, .int (nI x)), (3, .int (nI y)), (4, .int (nI k))] 3 [] := by
  intro j
  induction j with
  | zero =>
    intro k hk
    refine ow_iload (pc := 3) hX d_P_placeLink_3 rfl ?_
    refine ow_aload_n (pc := 5) hX d_P_placeLink_5 rfl ?_
    refine ow_gK (pc := 6) hX (kd_P Y n s c) 0 d_P_placeLink_6 kw_168 rfl (by show _ < 2; first | assumption | omega) ?_
    refine ow_nc_ge (pc := 9) (tgt := 69) hX d_P_placeLink_9 (by decide) (by first | assumption | omega) (by first | assumption | omega) (fun h9 => ?_) (fun h9 => ?_)
    · skip
      refine ow_iconst (pc := 69) (v := nI 0) hX d_P_placeLink_69 (by decide) ?_
      exact ow_zret (pc := 70) hX d_P_placeLink_70 (nb_01 (by first | decide | assumption | omega | exact kbit_le _ _)) (by first | rfl | (unfold klink; rfl)) (by first | rfl | (unfold klink; rfl))
    · skip
      exact absurd h9 (by omega)
  | succ j ih =>
    intro k hk
    refine ow_iload (pc := 3) hX d_P_placeLink_3 rfl ?_
    refine ow_aload_n (pc := 5) hX d_P_placeLink_5 rfl ?_
    refine ow_gK (pc := 6) hX (kd_P Y n s c) 0 d_P_placeLink_6 kw_168 rfl (by show _ < 2; first | assumption | exact ix_lt h9 hb | omega) ?_
    refine ow_nc_ge (pc := 9) (tgt := 69) hX d_P_placeLink_9 (by decide) (by first | assumption | omega) (by first | assumption | omega) (fun h9 => ?_) (fun h9 => ?_)
    · skip
      exact absurd h9 (by omega)
    · skip
      refine ow_aload_n (pc := 12) hX d_P_placeLink_12 rfl ?_
      refine ow_iload (pc := 13) hX d_P_placeLink_13 rfl ?_
      refine ow_iload_n (pc := 15) hX d_P_placeLink_15 rfl ?_
      refine ow_iload_n (pc := 16) hX d_P_placeLink_16 rfl ?_
      refine ow_callV (pc := 17) hX (kd_P Y n s c) (by show _ < 2; first | assumption | exact ix_lt h9 hb | omega) (c_P_freeChannel _ Y n s c hV u p k x y hp h9 hc hx hy hg) (cw_V hX mz_P_freeChannel kw_284 ⟨rfl, rfl⟩ (by decide)) rfl (Nat.le_of_ble_eq_true rfl) d_P_placeLink_17 rfl ?_
      rcases ho : kfree (fun q => u.1 20 p q) c k x y c 0 with _ | b
      · skip
        refine ow_st (st2 := .int (-1) :: _) rfl ?_
        refine ow_istore (pc := 20) (l2 := [(0, _), (1, _), (2, _), (3, _), (4, _), (5, _)]) hX d_P_placeLink_20 (by decide) rfl rfl ?_
        refine ow_iload (pc := 22) hX d_P_placeLink_22 rfl ?_
        refine ow_iconst (pc := 24) (v := (-1)) hX d_P_placeLink_24 (by decide) ?_
        refine ow_ic_eq (pc := 25) (tgt := 63) hX d_P_placeLink_25 (by decide) (fun h25 => ?_) (fun h25 => ?_)
        · skip
          refine ow_iinc (pc := 63) (l2 := [(0, _), (1, _), (2, _), (3, _), (4, _), (5, _)]) hX d_P_placeLink_63 rfl (ii_1 _) (by decide) rfl rfl ?_
          refine ow_goto (pc := 66) (tgt := 3) hX d_P_placeLink_66 (by decide) ?_
          rw [klink_n ho]
          refine ow_loc (l2 := [(0, _), (1, _), (2, _), (3, _), (4, _)]) (fun q hq => by simp only [List.mem_cons, List.not_mem_nil, or_false] at hq ⊢; rcases hq with rfl | rfl | rfl | rfl | rfl <;> simp) (ih (k + 1) (by omega))
        · skip
          exact absurd rfl h25
      · skip
        have hb : b < c := kfree_lt ho (by omega)
        refine ow_st (st2 := .int (nI b) :: _) rfl ?_
        refine ow_istore (pc := 20) (l2 := [(0, _), (1, _), (2, _), (3, _), (4, _), (5, _)]) hX d_P_placeLink_20 (by decide) rfl rfl ?_
        refine ow_iload (pc := 22) hX d_P_placeLink_22 rfl ?_
        refine ow_iconst (pc := 24) (v := (-1)) hX d_P_placeLink_24 (by decide) ?_
        refine ow_ic_eq (pc := 25) (tgt := 63) hX d_P_placeLink_25 (by decide) (fun h25 => ?_) (fun h25 => ?_)
        · skip
          exact absurd h25 (nI_m1 (by first | assumption | omega))
        · skip
          refine ow_aload_n (pc := 28) hX d_P_placeLink_28 rfl ?_
          refine ow_gR (pc := 29) hX (kd_P Y n s c) 6 d_P_placeLink_29 kw_177 rfl (by show _ < 2; first | assumption | exact ix_lt h9 hb | omega) ?_
          refine ow_iload (pc := 32) hX d_P_placeLink_32 rfl ?_
          refine ow_aload_n (pc := 34) hX d_P_placeLink_34 rfl ?_
          refine ow_gK (pc := 35) hX (kd_P Y n s c) 1 d_P_placeLink_35 kw_169 rfl (by show _ < 2; first | assumption | exact ix_lt h9 hb | omega) ?_
          refine ow_muln (pc := 38) hX d_P_placeLink_38 ?_
          refine ow_iload (pc := 39) hX d_P_placeLink_39 rfl ?_
          refine ow_addn (pc := 41) hX d_P_placeLink_41 ?_
          refine ow_iload_n (pc := 42) hX d_P_placeLink_42 rfl ?_
          refine ow_bipush (pc := 43) (v := nI 10) hX d_P_placeLink_43 (by decide) ?_
          refine ow_iload_n (pc := 45) hX d_P_placeLink_45 rfl ?_
          refine ow_muln (pc := 46) hX d_P_placeLink_46 ?_
          refine ow_addn (pc := 47) hX d_P_placeLink_47 ?_
          refine ow_iload_n (pc := 48) hX d_P_placeLink_48 rfl ?_
          refine ow_addn (pc := 49) hX d_P_placeLink_49 ?_
          refine ow_sN (pc := 50) hX rfl d_P_placeLink_50 (by show _ < 2; first | assumption | exact ix_lt h9 hb | omega) (by show _ < s * c; first | assumption | exact ix_lt h9 hb | omega) ?_
          refine ow_aload_n (pc := 51) hX d_P_placeLink_51 rfl ?_
          refine ow_dup (pc := 52) hX d_P_placeLink_52 rfl ?_
          refine ow_gN (pc := 53) hX (kd_P Y n s c) 7 d_P_placeLink_53 kw_179 rfl (by show _ < 2; first | assumption | exact ix_lt h9 hb | omega) ?_
          try simp only [un_1, un_2, ui_1, ui_2, ui_3, ul_1, ul_2, ul_3, ul_4, ur_1, ur_2, ur_3, ur_4, Nat.reduceEqDiff, false_and, and_false, true_and, and_true, and_self, reduceIte]
          refine ow_iconst (pc := 56) (v := nI 1) hX d_P_placeLink_56 (by decide) ?_
          refine ow_addn (pc := 57) hX d_P_placeLink_57 ?_
          refine ow_pN (pc := 58) hX (kd_P Y n s c) 7 d_P_placeLink_58 kw_179 rfl (by show _ < 2; first | assumption | exact ix_lt h9 hb | omega) rfl (by decide +kernel) ?_
          refine ow_iconst (pc := 61) (v := nI 1) hX d_P_placeLink_61 (by decide) ?_
          exact ow_zret (pc := 62) hX d_P_placeLink_62 (nb_01 (by first | decide | assumption | omega | exact kbit_le _ _)) (by rw [klink_s ho]; rfl) (by rw [klink_s ho]; rfl)
set_option maxRecDepth 100000 in
set_option maxHeartbeats 4000000 in
theorem c_P_placeLink (l : Launch) (Y : YY) (n s c : Nat) (hV : pv_ok (vC Y n s c)) (u : UU) (p d x y : Nat) (hp : p < 2) (hs : s < 2 ^ 31) (hc : c ≤ 4) (hx : x < 10) (hy : y < 10) (hg : ∀ q, u.1 20 p q < 400) : Ct l (vC Y n s c) ⟨"SlottedMesh$Plan", "placeLink", "(III)Z"⟩ (wz ⟨"SlottedMesh$Plan", "placeLink", "(III)Z"⟩ b_P_placeLink 6 (some .boolean)) (rd 3) [.ref (pv_ad (vC Y n s c) 15 p), .int (nI d), .int (nI x), .int (nI y)] u (some (.int (nI (kc_link s c u p d x y).1))) ((kc_link s c u p d x y).2) := by
  refine ct_mk hV (by decide +kernel) (Nat.le_of_ble_eq_true rfl) (fun X hX => ?_)
  have hX : ox X (vC Y n s c) (rd 3) b_P_placeLink 6 "SlottedMesh$Plan" gz (some .boolean) := hX
  show ow X (vC Y n s c) (some (.int (nI (kc_link s c u p d x y).1))) ((kc_link s c u p d x y).2) u [(0, .ref (pv_ad (vC Y n s c) 15 p)), (1, .int (nI d)), (2, .int (nI x)), (3, .int (nI y))] 0 []
  refine ow_iconst (pc := 0) (v := nI 0) hX d_P_placeLink_0 (by decide) ?_
  refine ow_istore (pc := 1) (l2 := [(0, _), (1, _), (2, _), (3, _), (4, _)]) hX d_P_placeLink_1 (by decide) rfl rfl ?_
  exact w_P_link Y n s c hX hV u p d x y hp hs hc hx hy hg s 0 (by omega)
