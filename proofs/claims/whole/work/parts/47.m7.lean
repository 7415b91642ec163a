/-! SlottedMeshModel: placeAdvert, place, placeAll (by program, wip/whole/gen/m7.py) -/
def km_fl (c : Nat) (u : UU) (sl z : Nat) : UU := fo (fun k w => un w 13 0 (4 * sl + k) z) u c
def kmv (u : UU) : Nat → Bool := fun sl => decide (u.1 13 0 (4 * sl) = 0)
def km_adv (c : Nat) (u : UU) (a : Nat) (q : Option Nat) : Nat × UU := match q with
  | some sl => (1, km_fl c u sl (100 + 10 * a))
  | none => (0, u)
theorem km_adv_le {c : Nat} {u : UU} {a : Nat} {q : Option Nat} : (km_adv c u a q).1 ≤ 1 := by cases q <;> simp [km_adv]
def km_advP (s c : Nat) (u : UU) (a : Nat) : Nat × UU := km_adv c u a (fnd (kmv u) s 0)
set_option maxRecDepth 100000 in
set_option maxHeartbeats 4000000 in
theorem w_M_pa1 {X : OX} (Y : YY) (n s c : Nat) (hX : ox X (vM Y n s c) (rd 0) b_M_placeAdvert 4 "SlottedMeshModel" gz (some .boolean)) (u : UU) (a sl : Nat) (hsl : sl < 24) (hc : c ≤ 4) : ∀ j k, k + j = c → ow X (vM Y n s c) (some (.int (nI 1))) (fo (fun k w => un w 13 0 (4 * sl + k) (100 + 10 * a)) u c) (fo (fun k w => un w 13 0 (4 * sl + k) (100 + 10 * a)) u k) [(0, .ref (pv_ad (vM Y n s c) 0 0)), (1, .int (nI a)), (2, .int (nI sl)), (3, .int (nI k))] 23 [] := by
  intro j
  induction j with
  | zero =>
    intro k hk
    refine ow_iload_n (pc := 23) hX d_M_placeAdvert_23 rfl ?_
    refine ow_aload_n (pc := 24) hX d_M_placeAdvert_24 rfl ?_
    refine ow_gK (pc := 25) hX (kd_M Y n s c) 2 d_M_placeAdvert_25 kw_503 rfl Nat.zero_lt_one ?_
    refine ow_nc_ge (pc := 28) (tgt := 54) hX d_M_placeAdvert_28 (by decide) (by first | assumption | omega) (by first | assumption | omega) (fun h28 => ?_) (fun h28 => ?_)
    · skip
      refine ow_iconst (pc := 54) (v := nI 1) hX d_M_placeAdvert_54 (by decide) ?_
      exact ow_zret (pc := 55) hX d_M_placeAdvert_55 (nb_01 (by first | decide | assumption | omega | exact kbit_le _ _)) (by first | rfl | (rw [show c = k by omega])) (by first | rfl | (rw [show c = k by omega]))
    · skip
      exact absurd h28 (by omega)
  | succ j ih =>
    intro k hk
    refine ow_iload_n (pc := 23) hX d_M_placeAdvert_23 rfl ?_
    refine ow_aload_n (pc := 24) hX d_M_placeAdvert_24 rfl ?_
    refine ow_gK (pc := 25) hX (kd_M Y n s c) 2 d_M_placeAdvert_25 kw_503 rfl Nat.zero_lt_one ?_
    refine ow_nc_ge (pc := 28) (tgt := 54) hX d_M_placeAdvert_28 (by decide) (by first | assumption | omega) (by first | assumption | omega) (fun h28 => ?_) (fun h28 => ?_)
    · skip
      exact absurd h28 (by omega)
    · skip
      refine ow_aload_n (pc := 31) hX d_M_placeAdvert_31 rfl ?_
      refine ow_gR (pc := 32) hX (kd_M Y n s c) 18 d_M_placeAdvert_32 kw_519 rfl Nat.zero_lt_one ?_
      refine ow_iconst (pc := 35) (v := nI 4) hX d_M_placeAdvert_35 (by decide) ?_
      refine ow_iload_n (pc := 36) hX d_M_placeAdvert_36 rfl ?_
      refine ow_muln (pc := 37) hX d_M_placeAdvert_37 ?_
      refine ow_iload_n (pc := 38) hX d_M_placeAdvert_38 rfl ?_
      refine ow_addn (pc := 39) hX d_M_placeAdvert_39 ?_
      refine ow_bipush (pc := 40) (v := nI 100) hX d_M_placeAdvert_40 (by decide) ?_
      refine ow_bipush (pc := 42) (v := nI 10) hX d_M_placeAdvert_42 (by decide) ?_
      refine ow_iload_n (pc := 44) hX d_M_placeAdvert_44 rfl ?_
      refine ow_muln (pc := 45) hX d_M_placeAdvert_45 ?_
      refine ow_addn (pc := 46) hX d_M_placeAdvert_46 ?_
      refine ow_sN (pc := 47) hX rfl d_M_placeAdvert_47 Nat.zero_lt_one (by show _ < 96; first | assumption | omega) ?_
      refine ow_iinc (pc := 48) (l2 := [(0, _), (1, _), (2, _), (3, _)]) hX d_M_placeAdvert_48 rfl (ii_1 _) (by decide) rfl rfl ?_
      refine ow_goto (pc := 51) (tgt := 23) hX d_M_placeAdvert_51 (by decide) ?_
      exact ih (k + 1) (by omega)
set_option maxRecDepth 100000 in
set_option maxHeartbeats 4000000 in
theorem w_M_pa {X : OX} (Y : YY) (n s c : Nat) (hX : ox X (vM Y n s c) (rd 0) b_M_placeAdvert 4 "SlottedMeshModel" gz (some .boolean)) (u : UU) (a : Nat) (hs : s ≤ 24) (hc : c ≤ 4) (hg : ∀ q, u.1 13 0 q < 400) : ∀ j k, k + j = s → ow X (vM Y n s c) (some (.int (nI (km_adv c u a (fnd (kmv u) j k)).1))) (km_adv c u a (fnd (kmv u) j k)).2 u [(0, .ref (pv_ad (vM Y n s c) 0 0)), (1, .int (nI a)), (2, .int (nI k))] 2 [] := by
  intro j
  induction j with
  | zero =>
    intro k hk
    refine ow_iload_n (pc := 2) hX d_M_placeAdvert_2 rfl ?_
    refine ow_aload_n (pc := 3) hX d_M_placeAdvert_3 rfl ?_
    refine ow_gK (pc := 4) hX (kd_M Y n s c) 1 d_M_placeAdvert_4 kw_502 rfl Nat.zero_lt_one ?_
    refine ow_nc_ge (pc := 7) (tgt := 62) hX d_M_placeAdvert_7 (by decide) (by first | assumption | omega | (have := hg (4 * k); omega)) (by first | assumption | omega | (have := hg (4 * k); omega)) (fun h7 => ?_) (fun h7 => ?_)
    · skip
      refine ow_iconst (pc := 62) (v := nI 0) hX d_M_placeAdvert_62 (by decide) ?_
      exact ow_zret (pc := 63) hX d_M_placeAdvert_63 (nb_01 (by first | decide | assumption | omega | exact kbit_le _ _)) (by first | rfl | (unfold fnd; rfl)) (by first | rfl | (unfold fnd; rfl))
    · skip
      exact absurd h7 (by omega)
  | succ j ih =>
    intro k hk
    refine ow_iload_n (pc := 2) hX d_M_placeAdvert_2 rfl ?_
    refine ow_aload_n (pc := 3) hX d_M_placeAdvert_3 rfl ?_
    refine ow_gK (pc := 4) hX (kd_M Y n s c) 1 d_M_placeAdvert_4 kw_502 rfl Nat.zero_lt_one ?_
    refine ow_nc_ge (pc := 7) (tgt := 62) hX d_M_placeAdvert_7 (by decide) (by first | assumption | omega | (have := hg (4 * k); omega)) (by first | assumption | omega | (have := hg (4 * k); omega)) (fun h7 => ?_) (fun h7 => ?_)
    · skip
      exact absurd h7 (by omega)
    · skip
      refine ow_aload_n (pc := 10) hX d_M_placeAdvert_10 rfl ?_
      refine ow_gR (pc := 11) hX (kd_M Y n s c) 18 d_M_placeAdvert_11 kw_519 rfl Nat.zero_lt_one ?_
      refine ow_iconst (pc := 14) (v := nI 4) hX d_M_placeAdvert_14 (by decide) ?_
      refine ow_iload_n (pc := 15) hX d_M_placeAdvert_15 rfl ?_
      refine ow_muln (pc := 16) hX d_M_placeAdvert_16 ?_
      refine ow_aN (pc := 17) hX rfl d_M_placeAdvert_17 Nat.zero_lt_one (by show _ < 96; first | assumption | omega) ?_
      refine ow_nz_ne (pc := 18) (tgt := 56) hX d_M_placeAdvert_18 (by decide) (by first | assumption | omega | (have := hg (4 * k); omega)) (fun h18 => ?_) (fun h18 => ?_)
      · skip
        refine ow_iinc (pc := 56) (l2 := [(0, _), (1, _), (2, _)]) hX d_M_placeAdvert_56 rfl (ii_1 _) (by decide) rfl rfl ?_
        refine ow_goto (pc := 59) (tgt := 2) hX d_M_placeAdvert_59 (by decide) ?_
        rw [fnd_f (decide_eq_false h18)]
        exact ih (k + 1) (by omega)
      · skip
        refine ow_iconst (pc := 21) (v := nI 0) hX d_M_placeAdvert_21 (by decide) ?_
        refine ow_istore_n (pc := 22) (l2 := [(0, _), (1, _), (2, _), (3, _)]) hX d_M_placeAdvert_22 (by decide) rfl rfl ?_
        rw [fnd_t (decide_eq_true h18)]
        exact w_M_pa1 Y n s c hX u a k (by omega) hc c 0 (by omega)
set_option maxRecDepth 100000 in
set_option maxHeartbeats 4000000 in
theorem c_M_placeAdvert (l : Launch) (Y : YY) (n s c : Nat) (hV : pv_ok (vM Y n s c)) (u : UU) (a : Nat) (hs : s ≤ 24) (hc : c ≤ 4) (hg : ∀ q, u.1 13 0 q < 400) : Ct l (vM Y n s c) ⟨"SlottedMeshModel", "placeAdvert", "(I)Z"⟩ (wz ⟨"SlottedMeshModel", "placeAdvert", "(I)Z"⟩ b_M_placeAdvert 4 (some .boolean)) (rd 0) [.ref (pv_ad (vM Y n s c) 0 0), .int (nI a)] u (some (.int (nI (km_advP s c u a).1))) ((km_advP s c u a).2) := by
  refine ct_mk hV (by decide +kernel) (Nat.le_of_ble_eq_true rfl) (fun X hX => ?_)
  have hX : ox X (vM Y n s c) (rd 0) b_M_placeAdvert 4 "SlottedMeshModel" gz (some .boolean) := hX
  show ow X (vM Y n s c) (some (.int (nI (km_advP s c u a).1))) ((km_advP s c u a).2) u [(0, .ref (pv_ad (vM Y n s c) 0 0)), (1, .int (nI a))] 0 []
  refine ow_iconst (pc := 0) (v := nI 0) hX d_M_placeAdvert_0 (by decide) ?_
  refine ow_istore_n (pc := 1) (l2 := [(0, _), (1, _), (2, _)]) hX d_M_placeAdvert_1 (by decide) rfl rfl ?_
  exact w_M_pa Y n s c hX u a hs hc hg s 0 (by omega)
/-- do two cells clash -/
def kcl (z q : Nat) : Nat := if kfst q = kfst z then 1 else if kfst q = ksnd z then 1 else if ksnd q = kfst z then 1 else if ksnd q = ksnd z then 1 else 0
theorem kcl_le (z q : Nat) : kcl z q ≤ 1 := by
  unfold kcl
  repeat' split
  all_goals omega
def pr (m : Nat) : Option Nat := match m with
  | 0 => none
  | m + 1 => some m
theorem io_pr (m : Nat) : nI m + Int32.ofInt (-1) = io (pr m) := by
  cases m with
  | zero => decide
  | succ m => exact sb_m1 (Nat.succ_pos m)
/-- one channel: is it free, is the slot still good -/
def kst (z q k : Nat) (w : Option Nat × Nat) : Option Nat × Nat := (if q = 0 then some k else w.1, if w.2 = 0 then 0 else if q = 0 then 1 else if kcl z q = 0 then 1 else 0)
def kpi_ (g : Nat → Nat) (sl z : Nat) : Nat → Option Nat × Nat → Option Nat × Nat
  | 0, w => w
  | m + 1, w => kpi_ g sl z m (kst z (g (4 * sl + m)) m w)
def kg0 (g : Nat → Nat) (sl : Nat) : Nat := if g (4 * sl) < 100 then 1 else if g (4 * sl) < 200 then 0 else 1
theorem kst_b {z q k : Nat} {w : Option Nat × Nat} (h : w.2 ≤ 1) : (kst z q k w).2 ≤ 1 := by
  unfold kst
  dsimp only
  repeat' split
  all_goals omega
/-- where a cell finds its place: slots from k on, j of them -/
def kplc (g : Nat → Nat) (c z : Nat) : Nat → Nat → Option (Nat × Nat)
  | 0, _ => none
  | j + 1, k => if (kpi_ g k z c (none, kg0 g k)).2 = 0 then kplc g c z j (k + 1) else match (kpi_ g k z c (none, kg0 g k)).1 with
    | none => kplc g c z j (k + 1)
    | some b => some (k, b)
theorem kpi_lt {g : Nat → Nat} {sl z : Nat} {c : Nat} : ∀ m w b, m ≤ c → (∀ b, w.1 = some b → b < c) → (kpi_ g sl z m w).1 = some b → b < c := by
  intro m
  induction m with
  | zero => intro w b _ hw h; exact hw b h
  | succ m ih =>
    intro w b hm hw h
    refine ih _ b (by omega) ?_ h
    intro b2 h2
    unfold kst at h2
    dsimp only at h2
    split at h2
    · cases h2; omega
    · exact hw b2 h2
def km_plc (u : UU) (z : Nat) (q : Option (Nat × Nat)) : Nat × UU := match q with
  | some p => (1, un u 13 0 (4 * p.1 + p.2) z)
  | none => (0, u)
theorem km_plc_le {u : UU} {z : Nat} {q : Option (Nat × Nat)} : (km_plc u z q).1 ≤ 1 := by cases q <;> simp [km_plc]
def km_place (s c : Nat) (u : UU) (z : Nat) : Nat × UU := km_plc u z (kplc (fun j => u.1 13 0 j) c z s 0)
theorem kfst_lt (a : Nat) : kfst a < 10 := by unfold kfst; split; (· omega); exact Nat.mod_lt _ (by decide)
theorem ksnd_lt (a : Nat) : ksnd a < 10 := by unfold ksnd; split; (· exact Nat.mod_lt _ (by decide)); omega
set_option maxRecDepth 100000 in
set_option maxHeartbeats 4000000 in
theorem w_M_cl {X : OX} (Y : YY) (n s c : Nat) (hX : ox X (vM Y n s c) (rd 1) b_M_place 8 "SlottedMeshModel" gz (some .boolean)) (hV : pv_ok (vM Y n s c)) (u : UU) (z sl gd k q : Nat) (fr : Int32) (hz : z < 400) (hq : q < 400) (rr : Option Value) (uu : UU) (K : ow X (vM Y n s c) rr uu u [(0, .ref (pv_ad (vM Y n s c) 0 0)), (1, .int (nI z)), (2, .int (nI sl)), (3, .int fr), (4, .int (nI gd)), (5, .int (nI k)), (6, .int (nI q)), (7, .int (nI (kcl z q)))] 139 []) : ow X (vM Y n s c) rr uu u [(0, .ref (pv_ad (vM Y n s c) 0 0)), (1, .int (nI z)), (2, .int (nI sl)), (3, .int fr), (4, .int (nI gd)), (5, .int (nI k)), (6, .int (nI q))] 84 [] := by
  refine ow_iload (pc := 84) hX d_M_place_84 rfl ?_
  refine ow_callS (pc := 86) hX (c_M_first _ Y n s c hV u q (by omega)) (cw_S hX mz_M_first kw_637 ⟨rfl, rfl⟩ (by decide)) rfl (Nat.le_of_ble_eq_true rfl) d_M_place_86 rfl ?_
  refine ow_iload_n (pc := 89) hX d_M_place_89 rfl ?_
  refine ow_callS (pc := 90) hX (c_M_first _ Y n s c hV u z (by omega)) (cw_S hX mz_M_first kw_637 ⟨rfl, rfl⟩ (by decide)) rfl (Nat.le_of_ble_eq_true rfl) d_M_place_90 rfl ?_
  refine ow_nc_eq (pc := 93) (tgt := 132) hX d_M_place_93 (by decide) (by first | assumption | omega | have := kfst_lt z; have := kfst_lt q; have := ksnd_lt z; have := ksnd_lt q; omega) (by first | assumption | omega | have := kfst_lt z; have := kfst_lt q; have := ksnd_lt z; have := ksnd_lt q; omega) (fun h93 => ?_) (fun h93 => ?_)
  · skip
    refine ow_iconst (pc := 132) (v := nI 1) hX d_M_place_132 (by decide) ?_
    refine ow_goto (pc := 133) (tgt := 137) hX d_M_place_133 (by decide) ?_
    refine ow_istore (pc := 137) (l2 := [(0, _), (1, _), (2, _), (3, _), (4, _), (5, _), (6, _), (7, _)]) hX d_M_place_137 (by decide) rfl rfl ?_
    first | (have e : kcl z q = 1 := by unfold kcl; rw [if_pos h93]) | (have e : kcl z q = 1 := by unfold kcl; rw [if_neg h93, if_pos h105]) | (have e : kcl z q = 1 := by unfold kcl; rw [if_neg h93, if_neg h105, if_pos h117]) | (have e : kcl z q = 1 := by unfold kcl; rw [if_neg h93, if_neg h105, if_neg h117, if_pos h129]) | (have e : kcl z q = 0 := by unfold kcl; rw [if_neg h93, if_neg h105, if_neg h117, if_neg h129])
    rw [e] at K
    exact K
  · skip
    refine ow_iload (pc := 96) hX d_M_place_96 rfl ?_
    refine ow_callS (pc := 98) hX (c_M_first _ Y n s c hV u q (by omega)) (cw_S hX mz_M_first kw_637 ⟨rfl, rfl⟩ (by decide)) rfl (Nat.le_of_ble_eq_true rfl) d_M_place_98 rfl ?_
    refine ow_iload_n (pc := 101) hX d_M_place_101 rfl ?_
    refine ow_callS (pc := 102) hX (c_M_second _ Y n s c hV u z (by omega)) (cw_S hX mz_M_second kw_640 ⟨rfl, rfl⟩ (by decide)) rfl (Nat.le_of_ble_eq_true rfl) d_M_place_102 rfl ?_
    refine ow_nc_eq (pc := 105) (tgt := 132) hX d_M_place_105 (by decide) (by first | assumption | omega | have := kfst_lt z; have := kfst_lt q; have := ksnd_lt z; have := ksnd_lt q; omega) (by first | assumption | omega | have := kfst_lt z; have := kfst_lt q; have := ksnd_lt z; have := ksnd_lt q; omega) (fun h105 => ?_) (fun h105 => ?_)
    · skip
      refine ow_iconst (pc := 132) (v := nI 1) hX d_M_place_132 (by decide) ?_
      refine ow_goto (pc := 133) (tgt := 137) hX d_M_place_133 (by decide) ?_
      refine ow_istore (pc := 137) (l2 := [(0, _), (1, _), (2, _), (3, _), (4, _), (5, _), (6, _), (7, _)]) hX d_M_place_137 (by decide) rfl rfl ?_
      first | (have e : kcl z q = 1 := by unfold kcl; rw [if_pos h93]) | (have e : kcl z q = 1 := by unfold kcl; rw [if_neg h93, if_pos h105]) | (have e : kcl z q = 1 := by unfold kcl; rw [if_neg h93, if_neg h105, if_pos h117]) | (have e : kcl z q = 1 := by unfold kcl; rw [if_neg h93, if_neg h105, if_neg h117, if_pos h129]) | (have e : kcl z q = 0 := by unfold kcl; rw [if_neg h93, if_neg h105, if_neg h117, if_neg h129])
      rw [e] at K
      exact K
    · skip
      refine ow_iload (pc := 108) hX d_M_place_108 rfl ?_
      refine ow_callS (pc := 110) hX (c_M_second _ Y n s c hV u q (by omega)) (cw_S hX mz_M_second kw_640 ⟨rfl, rfl⟩ (by decide)) rfl (Nat.le_of_ble_eq_true rfl) d_M_place_110 rfl ?_
      refine ow_iload_n (pc := 113) hX d_M_place_113 rfl ?_
      refine ow_callS (pc := 114) hX (c_M_first _ Y n s c hV u z (by omega)) (cw_S hX mz_M_first kw_637 ⟨rfl, rfl⟩ (by decide)) rfl (Nat.le_of_ble_eq_true rfl) d_M_place_114 rfl ?_
      refine ow_nc_eq (pc := 117) (tgt := 132) hX d_M_place_117 (by decide) (by first | assumption | omega | have := kfst_lt z; have := kfst_lt q; have := ksnd_lt z; have := ksnd_lt q; omega) (by first | assumption | omega | have := kfst_lt z; have := kfst_lt q; have := ksnd_lt z; have := ksnd_lt q; omega) (fun h117 => ?_) (fun h117 => ?_)
      · skip
        refine ow_iconst (pc := 132) (v := nI 1) hX d_M_place_132 (by decide) ?_
        refine ow_goto (pc := 133) (tgt := 137) hX d_M_place_133 (by decide) ?_
        refine ow_istore (pc := 137) (l2 := [(0, _), (1, _), (2, _), (3, _), (4, _), (5, _), (6, _), (7, _)]) hX d_M_place_137 (by decide) rfl rfl ?_
        first | (have e : kcl z q = 1 := by unfold kcl; rw [if_pos h93]) | (have e : kcl z q = 1 := by unfold kcl; rw [if_neg h93, if_pos h105]) | (have e : kcl z q = 1 := by unfold kcl; rw [if_neg h93, if_neg h105, if_pos h117]) | (have e : kcl z q = 1 := by unfold kcl; rw [if_neg h93, if_neg h105, if_neg h117, if_pos h129]) | (have e : kcl z q = 0 := by unfold kcl; rw [if_neg h93, if_neg h105, if_neg h117, if_neg h129])
        rw [e] at K
        exact K
      · skip
        refine ow_iload (pc := 120) hX d_M_place_120 rfl ?_
        refine ow_callS (pc := 122) hX (c_M_second _ Y n s c hV u q (by omega)) (cw_S hX mz_M_second kw_640 ⟨rfl, rfl⟩ (by decide)) rfl (Nat.le_of_ble_eq_true rfl) d_M_place_122 rfl ?_
        refine ow_iload_n (pc := 125) hX d_M_place_125 rfl ?_
        refine ow_callS (pc := 126) hX (c_M_second _ Y n s c hV u z (by omega)) (cw_S hX mz_M_second kw_640 ⟨rfl, rfl⟩ (by decide)) rfl (Nat.le_of_ble_eq_true rfl) d_M_place_126 rfl ?_
        refine ow_nc_ne (pc := 129) (tgt := 136) hX d_M_place_129 (by decide) (by first | assumption | omega | have := kfst_lt z; have := kfst_lt q; have := ksnd_lt z; have := ksnd_lt q; omega) (by first | assumption | omega | have := kfst_lt z; have := kfst_lt q; have := ksnd_lt z; have := ksnd_lt q; omega) (fun h129 => ?_) (fun h129 => ?_)
        · skip
          refine ow_iconst (pc := 136) (v := nI 0) hX d_M_place_136 (by decide) ?_
          refine ow_istore (pc := 137) (l2 := [(0, _), (1, _), (2, _), (3, _), (4, _), (5, _), (6, _), (7, _)]) hX d_M_place_137 (by decide) rfl rfl ?_
          first | (have e : kcl z q = 1 := by unfold kcl; rw [if_pos h93]) | (have e : kcl z q = 1 := by unfold kcl; rw [if_neg h93, if_pos h105]) | (have e : kcl z q = 1 := by unfold kcl; rw [if_neg h93, if_neg h105, if_pos h117]) | (have e : kcl z q = 1 := by unfold kcl; rw [if_neg h93, if_neg h105, if_neg h117, if_pos h129]) | (have e : kcl z q = 0 := by unfold kcl; rw [if_neg h93, if_neg h105, if_neg h117, if_neg h129])
          rw [e] at K
          exact K
        · skip
          refine ow_iconst (pc := 132) (v := nI 1) hX d_M_place_132 (by decide) ?_
          refine ow_goto (pc := 133) (tgt := 137) hX d_M_place_133 (by decide) ?_
          refine ow_istore (pc := 137) (l2 := [(0, _), (1, _), (2, _), (3, _), (4, _), (5, _), (6, _), (7, _)]) hX d_M_place_137 (by decide) rfl rfl ?_
          first | (have e : kcl z q = 1 := by unfold kcl; rw [if_pos h93]) | (have e : kcl z q = 1 := by unfold kcl; rw [if_neg h93, if_pos h105]) | (have e : kcl z q = 1 := by unfold kcl; rw [if_neg h93, if_neg h105, if_pos h117]) | (have e : kcl z q = 1 := by unfold kcl; rw [if_neg h93, if_neg h105, if_neg h117, if_pos h129]) | (have e : kcl z q = 0 := by unfold kcl; rw [if_neg h93, if_neg h105, if_neg h117, if_neg h129])
          rw [e] at K
          exact K
set_option maxRecDepth 100000 in
set_option maxHeartbeats 4000000 in
theorem w_M_pl1 {X : OX} (Y : YY) (n s c : Nat) (hX : ox X (vM Y n s c) (rd 1) b_M_place 8 "SlottedMeshModel" gz (some .boolean)) (hV : pv_ok (vM Y n s c)) (u : UU) (z sl : Nat) (hz : z < 400) (hsl : sl < 24) (hc : c ≤ 4) (hg : ∀ q, u.1 13 0 q < 400) (rr : Option Value) (uu : UU) : ∀ m (w : Option Nat × Nat), w.2 ≤ 1 → m ≤ c → (∀ x, x = kpi_ (fun j => u.1 13 0 j) sl z m w → ow X (vM Y n s c) rr uu u [(0, .ref (pv_ad (vM Y n s c) 0 0)), (1, .int (nI z)), (2, .int (nI sl)), (3, .int (io x.1)), (4, .int (nI x.2))] 167 []) → ow X (vM Y n s c) rr uu u [(0, .ref (pv_ad (vM Y n s c) 0 0)), (1, .int (nI z)), (2, .int (nI sl)), (3, .int (io w.1)), (4, .int (nI w.2)), (5, .int (io (pr m)))] 54 [] := by
  intro m
  induction m with
  | zero =>
    intro w hw hm K
    refine ow_loc (l2 := [(0, .ref (pv_ad (vM Y n s c) 0 0)), (1, .int (nI z)), (2, .int (nI sl)), (3, .int (io w.1)), (4, .int (nI w.2)), (5, .int (-1))]) (fun z hz => hz) ?_
    refine ow_iload (pc := 54) hX d_M_place_54 rfl ?_
    refine ow_if_lt (pc := 56) (tgt := 167) hX d_M_place_56 (by decide) (fun h56 => ?_) (fun h56 => ?_)
    · skip
      have K := K w rfl
      refine ow_loc (l2 := [(0, _), (1, _), (2, _), (3, _), (4, _)]) (fun q hq => by simp only [List.mem_cons, List.not_mem_nil, or_false] at hq ⊢; rcases hq with rfl | rfl | rfl | rfl | rfl <;> simp) (K)
    · skip
      exact absurd h56 (by decide)
  | succ m ih =>
    intro w hw hm K
    have hq := hg (4 * sl + m)
    refine ow_loc (l2 := [(0, .ref (pv_ad (vM Y n s c) 0 0)), (1, .int (nI z)), (2, .int (nI sl)), (3, .int (io w.1)), (4, .int (nI w.2)), (5, .int (nI m))]) (fun z hz => hz) ?_
    refine ow_iload (pc := 54) hX d_M_place_54 rfl ?_
    refine ow_nz_lt (pc := 56) (tgt := 167) hX d_M_place_56 (by decide) (by first | assumption | omega | (have := kcl_le z (u.1 13 0 (4 * sl + m)); omega)) ?_
    refine ow_aload_n (pc := 59) hX d_M_place_59 rfl ?_
    refine ow_gR (pc := 60) hX (kd_M Y n s c) 18 d_M_place_60 kw_519 rfl Nat.zero_lt_one ?_
    refine ow_iconst (pc := 63) (v := nI 4) hX d_M_place_63 (by decide) ?_
    refine ow_iload_n (pc := 64) hX d_M_place_64 rfl ?_
    refine ow_muln (pc := 65) hX d_M_place_65 ?_
    refine ow_iload (pc := 66) hX d_M_place_66 rfl ?_
    refine ow_addn (pc := 68) hX d_M_place_68 ?_
    refine ow_aN (pc := 69) hX rfl d_M_place_69 Nat.zero_lt_one (by show _ < 96; first | assumption | omega) ?_
    refine ow_istore (pc := 70) (l2 := [(0, _), (1, _), (2, _), (3, _), (4, _), (5, _), (6, _)]) hX d_M_place_70 (by decide) rfl rfl ?_
    by_cases hq0 : (u.1 13 0 (4 * sl + m)) = 0
    · skip
      refine ow_iload (pc := 72) hX d_M_place_72 rfl ?_
      refine ow_nz_ne (pc := 74) (tgt := 82) hX d_M_place_74 (by decide) (by first | assumption | omega | (have := kcl_le z (u.1 13 0 (4 * sl + m)); omega)) (fun h74 => ?_) (fun h74 => ?_)
      · skip
        exact absurd hq0 h74
      · skip
        refine ow_iload (pc := 77) hX d_M_place_77 rfl ?_
        refine ow_goto (pc := 79) (tgt := 83) hX d_M_place_79 (by decide) ?_
        refine ow_istore_n (pc := 83) (l2 := [(0, _), (1, _), (2, _), (3, _), (4, _), (5, _), (6, _)]) hX d_M_place_83 (by decide) rfl rfl ?_
        refine w_M_cl Y n s c hX hV u z sl w.2 m (u.1 13 0 (4 * sl + m)) _ hz hq rr uu ?_
        skip
        refine ow_iload (pc := 139) hX d_M_place_139 rfl ?_
        refine ow_nz_eq (pc := 141) (tgt := 158) hX d_M_place_141 (by decide) (by first | assumption | omega | (have := kcl_le z (u.1 13 0 (4 * sl + m)); omega)) (fun h141 => ?_) (fun h141 => ?_)
        · skip
          refine ow_iconst (pc := 158) (v := nI 0) hX d_M_place_158 (by decide) ?_
          refine ow_istore (pc := 159) (l2 := [(0, _), (1, _), (2, _), (3, _), (4, _), (5, _), (6, _), (7, _)]) hX d_M_place_159 (by decide) rfl rfl ?_
          refine ow_iinc (pc := 161) (l2 := [(0, _), (1, _), (2, _), (3, _), (4, _), (5, _), (6, _), (7, _)]) hX d_M_place_161 rfl (io_pr m) (by decide) rfl rfl ?_
          refine ow_goto (pc := 164) (tgt := 54) hX d_M_place_164 (by decide) ?_
          have ih := ih (kst z (u.1 13 0 (4 * sl + m)) m w) (kst_b hw) (by omega) (fun x hx => K x (by rw [hx, kpi_]))
          first | (have e : kst z (u.1 13 0 (4 * sl + m)) m w = (some m, 0) := (by unfold kst; rw [if_pos h74, if_pos h141]); rw [e] at ih; refine ow_loc (l2 := [(0, _), (1, _), (2, _), (3, _), (4, _), (5, _)]) (fun q hq => by simp only [List.mem_cons, List.not_mem_nil, or_false] at hq ⊢; rcases hq with rfl | rfl | rfl | rfl | rfl | rfl <;> simp [io]) (ih)) | (have e : kst z (u.1 13 0 (4 * sl + m)) m w = (some m, 1) := (by unfold kst; rw [if_pos h74, if_neg h141, if_pos h74]); rw [e] at ih; refine ow_loc (l2 := [(0, _), (1, _), (2, _), (3, _), (4, _), (5, _)]) (fun q hq => by simp only [List.mem_cons, List.not_mem_nil, or_false] at hq ⊢; rcases hq with rfl | rfl | rfl | rfl | rfl | rfl <;> simp [io]) (ih)) | (have e : kst z (u.1 13 0 (4 * sl + m)) m w = (w.1, 0) := (by unfold kst; rw [if_neg h74, if_pos h141]); rw [e] at ih; refine ow_loc (l2 := [(0, _), (1, _), (2, _), (3, _), (4, _), (5, _)]) (fun q hq => by simp only [List.mem_cons, List.not_mem_nil, or_false] at hq ⊢; rcases hq with rfl | rfl | rfl | rfl | rfl | rfl <;> simp [io]) (ih)) | (have e : kst z (u.1 13 0 (4 * sl + m)) m w = (w.1, 1) := (by unfold kst; rw [if_neg h74, if_neg h141, if_neg h74, if_pos h151]); rw [e] at ih; refine ow_loc (l2 := [(0, _), (1, _), (2, _), (3, _), (4, _), (5, _)]) (fun q hq => by simp only [List.mem_cons, List.not_mem_nil, or_false] at hq ⊢; rcases hq with rfl | rfl | rfl | rfl | rfl | rfl <;> simp [io]) (ih)) | (have e : kst z (u.1 13 0 (4 * sl + m)) m w = (w.1, 0) := (by unfold kst; rw [if_neg h74, if_neg h141, if_neg h74, if_neg h151]); rw [e] at ih; refine ow_loc (l2 := [(0, _), (1, _), (2, _), (3, _), (4, _), (5, _)]) (fun q hq => by simp only [List.mem_cons, List.not_mem_nil, or_false] at hq ⊢; rcases hq with rfl | rfl | rfl | rfl | rfl | rfl <;> simp [io]) (ih))
        · skip
          refine ow_iload (pc := 144) hX d_M_place_144 rfl ?_
          refine ow_nz_eq (pc := 146) (tgt := 154) hX d_M_place_146 (by decide) (by first | assumption | omega | (have := kcl_le z (u.1 13 0 (4 * sl + m)); omega)) (fun h146 => ?_) (fun h146 => ?_)
          · skip
            refine ow_iconst (pc := 154) (v := nI 1) hX d_M_place_154 (by decide) ?_
            refine ow_goto (pc := 155) (tgt := 159) hX d_M_place_155 (by decide) ?_
            refine ow_istore (pc := 159) (l2 := [(0, _), (1, _), (2, _), (3, _), (4, _), (5, _), (6, _), (7, _)]) hX d_M_place_159 (by decide) rfl rfl ?_
            refine ow_iinc (pc := 161) (l2 := [(0, _), (1, _), (2, _), (3, _), (4, _), (5, _), (6, _), (7, _)]) hX d_M_place_161 rfl (io_pr m) (by decide) rfl rfl ?_
            refine ow_goto (pc := 164) (tgt := 54) hX d_M_place_164 (by decide) ?_
            have ih := ih (kst z (u.1 13 0 (4 * sl + m)) m w) (kst_b hw) (by omega) (fun x hx => K x (by rw [hx, kpi_]))
            first | (have e : kst z (u.1 13 0 (4 * sl + m)) m w = (some m, 0) := (by unfold kst; rw [if_pos h74, if_pos h141]); rw [e] at ih; refine ow_loc (l2 := [(0, _), (1, _), (2, _), (3, _), (4, _), (5, _)]) (fun q hq => by simp only [List.mem_cons, List.not_mem_nil, or_false] at hq ⊢; rcases hq with rfl | rfl | rfl | rfl | rfl | rfl <;> simp [io]) (ih)) | (have e : kst z (u.1 13 0 (4 * sl + m)) m w = (some m, 1) := (by unfold kst; rw [if_pos h74, if_neg h141, if_pos h74]); rw [e] at ih; refine ow_loc (l2 := [(0, _), (1, _), (2, _), (3, _), (4, _), (5, _)]) (fun q hq => by simp only [List.mem_cons, List.not_mem_nil, or_false] at hq ⊢; rcases hq with rfl | rfl | rfl | rfl | rfl | rfl <;> simp [io]) (ih)) | (have e : kst z (u.1 13 0 (4 * sl + m)) m w = (w.1, 0) := (by unfold kst; rw [if_neg h74, if_pos h141]); rw [e] at ih; refine ow_loc (l2 := [(0, _), (1, _), (2, _), (3, _), (4, _), (5, _)]) (fun q hq => by simp only [List.mem_cons, List.not_mem_nil, or_false] at hq ⊢; rcases hq with rfl | rfl | rfl | rfl | rfl | rfl <;> simp [io]) (ih)) | (have e : kst z (u.1 13 0 (4 * sl + m)) m w = (w.1, 1) := (by unfold kst; rw [if_neg h74, if_neg h141, if_neg h74, if_pos h151]); rw [e] at ih; refine ow_loc (l2 := [(0, _), (1, _), (2, _), (3, _), (4, _), (5, _)]) (fun q hq => by simp only [List.mem_cons, List.not_mem_nil, or_false] at hq ⊢; rcases hq with rfl | rfl | rfl | rfl | rfl | rfl <;> simp [io]) (ih)) | (have e : kst z (u.1 13 0 (4 * sl + m)) m w = (w.1, 0) := (by unfold kst; rw [if_neg h74, if_neg h141, if_neg h74, if_neg h151]); rw [e] at ih; refine ow_loc (l2 := [(0, _), (1, _), (2, _), (3, _), (4, _), (5, _)]) (fun q hq => by simp only [List.mem_cons, List.not_mem_nil, or_false] at hq ⊢; rcases hq with rfl | rfl | rfl | rfl | rfl | rfl <;> simp [io]) (ih))
          · skip
            exact absurd hq0 h146
    · skip
      refine ow_iload (pc := 72) hX d_M_place_72 rfl ?_
      refine ow_nz_ne (pc := 74) (tgt := 82) hX d_M_place_74 (by decide) (by first | assumption | omega | (have := kcl_le z (u.1 13 0 (4 * sl + m)); omega)) (fun h74 => ?_) (fun h74 => ?_)
      · skip
        refine ow_iload_n (pc := 82) hX d_M_place_82 rfl ?_
        refine ow_istore_n (pc := 83) (l2 := [(0, _), (1, _), (2, _), (3, _), (4, _), (5, _), (6, _)]) hX d_M_place_83 (by decide) rfl rfl ?_
        refine w_M_cl Y n s c hX hV u z sl w.2 m (u.1 13 0 (4 * sl + m)) _ hz hq rr uu ?_
        skip
        refine ow_iload (pc := 139) hX d_M_place_139 rfl ?_
        refine ow_nz_eq (pc := 141) (tgt := 158) hX d_M_place_141 (by decide) (by first | assumption | omega | (have := kcl_le z (u.1 13 0 (4 * sl + m)); omega)) (fun h141 => ?_) (fun h141 => ?_)
        · skip
          refine ow_iconst (pc := 158) (v := nI 0) hX d_M_place_158 (by decide) ?_
          refine ow_istore (pc := 159) (l2 := [(0, _), (1, _), (2, _), (3, _), (4, _), (5, _), (6, _), (7, _)]) hX d_M_place_159 (by decide) rfl rfl ?_
          refine ow_iinc (pc := 161) (l2 := [(0, _), (1, _), (2, _), (3, _), (4, _), (5, _), (6, _), (7, _)]) hX d_M_place_161 rfl (io_pr m) (by decide) rfl rfl ?_
          refine ow_goto (pc := 164) (tgt := 54) hX d_M_place_164 (by decide) ?_
          have ih := ih (kst z (u.1 13 0 (4 * sl + m)) m w) (kst_b hw) (by omega) (fun x hx => K x (by rw [hx, kpi_]))
          first | (have e : kst z (u.1 13 0 (4 * sl + m)) m w = (some m, 0) := (by unfold kst; rw [if_pos h74, if_pos h141]); rw [e] at ih; refine ow_loc (l2 := [(0, _), (1, _), (2, _), (3, _), (4, _), (5, _)]) (fun q hq => by simp only [List.mem_cons, List.not_mem_nil, or_false] at hq ⊢; rcases hq with rfl | rfl | rfl | rfl | rfl | rfl <;> simp [io]) (ih)) | (have e : kst z (u.1 13 0 (4 * sl + m)) m w = (some m, 1) := (by unfold kst; rw [if_pos h74, if_neg h141, if_pos h74]); rw [e] at ih; refine ow_loc (l2 := [(0, _), (1, _), (2, _), (3, _), (4, _), (5, _)]) (fun q hq => by simp only [List.mem_cons, List.not_mem_nil, or_false] at hq ⊢; rcases hq with rfl | rfl | rfl | rfl | rfl | rfl <;> simp [io]) (ih)) | (have e : kst z (u.1 13 0 (4 * sl + m)) m w = (w.1, 0) := (by unfold kst; rw [if_neg h74, if_pos h141]); rw [e] at ih; refine ow_loc (l2 := [(0, _), (1, _), (2, _), (3, _), (4, _), (5, _)]) (fun q hq => by simp only [List.mem_cons, List.not_mem_nil, or_false] at hq ⊢; rcases hq with rfl | rfl | rfl | rfl | rfl | rfl <;> simp [io]) (ih)) | (have e : kst z (u.1 13 0 (4 * sl + m)) m w = (w.1, 1) := (by unfold kst; rw [if_neg h74, if_neg h141, if_neg h74, if_pos h151]); rw [e] at ih; refine ow_loc (l2 := [(0, _), (1, _), (2, _), (3, _), (4, _), (5, _)]) (fun q hq => by simp only [List.mem_cons, List.not_mem_nil, or_false] at hq ⊢; rcases hq with rfl | rfl | rfl | rfl | rfl | rfl <;> simp [io]) (ih)) | (have e : kst z (u.1 13 0 (4 * sl + m)) m w = (w.1, 0) := (by unfold kst; rw [if_neg h74, if_neg h141, if_neg h74, if_neg h151]); rw [e] at ih; refine ow_loc (l2 := [(0, _), (1, _), (2, _), (3, _), (4, _), (5, _)]) (fun q hq => by simp only [List.mem_cons, List.not_mem_nil, or_false] at hq ⊢; rcases hq with rfl | rfl | rfl | rfl | rfl | rfl <;> simp [io]) (ih))
        · skip
          refine ow_iload (pc := 144) hX d_M_place_144 rfl ?_
          refine ow_nz_eq (pc := 146) (tgt := 154) hX d_M_place_146 (by decide) (by first | assumption | omega | (have := kcl_le z (u.1 13 0 (4 * sl + m)); omega)) (fun h146 => ?_) (fun h146 => ?_)
          · skip
            exact absurd h146 hq0
          · skip
            refine ow_iload (pc := 149) hX d_M_place_149 rfl ?_
            refine ow_nz_ne (pc := 151) (tgt := 158) hX d_M_place_151 (by decide) (by first | assumption | omega | (have := kcl_le z (u.1 13 0 (4 * sl + m)); omega)) (fun h151 => ?_) (fun h151 => ?_)
            · skip
              refine ow_iconst (pc := 158) (v := nI 0) hX d_M_place_158 (by decide) ?_
              refine ow_istore (pc := 159) (l2 := [(0, _), (1, _), (2, _), (3, _), (4, _), (5, _), (6, _), (7, _)]) hX d_M_place_159 (by decide) rfl rfl ?_
              refine ow_iinc (pc := 161) (l2 := [(0, _), (1, _), (2, _), (3, _), (4, _), (5, _), (6, _), (7, _)]) hX d_M_place_161 rfl (io_pr m) (by decide) rfl rfl ?_
              refine ow_goto (pc := 164) (tgt := 54) hX d_M_place_164 (by decide) ?_
              have ih := ih (kst z (u.1 13 0 (4 * sl + m)) m w) (kst_b hw) (by omega) (fun x hx => K x (by rw [hx, kpi_]))
              first | (have e : kst z (u.1 13 0 (4 * sl + m)) m w = (some m, 0) := (by unfold kst; rw [if_pos h74, if_pos h141]); rw [e] at ih; refine ow_loc (l2 := [(0, _), (1, _), (2, _), (3, _), (4, _), (5, _)]) (fun q hq => by simp only [List.mem_cons, List.not_mem_nil, or_false] at hq ⊢; rcases hq with rfl | rfl | rfl | rfl | rfl | rfl <;> simp [io]) (ih)) | (have e : kst z (u.1 13 0 (4 * sl + m)) m w = (some m, 1) := (by unfold kst; rw [if_pos h74, if_neg h141, if_pos h74]); rw [e] at ih; refine ow_loc (l2 := [(0, _), (1, _), (2, _), (3, _), (4, _), (5, _)]) (fun q hq => by simp only [List.mem_cons, List.not_mem_nil, or_false] at hq ⊢; rcases hq with rfl | rfl | rfl | rfl | rfl | rfl <;> simp [io]) (ih)) | (have e : kst z (u.1 13 0 (4 * sl + m)) m w = (w.1, 0) := (by unfold kst; rw [if_neg h74, if_pos h141]); rw [e] at ih; refine ow_loc (l2 := [(0, _), (1, _), (2, _), (3, _), (4, _), (5, _)]) (fun q hq => by simp only [List.mem_cons, List.not_mem_nil, or_false] at hq ⊢; rcases hq with rfl | rfl | rfl | rfl | rfl | rfl <;> simp [io]) (ih)) | (have e : kst z (u.1 13 0 (4 * sl + m)) m w = (w.1, 1) := (by unfold kst; rw [if_neg h74, if_neg h141, if_neg h74, if_pos h151]); rw [e] at ih; refine ow_loc (l2 := [(0, _), (1, _), (2, _), (3, _), (4, _), (5, _)]) (fun q hq => by simp only [List.mem_cons, List.not_mem_nil, or_false] at hq ⊢; rcases hq with rfl | rfl | rfl | rfl | rfl | rfl <;> simp [io]) (ih)) | (have e : kst z (u.1 13 0 (4 * sl + m)) m w = (w.1, 0) := (by unfold kst; rw [if_neg h74, if_neg h141, if_neg h74, if_neg h151]); rw [e] at ih; refine ow_loc (l2 := [(0, _), (1, _), (2, _), (3, _), (4, _), (5, _)]) (fun q hq => by simp only [List.mem_cons, List.not_mem_nil, or_false] at hq ⊢; rcases hq with rfl | rfl | rfl | rfl | rfl | rfl <;> simp [io]) (ih))
            · skip
              refine ow_iconst (pc := 154) (v := nI 1) hX d_M_place_154 (by decide) ?_
              refine ow_goto (pc := 155) (tgt := 159) hX d_M_place_155 (by decide) ?_
              refine ow_istore (pc := 159) (l2 := [(0, _), (1, _), (2, _), (3, _), (4, _), (5, _), (6, _), (7, _)]) hX d_M_place_159 (by decide) rfl rfl ?_
              refine ow_iinc (pc := 161) (l2 := [(0, _), (1, _), (2, _), (3, _), (4, _), (5, _), (6, _), (7, _)]) hX d_M_place_161 rfl (io_pr m) (by decide) rfl rfl ?_
              refine ow_goto (pc := 164) (tgt := 54) hX d_M_place_164 (by decide) ?_
              have ih := ih (kst z (u.1 13 0 (4 * sl + m)) m w) (kst_b hw) (by omega) (fun x hx => K x (by rw [hx, kpi_]))
              first | (have e : kst z (u.1 13 0 (4 * sl + m)) m w = (some m, 0) := (by unfold kst; rw [if_pos h74, if_pos h141]); rw [e] at ih; refine ow_loc (l2 := [(0, _), (1, _), (2, _), (3, _), (4, _), (5, _)]) (fun q hq => by simp only [List.mem_cons, List.not_mem_nil, or_false] at hq ⊢; rcases hq with rfl | rfl | rfl | rfl | rfl | rfl <;> simp [io]) (ih)) | (have e : kst z (u.1 13 0 (4 * sl + m)) m w = (some m, 1) := (by unfold kst; rw [if_pos h74, if_neg h141, if_pos h74]); rw [e] at ih; refine ow_loc (l2 := [(0, _), (1, _), (2, _), (3, _), (4, _), (5, _)]) (fun q hq => by simp only [List.mem_cons, List.not_mem_nil, or_false] at hq ⊢; rcases hq with rfl | rfl | rfl | rfl | rfl | rfl <;> simp [io]) (ih)) | (have e : kst z (u.1 13 0 (4 * sl + m)) m w = (w.1, 0) := (by unfold kst; rw [if_neg h74, if_pos h141]); rw [e] at ih; refine ow_loc (l2 := [(0, _), (1, _), (2, _), (3, _), (4, _), (5, _)]) (fun q hq => by simp only [List.mem_cons, List.not_mem_nil, or_false] at hq ⊢; rcases hq with rfl | rfl | rfl | rfl | rfl | rfl <;> simp [io]) (ih)) | (have e : kst z (u.1 13 0 (4 * sl + m)) m w = (w.1, 1) := (by unfold kst; rw [if_neg h74, if_neg h141, if_neg h74, if_pos h151]); rw [e] at ih; refine ow_loc (l2 := [(0, _), (1, _), (2, _), (3, _), (4, _), (5, _)]) (fun q hq => by simp only [List.mem_cons, List.not_mem_nil, or_false] at hq ⊢; rcases hq with rfl | rfl | rfl | rfl | rfl | rfl <;> simp [io]) (ih)) | (have e : kst z (u.1 13 0 (4 * sl + m)) m w = (w.1, 0) := (by unfold kst; rw [if_neg h74, if_neg h141, if_neg h74, if_neg h151]); rw [e] at ih; refine ow_loc (l2 := [(0, _), (1, _), (2, _), (3, _), (4, _), (5, _)]) (fun q hq => by simp only [List.mem_cons, List.not_mem_nil, or_false] at hq ⊢; rcases hq with rfl | rfl | rfl | rfl | rfl | rfl <;> simp [io]) (ih))
      · skip
        exact absurd h74 hq0
theorem kpi_b {g : Nat → Nat} {sl z : Nat} : ∀ m (w : Option Nat × Nat), w.2 ≤ 1 → (kpi_ g sl z m w).2 ≤ 1 := by
  intro m
  induction m with
  | zero => intro w h; exact h
  | succ m ih => intro w h; exact ih _ (kst_b h)
theorem kg0_le (g : Nat → Nat) (sl : Nat) : kg0 g sl ≤ 1 := by unfold kg0; (repeat' split) <;> omega
set_option maxRecDepth 100000 in
set_option maxHeartbeats 4000000 in
theorem w_M_pl2 {X : OX} (Y : YY) (n s c : Nat) (hX : ox X (vM Y n s c) (rd 1) b_M_place 8 "SlottedMeshModel" gz (some .boolean)) (hV : pv_ok (vM Y n s c)) (u : UU) (z k j : Nat) (hz : z < 400) (hk : k < 24) (h0 : 0 < c) (hc : c ≤ 4) (hg : ∀ q, u.1 13 0 q < 400) (gd : Nat) (e0 : kg0 (fun j => u.1 13 0 j) k = gd) (hY : ∀ y, y = (kpi_ (fun j => u.1 13 0 j) k z c (none, kg0 (fun j => u.1 13 0 j) k)) → y.2 ≤ 1) (K : (kplc (fun j => u.1 13 0 j) c z (j + 1) k = kplc (fun j => u.1 13 0 j) c z j (k + 1) → ∀ {l3 : List (Nat × Value)}, (∀ q ∈ ([(0, .ref (pv_ad (vM Y n s c) 0 0)), (1, .int (nI z)), (2, .int (nI (k + 1)))] : List (Nat × Value)), q ∈ l3) → ow X (vM Y n s c) (some (.int (nI (km_plc u z (kplc (fun j => u.1 13 0 j) c z (j + 1) k)).1))) (km_plc u z (kplc (fun j => u.1 13 0 j) c z (j + 1) k)).2 u l3 2 [])) : ow X (vM Y n s c) (some (.int (nI (km_plc u z (kplc (fun j => u.1 13 0 j) c z (j + 1) k)).1))) (km_plc u z (kplc (fun j => u.1 13 0 j) c z (j + 1) k)).2 u [(0, .ref (pv_ad (vM Y n s c) 0 0)), (1, .int (nI z)), (2, .int (nI k)), (3, .int (-1)), (4, .int (nI gd)), (5, .int (nI (c - 1)))] 54 [] := by
  have hgb : gd ≤ 1 := by rw [← e0]; unfold kg0; (repeat' split) <;> omega
  obtain ⟨x, hx⟩ : ∃ x, x = (kpi_ (fun j => u.1 13 0 j) k z c (none, kg0 (fun j => u.1 13 0 j) k)) := ⟨_, rfl⟩
  have hpc : pr c = some (c - 1) := by cases c with
    | zero => omega
    | succ c => rfl
  refine ow_loc (l2 := [(0, .ref (pv_ad (vM Y n s c) 0 0)), (1, .int (nI z)), (2, .int (nI k)), (3, .int (io none)), (4, .int (nI gd)), (5, .int (io (pr c)))]) (fun q hq => by rw [hpc] at hq; exact hq) ?_
  refine w_M_pl1 Y n s c hX hV u z k hz hk hc hg _ _ c (none, gd) hgb (Nat.le_refl _) (fun y hy => ?_)
  have hyx : y = x := by rw [hy, hx, e0]
  subst hyx
  have hy2 : y.2 ≤ 1 := hY y hx
  have hlt : ∀ b, y.1 = some b → b < c := fun b hb => kpi_lt (g := (fun j => u.1 13 0 j)) (sl := k) (z := z) c (none, gd) b (Nat.le_refl _) (fun b h => by cases h) (by rw [← hy]; exact hb)
  obtain ⟨fr, gd2⟩ := y
  refine ow_iload (pc := 167) hX d_M_place_167 rfl ?_
  refine ow_nz_eq (pc := 169) (tgt := 189) hX d_M_place_169 (by decide) (by first | assumption | omega) (fun h169 => ?_) (fun h169 => ?_)
  · skip
    refine ow_iinc (pc := 189) (l2 := [(0, _), (1, _), (2, _), (3, _), (4, _)]) hX d_M_place_189 rfl (ii_1 _) (by decide) rfl rfl ?_
    refine ow_goto (pc := 192) (tgt := 2) hX d_M_place_192 (by decide) ?_
    first | (refine K (by rw [kplc, ← hx]; dsimp only; rw [if_pos h169]) ?_) | (refine K (by rw [kplc, ← hx]; dsimp only; rw [if_neg h169]) ?_)
    exact fun q hq => by simp only [List.mem_cons, List.not_mem_nil, or_false] at hq ⊢; rcases hq with rfl | rfl | rfl <;> simp
  · skip
    rcases fr with _ | b
    · skip
      refine ow_loc (l2 := [(0, .ref (pv_ad (vM Y n s c) 0 0)), (1, .int (nI z)), (2, .int (nI k)), (3, .int (-1)), (4, .int (nI gd2))]) (fun q hq => hq) ?_
      refine ow_iload_n (pc := 172) hX d_M_place_172 rfl ?_
      refine ow_if_lt (pc := 173) (tgt := 189) hX d_M_place_173 (by decide) (fun h173 => ?_) (fun h173 => ?_)
      · skip
        refine ow_iinc (pc := 189) (l2 := [(0, _), (1, _), (2, _), (3, _), (4, _)]) hX d_M_place_189 rfl (ii_1 _) (by decide) rfl rfl ?_
        refine ow_goto (pc := 192) (tgt := 2) hX d_M_place_192 (by decide) ?_
        first | (refine K (by rw [kplc, ← hx]; dsimp only; rw [if_pos h169]) ?_) | (refine K (by rw [kplc, ← hx]; dsimp only; rw [if_neg h169]) ?_)
        exact fun q hq => by simp only [List.mem_cons, List.not_mem_nil, or_false] at hq ⊢; rcases hq with rfl | rfl | rfl <;> simp
      · skip
        exact absurd h173 (by decide)
    · skip
      have hb := hlt b rfl
      refine ow_loc (l2 := [(0, .ref (pv_ad (vM Y n s c) 0 0)), (1, .int (nI z)), (2, .int (nI k)), (3, .int (nI b)), (4, .int (nI gd2))]) (fun q hq => hq) ?_
      refine ow_iload_n (pc := 172) hX d_M_place_172 rfl ?_
      refine ow_nz_lt (pc := 173) (tgt := 189) hX d_M_place_173 (by decide) (by first | assumption | omega) ?_
      refine ow_aload_n (pc := 176) hX d_M_place_176 rfl ?_
      refine ow_gR (pc := 177) hX (kd_M Y n s c) 18 d_M_place_177 kw_519 rfl Nat.zero_lt_one ?_
      refine ow_iconst (pc := 180) (v := nI 4) hX d_M_place_180 (by decide) ?_
      refine ow_iload_n (pc := 181) hX d_M_place_181 rfl ?_
      refine ow_muln (pc := 182) hX d_M_place_182 ?_
      refine ow_iload_n (pc := 183) hX d_M_place_183 rfl ?_
      refine ow_addn (pc := 184) hX d_M_place_184 ?_
      refine ow_iload_n (pc := 185) hX d_M_place_185 rfl ?_
      refine ow_sN (pc := 186) hX rfl d_M_place_186 Nat.zero_lt_one (by show _ < 96; first | assumption | omega) ?_
      refine ow_iconst (pc := 187) (v := nI 1) hX d_M_place_187 (by decide) ?_
      exact ow_zret (pc := 188) hX d_M_place_188 (nb_01 (by first | decide | assumption | omega | exact kbit_le _ _)) (by first | rfl | (rw [kplc, ← hx]; dsimp only; rw [if_neg h169]; rfl)) (by first | rfl | (rw [kplc, ← hx]; dsimp only; rw [if_neg h169]; rfl))
set_option maxRecDepth 100000 in
set_option maxHeartbeats 4000000 in
theorem w_M_place {X : OX} (Y : YY) (n s c : Nat) (hX : ox X (vM Y n s c) (rd 1) b_M_place 8 "SlottedMeshModel" gz (some .boolean)) (hV : pv_ok (vM Y n s c)) (u : UU) (z : Nat) (hz : z < 400) (hs : s ≤ 24) (h0 : 0 < c) (hc : c ≤ 4) (hg : ∀ q, u.1 13 0 q < 400) : ∀ j k, k + j = s → ow X (vM Y n s c) (some (.int (nI (km_plc u z (kplc (fun j => u.1 13 0 j) c z j k)).1))) (km_plc u z (kplc (fun j => u.1 13 0 j) c z j k)).2 u [(0, .ref (pv_ad (vM Y n s c) 0 0)), (1, .int (nI z)), (2, .int (nI k))] 2 [] := by
  intro j
  induction j with
  | zero =>
    intro k hk
    refine ow_iload_n (pc := 2) hX d_M_place_2 rfl ?_
    refine ow_aload_n (pc := 3) hX d_M_place_3 rfl ?_
    refine ow_gK (pc := 4) hX (kd_M Y n s c) 1 d_M_place_4 kw_502 rfl Nat.zero_lt_one ?_
    refine ow_nc_ge (pc := 7) (tgt := 195) hX d_M_place_7 (by decide) (by first | assumption | omega | (have := hg (4 * k); omega)) (by first | assumption | omega | (have := hg (4 * k); omega)) (fun h7 => ?_) (fun h7 => ?_)
    · skip
      refine ow_iconst (pc := 195) (v := nI 0) hX d_M_place_195 (by decide) ?_
      exact ow_zret (pc := 196) hX d_M_place_196 (nb_01 (by first | decide | assumption | omega | exact kbit_le _ _)) (by first | rfl | (unfold kplc; rfl)) (by first | rfl | (unfold kplc; rfl))
    · skip
      exact absurd h7 (by omega)
  | succ j ih =>
    intro k hk
    refine ow_iload_n (pc := 2) hX d_M_place_2 rfl ?_
    refine ow_aload_n (pc := 3) hX d_M_place_3 rfl ?_
    refine ow_gK (pc := 4) hX (kd_M Y n s c) 1 d_M_place_4 kw_502 rfl Nat.zero_lt_one ?_
    refine ow_nc_ge (pc := 7) (tgt := 195) hX d_M_place_7 (by decide) (by first | assumption | omega | (have := hg (4 * k); omega)) (by first | assumption | omega | (have := hg (4 * k); omega)) (fun h7 => ?_) (fun h7 => ?_)
    · skip
      exact absurd h7 (by omega)
    · skip
      refine ow_iconst (pc := 10) (v := (-1)) hX d_M_place_10 (by decide) ?_
      refine ow_istore_n (pc := 11) (l2 := [(0, _), (1, _), (2, _), (3, _)]) hX d_M_place_11 (by decide) rfl rfl ?_
      refine ow_aload_n (pc := 12) hX d_M_place_12 rfl ?_
      refine ow_gR (pc := 13) hX (kd_M Y n s c) 18 d_M_place_13 kw_519 rfl Nat.zero_lt_one ?_
      refine ow_iconst (pc := 16) (v := nI 4) hX d_M_place_16 (by decide) ?_
      refine ow_iload_n (pc := 17) hX d_M_place_17 rfl ?_
      refine ow_muln (pc := 18) hX d_M_place_18 ?_
      refine ow_aN (pc := 19) hX rfl d_M_place_19 Nat.zero_lt_one (by show _ < 96; first | assumption | omega) ?_
      refine ow_bipush (pc := 20) (v := nI 100) hX d_M_place_20 (by decide) ?_
      refine ow_nc_lt (pc := 22) (tgt := 39) hX d_M_place_22 (by decide) (by first | assumption | omega | (have := hg (4 * k); omega)) (by first | assumption | omega | (have := hg (4 * k); omega)) (fun h22 => ?_) (fun h22 => ?_)
      · skip
        refine ow_iconst (pc := 39) (v := nI 1) hX d_M_place_39 (by decide) ?_
        refine ow_goto (pc := 40) (tgt := 44) hX d_M_place_40 (by decide) ?_
        refine ow_istore (pc := 44) (l2 := [(0, _), (1, _), (2, _), (3, _), (4, _)]) hX d_M_place_44 (by decide) rfl rfl ?_
        refine ow_aload_n (pc := 46) hX d_M_place_46 rfl ?_
        refine ow_gK (pc := 47) hX (kd_M Y n s c) 2 d_M_place_47 kw_503 rfl Nat.zero_lt_one ?_
        refine ow_iconst (pc := 50) (v := nI 1) hX d_M_place_50 (by decide) ?_
        refine ow_subn (pc := 51) hX d_M_place_51 (by first | assumption | omega | (have := hg (4 * k); omega)) ?_
        refine ow_istore (pc := 52) (l2 := [(0, _), (1, _), (2, _), (3, _), (4, _), (5, _)]) hX d_M_place_52 (by decide) rfl rfl ?_
        first | (have e0 : kg0 (fun j => u.1 13 0 j) k = 1 := by unfold kg0; rw [if_pos h22]) | (have e0 : kg0 (fun j => u.1 13 0 j) k = 0 := by unfold kg0; rw [if_neg (Nat.not_lt.mpr h22), if_pos h36]) | (have e0 : kg0 (fun j => u.1 13 0 j) k = 1 := by unfold kg0; rw [if_neg (Nat.not_lt.mpr h22), if_neg (Nat.not_lt.mpr h36)])
        exact w_M_pl2 Y n s c hX hV u z k j hz (by omega) h0 hc hg _ e0 (fun y hy => by rw [hy]; exact kpi_b c _ (kg0_le _ _)) (fun e l3 h3 => by rw [e]; exact ow_loc h3 (ih (k + 1) (by omega)))
      · skip
        refine ow_aload_n (pc := 25) hX d_M_place_25 rfl ?_
        refine ow_gR (pc := 26) hX (kd_M Y n s c) 18 d_M_place_26 kw_519 rfl Nat.zero_lt_one ?_
        refine ow_iconst (pc := 29) (v := nI 4) hX d_M_place_29 (by decide) ?_
        refine ow_iload_n (pc := 30) hX d_M_place_30 rfl ?_
        refine ow_muln (pc := 31) hX d_M_place_31 ?_
        refine ow_aN (pc := 32) hX rfl d_M_place_32 Nat.zero_lt_one (by show _ < 96; first | assumption | omega) ?_
        refine ow_sipush (pc := 33) (v := nI 200) hX d_M_place_33 (by decide) ?_
        refine ow_nc_lt (pc := 36) (tgt := 43) hX d_M_place_36 (by decide) (by first | assumption | omega | (have := hg (4 * k); omega)) (by first | assumption | omega | (have := hg (4 * k); omega)) (fun h36 => ?_) (fun h36 => ?_)
        · skip
          refine ow_iconst (pc := 43) (v := nI 0) hX d_M_place_43 (by decide) ?_
          refine ow_istore (pc := 44) (l2 := [(0, _), (1, _), (2, _), (3, _), (4, _)]) hX d_M_place_44 (by decide) rfl rfl ?_
          refine ow_aload_n (pc := 46) hX d_M_place_46 rfl ?_
          refine ow_gK (pc := 47) hX (kd_M Y n s c) 2 d_M_place_47 kw_503 rfl Nat.zero_lt_one ?_
          refine ow_iconst (pc := 50) (v := nI 1) hX d_M_place_50 (by decide) ?_
          refine ow_subn (pc := 51) hX d_M_place_51 (by first | assumption | omega | (have := hg (4 * k); omega)) ?_
          refine ow_istore (pc := 52) (l2 := [(0, _), (1, _), (2, _), (3, _), (4, _), (5, _)]) hX d_M_place_52 (by decide) rfl rfl ?_
          first | (have e0 : kg0 (fun j => u.1 13 0 j) k = 1 := by unfold kg0; rw [if_pos h22]) | (have e0 : kg0 (fun j => u.1 13 0 j) k = 0 := by unfold kg0; rw [if_neg (Nat.not_lt.mpr h22), if_pos h36]) | (have e0 : kg0 (fun j => u.1 13 0 j) k = 1 := by unfold kg0; rw [if_neg (Nat.not_lt.mpr h22), if_neg (Nat.not_lt.mpr h36)])
          exact w_M_pl2 Y n s c hX hV u z k j hz (by omega) h0 hc hg _ e0 (fun y hy => by rw [hy]; exact kpi_b c _ (kg0_le _ _)) (fun e l3 h3 => by rw [e]; exact ow_loc h3 (ih (k + 1) (by omega)))
        · skip
          refine ow_iconst (pc := 39) (v := nI 1) hX d_M_place_39 (by decide) ?_
          refine ow_goto (pc := 40) (tgt := 44) hX d_M_place_40 (by decide) ?_
          refine ow_istore (pc := 44) (l2 := [(0, _), (1, _), (2, _), (3, _), (4, _)]) hX d_M_place_44 (by decide) rfl rfl ?_
          refine ow_aload_n (pc := 46) hX d_M_place_46 rfl ?_
          refine ow_gK (pc := 47) hX (kd_M Y n s c) 2 d_M_place_47 kw_503 rfl Nat.zero_lt_one ?_
          refine ow_iconst (pc := 50) (v := nI 1) hX d_M_place_50 (by decide) ?_
          refine ow_subn (pc := 51) hX d_M_place_51 (by first | assumption | omega | (have := hg (4 * k); omega)) ?_
          refine ow_istore (pc := 52) (l2 := [(0, _), (1, _), (2, _), (3, _), (4, _), (5, _)]) hX d_M_place_52 (by decide) rfl rfl ?_
          first | (have e0 : kg0 (fun j => u.1 13 0 j) k = 1 := by unfold kg0; rw [if_pos h22]) | (have e0 : kg0 (fun j => u.1 13 0 j) k = 0 := by unfold kg0; rw [if_neg (Nat.not_lt.mpr h22), if_pos h36]) | (have e0 : kg0 (fun j => u.1 13 0 j) k = 1 := by unfold kg0; rw [if_neg (Nat.not_lt.mpr h22), if_neg (Nat.not_lt.mpr h36)])
          exact w_M_pl2 Y n s c hX hV u z k j hz (by omega) h0 hc hg _ e0 (fun y hy => by rw [hy]; exact kpi_b c _ (kg0_le _ _)) (fun e l3 h3 => by rw [e]; exact ow_loc h3 (ih (k + 1) (by omega)))
set_option maxRecDepth 100000 in
set_option maxHeartbeats 4000000 in
theorem c_M_place (l : Launch) (Y : YY) (n s c : Nat) (hV : pv_ok (vM Y n s c)) (u : UU) (z : Nat) (hz : z < 400) (hs : s ≤ 24) (h0 : 0 < c) (hc : c ≤ 4) (hg : ∀ q, u.1 13 0 q < 400) : Ct l (vM Y n s c) ⟨"SlottedMeshModel", "place", "(I)Z"⟩ (wz ⟨"SlottedMeshModel", "place", "(I)Z"⟩ b_M_place 8 (some .boolean)) (rd 1) [.ref (pv_ad (vM Y n s c) 0 0), .int (nI z)] u (some (.int (nI (km_place s c u z).1))) ((km_place s c u z).2) := by
  refine ct_mk hV (by decide +kernel) (Nat.le_of_ble_eq_true rfl) (fun X hX => ?_)
  have hX : ox X (vM Y n s c) (rd 1) b_M_place 8 "SlottedMeshModel" gz (some .boolean) := hX
  show ow X (vM Y n s c) (some (.int (nI (km_place s c u z).1))) ((km_place s c u z).2) u [(0, .ref (pv_ad (vM Y n s c) 0 0)), (1, .int (nI z))] 0 []
  refine ow_iconst (pc := 0) (v := nI 0) hX d_M_place_0 (by decide) ?_
  refine ow_istore_n (pc := 1) (l2 := [(0, _), (1, _), (2, _)]) hX d_M_place_1 (by decide) rfl rfl ?_
  exact w_M_place Y n s c hX hV u z hz hs h0 hc hg s 0 (by omega)
