/-! SlottedMesh: playCells, run, plan (by program, wip/whole/gen/c11.py) -/
set_option maxRecDepth 100000 in
set_option maxHeartbeats 4000000 in
theorem w_S_play {X : OX} (Y : YY) (n s c : Nat) (hX : ox X (vC Y n s c) (rd 6) b_S_playCells 7 "SlottedMesh" gz none) (hV : pv_ok (vC Y n s c)) (u : UU) (hn : n ≤ 6) (hc : c ≤ 4) (fa : Nat → Option Nat) (sl : Nat) (hsl : sl < s) (hu : wf n u) (hpw : pw n s c fa u) (hm : u.1 15 (u.2.2.2 5) 8 ≠ 0) : ∀ j k, k + j = c → ow X (vC Y n s c) none (fo (kc_play1 n c fa sl) u c) (fo (kc_play1 n c fa sl) u k) [(0, .ref (pv_ad (vC Y n s c) 0 0)), (1, .int (nI sl)), (2, .int (nI k))] 2 [] := by
  intro j
  induction j with
  | zero =>
    intro k hk
    obtain ⟨w, hwe⟩ : ∃ w, w = (fo (kc_play1 n c fa sl) u k) := ⟨_, rfl⟩
    have hev : ev n u w := by rw [hwe]; exact ev_fo (fun _ _ hw => ev_play1 hw) k u hu
    have hw : wf n w := hev.1 hu
    have hp5 := hw.2.2.2.2.2.2.2.2.2.2.2.1
    have htm := hw.2.2.2.2.2.2.2.2.2.2.1
    have hpw2 := pw_sp hev.2 hpw (by rw [hev.2.2.2, hev.2.1 15 _ _ (by omega)]; exact hm)
    rw [← hwe]
    refine ow_iload_n (pc := 2) hX d_S_playCells_2 rfl ?_
    refine ow_aload_n (pc := 3) hX d_S_playCells_3 rfl ?_
    refine ow_gK (pc := 4) hX (kd_S Y n s c) 1 d_S_playCells_4 kw_202 rfl Nat.zero_lt_one ?_
    refine ow_nc_ge (pc := 7) (tgt := 147) hX d_S_playCells_7 (by decide) (by first | assumption | omega) (by first | assumption | omega) (fun h7 => ?_) (fun h7 => ?_)
    · skip
      exact ow_vret (pc := 147) hX d_S_playCells_147 rfl (by rw [hwe, show c = k by omega])
    · skip
      exact absurd h7 (by omega)
  | succ j ih =>
    intro k hk
    obtain ⟨w, hwe⟩ : ∃ w, w = (fo (kc_play1 n c fa sl) u k) := ⟨_, rfl⟩
    have hev : ev n u w := by rw [hwe]; exact ev_fo (fun _ _ hw => ev_play1 hw) k u hu
    have hw : wf n w := hev.1 hu
    have hp5 := hw.2.2.2.2.2.2.2.2.2.2.2.1
    have htm := hw.2.2.2.2.2.2.2.2.2.2.1
    have hpw2 := pw_sp hev.2 hpw (by rw [hev.2.2.2, hev.2.1 15 _ _ (by omega)]; exact hm)
    rw [← hwe]
    refine ow_iload_n (pc := 2) hX d_S_playCells_2 rfl ?_
    refine ow_aload_n (pc := 3) hX d_S_playCells_3 rfl ?_
    refine ow_gK (pc := 4) hX (kd_S Y n s c) 1 d_S_playCells_4 kw_202 rfl Nat.zero_lt_one ?_
    refine ow_nc_ge (pc := 7) (tgt := 147) hX d_S_playCells_7 (by decide) (by first | assumption | omega) (by first | assumption | omega) (fun h7 => ?_) (fun h7 => ?_)
    · skip
      exact absurd h7 (by omega)
    · skip
      have hcd := hw.2.2.2.2.2.2.2.2.2.1 (w.2.2.2 5) (sl * c + k)
      refine ow_aload_n (pc := 10) hX d_S_playCells_10 rfl ?_
      refine ow_gM (pc := 11) hX (kd_S Y n s c) 5 d_S_playCells_11 kw_206 rfl Nat.zero_lt_one ?_
      refine ow_iload_n (pc := 14) hX d_S_playCells_14 rfl ?_
      refine ow_iload_n (pc := 15) hX d_S_playCells_15 rfl ?_
      refine ow_callV (pc := 16) hX (kd_P Y n s c) (by show _ < 2; first | assumption | omega | exact (hpw2.1 _ (ix_lt hsl h7)).1 | exact (hpw2.1 _ (ix_lt hsl h7)).2 | exact Nat.mod_lt _ (by omega)) (c_P_codeAt _ Y n s c hV w (w.2.2.2 5) sl k hp5 hsl h7) (cw_V hX mz_P_codeAt kw_367 ⟨rfl, rfl⟩ (by decide)) rfl (Nat.le_of_ble_eq_true rfl) d_S_playCells_16 rfl ?_
      refine ow_istore_n (pc := 19) (l2 := [(0, _), (1, _), (2, _), (3, _)]) hX d_S_playCells_19 (by decide) rfl rfl ?_
      refine ow_aload_n (pc := 20) hX d_S_playCells_20 rfl ?_
      refine ow_gR (pc := 21) hX (kd_S Y n s c) 2 d_S_playCells_21 kw_203 rfl Nat.zero_lt_one ?_
      refine ow_iload_n (pc := 24) hX d_S_playCells_24 rfl ?_
      refine ow_callS (pc := 25) hX (c_P_fromOf _ Y n s c hV w (w.1 20 (w.2.2.2 5) (sl * c + k)) (by omega)) (cw_S hX mz_P_fromOf kw_368 ⟨rfl, rfl⟩ (by decide)) rfl (Nat.le_of_ble_eq_true rfl) d_S_playCells_25 rfl ?_
      refine ow_aR (pc := 28) hX rfl d_S_playCells_28 Nat.zero_lt_one (by show _ < n; first | assumption | omega | exact (hpw2.1 _ (ix_lt hsl h7)).1 | exact (hpw2.1 _ (ix_lt hsl h7)).2 | exact Nat.mod_lt _ (by omega)) ?_
      refine ow_astore (pc := 29) (l2 := [(0, _), (1, _), (2, _), (3, _), (4, _)]) hX d_S_playCells_29 (by decide) rfl rfl ?_
      refine ow_aload_n (pc := 31) hX d_S_playCells_31 rfl ?_
      refine ow_gR (pc := 32) hX (kd_S Y n s c) 2 d_S_playCells_32 kw_203 rfl Nat.zero_lt_one ?_
      refine ow_iload_n (pc := 35) hX d_S_playCells_35 rfl ?_
      refine ow_callS (pc := 36) hX (c_P_toOf _ Y n s c hV w (w.1 20 (w.2.2.2 5) (sl * c + k)) (by omega)) (cw_S hX mz_P_toOf kw_369 ⟨rfl, rfl⟩ (by decide)) rfl (Nat.le_of_ble_eq_true rfl) d_S_playCells_36 rfl ?_
      refine ow_aR (pc := 39) hX rfl d_S_playCells_39 Nat.zero_lt_one (by show _ < n; first | assumption | omega | exact (hpw2.1 _ (ix_lt hsl h7)).1 | exact (hpw2.1 _ (ix_lt hsl h7)).2 | exact Nat.mod_lt _ (by omega)) ?_
      refine ow_astore (pc := 40) (l2 := [(0, _), (1, _), (2, _), (3, _), (4, _), (5, _)]) hX d_S_playCells_40 (by decide) rfl rfl ?_
      refine ow_aload_n (pc := 42) hX d_S_playCells_42 rfl ?_
      refine ow_gR (pc := 43) hX (kd_S Y n s c) 3 d_S_playCells_43 kw_204 rfl Nat.zero_lt_one ?_
      refine ow_iload_n (pc := 46) hX d_S_playCells_46 rfl ?_
      refine ow_aload_n (pc := 47) hX d_S_playCells_47 rfl ?_
      refine ow_gN (pc := 48) hX (kd_S Y n s c) 7 d_S_playCells_48 kw_208 rfl Nat.zero_lt_one ?_
      refine ow_addn (pc := 51) hX d_S_playCells_51 ?_
      refine ow_aload_n (pc := 52) hX d_S_playCells_52 rfl ?_
      refine ow_gK (pc := 53) hX (kd_S Y n s c) 1 d_S_playCells_53 kw_202 rfl Nat.zero_lt_one ?_
      refine ow_callS (pc := 56) hX (c_T_floorMod _ Y n s c hV w (k + w.1 0 0 7) c (by omega) (by omega) (by omega)) (cw_S hX mz_T_floorMod kw_360 ⟨rfl, rfl⟩ (by decide)) rfl (Nat.le_of_ble_eq_true rfl) d_S_playCells_56 rfl ?_
      refine ow_aR (pc := 59) hX rfl d_S_playCells_59 Nat.zero_lt_one (by show _ < c; first | assumption | omega | exact (hpw2.1 _ (ix_lt hsl h7)).1 | exact (hpw2.1 _ (ix_lt hsl h7)).2 | exact Nat.mod_lt _ (by omega)) ?_
      refine ow_astore (pc := 60) (l2 := [(0, _), (1, _), (2, _), (3, _), (4, _), (5, _), (6, _)]) hX d_S_playCells_60 (by decide) rfl rfl ?_
      refine ow_iload_n (pc := 62) hX d_S_playCells_62 rfl ?_
      refine ow_callS (pc := 63) hX (c_P_kindOf _ Y n s c hV w (w.1 20 (w.2.2.2 5) (sl * c + k)) (by omega)) (cw_S hX mz_P_kindOf kw_370 ⟨rfl, rfl⟩ (by decide)) rfl (Nat.le_of_ble_eq_true rfl) d_S_playCells_63 rfl ?_
      rcases (by omega : (w.1 20 (w.2.2.2 5) (sl * c + k)) / 100 * 100 = 100 ∨ (w.1 20 (w.2.2.2 5) (sl * c + k)) / 100 * 100 = 200 ∨ (w.1 20 (w.2.2.2 5) (sl * c + k)) / 100 * 100 = 300 ∨ (w.1 20 (w.2.2.2 5) (sl * c + k)) / 100 * 100 = 0) with h66 | h66 | h66 | h66
      · refine ow_st (st2 := .int (nI 100) :: _) (by rw [h66]; rfl) ?_
        refine ow_lookup (pc := 66) (tgt := 100) (off := 34) hX d_S_playCells_66 (by decide) (by decide) (by decide) ?_
        refine ow_iload_n (pc := 100) hX d_S_playCells_100 rfl ?_
        refine ow_nz_ne (pc := 101) (tgt := 141) hX d_S_playCells_101 (by decide) (by first | assumption | omega) (fun h101 => ?_) (fun h101 => ?_)
        · skip
          refine ow_iinc (pc := 141) (l2 := [(0, _), (1, _), (2, _), (3, _), (4, _), (5, _), (6, _)]) hX d_S_playCells_141 rfl (ii_1 _) (by decide) rfl rfl ?_
          refine ow_goto (pc := 144) (tgt := 2) hX d_S_playCells_144 (by decide) ?_
          have ih := ih (k + 1) (by omega)
          first | rw [fo_s, ← hwe, kc_p1_a h66 h101] at ih | rw [fo_s, ← hwe, kc_p1_b h66 h101] at ih
          refine ow_loc (l2 := [(0, _), (1, _), (2, _)]) (fun q hq => by simp only [List.mem_cons, List.not_mem_nil, or_false] at hq ⊢; rcases hq with rfl | rfl | rfl <;> simp) (ih)
        · skip
          refine ow_aload_n (pc := 104) hX d_S_playCells_104 rfl ?_
          refine ow_aload (pc := 105) hX d_S_playCells_105 rfl ?_
          refine ow_aload (pc := 107) hX d_S_playCells_107 rfl ?_
          refine ow_callV (pc := 109) hX (kd_S Y n s c) Nat.zero_lt_one (c_S_advertise _ Y n s c hV w ((w.1 20 (w.2.2.2 5) (sl * c + k)) / 10 % 10) ((k + w.1 0 0 7) % c) (hpw2.1 _ (ix_lt hsl h7)).1 (Nat.mod_lt _ (by omega)) hn hw) (cw_V hX mz_S_advertise kw_371 ⟨rfl, rfl⟩ (by decide)) rfl (Nat.le_of_ble_eq_true rfl) d_S_playCells_109 rfl ?_
          refine ow_goto (pc := 112) (tgt := 141) hX d_S_playCells_112 (by decide) ?_
          refine ow_iinc (pc := 141) (l2 := [(0, _), (1, _), (2, _), (3, _), (4, _), (5, _), (6, _)]) hX d_S_playCells_141 rfl (ii_1 _) (by decide) rfl rfl ?_
          refine ow_goto (pc := 144) (tgt := 2) hX d_S_playCells_144 (by decide) ?_
          have ih := ih (k + 1) (by omega)
          first | rw [fo_s, ← hwe, kc_p1_a h66 h101] at ih | rw [fo_s, ← hwe, kc_p1_b h66 h101] at ih
          refine ow_loc (l2 := [(0, _), (1, _), (2, _)]) (fun q hq => by simp only [List.mem_cons, List.not_mem_nil, or_false] at hq ⊢; rcases hq with rfl | rfl | rfl <;> simp) (ih)
      · refine ow_st (st2 := .int (nI 200) :: _) (by rw [h66]; rfl) ?_
        refine ow_lookup (pc := 66) (tgt := 115) (off := 49) hX d_S_playCells_66 (by decide) (by decide) (by decide) ?_
        refine ow_aload_n (pc := 115) hX d_S_playCells_115 rfl ?_
        refine ow_aload (pc := 116) hX d_S_playCells_116 rfl ?_
        refine ow_aload (pc := 118) hX d_S_playCells_118 rfl ?_
        refine ow_aload (pc := 120) hX d_S_playCells_120 rfl ?_
        refine ow_callV (pc := 122) hX (kd_S Y n s c) Nat.zero_lt_one (c_S_sendUp _ Y n s c hV w ((w.1 20 (w.2.2.2 5) (sl * c + k)) / 10 % 10) ((w.1 20 (w.2.2.2 5) (sl * c + k)) % 10) ((k + w.1 0 0 7) % c) (hpw2.1 _ (ix_lt hsl h7)).1 (hpw2.1 _ (ix_lt hsl h7)).2 (Nat.mod_lt _ (by omega)) hn hw) (cw_V hX mz_S_sendUp kw_394 ⟨rfl, rfl⟩ (by decide)) rfl (Nat.le_of_ble_eq_true rfl) d_S_playCells_122 rfl ?_
        refine ow_goto (pc := 125) (tgt := 141) hX d_S_playCells_125 (by decide) ?_
        refine ow_iinc (pc := 141) (l2 := [(0, _), (1, _), (2, _), (3, _), (4, _), (5, _), (6, _)]) hX d_S_playCells_141 rfl (ii_1 _) (by decide) rfl rfl ?_
        refine ow_goto (pc := 144) (tgt := 2) hX d_S_playCells_144 (by decide) ?_
        have ih := ih (k + 1) (by omega)
        rw [fo_s, ← hwe, kc_p1_c h66] at ih
        refine ow_loc (l2 := [(0, _), (1, _), (2, _)]) (fun q hq => by simp only [List.mem_cons, List.not_mem_nil, or_false] at hq ⊢; rcases hq with rfl | rfl | rfl <;> simp) (ih)
      · refine ow_st (st2 := .int (nI 300) :: _) (by rw [h66]; rfl) ?_
        refine ow_lookup (pc := 66) (tgt := 128) (off := 62) hX d_S_playCells_66 (by decide) (by decide) (by decide) ?_
        refine ow_aload_n (pc := 128) hX d_S_playCells_128 rfl ?_
        refine ow_aload (pc := 129) hX d_S_playCells_129 rfl ?_
        refine ow_aload (pc := 131) hX d_S_playCells_131 rfl ?_
        refine ow_aload (pc := 133) hX d_S_playCells_133 rfl ?_
        refine ow_callV (pc := 135) hX (kd_S Y n s c) Nat.zero_lt_one (c_S_sendDown _ Y n s c hV w ((w.1 20 (w.2.2.2 5) (sl * c + k)) / 10 % 10) ((w.1 20 (w.2.2.2 5) (sl * c + k)) % 10) ((k + w.1 0 0 7) % c) (hpw2.1 _ (ix_lt hsl h7)).1 (hpw2.1 _ (ix_lt hsl h7)).2 (Nat.mod_lt _ (by omega)) hn hw fa hpw2.2.1 hpw2.2.2) (cw_V hX mz_S_sendDown kw_435 ⟨rfl, rfl⟩ (by decide)) rfl (Nat.le_of_ble_eq_true rfl) d_S_playCells_135 rfl ?_
        refine ow_goto (pc := 138) (tgt := 141) hX d_S_playCells_138 (by decide) ?_
        refine ow_iinc (pc := 141) (l2 := [(0, _), (1, _), (2, _), (3, _), (4, _), (5, _), (6, _)]) hX d_S_playCells_141 rfl (ii_1 _) (by decide) rfl rfl ?_
        refine ow_goto (pc := 144) (tgt := 2) hX d_S_playCells_144 (by decide) ?_
        have ih := ih (k + 1) (by omega)
        rw [fo_s, ← hwe, kc_p1_d h66] at ih
        refine ow_loc (l2 := [(0, _), (1, _), (2, _)]) (fun q hq => by simp only [List.mem_cons, List.not_mem_nil, or_false] at hq ⊢; rcases hq with rfl | rfl | rfl <;> simp) (ih)
      · refine ow_st (st2 := .int (nI 0) :: _) (by rw [h66]; rfl) ?_
        refine ow_lookup (pc := 66) (tgt := 141) (off := 75) hX d_S_playCells_66 (by decide) (by decide) (by decide) ?_
        refine ow_iinc (pc := 141) (l2 := [(0, _), (1, _), (2, _), (3, _), (4, _), (5, _), (6, _)]) hX d_S_playCells_141 rfl (ii_1 _) (by decide) rfl rfl ?_
        refine ow_goto (pc := 144) (tgt := 2) hX d_S_playCells_144 (by decide) ?_
        have ih := ih (k + 1) (by omega)
        rw [fo_s, ← hwe, kc_p1_e h66] at ih
        refine ow_loc (l2 := [(0, _), (1, _), (2, _)]) (fun q hq => by simp only [List.mem_cons, List.not_mem_nil, or_false] at hq ⊢; rcases hq with rfl | rfl | rfl <;> simp) (ih)
set_option maxRecDepth 100000 in
set_option maxHeartbeats 4000000 in
theorem c_S_playCells (l : Launch) (Y : YY) (n s c : Nat) (hV : pv_ok (vC Y n s c)) (u : UU) (hn : n ≤ 6) (hc : c ≤ 4) (fa : Nat → Option Nat) (sl : Nat) (hsl : sl < s) (hu : wf n u) (hpw : pw n s c fa u) (hm : u.1 15 (u.2.2.2 5) 8 ≠ 0) : Ct l (vC Y n s c) ⟨"SlottedMesh", "playCells", "(I)V"⟩ (wz ⟨"SlottedMesh", "playCells", "(I)V"⟩ b_S_playCells 7 none) (rd 6) [.ref (pv_ad (vC Y n s c) 0 0), .int (nI sl)] u none (fo (kc_play1 n c fa sl) u c) := by
  refine ct_mk hV (by decide +kernel) (Nat.le_of_ble_eq_true rfl) (fun X hX => ?_)
  have hX : ox X (vC Y n s c) (rd 6) b_S_playCells 7 "SlottedMesh" gz none := hX
  show ow X (vC Y n s c) none (fo (kc_play1 n c fa sl) u c) u [(0, .ref (pv_ad (vC Y n s c) 0 0)), (1, .int (nI sl))] 0 []
  refine ow_iconst (pc := 0) (v := nI 0) hX d_S_playCells_0 (by decide) ?_
  refine ow_istore_n (pc := 1) (l2 := [(0, _), (1, _), (2, _)]) hX d_S_playCells_1 (by decide) rfl rfl ?_
  exact w_S_play Y n s c hX hV u hn hc fa sl hsl hu hpw hm c 0 (by omega)
theorem kc_slot_a {n s c : Nat} {fa : Nat → Option Nat} {u : UU} (h : (fo kc_dr1 u n).1 15 ((fo kc_dr1 u n).2.2.2 5) 8 = 0) : kc_slot n s c fa u = un (fo kc_dr1 u n) 0 0 7 ((fo kc_dr1 u n).1 0 0 7 + 1) := by unfold kc_slot; rw [if_pos h]
theorem kc_slot_b {n s c : Nat} {fa : Nat → Option Nat} {u : UU} (h : ¬ (fo kc_dr1 u n).1 15 ((fo kc_dr1 u n).2.2.2 5) 8 = 0) : kc_slot n s c fa u = un (fo (kc_play1 n c fa ((fo kc_dr1 u n).1 0 0 7 % s)) (fo kc_dr1 u n) c) 0 0 7 ((fo (kc_play1 n c fa ((fo kc_dr1 u n).1 0 0 7 % s)) (fo kc_dr1 u n) c).1 0 0 7 + 1) := by unfold kc_slot; rw [if_neg h]
def kc_run (n s c : Nat) (fa : Nat → Option Nat) (u : UU) (x : Int32) : Int32 × UU := if kin x (nI 1) (nI 64) = 0 then (-1, u) else (nI ((fo (fun _ w => kc_slot n s c fa w) u x.toNatClampNeg).1 0 0 7), fo (fun _ w => kc_slot n s c fa w) u x.toNatClampNeg)
theorem kin_64 {x : Int32} (h : ¬ kin x (nI 1) (nI 64) = 0) : ∃ m : Nat, 1 ≤ m ∧ m ≤ 64 ∧ x = nI m := by
  unfold kin at h
  split at h
  · exact absurd rfl h
  · split at h
    · exact absurd rfl h
    · rename_i h1 h2
      have h0 : ¬ x < 0 := fun q => h1 (by rw [Int32.lt_iff_toInt_lt] at q ⊢; have e : (nI 1).toInt = 1 := by decide
                                           have e0 : (0 : Int32).toInt = 0 := by decide
                                           omega)
      obtain ⟨m, hm, rfl⟩ := nI_of h0
      rw [nI_ltI hm (by decide)] at h1
      rw [nI_ltI (by decide) hm] at h2
      exact ⟨m, by omega, by omega, rfl⟩
set_option maxRecDepth 100000 in
set_option maxHeartbeats 4000000 in
theorem w_S_run {X : OX} (Y : YY) (n s c : Nat) (hX : ox X (vC Y n s c) (rd 7) b_S_run 3 "SlottedMesh" gz (some .int)) (hV : pv_ok (vC Y n s c)) (u : UU) (hn : n ≤ 6) (hc : c ≤ 4) (h0 : 0 < s) (hs : s < 2 ^ 31) (fa : Nat → Option Nat) (hu : wf n u) (hpw : pw n s c fa u) (m : Nat) (hm : m ≤ 64) (ht : u.1 0 0 7 + 64 < 2 ^ 30) : ∀ j k, k + j = m → ow X (vC Y n s c) (some (.int (nI ((fo (fun _ w => kc_slot n s c fa w) u m).1 0 0 7)))) (fo (fun _ w => kc_slot n s c fa w) u m) (fo (fun _ w => kc_slot n s c fa w) u k) [(0, .ref (pv_ad (vC Y n s c) 0 0)), (1, .int (nI m)), (2, .int (nI k))] 14 [] := by
  intro j
  induction j with
  | zero =>
    intro k hk
    obtain ⟨w, hwe⟩ : ∃ w, w = (fo (fun _ w => kc_slot n s c fa w) u k) := ⟨_, rfl⟩
    obtain ⟨hw, hwt, hwq⟩ := wf_slots (s := s) (c := c) (fa := fa) hu k (by omega)
    rw [← hwe] at hw hwt hwq
    have hpw1 := pw_sq hwq hpw
    have he1 : ev n w (fo kc_dr1 w n) := ev_fo (fun _ _ _ => ev_dr1) n w hw
    have hw1 := he1.1 hw
    have hp5 := hw1.2.2.2.2.2.2.2.2.2.2.2.1
    have htm := hw1.2.2.2.2.2.2.2.2.2.2.1
    have hmd := hw1.2.2.2.2.2.2.2.2.1 ((fo kc_dr1 w n).2.2.2 5)
    have htw := hw.2.2.2.2.2.2.2.2.2.2.1
    rw [← hwe]
    refine ow_iload_n (pc := 14) hX d_S_run_14 rfl ?_
    refine ow_iload_n (pc := 15) hX d_S_run_15 rfl ?_
    refine ow_nc_ge (pc := 16) (tgt := 64) hX d_S_run_16 (by decide) (by first | assumption | omega) (by first | assumption | omega) (fun h16 => ?_) (fun h16 => ?_)
    · skip
      refine ow_aload_n (pc := 64) hX d_S_run_64 rfl ?_
      refine ow_gN (pc := 65) hX (kd_S Y n s c) 7 d_S_run_65 kw_208 rfl Nat.zero_lt_one ?_
      exact ow_iret (pc := 68) hX d_S_run_68 (by rw [hwe, show m = k by omega]) (by rw [hwe, show m = k by omega])
    · skip
      exact absurd h16 (by omega)
  | succ j ih =>
    intro k hk
    obtain ⟨w, hwe⟩ : ∃ w, w = (fo (fun _ w => kc_slot n s c fa w) u k) := ⟨_, rfl⟩
    obtain ⟨hw, hwt, hwq⟩ := wf_slots (s := s) (c := c) (fa := fa) hu k (by omega)
    rw [← hwe] at hw hwt hwq
    have hpw1 := pw_sq hwq hpw
    have he1 : ev n w (fo kc_dr1 w n) := ev_fo (fun _ _ _ => ev_dr1) n w hw
    have hw1 := he1.1 hw
    have hp5 := hw1.2.2.2.2.2.2.2.2.2.2.2.1
    have htm := hw1.2.2.2.2.2.2.2.2.2.2.1
    have hmd := hw1.2.2.2.2.2.2.2.2.1 ((fo kc_dr1 w n).2.2.2 5)
    have htw := hw.2.2.2.2.2.2.2.2.2.2.1
    rw [← hwe]
    refine ow_iload_n (pc := 14) hX d_S_run_14 rfl ?_
    refine ow_iload_n (pc := 15) hX d_S_run_15 rfl ?_
    refine ow_nc_ge (pc := 16) (tgt := 64) hX d_S_run_16 (by decide) (by first | assumption | omega) (by first | assumption | omega) (fun h16 => ?_) (fun h16 => ?_)
    · skip
      exact absurd h16 (by omega)
    · skip
      refine ow_aload_n (pc := 19) hX d_S_run_19 rfl ?_
      refine ow_callV (pc := 20) hX (kd_S Y n s c) Nat.zero_lt_one (c_S_driftClocks _ Y n s c hV w hn hw) (cw_V hX mz_S_driftClocks kw_356 ⟨rfl, rfl⟩ (by decide)) rfl (Nat.le_of_ble_eq_true rfl) d_S_run_20 rfl ?_
      refine ow_aload_n (pc := 23) hX d_S_run_23 rfl ?_
      refine ow_gM (pc := 24) hX (kd_S Y n s c) 5 d_S_run_24 kw_206 rfl Nat.zero_lt_one ?_
      try simp only [un_1, un_2, ui_1, ui_2, ui_3, ul_1, ul_2, ul_3, ul_4, ur_1, ur_2, ur_3, ur_4, Nat.reduceEqDiff, false_and, and_false, true_and, and_true, and_self, reduceIte]
      refine ow_gN (pc := 27) hX (kd_P Y n s c) 8 d_S_run_27 kw_181 rfl (by show _ < 2; first | assumption | omega) ?_
      try simp only [un_1, un_2, ui_1, ui_2, ui_3, ul_1, ul_2, ul_3, ul_4, ur_1, ur_2, ur_3, ur_4, Nat.reduceEqDiff, false_and, and_false, true_and, and_true, and_self, reduceIte]
      refine ow_nz_eq (pc := 30) (tgt := 48) hX d_S_run_30 (by decide) (by first | assumption | omega) (fun h30 => ?_) (fun h30 => ?_)
      · skip
        refine ow_aload_n (pc := 48) hX d_S_run_48 rfl ?_
        refine ow_dup (pc := 49) hX d_S_run_49 rfl ?_
        refine ow_gN (pc := 50) hX (kd_S Y n s c) 7 d_S_run_50 kw_208 rfl Nat.zero_lt_one ?_
        try simp only [un_1, un_2, ui_1, ui_2, ui_3, ul_1, ul_2, ul_3, ul_4, ur_1, ur_2, ur_3, ur_4, Nat.reduceEqDiff, false_and, and_false, true_and, and_true, and_self, reduceIte]
        refine ow_iconst (pc := 53) (v := nI 1) hX d_S_run_53 (by decide) ?_
        refine ow_addn (pc := 54) hX d_S_run_54 ?_
        refine ow_pN (pc := 55) hX (kd_S Y n s c) 7 d_S_run_55 kw_208 rfl Nat.zero_lt_one rfl (by decide +kernel) ?_
        refine ow_iinc (pc := 58) (l2 := [(0, _), (1, _), (2, _)]) hX d_S_run_58 rfl (ii_1 _) (by decide) rfl rfl ?_
        refine ow_goto (pc := 61) (tgt := 14) hX d_S_run_61 (by decide) ?_
        have ih := ih (k + 1) (by omega)
        first | (rw [fo_s, ← hwe, kc_slot_a h30] at ih; exact ih) | (rw [fo_s, ← hwe, kc_slot_b h30] at ih; exact ih)
      · skip
        refine ow_aload_n (pc := 33) hX d_S_run_33 rfl ?_
        refine ow_aload_n (pc := 34) hX d_S_run_34 rfl ?_
        refine ow_gN (pc := 35) hX (kd_S Y n s c) 7 d_S_run_35 kw_208 rfl Nat.zero_lt_one ?_
        try simp only [un_1, un_2, ui_1, ui_2, ui_3, ul_1, ul_2, ul_3, ul_4, ur_1, ur_2, ur_3, ur_4, Nat.reduceEqDiff, false_and, and_false, true_and, and_true, and_self, reduceIte]
        refine ow_aload_n (pc := 38) hX d_S_run_38 rfl ?_
        refine ow_gK (pc := 39) hX (kd_S Y n s c) 0 d_S_run_39 kw_201 rfl Nat.zero_lt_one ?_
        refine ow_callS (pc := 42) hX (c_T_floorMod _ Y n s c hV _ _ s (by omega) h0 hs) (cw_S hX mz_T_floorMod kw_360 ⟨rfl, rfl⟩ (by decide)) rfl (Nat.le_of_ble_eq_true rfl) d_S_run_42 rfl ?_
        refine ow_callV (pc := 45) hX (kd_S Y n s c) Nat.zero_lt_one (c_S_playCells _ Y n s c hV (fo kc_dr1 w n) hn hc fa _ (Nat.mod_lt _ h0) hw1 (pw_sp he1.2 hpw1) h30) (cw_V hX mz_S_playCells kw_363 ⟨rfl, rfl⟩ (by decide)) rfl (Nat.le_of_ble_eq_true rfl) d_S_run_45 rfl ?_
        refine ow_aload_n (pc := 48) hX d_S_run_48 rfl ?_
        refine ow_dup (pc := 49) hX d_S_run_49 rfl ?_
        refine ow_gN (pc := 50) hX (kd_S Y n s c) 7 d_S_run_50 kw_208 rfl Nat.zero_lt_one ?_
        try simp only [un_1, un_2, ui_1, ui_2, ui_3, ul_1, ul_2, ul_3, ul_4, ur_1, ur_2, ur_3, ur_4, Nat.reduceEqDiff, false_and, and_false, true_and, and_true, and_self, reduceIte]
        refine ow_iconst (pc := 53) (v := nI 1) hX d_S_run_53 (by decide) ?_
        refine ow_addn (pc := 54) hX d_S_run_54 ?_
        refine ow_pN (pc := 55) hX (kd_S Y n s c) 7 d_S_run_55 kw_208 rfl Nat.zero_lt_one rfl (by decide +kernel) ?_
        refine ow_iinc (pc := 58) (l2 := [(0, _), (1, _), (2, _)]) hX d_S_run_58 rfl (ii_1 _) (by decide) rfl rfl ?_
        refine ow_goto (pc := 61) (tgt := 14) hX d_S_run_61 (by decide) ?_
        have ih := ih (k + 1) (by omega)
        first | (rw [fo_s, ← hwe, kc_slot_a h30] at ih; exact ih) | (rw [fo_s, ← hwe, kc_slot_b h30] at ih; exact ih)
set_option maxRecDepth 100000 in
set_option maxHeartbeats 4000000 in
theorem c_S_run (l : Launch) (Y : YY) (n s c : Nat) (hV : pv_ok (vC Y n s c)) (u : UU) (hn : n ≤ 6) (hc : c ≤ 4) (h0 : 0 < s) (hs : s < 2 ^ 31) (fa : Nat → Option Nat) (hu : wf n u) (hpw : pw n s c fa u) (x : Int32) (ht : u.1 0 0 7 + 64 < 2 ^ 30) : Ct l (vC Y n s c) ⟨"SlottedMesh", "run", "(I)I"⟩ (wz ⟨"SlottedMesh", "run", "(I)I"⟩ b_S_run 3 (some .int)) (rd 7) [.ref (pv_ad (vC Y n s c) 0 0), .int x] u (some (.int (kc_run n s c fa u x).1)) ((kc_run n s c fa u x).2) := by
  refine ct_mk hV (by decide +kernel) (Nat.le_of_ble_eq_true rfl) (fun X hX => ?_)
  have hX : ox X (vC Y n s c) (rd 7) b_S_run 3 "SlottedMesh" gz (some .int) := hX
  show ow X (vC Y n s c) (some (.int (kc_run n s c fa u x).1)) ((kc_run n s c fa u x).2) u [(0, .ref (pv_ad (vC Y n s c) 0 0)), (1, .int x)] 0 []
  refine ow_iload_n (pc := 0) hX d_S_run_0 rfl ?_
  refine ow_iconst (pc := 1) (v := nI 1) hX d_S_run_1 (by decide) ?_
  refine ow_bipush (pc := 2) (v := nI 64) hX d_S_run_2 (by decide) ?_
  refine ow_callS (pc := 4) hX (c_S_isWithin _ Y n s c hV u x (nI 1) (nI 64)) (cw_S hX mz_S_isWithin kw_329 ⟨rfl, rfl⟩ (by decide)) rfl (Nat.le_of_ble_eq_true rfl) d_S_run_4 rfl ?_
  refine ow_nz_ne (pc := 7) (tgt := 12) hX d_S_run_7 (by decide) (by first | assumption | omega | exact Nat.lt_of_le_of_lt (kin_le _ _ _) (by decide)) (fun h7 => ?_) (fun h7 => ?_)
  · skip
    refine ow_iconst (pc := 12) (v := nI 0) hX d_S_run_12 (by decide) ?_
    refine ow_istore_n (pc := 13) (l2 := [(0, _), (1, _), (2, _)]) hX d_S_run_13 (by decide) rfl rfl ?_
    unfold kc_run
    rw [if_neg h7]
    obtain ⟨m, hm1, hm2, rfl⟩ := kin_64 h7
    rw [nI_clamp (by omega)]
    exact w_S_run Y n s c hX hV u hn hc h0 hs fa hu hpw m hm2 ht m 0 (by omega)
  · skip
    refine ow_iconst (pc := 10) (v := (-1)) hX d_S_run_10 (by decide) ?_
    exact ow_iret (pc := 11) hX d_S_run_11 (by unfold kc_run; rw [if_pos h7]) (by unfold kc_run; rw [if_pos h7])
set_option maxRecDepth 100000 in
set_option maxHeartbeats 4000000 in
theorem w_S_plan {X : OX} (Y : YY) (n s c : Nat) (hX : ox X (vC Y n s c) (rd 6) b_S_plan 3 "SlottedMesh" gz (some .int)) (hV : pv_ok (vC Y n s c)) (u : UU) (hn : n ≤ 6) (p : Nat) (hp2 : p < 2) (hp : u.2.2.2 5 = p) : ∀ j k, k + j = n → ow X (vC Y n s c) (some (.int (nI ((fo (fun k w => kc_enter w k) u n).1 15 p 7)))) (fo (fun k w => kc_enter w k) u n) (fo (fun k w => kc_enter w k) u k) [(0, .ref (pv_ad (vC Y n s c) 0 0)), (1, .ref (pv_ad (vC Y n s c) 15 p)), (2, .int (nI k))] 36 [] := by
  intro j
  induction j with
  | zero =>
    intro k hk
    have hr : (fo (fun k w => kc_enter w k) u k).2.2.2 5 = p := by rw [kc_enters_2]; exact hp
    refine ow_iload_n (pc := 36) hX d_S_plan_36 rfl ?_
    refine ow_aload_n (pc := 37) hX d_S_plan_37 rfl ?_
    refine ow_gR (pc := 38) hX (kd_S Y n s c) 2 d_S_plan_38 kw_203 rfl Nat.zero_lt_one ?_
    refine ow_len (pc := 41) hX rfl (by decide) d_S_plan_41 Nat.zero_lt_one ?_
    refine ow_st (st2 := .int (nI (n)) :: _) rfl ?_
    refine ow_nc_ge (pc := 42) (tgt := 60) hX d_S_plan_42 (by decide) (by first | assumption | omega) (by first | assumption | omega) (fun h42 => ?_) (fun h42 => ?_)
    · skip
      refine ow_aload_n (pc := 60) hX d_S_plan_60 rfl ?_
      refine ow_gM (pc := 61) hX (kd_S Y n s c) 5 d_S_plan_61 kw_206 rfl Nat.zero_lt_one ?_
      refine ow_gN (pc := 64) hX (kd_P Y n s c) 7 d_S_plan_64 kw_178 rfl (by show _ < 2; first | assumption | omega | (rw [hr]; assumption)) ?_
      exact ow_iret (pc := 67) hX d_S_plan_67 (by first | rfl | (rw [show n = k by omega, hr]) | rw [show n = k by omega]) (by first | rfl | (rw [show n = k by omega, hr]) | rw [show n = k by omega])
    · skip
      exact absurd h42 (by omega)
  | succ j ih =>
    intro k hk
    have hr : (fo (fun k w => kc_enter w k) u k).2.2.2 5 = p := by rw [kc_enters_2]; exact hp
    refine ow_iload_n (pc := 36) hX d_S_plan_36 rfl ?_
    refine ow_aload_n (pc := 37) hX d_S_plan_37 rfl ?_
    refine ow_gR (pc := 38) hX (kd_S Y n s c) 2 d_S_plan_38 kw_203 rfl Nat.zero_lt_one ?_
    refine ow_len (pc := 41) hX rfl (by decide) d_S_plan_41 Nat.zero_lt_one ?_
    refine ow_st (st2 := .int (nI (n)) :: _) rfl ?_
    refine ow_nc_ge (pc := 42) (tgt := 60) hX d_S_plan_42 (by decide) (by first | assumption | omega) (by first | assumption | omega) (fun h42 => ?_) (fun h42 => ?_)
    · skip
      exact absurd h42 (by omega)
    · skip
      refine ow_aload_n (pc := 45) hX d_S_plan_45 rfl ?_
      refine ow_gR (pc := 46) hX (kd_S Y n s c) 2 d_S_plan_46 kw_203 rfl Nat.zero_lt_one ?_
      refine ow_iload_n (pc := 49) hX d_S_plan_49 rfl ?_
      refine ow_aR (pc := 50) hX rfl d_S_plan_50 Nat.zero_lt_one (by show _ < n; first | assumption | omega) ?_
      refine ow_callV (pc := 51) hX (kd_N Y n s c) (by show _ < n; first | assumption | omega) (c_N_enterPlan _ Y n s c hV (fo (fun k w => kc_enter w k) u k) k h42 hn) (cw_V hX mz_N_enterPlan kw_300 ⟨rfl, rfl⟩ (by decide)) rfl (Nat.le_of_ble_eq_true rfl) d_S_plan_51 rfl ?_
      refine ow_iinc (pc := 54) (l2 := [(0, _), (1, _), (2, _)]) hX d_S_plan_54 rfl (ii_1 _) (by decide) rfl rfl ?_
      refine ow_goto (pc := 57) (tgt := 36) hX d_S_plan_57 (by decide) ?_
      exact ih (k + 1) (by omega)
set_option maxRecDepth 100000 in
set_option maxHeartbeats 4000000 in
theorem c_S_plan (l : Launch) (Y : YY) (n s c : Nat) (hV : pv_ok (vC Y n s c)) (u : UU) (hn : n ≤ 6) (h1 : 1 ≤ n) (hs : s < 2 ^ 31) (hsc : s * c < 2 ^ 31) (h0 : 0 < c) (hc : c ≤ 4) (hu : wf n u) : Ct l (vC Y n s c) ⟨"SlottedMesh", "plan", "()I"⟩ (wz ⟨"SlottedMesh", "plan", "()I"⟩ b_S_plan 3 (some .int)) (rd 6) [.ref (pv_ad (vC Y n s c) 0 0)] u (some (.int (kc_plan n s c u).1)) ((kc_plan n s c u).2) := by
  refine ct_mk hV (by decide +kernel) (Nat.le_of_ble_eq_true rfl) (fun X hX => ?_)
  have hX : ox X (vC Y n s c) (rd 6) b_S_plan 3 "SlottedMesh" gz (some .int) := hX
  show ow X (vC Y n s c) (some (.int (kc_plan n s c u).1)) ((kc_plan n s c u).2) u [(0, .ref (pv_ad (vC Y n s c) 0 0))] 0 []
  have hp6 := hu.2.2.2.2.2.2.2.2.2.2.2.2
  have hp5 := hu.2.2.2.2.2.2.2.2.2.2.2.1
  refine ow_aload_n (pc := 0) hX d_S_plan_0 rfl ?_
  refine ow_gM (pc := 1) hX (kd_S Y n s c) 6 d_S_plan_1 kw_207 rfl Nat.zero_lt_one ?_
  refine ow_aload_n (pc := 4) hX d_S_plan_4 rfl ?_
  refine ow_gR (pc := 5) hX (kd_S Y n s c) 2 d_S_plan_5 kw_203 rfl Nat.zero_lt_one ?_
  refine ow_callV (pc := 8) hX (kd_P Y n s c) (by show _ < 2; first | assumption | omega) (c_P_make _ Y n s c hV u (u.2.2.2 6) hp6 hs hsc h0 hc hn h1 hu.1 (hu.2.2.2.2.2.2.2.2.2.1 _)) (cw_V hX mz_P_make kw_241 ⟨rfl, rfl⟩ (by decide)) rfl (Nat.le_of_ble_eq_true rfl) d_S_plan_8 rfl ?_
  refine ow_nz_ne (pc := 11) (tgt := 16) hX d_S_plan_11 (by decide) (by first | assumption | omega | exact kc_make_lt) (fun h11 => ?_) (fun h11 => ?_)
  · skip
    have hr := kc_make_r (n := n) (s := s) (c := c) (u := u) (p := u.2.2.2 6) h1 (by omega)
    have hr6 : (kc_make n s c u (u.2.2.2 6)).2.2.2.2 6 = u.2.2.2 6 := by rw [hr]
    have hr5 : (kc_make n s c u (u.2.2.2 6)).2.2.2.2 5 = u.2.2.2 5 := by rw [hr]
    refine ow_aload_n (pc := 16) hX d_S_plan_16 rfl ?_
    refine ow_gM (pc := 17) hX (kd_S Y n s c) 6 d_S_plan_17 kw_207 rfl Nat.zero_lt_one ?_
    try simp only [un_1, un_2, ui_1, ui_2, ui_3, ul_1, ul_2, ul_3, ul_4, ur_1, ur_2, ur_3, ur_4, Nat.reduceEqDiff, false_and, and_false, true_and, and_true, and_self, reduceIte]
    rw [hr6]
    refine ow_astore_n (pc := 20) (l2 := [(0, _), (1, _)]) hX d_S_plan_20 (by decide) rfl rfl ?_
    refine ow_aload_n (pc := 21) hX d_S_plan_21 rfl ?_
    refine ow_aload_n (pc := 22) hX d_S_plan_22 rfl ?_
    refine ow_gM (pc := 23) hX (kd_S Y n s c) 5 d_S_plan_23 kw_206 rfl Nat.zero_lt_one ?_
    try simp only [un_1, un_2, ui_1, ui_2, ui_3, ul_1, ul_2, ul_3, ul_4, ur_1, ur_2, ur_3, ur_4, Nat.reduceEqDiff, false_and, and_false, true_and, and_true, and_self, reduceIte]
    rw [hr5]
    refine ow_pM (pc := 26) (C2 := "SlottedMesh$Plan") hX (kd_S Y n s c) 6 d_S_plan_26 kw_207 rfl Nat.zero_lt_one rfl (by decide +kernel) (fun i2 h2 => Nat.lt_one_iff.mp h2) shC_no6 ?_
    refine ow_aload_n (pc := 29) hX d_S_plan_29 rfl ?_
    refine ow_aload_n (pc := 30) hX d_S_plan_30 rfl ?_
    refine ow_pM (pc := 31) (C2 := "SlottedMesh$Plan") hX (kd_S Y n s c) 5 d_S_plan_31 kw_206 rfl Nat.zero_lt_one rfl (by decide +kernel) (fun i2 h2 => Nat.lt_one_iff.mp h2) shC_no6 ?_
    refine ow_iconst (pc := 34) (v := nI 0) hX d_S_plan_34 (by decide) ?_
    refine ow_istore_n (pc := 35) (l2 := [(0, _), (1, _), (2, _)]) hX d_S_plan_35 (by decide) rfl rfl ?_
    unfold kc_plan
    rw [if_neg h11]
    exact w_S_plan Y n s c hX hV _ hn (u.2.2.2 6) hp6 (by rw [ur_4, if_pos rfl]) n 0 (by omega)
  · skip
    refine ow_iconst (pc := 14) (v := (-1)) hX d_S_plan_14 (by decide) ?_
    exact ow_iret (pc := 15) hX d_S_plan_15 (by unfold kc_plan; rw [if_pos h11]) (by unfold kc_plan; rw [if_pos h11])
