/-! SlottedMeshModel: ranks, findParents, placeAdvert (by program, wip/whole/gen/m6.py) -/
def km_r1 (k : Nat) (w : UU) : UU := un w 11 0 k (if k = 0 then 0 else 99)
theorem km_r1_a {k : Nat} {w : UU} (h : k = 0) : km_r1 k w = un w 11 0 k 0 := by unfold km_r1; rw [if_pos h]
theorem km_r1_b {k : Nat} {w : UU} (h : ¬ k = 0) : km_r1 k w = un w 11 0 k 99 := by unfold km_r1; rw [if_neg h]
/-- one look: can b be reached better over a -/
def km_rx (a b : Nat) (w : UU) : UU := if w.1 1 0 (6 * a + b) = 0 then w else if w.1 11 0 b ≤ w.1 11 0 a + 1 then w else un w 11 0 b (w.1 11 0 a + 1)
theorem km_rx_a {a b : Nat} {w : UU} (h : w.1 1 0 (6 * a + b) = 0) : km_rx a b w = w := by unfold km_rx; rw [if_pos h]
theorem km_rx_b {a b : Nat} {w : UU} (h : ¬ w.1 1 0 (6 * a + b) = 0) (h2 : w.1 11 0 b ≤ w.1 11 0 a + 1) : km_rx a b w = w := by unfold km_rx; rw [if_neg h, if_pos h2]
theorem km_rx_c {a b : Nat} {w : UU} (h : ¬ w.1 1 0 (6 * a + b) = 0) (h2 : w.1 11 0 a + 1 < w.1 11 0 b) : km_rx a b w = un w 11 0 b (w.1 11 0 a + 1) := by unfold km_rx; rw [if_neg h, if_neg (by omega)]
def km_rA (n : Nat) (a : Nat) (w : UU) : UU := fo (km_rx a) w n
def km_rR (n : Nat) (w : UU) : UU := fo (km_rA n) w n
def km_rk (n : Nat) (u : UU) : UU := fo (fun _ w => km_rR n w) (fo km_r1 u 6) 6
def km_al (u : UU) : Nat → Nat
  | 0 => 1
  | a + 1 => if km_al u a = 0 then 0 else if 99 ≤ u.1 11 0 a then 0 else 1
theorem km_al_le (u : UU) (a : Nat) : km_al u a ≤ 1 := by
  cases a with
  | zero => exact Nat.le_refl 1
  | succ a => rw [km_al]; split; (· omega); split <;> omega
/-- bounds for ranks -/
def rb (w : UU) : Prop := (∀ j, w.1 1 0 j ≤ 1) ∧ ∀ j, w.1 11 0 j ≤ 99
theorem rb_fo {f : Nat → UU → UU} (h : ∀ k w, rb w → rb (f k w)) : ∀ m u, rb u → rb (fo f u m) := by
  intro m u hu
  induction m with
  | zero => exact hu
  | succ m ih => exact h m _ ih
theorem rb_un {w : UU} (h : rb w) {j v : Nat} (hv : v ≤ 99) : rb (un w 11 0 j v) := by
  refine ⟨fun a => ?_, fun a => ?_⟩
  · rw [un_1, if_neg (by omega)]; exact h.1 a
  · rw [un_1]; split; (· exact hv); exact h.2 a
theorem rb_rx {a b : Nat} {w : UU} (h : rb w) : rb (km_rx a b w) := by
  unfold km_rx
  repeat' split
  · exact h
  · exact h
  · exact rb_un h (by have := h.2 b; omega)
theorem rb_rA {n a : Nat} {w : UU} (h : rb w) : rb (km_rA n a w) := rb_fo (fun _ _ h => rb_rx h) n w h
theorem rb_rR {n : Nat} {w : UU} (h : rb w) : rb (km_rR n w) := rb_fo (fun _ _ h => rb_rA h) n w h
theorem rb_r1 {u : UU} (h1 : ∀ j, u.1 1 0 j ≤ 1) (h2 : ∀ j, u.1 11 0 j ≤ 99) : rb (fo km_r1 u 6) := rb_fo (fun k w h => by unfold km_r1; exact rb_un h (by split <;> omega)) 6 u ⟨h1, h2⟩
set_option maxRecDepth 100000 in
set_option maxHeartbeats 4000000 in
theorem w_M_rk1 {X : OX} (Y : YY) (n s c : Nat) (hX : ox X (vM Y n s c) (rd 0) b_M_ranks 4 "SlottedMeshModel" gz (some .boolean)) (u : UU) (rr : Option Value) (uu : UU) (K : ow X (vM Y n s c) rr uu (fo km_r1 u 6) [(0, .ref (pv_ad (vM Y n s c) 0 0))] 30 []) : ∀ j k, k + j = 6 → ow X (vM Y n s c) rr uu (fo km_r1 u k) [(0, .ref (pv_ad (vM Y n s c) 0 0)), (1, .int (nI k))] 2 [] := by
  intro j
  induction j with
  | zero =>
    intro k hk
    refine ow_iload_n (pc := 2) hX d_M_ranks_2 rfl ?_
    refine ow_bipush (pc := 3) (v := nI 6) hX d_M_ranks_3 (by decide) ?_
    refine ow_nc_ge (pc := 5) (tgt := 30) hX d_M_ranks_5 (by decide) (by first | assumption | omega) (by first | assumption | omega) (fun h5 => ?_) (fun h5 => ?_)
    · skip
      have e9 : k = 6 := by omega
      subst e9
      refine ow_loc (l2 := [(0, _)]) (fun q hq => by simp only [List.mem_cons, List.not_mem_nil, or_false] at hq ⊢; rcases hq with rfl <;> simp) (K)
    · skip
      exact absurd h5 (by omega)
  | succ j ih =>
    intro k hk
    refine ow_iload_n (pc := 2) hX d_M_ranks_2 rfl ?_
    refine ow_bipush (pc := 3) (v := nI 6) hX d_M_ranks_3 (by decide) ?_
    refine ow_nc_ge (pc := 5) (tgt := 30) hX d_M_ranks_5 (by decide) (by first | assumption | omega) (by first | assumption | omega) (fun h5 => ?_) (fun h5 => ?_)
    · skip
      exact absurd h5 (by omega)
    · skip
      refine ow_aload_n (pc := 8) hX d_M_ranks_8 rfl ?_
      refine ow_gR (pc := 9) hX (kd_M Y n s c) 16 d_M_ranks_9 kw_517 rfl Nat.zero_lt_one ?_
      refine ow_iload_n (pc := 12) hX d_M_ranks_12 rfl ?_
      refine ow_iload_n (pc := 13) hX d_M_ranks_13 rfl ?_
      refine ow_nz_ne (pc := 14) (tgt := 21) hX d_M_ranks_14 (by decide) (by first | assumption | omega) (fun h14 => ?_) (fun h14 => ?_)
      · skip
        refine ow_bipush (pc := 21) (v := nI 99) hX d_M_ranks_21 (by decide) ?_
        refine ow_sN (pc := 23) hX rfl d_M_ranks_23 Nat.zero_lt_one (by show _ < 6; first | assumption | omega) ?_
        refine ow_iinc (pc := 24) (l2 := [(0, _), (1, _)]) hX d_M_ranks_24 rfl (ii_1 _) (by decide) rfl rfl ?_
        refine ow_goto (pc := 27) (tgt := 2) hX d_M_ranks_27 (by decide) ?_
        have ih := ih (k + 1) (by omega)
        first | (rw [fo_s, km_r1_a h14] at ih; exact ih) | (rw [fo_s, km_r1_b h14] at ih; exact ih)
      · skip
        refine ow_iconst (pc := 17) (v := nI 0) hX d_M_ranks_17 (by decide) ?_
        refine ow_goto (pc := 18) (tgt := 23) hX d_M_ranks_18 (by decide) ?_
        refine ow_sN (pc := 23) hX rfl d_M_ranks_23 Nat.zero_lt_one (by show _ < 6; first | assumption | omega) ?_
        refine ow_iinc (pc := 24) (l2 := [(0, _), (1, _)]) hX d_M_ranks_24 rfl (ii_1 _) (by decide) rfl rfl ?_
        refine ow_goto (pc := 27) (tgt := 2) hX d_M_ranks_27 (by decide) ?_
        have ih := ih (k + 1) (by omega)
        first | (rw [fo_s, km_r1_a h14] at ih; exact ih) | (rw [fo_s, km_r1_b h14] at ih; exact ih)
set_option maxRecDepth 100000 in
set_option maxHeartbeats 4000000 in
theorem w_M_rkB {X : OX} (Y : YY) (n s c : Nat) (hX : ox X (vM Y n s c) (rd 0) b_M_ranks 4 "SlottedMeshModel" gz (some .boolean)) (w0 : UU) (hr : rb w0) (hn : n ≤ 6) (rn a : Nat) (ha : a < n) (rr : Option Value) (uu : UU) (K : ow X (vM Y n s c) rr uu (km_rA n a w0) [(0, .ref (pv_ad (vM Y n s c) 0 0)), (1, .int (nI rn)), (2, .int (nI a))] 109 []) : ∀ j k, k + j = n → ow X (vM Y n s c) rr uu (fo (km_rx a) w0 k) [(0, .ref (pv_ad (vM Y n s c) 0 0)), (1, .int (nI rn)), (2, .int (nI a)), (3, .int (nI k))] 50 [] := by
  intro j
  induction j with
  | zero =>
    intro k hk
    have hw : rb (fo (km_rx a) w0 k) := rb_fo (fun _ _ h => rb_rx h) k w0 hr
    have hwa := hw.2 a
    have hwk := hw.2 k
    have hwn := hw.1 (6 * a + k)
    refine ow_iload_n (pc := 50) hX d_M_ranks_50 rfl ?_
    refine ow_aload_n (pc := 51) hX d_M_ranks_51 rfl ?_
    refine ow_gK (pc := 52) hX (kd_M Y n s c) 0 d_M_ranks_52 kw_501 rfl Nat.zero_lt_one ?_
    refine ow_nc_ge (pc := 55) (tgt := 109) hX d_M_ranks_55 (by decide) (by first | assumption | omega) (by first | assumption | omega) (fun h55 => ?_) (fun h55 => ?_)
    · skip
      have e9 : k = n := by omega
      subst e9
      refine ow_loc (l2 := [(0, _), (1, _), (2, _)]) (fun q hq => by simp only [List.mem_cons, List.not_mem_nil, or_false] at hq ⊢; rcases hq with rfl | rfl | rfl <;> simp) (K)
    · skip
      exact absurd h55 (by omega)
  | succ j ih =>
    intro k hk
    have hw : rb (fo (km_rx a) w0 k) := rb_fo (fun _ _ h => rb_rx h) k w0 hr
    have hwa := hw.2 a
    have hwk := hw.2 k
    have hwn := hw.1 (6 * a + k)
    refine ow_iload_n (pc := 50) hX d_M_ranks_50 rfl ?_
    refine ow_aload_n (pc := 51) hX d_M_ranks_51 rfl ?_
    refine ow_gK (pc := 52) hX (kd_M Y n s c) 0 d_M_ranks_52 kw_501 rfl Nat.zero_lt_one ?_
    refine ow_nc_ge (pc := 55) (tgt := 109) hX d_M_ranks_55 (by decide) (by first | assumption | omega) (by first | assumption | omega) (fun h55 => ?_) (fun h55 => ?_)
    · skip
      exact absurd h55 (by omega)
    · skip
      refine ow_aload_n (pc := 58) hX d_M_ranks_58 rfl ?_
      refine ow_gR (pc := 59) hX (kd_M Y n s c) 5 d_M_ranks_59 kw_506 rfl Nat.zero_lt_one ?_
      refine ow_bipush (pc := 62) (v := nI 6) hX d_M_ranks_62 (by decide) ?_
      refine ow_iload_n (pc := 64) hX d_M_ranks_64 rfl ?_
      refine ow_muln (pc := 65) hX d_M_ranks_65 ?_
      refine ow_iload_n (pc := 66) hX d_M_ranks_66 rfl ?_
      refine ow_addn (pc := 67) hX d_M_ranks_67 ?_
      refine ow_aZ (pc := 68) hX rfl d_M_ranks_68 Nat.zero_lt_one (by show _ < 36; first | assumption | omega) ?_
      refine ow_nz_eq (pc := 69) (tgt := 103) hX d_M_ranks_69 (by decide) (by first | assumption | omega) (fun h69 => ?_) (fun h69 => ?_)
      · skip
        refine ow_iinc (pc := 103) (l2 := [(0, _), (1, _), (2, _), (3, _)]) hX d_M_ranks_103 rfl (ii_1 _) (by decide) rfl rfl ?_
        refine ow_goto (pc := 106) (tgt := 50) hX d_M_ranks_106 (by decide) ?_
        have ih := ih (k + 1) (by omega)
        first | (rw [fo_s, km_rx_a h69] at ih; exact ih) | (rw [fo_s, km_rx_b h69 h86] at ih; exact ih) | (rw [fo_s, km_rx_c h69 h86] at ih; exact ih)
      · skip
        refine ow_aload_n (pc := 72) hX d_M_ranks_72 rfl ?_
        refine ow_gR (pc := 73) hX (kd_M Y n s c) 16 d_M_ranks_73 kw_517 rfl Nat.zero_lt_one ?_
        refine ow_iload_n (pc := 76) hX d_M_ranks_76 rfl ?_
        refine ow_aN (pc := 77) hX rfl d_M_ranks_77 Nat.zero_lt_one (by show _ < 6; first | assumption | omega) ?_
        refine ow_iconst (pc := 78) (v := nI 1) hX d_M_ranks_78 (by decide) ?_
        refine ow_addn (pc := 79) hX d_M_ranks_79 ?_
        refine ow_aload_n (pc := 80) hX d_M_ranks_80 rfl ?_
        refine ow_gR (pc := 81) hX (kd_M Y n s c) 16 d_M_ranks_81 kw_517 rfl Nat.zero_lt_one ?_
        refine ow_iload_n (pc := 84) hX d_M_ranks_84 rfl ?_
        refine ow_aN (pc := 85) hX rfl d_M_ranks_85 Nat.zero_lt_one (by show _ < 6; first | assumption | omega) ?_
        refine ow_nc_ge (pc := 86) (tgt := 103) hX d_M_ranks_86 (by decide) (by first | assumption | omega) (by first | assumption | omega) (fun h86 => ?_) (fun h86 => ?_)
        · skip
          refine ow_iinc (pc := 103) (l2 := [(0, _), (1, _), (2, _), (3, _)]) hX d_M_ranks_103 rfl (ii_1 _) (by decide) rfl rfl ?_
          refine ow_goto (pc := 106) (tgt := 50) hX d_M_ranks_106 (by decide) ?_
          have ih := ih (k + 1) (by omega)
          first | (rw [fo_s, km_rx_a h69] at ih; exact ih) | (rw [fo_s, km_rx_b h69 h86] at ih; exact ih) | (rw [fo_s, km_rx_c h69 h86] at ih; exact ih)
        · skip
          refine ow_aload_n (pc := 89) hX d_M_ranks_89 rfl ?_
          refine ow_gR (pc := 90) hX (kd_M Y n s c) 16 d_M_ranks_90 kw_517 rfl Nat.zero_lt_one ?_
          refine ow_iload_n (pc := 93) hX d_M_ranks_93 rfl ?_
          refine ow_aload_n (pc := 94) hX d_M_ranks_94 rfl ?_
          refine ow_gR (pc := 95) hX (kd_M Y n s c) 16 d_M_ranks_95 kw_517 rfl Nat.zero_lt_one ?_
          refine ow_iload_n (pc := 98) hX d_M_ranks_98 rfl ?_
          refine ow_aN (pc := 99) hX rfl d_M_ranks_99 Nat.zero_lt_one (by show _ < 6; first | assumption | omega) ?_
          refine ow_iconst (pc := 100) (v := nI 1) hX d_M_ranks_100 (by decide) ?_
          refine ow_addn (pc := 101) hX d_M_ranks_101 ?_
          refine ow_sN (pc := 102) hX rfl d_M_ranks_102 Nat.zero_lt_one (by show _ < 6; first | assumption | omega) ?_
          refine ow_iinc (pc := 103) (l2 := [(0, _), (1, _), (2, _), (3, _)]) hX d_M_ranks_103 rfl (ii_1 _) (by decide) rfl rfl ?_
          refine ow_goto (pc := 106) (tgt := 50) hX d_M_ranks_106 (by decide) ?_
          have ih := ih (k + 1) (by omega)
          first | (rw [fo_s, km_rx_a h69] at ih; exact ih) | (rw [fo_s, km_rx_b h69 h86] at ih; exact ih) | (rw [fo_s, km_rx_c h69 h86] at ih; exact ih)
set_option maxRecDepth 100000 in
set_option maxHeartbeats 4000000 in
theorem w_M_rkA {X : OX} (Y : YY) (n s c : Nat) (hX : ox X (vM Y n s c) (rd 0) b_M_ranks 4 "SlottedMeshModel" gz (some .boolean)) (w0 : UU) (hr : rb w0) (hn : n ≤ 6) (rn : Nat) (rr : Option Value) (uu : UU) (K : ow X (vM Y n s c) rr uu (km_rR n w0) [(0, .ref (pv_ad (vM Y n s c) 0 0)), (1, .int (nI rn))] 115 []) : ∀ j k, k + j = n → ow X (vM Y n s c) rr uu (fo (km_rA n) w0 k) [(0, .ref (pv_ad (vM Y n s c) 0 0)), (1, .int (nI rn)), (2, .int (nI k))] 40 [] := by
  intro j
  induction j with
  | zero =>
    intro k hk
    refine ow_iload_n (pc := 40) hX d_M_ranks_40 rfl ?_
    refine ow_aload_n (pc := 41) hX d_M_ranks_41 rfl ?_
    refine ow_gK (pc := 42) hX (kd_M Y n s c) 0 d_M_ranks_42 kw_501 rfl Nat.zero_lt_one ?_
    refine ow_nc_ge (pc := 45) (tgt := 115) hX d_M_ranks_45 (by decide) (by first | assumption | omega) (by first | assumption | omega) (fun h45 => ?_) (fun h45 => ?_)
    · skip
      have e9 : k = n := by omega
      subst e9
      refine ow_loc (l2 := [(0, _), (1, _)]) (fun q hq => by simp only [List.mem_cons, List.not_mem_nil, or_false] at hq ⊢; rcases hq with rfl | rfl <;> simp) (K)
    · skip
      exact absurd h45 (by omega)
  | succ j ih =>
    intro k hk
    refine ow_iload_n (pc := 40) hX d_M_ranks_40 rfl ?_
    refine ow_aload_n (pc := 41) hX d_M_ranks_41 rfl ?_
    refine ow_gK (pc := 42) hX (kd_M Y n s c) 0 d_M_ranks_42 kw_501 rfl Nat.zero_lt_one ?_
    refine ow_nc_ge (pc := 45) (tgt := 115) hX d_M_ranks_45 (by decide) (by first | assumption | omega) (by first | assumption | omega) (fun h45 => ?_) (fun h45 => ?_)
    · skip
      exact absurd h45 (by omega)
    · skip
      refine ow_iconst (pc := 48) (v := nI 0) hX d_M_ranks_48 (by decide) ?_
      refine ow_istore_n (pc := 49) (l2 := [(0, _), (1, _), (2, _), (3, _)]) hX d_M_ranks_49 (by decide) rfl rfl ?_
      refine w_M_rkB Y n s c hX (fo (km_rA n) w0 k) (rb_fo (fun _ _ h => rb_rA h) k w0 hr) hn rn k h45 rr uu ?_ n 0 (by omega)
      refine ow_iinc (pc := 109) (l2 := [(0, _), (1, _), (2, _)]) hX d_M_ranks_109 rfl (ii_1 _) (by decide) rfl rfl ?_
      refine ow_goto (pc := 112) (tgt := 40) hX d_M_ranks_112 (by decide) ?_
      exact ih (k + 1) (by omega)
set_option maxRecDepth 100000 in
set_option maxHeartbeats 4000000 in
theorem w_M_rkR {X : OX} (Y : YY) (n s c : Nat) (hX : ox X (vM Y n s c) (rd 0) b_M_ranks 4 "SlottedMeshModel" gz (some .boolean)) (w0 : UU) (hr : rb w0) (hn : n ≤ 6) (rr : Option Value) (uu : UU) (K : ow X (vM Y n s c) rr uu (fo (fun _ w => km_rR n w) w0 6) [(0, .ref (pv_ad (vM Y n s c) 0 0))] 121 []) : ∀ j k, k + j = 6 → ow X (vM Y n s c) rr uu (fo (fun _ w => km_rR n w) w0 k) [(0, .ref (pv_ad (vM Y n s c) 0 0)), (1, .int (nI k))] 32 [] := by
  intro j
  induction j with
  | zero =>
    intro k hk
    refine ow_iload_n (pc := 32) hX d_M_ranks_32 rfl ?_
    refine ow_bipush (pc := 33) (v := nI 6) hX d_M_ranks_33 (by decide) ?_
    refine ow_nc_ge (pc := 35) (tgt := 121) hX d_M_ranks_35 (by decide) (by first | assumption | omega) (by first | assumption | omega) (fun h35 => ?_) (fun h35 => ?_)
    · skip
      have e9 : k = 6 := by omega
      subst e9
      refine ow_loc (l2 := [(0, _)]) (fun q hq => by simp only [List.mem_cons, List.not_mem_nil, or_false] at hq ⊢; rcases hq with rfl <;> simp) (K)
    · skip
      exact absurd h35 (by omega)
  | succ j ih =>
    intro k hk
    refine ow_iload_n (pc := 32) hX d_M_ranks_32 rfl ?_
    refine ow_bipush (pc := 33) (v := nI 6) hX d_M_ranks_33 (by decide) ?_
    refine ow_nc_ge (pc := 35) (tgt := 121) hX d_M_ranks_35 (by decide) (by first | assumption | omega) (by first | assumption | omega) (fun h35 => ?_) (fun h35 => ?_)
    · skip
      exact absurd h35 (by omega)
    · skip
      refine ow_iconst (pc := 38) (v := nI 0) hX d_M_ranks_38 (by decide) ?_
      refine ow_istore_n (pc := 39) (l2 := [(0, _), (1, _), (2, _)]) hX d_M_ranks_39 (by decide) rfl rfl ?_
      refine w_M_rkA Y n s c hX (fo (fun _ w => km_rR n w) w0 k) (rb_fo (fun _ _ h => rb_rR h) k w0 hr) hn k rr uu ?_ n 0 (by omega)
      refine ow_iinc (pc := 115) (l2 := [(0, _), (1, _)]) hX d_M_ranks_115 rfl (ii_1 _) (by decide) rfl rfl ?_
      refine ow_goto (pc := 118) (tgt := 32) hX d_M_ranks_118 (by decide) ?_
      exact ih (k + 1) (by omega)
set_option maxRecDepth 100000 in
set_option maxHeartbeats 4000000 in
theorem w_M_rkE {X : OX} (Y : YY) (n s c : Nat) (hX : ox X (vM Y n s c) (rd 0) b_M_ranks 4 "SlottedMeshModel" gz (some .boolean)) (w0 : UU) (hr : rb w0) (hn : n ≤ 6) : ∀ j k, k + j = n → ow X (vM Y n s c) (some (.int (nI (km_al w0 n)))) w0 w0 [(0, .ref (pv_ad (vM Y n s c) 0 0)), (1, .int (nI (km_al w0 k))), (2, .int (nI k))] 125 [] := by
  intro j
  induction j with
  | zero =>
    intro k hk
    have hwk := hr.2 k
    have hal := km_al_le w0 k
    refine ow_iload_n (pc := 125) hX d_M_ranks_125 rfl ?_
    refine ow_aload_n (pc := 126) hX d_M_ranks_126 rfl ?_
    refine ow_gK (pc := 127) hX (kd_M Y n s c) 0 d_M_ranks_127 kw_501 rfl Nat.zero_lt_one ?_
    refine ow_nc_ge (pc := 130) (tgt := 160) hX d_M_ranks_130 (by decide) (by first | assumption | omega) (by first | assumption | omega) (fun h130 => ?_) (fun h130 => ?_)
    · skip
      refine ow_iload_n (pc := 160) hX d_M_ranks_160 rfl ?_
      exact ow_zret (pc := 161) hX d_M_ranks_161 (nb_01 (by first | decide | assumption | omega | exact kbit_le _ _)) (by first | rfl | rw [show n = k by omega]) (by first | rfl | rw [show n = k by omega])
    · skip
      exact absurd h130 (by omega)
  | succ j ih =>
    intro k hk
    have hwk := hr.2 k
    have hal := km_al_le w0 k
    refine ow_iload_n (pc := 125) hX d_M_ranks_125 rfl ?_
    refine ow_aload_n (pc := 126) hX d_M_ranks_126 rfl ?_
    refine ow_gK (pc := 127) hX (kd_M Y n s c) 0 d_M_ranks_127 kw_501 rfl Nat.zero_lt_one ?_
    refine ow_nc_ge (pc := 130) (tgt := 160) hX d_M_ranks_130 (by decide) (by first | assumption | omega) (by first | assumption | omega) (fun h130 => ?_) (fun h130 => ?_)
    · skip
      exact absurd h130 (by omega)
    · skip
      refine ow_iload_n (pc := 133) hX d_M_ranks_133 rfl ?_
      refine ow_nz_eq (pc := 134) (tgt := 152) hX d_M_ranks_134 (by decide) (by first | assumption | omega) (fun h134 => ?_) (fun h134 => ?_)
      · skip
        refine ow_iconst (pc := 152) (v := nI 0) hX d_M_ranks_152 (by decide) ?_
        refine ow_istore_n (pc := 153) (l2 := [(0, _), (1, _), (2, _)]) hX d_M_ranks_153 (by decide) rfl rfl ?_
        refine ow_iinc (pc := 154) (l2 := [(0, _), (1, _), (2, _)]) hX d_M_ranks_154 rfl (ii_1 _) (by decide) rfl rfl ?_
        refine ow_goto (pc := 157) (tgt := 125) hX d_M_ranks_157 (by decide) ?_
        have ih := ih (k + 1) (by omega)
        first | (have e : km_al w0 (k + 1) = 0 := by rw [km_al, if_pos h134]) | (have e : km_al w0 (k + 1) = 0 := by rw [km_al, if_neg h134, if_pos h145]) | (have e : km_al w0 (k + 1) = 1 := by rw [km_al, if_neg h134, if_neg (by omega)])
        rw [e] at ih
        exact ih
      · skip
        refine ow_aload_n (pc := 137) hX d_M_ranks_137 rfl ?_
        refine ow_gR (pc := 138) hX (kd_M Y n s c) 16 d_M_ranks_138 kw_517 rfl Nat.zero_lt_one ?_
        refine ow_iload_n (pc := 141) hX d_M_ranks_141 rfl ?_
        refine ow_aN (pc := 142) hX rfl d_M_ranks_142 Nat.zero_lt_one (by show _ < 6; first | assumption | omega) ?_
        refine ow_bipush (pc := 143) (v := nI 99) hX d_M_ranks_143 (by decide) ?_
        refine ow_nc_ge (pc := 145) (tgt := 152) hX d_M_ranks_145 (by decide) (by first | assumption | omega) (by first | assumption | omega) (fun h145 => ?_) (fun h145 => ?_)
        · skip
          refine ow_iconst (pc := 152) (v := nI 0) hX d_M_ranks_152 (by decide) ?_
          refine ow_istore_n (pc := 153) (l2 := [(0, _), (1, _), (2, _)]) hX d_M_ranks_153 (by decide) rfl rfl ?_
          refine ow_iinc (pc := 154) (l2 := [(0, _), (1, _), (2, _)]) hX d_M_ranks_154 rfl (ii_1 _) (by decide) rfl rfl ?_
          refine ow_goto (pc := 157) (tgt := 125) hX d_M_ranks_157 (by decide) ?_
          have ih := ih (k + 1) (by omega)
          first | (have e : km_al w0 (k + 1) = 0 := by rw [km_al, if_pos h134]) | (have e : km_al w0 (k + 1) = 0 := by rw [km_al, if_neg h134, if_pos h145]) | (have e : km_al w0 (k + 1) = 1 := by rw [km_al, if_neg h134, if_neg (by omega)])
          rw [e] at ih
          exact ih
        · skip
          refine ow_iconst (pc := 148) (v := nI 1) hX d_M_ranks_148 (by decide) ?_
          refine ow_goto (pc := 149) (tgt := 153) hX d_M_ranks_149 (by decide) ?_
          refine ow_istore_n (pc := 153) (l2 := [(0, _), (1, _), (2, _)]) hX d_M_ranks_153 (by decide) rfl rfl ?_
          refine ow_iinc (pc := 154) (l2 := [(0, _), (1, _), (2, _)]) hX d_M_ranks_154 rfl (ii_1 _) (by decide) rfl rfl ?_
          refine ow_goto (pc := 157) (tgt := 125) hX d_M_ranks_157 (by decide) ?_
          have ih := ih (k + 1) (by omega)
          first | (have e : km_al w0 (k + 1) = 0 := by rw [km_al, if_pos h134]) | (have e : km_al w0 (k + 1) = 0 := by rw [km_al, if_neg h134, if_pos h145]) | (have e : km_al w0 (k + 1) = 1 := by rw [km_al, if_neg h134, if_neg (by omega)])
          rw [e] at ih
          exact ih
set_option maxRecDepth 100000 in
set_option maxHeartbeats 4000000 in
theorem c_M_ranks (l : Launch) (Y : YY) (n s c : Nat) (hV : pv_ok (vM Y n s c)) (u : UU) (hn : n ≤ 6) (hr1 : ∀ j, u.1 1 0 j ≤ 1) (hr2 : ∀ j, u.1 11 0 j ≤ 99) : Ct l (vM Y n s c) ⟨"SlottedMeshModel", "ranks", "()Z"⟩ (wz ⟨"SlottedMeshModel", "ranks", "()Z"⟩ b_M_ranks 4 (some .boolean)) (rd 0) [.ref (pv_ad (vM Y n s c) 0 0)] u (some (.int (nI (km_al (km_rk n u) n)))) (km_rk n u) := by
  refine ct_mk hV (by decide +kernel) (Nat.le_of_ble_eq_true rfl) (fun X hX => ?_)
  have hX : ox X (vM Y n s c) (rd 0) b_M_ranks 4 "SlottedMeshModel" gz (some .boolean) := hX
  show ow X (vM Y n s c) (some (.int (nI (km_al (km_rk n u) n)))) (km_rk n u) u [(0, .ref (pv_ad (vM Y n s c) 0 0))] 0 []
  refine ow_iconst (pc := 0) (v := nI 0) hX d_M_ranks_0 (by decide) ?_
  refine ow_istore_n (pc := 1) (l2 := [(0, _), (1, _)]) hX d_M_ranks_1 (by decide) rfl rfl ?_
  have hrb := rb_r1 hr1 hr2
  have hrb2 : rb (km_rk n u) := rb_fo (fun _ _ h => rb_rR h) 6 _ hrb
  refine w_M_rk1 Y n s c hX u _ _ ?_ 6 0 (by omega)
  refine ow_iconst (pc := 30) (v := nI 0) hX d_M_ranks_30 (by decide) ?_
  refine ow_istore_n (pc := 31) (l2 := [(0, _), (1, _)]) hX d_M_ranks_31 (by decide) rfl rfl ?_
  refine w_M_rkR Y n s c hX (fo km_r1 u 6) hrb hn _ _ ?_ 6 0 (by omega)
  refine ow_iconst (pc := 121) (v := nI 1) hX d_M_ranks_121 (by decide) ?_
  refine ow_istore_n (pc := 122) (l2 := [(0, _), (1, _)]) hX d_M_ranks_122 (by decide) rfl rfl ?_
  refine ow_iconst (pc := 123) (v := nI 0) hX d_M_ranks_123 (by decide) ?_
  refine ow_istore_n (pc := 124) (l2 := [(0, _), (1, _), (2, _)]) hX d_M_ranks_124 (by decide) rfl rfl ?_
  exact w_M_rkE Y n s c hX (km_rk n u) hrb2 hn n 0 (by omega)
def km_f1 (a b : Nat) (w : UU × Nat) : UU × Nat := if w.1.1 1 0 (6 * a + b) = 0 then w else if nI (w.1.1 11 0 b) = nI (w.1.1 11 0 a) - nI 1 then (ui w.1 12 0 (2 * a + w.2) (nI b), w.2 + 1) else w
def km_f2 (a : Nat) : Nat → Nat → UU × Nat → UU × Nat
  | 0, _, w => w
  | j + 1, b, w => if 2 ≤ w.2 then w else km_f2 a j (b + 1) (km_f1 a b w)
def km_f3 (n a : Nat) (w : UU) : UU := (km_f2 a n 0 (ui (ui w 12 0 (2 * a) (-1)) 12 0 (2 * a + 1) (-1), 0)).1
def km_parents (n : Nat) (u : UU) : UU := fo (km_f3 n) u n
theorem km_f1_a {a b : Nat} {w : UU × Nat} (h : w.1.1 1 0 (6 * a + b) = 0) : km_f1 a b w = w := by unfold km_f1; rw [if_pos h]
theorem km_f1_b {a b : Nat} {w : UU × Nat} (h : ¬ w.1.1 1 0 (6 * a + b) = 0) (h2 : ¬ nI (w.1.1 11 0 b) = nI (w.1.1 11 0 a) - nI 1) : km_f1 a b w = w := by unfold km_f1; rw [if_neg h, if_neg h2]
theorem km_f1_c {a b : Nat} {w : UU × Nat} (h : ¬ w.1.1 1 0 (6 * a + b) = 0) (h2 : nI (w.1.1 11 0 b) = nI (w.1.1 11 0 a) - nI 1) : km_f1 a b w = (ui w.1 12 0 (2 * a + w.2) (nI b), w.2 + 1) := by unfold km_f1; rw [if_neg h, if_pos h2]
theorem km_f1_1 (a b : Nat) (w : UU × Nat) : (km_f1 a b w).1.1 = w.1.1 := by unfold km_f1; repeat' split
                                                                             all_goals rfl
theorem km_f2_1 (a : Nat) : ∀ j b w, (km_f2 a j b w).1.1 = w.1.1 := by
  intro j
  induction j with
  | zero => intro b w; rfl
  | succ j ih => intro b w; rw [km_f2]; split; (· rfl); rw [ih, km_f1_1]
theorem km_f3_1 (n a : Nat) (w : UU) : (km_f3 n a w).1 = w.1 := by unfold km_f3; rw [km_f2_1]; rfl
theorem km_fo_1 (n : Nat) (u : UU) (m : Nat) : (fo (km_f3 n) u m).1 = u.1 := by
  induction m with
  | zero => rfl
  | succ m ih => show (km_f3 n m _).1 = _; rw [km_f3_1, ih]
set_option maxRecDepth 100000 in
set_option maxHeartbeats 4000000 in
theorem w_M_fp2 {X : OX} (Y : YY) (n s c : Nat) (hX : ox X (vM Y n s c) (rd 0) b_M_findParents 4 "SlottedMeshModel" gz none) (hn : n ≤ 6) (a : Nat) (ha : a < n) (rr : Option Value) (uu : UU) : ∀ j k (w : UU × Nat), (∀ j, w.1.1 1 0 j ≤ 1) → w.2 ≤ 2 → k + j = n → (∀ z, z = km_f2 a j k w → ow X (vM Y n s c) rr uu z.1 [(0, .ref (pv_ad (vM Y n s c) 0 0)), (1, .int (nI a))] 98 []) → ow X (vM Y n s c) rr uu w.1 [(0, .ref (pv_ad (vM Y n s c) 0 0)), (1, .int (nI a)), (2, .int (nI w.2)), (3, .int (nI k))] 34 [] := by
  intro j
  induction j with
  | zero =>
    intro k w hz hf hk K
    refine ow_iload_n (pc := 34) hX d_M_findParents_34 rfl ?_
    refine ow_aload_n (pc := 35) hX d_M_findParents_35 rfl ?_
    refine ow_gK (pc := 36) hX (kd_M Y n s c) 0 d_M_findParents_36 kw_501 rfl Nat.zero_lt_one ?_
    refine ow_nc_ge (pc := 39) (tgt := 98) hX d_M_findParents_39 (by decide) (by first | assumption | omega) (by first | assumption | omega) (fun h39 => ?_) (fun h39 => ?_)
    · skip
      have K := K w rfl
      refine ow_loc (l2 := [(0, _), (1, _)]) (fun q hq => by simp only [List.mem_cons, List.not_mem_nil, or_false] at hq ⊢; rcases hq with rfl | rfl <;> simp) (K)
    · skip
      exact absurd h39 (by omega)
  | succ j ih =>
    intro k w hz hf hk K
    refine ow_iload_n (pc := 34) hX d_M_findParents_34 rfl ?_
    refine ow_aload_n (pc := 35) hX d_M_findParents_35 rfl ?_
    refine ow_gK (pc := 36) hX (kd_M Y n s c) 0 d_M_findParents_36 kw_501 rfl Nat.zero_lt_one ?_
    refine ow_nc_ge (pc := 39) (tgt := 98) hX d_M_findParents_39 (by decide) (by first | assumption | omega | (have := hz (6 * a + k); omega)) (by first | assumption | omega | (have := hz (6 * a + k); omega)) (fun h39 => ?_) (fun h39 => ?_)
    · skip
      exact absurd h39 (by omega)
    · skip
      refine ow_iload_n (pc := 42) hX d_M_findParents_42 rfl ?_
      refine ow_iconst (pc := 43) (v := nI 2) hX d_M_findParents_43 (by decide) ?_
      refine ow_nc_ge (pc := 44) (tgt := 98) hX d_M_findParents_44 (by decide) (by first | assumption | omega | (have := hz (6 * a + k); omega)) (by first | assumption | omega | (have := hz (6 * a + k); omega)) (fun h44 => ?_) (fun h44 => ?_)
      · skip
        have K := K w (by rw [km_f2, if_pos h44])
        refine ow_loc (l2 := [(0, _), (1, _)]) (fun q hq => by simp only [List.mem_cons, List.not_mem_nil, or_false] at hq ⊢; rcases hq with rfl | rfl <;> simp) (K)
      · skip
        refine ow_aload_n (pc := 47) hX d_M_findParents_47 rfl ?_
        refine ow_gR (pc := 48) hX (kd_M Y n s c) 5 d_M_findParents_48 kw_506 rfl Nat.zero_lt_one ?_
        refine ow_bipush (pc := 51) (v := nI 6) hX d_M_findParents_51 (by decide) ?_
        refine ow_iload_n (pc := 53) hX d_M_findParents_53 rfl ?_
        refine ow_muln (pc := 54) hX d_M_findParents_54 ?_
        refine ow_iload_n (pc := 55) hX d_M_findParents_55 rfl ?_
        refine ow_addn (pc := 56) hX d_M_findParents_56 ?_
        refine ow_aZ (pc := 57) hX rfl d_M_findParents_57 Nat.zero_lt_one (by show _ < 36; first | assumption | omega) ?_
        refine ow_nz_eq (pc := 58) (tgt := 92) hX d_M_findParents_58 (by decide) (by first | assumption | omega | (have := hz (6 * a + k); omega)) (fun h58 => ?_) (fun h58 => ?_)
        · skip
          refine ow_iinc (pc := 92) (l2 := [(0, _), (1, _), (2, _), (3, _)]) hX d_M_findParents_92 rfl (ii_1 _) (by decide) rfl rfl ?_
          refine ow_goto (pc := 95) (tgt := 34) hX d_M_findParents_95 (by decide) ?_
          first | (exact ih (k + 1) w hz hf (by omega) (fun z hz => K z (by rw [hz, km_f2, if_neg (by omega), km_f1_a h58]))) | (exact ih (k + 1) w hz hf (by omega) (fun z hz => K z (by rw [hz, km_f2, if_neg (by omega), km_f1_b h58 h75]))) | (exact ih (k + 1) (ui w.1 12 0 (2 * a + w.2) (nI k), w.2 + 1) hz (by show w.2 + 1 ≤ 2; omega) (by omega) (fun z hz => K z (by rw [hz, km_f2, if_neg (by omega), km_f1_c h58 h75])))
        · skip
          refine ow_aload_n (pc := 61) hX d_M_findParents_61 rfl ?_
          refine ow_gR (pc := 62) hX (kd_M Y n s c) 16 d_M_findParents_62 kw_517 rfl Nat.zero_lt_one ?_
          refine ow_iload_n (pc := 65) hX d_M_findParents_65 rfl ?_
          refine ow_aN (pc := 66) hX rfl d_M_findParents_66 Nat.zero_lt_one (by show _ < 6; first | assumption | omega) ?_
          refine ow_aload_n (pc := 67) hX d_M_findParents_67 rfl ?_
          refine ow_gR (pc := 68) hX (kd_M Y n s c) 16 d_M_findParents_68 kw_517 rfl Nat.zero_lt_one ?_
          refine ow_iload_n (pc := 71) hX d_M_findParents_71 rfl ?_
          refine ow_aN (pc := 72) hX rfl d_M_findParents_72 Nat.zero_lt_one (by show _ < 6; first | assumption | omega) ?_
          refine ow_iconst (pc := 73) (v := nI 1) hX d_M_findParents_73 (by decide) ?_
          refine ow_isub (pc := 74) hX d_M_findParents_74 ?_
          refine ow_ic_ne (pc := 75) (tgt := 92) hX d_M_findParents_75 (by decide) (fun h75 => ?_) (fun h75 => ?_)
          · skip
            refine ow_iinc (pc := 92) (l2 := [(0, _), (1, _), (2, _), (3, _)]) hX d_M_findParents_92 rfl (ii_1 _) (by decide) rfl rfl ?_
            refine ow_goto (pc := 95) (tgt := 34) hX d_M_findParents_95 (by decide) ?_
            first | (exact ih (k + 1) w hz hf (by omega) (fun z hz => K z (by rw [hz, km_f2, if_neg (by omega), km_f1_a h58]))) | (exact ih (k + 1) w hz hf (by omega) (fun z hz => K z (by rw [hz, km_f2, if_neg (by omega), km_f1_b h58 h75]))) | (exact ih (k + 1) (ui w.1 12 0 (2 * a + w.2) (nI k), w.2 + 1) hz (by show w.2 + 1 ≤ 2; omega) (by omega) (fun z hz => K z (by rw [hz, km_f2, if_neg (by omega), km_f1_c h58 h75])))
          · skip
            refine ow_aload_n (pc := 78) hX d_M_findParents_78 rfl ?_
            refine ow_gR (pc := 79) hX (kd_M Y n s c) 17 d_M_findParents_79 kw_518 rfl Nat.zero_lt_one ?_
            refine ow_iconst (pc := 82) (v := nI 2) hX d_M_findParents_82 (by decide) ?_
            refine ow_iload_n (pc := 83) hX d_M_findParents_83 rfl ?_
            refine ow_muln (pc := 84) hX d_M_findParents_84 ?_
            refine ow_iload_n (pc := 85) hX d_M_findParents_85 rfl ?_
            refine ow_addn (pc := 86) hX d_M_findParents_86 ?_
            refine ow_iload_n (pc := 87) hX d_M_findParents_87 rfl ?_
            refine ow_sI (pc := 88) hX rfl d_M_findParents_88 Nat.zero_lt_one (by show _ < 12; first | assumption | omega) ?_
            refine ow_iinc (pc := 89) (l2 := [(0, _), (1, _), (2, _), (3, _)]) hX d_M_findParents_89 rfl (ii_1 _) (by decide) rfl rfl ?_
            refine ow_iinc (pc := 92) (l2 := [(0, _), (1, _), (2, _), (3, _)]) hX d_M_findParents_92 rfl (ii_1 _) (by decide) rfl rfl ?_
            refine ow_goto (pc := 95) (tgt := 34) hX d_M_findParents_95 (by decide) ?_
            first | (exact ih (k + 1) w hz hf (by omega) (fun z hz => K z (by rw [hz, km_f2, if_neg (by omega), km_f1_a h58]))) | (exact ih (k + 1) w hz hf (by omega) (fun z hz => K z (by rw [hz, km_f2, if_neg (by omega), km_f1_b h58 h75]))) | (exact ih (k + 1) (ui w.1 12 0 (2 * a + w.2) (nI k), w.2 + 1) hz (by show w.2 + 1 ≤ 2; omega) (by omega) (fun z hz => K z (by rw [hz, km_f2, if_neg (by omega), km_f1_c h58 h75])))
set_option maxRecDepth 100000 in
set_option maxHeartbeats 4000000 in
theorem w_M_fp {X : OX} (Y : YY) (n s c : Nat) (hX : ox X (vM Y n s c) (rd 0) b_M_findParents 4 "SlottedMeshModel" gz none) (u : UU) (hn : n ≤ 6) (hz : ∀ j, u.1 1 0 j ≤ 1) : ∀ j k, k + j = n → ow X (vM Y n s c) none (km_parents n u) (fo (km_f3 n) u k) [(0, .ref (pv_ad (vM Y n s c) 0 0)), (1, .int (nI k))] 2 [] := by
  intro j
  induction j with
  | zero =>
    intro k hk
    refine ow_iload_n (pc := 2) hX d_M_findParents_2 rfl ?_
    refine ow_aload_n (pc := 3) hX d_M_findParents_3 rfl ?_
    refine ow_gK (pc := 4) hX (kd_M Y n s c) 0 d_M_findParents_4 kw_501 rfl Nat.zero_lt_one ?_
    refine ow_nc_ge (pc := 7) (tgt := 104) hX d_M_findParents_7 (by decide) (by first | assumption | omega) (by first | assumption | omega) (fun h7 => ?_) (fun h7 => ?_)
    · skip
      exact ow_vret (pc := 104) hX d_M_findParents_104 rfl (by rw [show n = k by omega]; rfl)
    · skip
      exact absurd h7 (by omega)
  | succ j ih =>
    intro k hk
    refine ow_iload_n (pc := 2) hX d_M_findParents_2 rfl ?_
    refine ow_aload_n (pc := 3) hX d_M_findParents_3 rfl ?_
    refine ow_gK (pc := 4) hX (kd_M Y n s c) 0 d_M_findParents_4 kw_501 rfl Nat.zero_lt_one ?_
    refine ow_nc_ge (pc := 7) (tgt := 104) hX d_M_findParents_7 (by decide) (by first | assumption | omega) (by first | assumption | omega) (fun h7 => ?_) (fun h7 => ?_)
    · skip
      exact absurd h7 (by omega)
    · skip
      refine ow_iconst (pc := 10) (v := nI 0) hX d_M_findParents_10 (by decide) ?_
      refine ow_istore_n (pc := 11) (l2 := [(0, _), (1, _), (2, _)]) hX d_M_findParents_11 (by decide) rfl rfl ?_
      refine ow_aload_n (pc := 12) hX d_M_findParents_12 rfl ?_
      refine ow_gR (pc := 13) hX (kd_M Y n s c) 17 d_M_findParents_13 kw_518 rfl Nat.zero_lt_one ?_
      refine ow_iconst (pc := 16) (v := nI 2) hX d_M_findParents_16 (by decide) ?_
      refine ow_iload_n (pc := 17) hX d_M_findParents_17 rfl ?_
      refine ow_muln (pc := 18) hX d_M_findParents_18 ?_
      refine ow_iconst (pc := 19) (v := (-1)) hX d_M_findParents_19 (by decide) ?_
      refine ow_sI (pc := 20) hX rfl d_M_findParents_20 Nat.zero_lt_one (by show _ < 12; first | assumption | omega) ?_
      refine ow_aload_n (pc := 21) hX d_M_findParents_21 rfl ?_
      refine ow_gR (pc := 22) hX (kd_M Y n s c) 17 d_M_findParents_22 kw_518 rfl Nat.zero_lt_one ?_
      refine ow_iconst (pc := 25) (v := nI 2) hX d_M_findParents_25 (by decide) ?_
      refine ow_iload_n (pc := 26) hX d_M_findParents_26 rfl ?_
      refine ow_muln (pc := 27) hX d_M_findParents_27 ?_
      refine ow_iconst (pc := 28) (v := nI 1) hX d_M_findParents_28 (by decide) ?_
      refine ow_addn (pc := 29) hX d_M_findParents_29 ?_
      refine ow_iconst (pc := 30) (v := (-1)) hX d_M_findParents_30 (by decide) ?_
      refine ow_sI (pc := 31) hX rfl d_M_findParents_31 Nat.zero_lt_one (by show _ < 12; first | assumption | omega) ?_
      refine ow_iconst (pc := 32) (v := nI 0) hX d_M_findParents_32 (by decide) ?_
      refine ow_istore_n (pc := 33) (l2 := [(0, _), (1, _), (2, _), (3, _)]) hX d_M_findParents_33 (by decide) rfl rfl ?_
      refine w_M_fp2 Y n s c hX hn k h7 _ _ n 0 (ui (ui (fo (km_f3 n) u k) 12 0 (2 * k) (-1)) 12 0 (2 * k + 1) (-1), 0) (by intro j; show (fo (km_f3 n) u k).1 1 0 j ≤ 1; rw [km_fo_1]; exact hz j) (by show 0 ≤ 2; omega) (by omega) (fun z hz2 => ?_)
      refine ow_iinc (pc := 98) (l2 := [(0, _), (1, _)]) hX d_M_findParents_98 rfl (ii_1 _) (by decide) rfl rfl ?_
      refine ow_goto (pc := 101) (tgt := 2) hX d_M_findParents_101 (by decide) ?_
      have ih := ih (k + 1) (by omega)
      rw [fo_s] at ih
      unfold km_f3 at ih
      rw [hz2]
      exact ih
set_option maxRecDepth 100000 in
set_option maxHeartbeats 4000000 in
theorem c_M_findParents (l : Launch) (Y : YY) (n s c : Nat) (hV : pv_ok (vM Y n s c)) (u : UU) (hn : n ≤ 6) (hz : ∀ j, u.1 1 0 j ≤ 1) : Ct l (vM Y n s c) ⟨"SlottedMeshModel", "findParents", "()V"⟩ (wz ⟨"SlottedMeshModel", "findParents", "()V"⟩ b_M_findParents 4 none) (rd 0) [.ref (pv_ad (vM Y n s c) 0 0)] u none (km_parents n u) := by
  refine ct_mk hV (by decide +kernel) (Nat.le_of_ble_eq_true rfl) (fun X hX => ?_)
  have hX : ox X (vM Y n s c) (rd 0) b_M_findParents 4 "SlottedMeshModel" gz none := hX
  show ow X (vM Y n s c) none (km_parents n u) u [(0, .ref (pv_ad (vM Y n s c) 0 0))] 0 []
  refine ow_iconst (pc := 0) (v := nI 0) hX d_M_findParents_0 (by decide) ?_
  refine ow_istore_n (pc := 1) (l2 := [(0, _), (1, _)]) hX d_M_findParents_1 (by decide) rfl rfl ?_
  exact w_M_fp Y n s c hX u hn hz n 0 (by omega)
