/-! SlottedMeshModel: slot, run (by program, wip/whole/gen/m5.py) -/
/-- the plan in use: its cells name nodes, its first parents are pa -/
def pm (pa : Nat → Option Nat) (u : UU) : Prop := u.1 0 0 12 ≠ 0 → (∀ q, q < 96 → 200 ≤ u.1 10 0 q → kfst (u.1 10 0 q) < 6 ∧ ksnd (u.1 10 0 q) < 6) ∧ (∀ q, q < 96 → 100 ≤ u.1 10 0 q → kfst (u.1 10 0 q) < 6) ∧ (∀ i, i < 6 → u.2.1 9 0 (2 * i) = io (pa i)) ∧ ∀ i a, pa i = some a → a < 6
/-- what pm speaks of -/
def sm2 (u w : UU) : Prop := (∀ j, w.1 10 0 j = u.1 10 0 j) ∧ (∀ j, w.2.1 9 0 j = u.2.1 9 0 j) ∧ w.1 0 0 12 = u.1 0 0 12
theorem sm2_of {u w : UU} (h : sm u w) : sm2 u w := ⟨h.1, h.2.1, h.2.2.1⟩
theorem sm2_rf (u : UU) : sm2 u u := ⟨fun _ => rfl, fun _ => rfl, rfl⟩
theorem sm2_tr {u v w : UU} (h : sm2 u v) (g : sm2 v w) : sm2 u w := ⟨fun j => (g.1 j).trans (h.1 j), fun j => (g.2.1 j).trans (h.2.1 j), g.2.2.trans h.2.2⟩
theorem pm_sm {pa : Nat → Option Nat} {u w : UU} (h : sm2 u w) (g : pm pa u) : pm pa w := by
  unfold pm at *
  intro q
  rw [h.2.2] at q
  obtain ⟨g1, g2, g3, g4⟩ := g q
  refine ⟨fun q hq => ?_, fun q hq => ?_, fun i hi => ?_, g4⟩
  · rw [h.1]; exact g1 q hq
  · rw [h.1]; exact g2 q hq
  · rw [h.2.1]; exact g3 i hi
def km_slot (n s c : Nat) (pa : Nat → Option Nat) (u : UU) : UU :=
  if (fo (fun k w => km_dr1 (k + 1) w) u (n - 1)).1 0 0 12 = 0 then un (fo (fun k w => km_dr1 (k + 1) w) u (n - 1)) 0 0 3 ((fo (fun k w => km_dr1 (k + 1) w) u (n - 1)).1 0 0 3 + 1)
  else if 100 ≤ (fo (fun k w => km_dr1 (k + 1) w) u (n - 1)).1 10 0 (4 * ((fo (fun k w => km_dr1 (k + 1) w) u (n - 1)).1 0 0 3 % s)) ∧ (fo (fun k w => km_dr1 (k + 1) w) u (n - 1)).1 10 0 (4 * ((fo (fun k w => km_dr1 (k + 1) w) u (n - 1)).1 0 0 3 % s)) < 200 then
    un (km_advert n c (fo (fun k w => km_dr1 (k + 1) w) u (n - 1)) (kfst ((fo (fun k w => km_dr1 (k + 1) w) u (n - 1)).1 10 0 (4 * ((fo (fun k w => km_dr1 (k + 1) w) u (n - 1)).1 0 0 3 % s))))) 0 0 3 ((km_advert n c (fo (fun k w => km_dr1 (k + 1) w) u (n - 1)) (kfst ((fo (fun k w => km_dr1 (k + 1) w) u (n - 1)).1 10 0 (4 * ((fo (fun k w => km_dr1 (k + 1) w) u (n - 1)).1 0 0 3 % s))))).1 0 0 3 + 1)
  else un (fo (km_play1 c pa ((fo (fun k w => km_dr1 (k + 1) w) u (n - 1)).1 0 0 3 % s)) (fo (fun k w => km_dr1 (k + 1) w) u (n - 1)) c) 0 0 3 ((fo (km_play1 c pa ((fo (fun k w => km_dr1 (k + 1) w) u (n - 1)).1 0 0 3 % s)) (fo (fun k w => km_dr1 (k + 1) w) u (n - 1)) c).1 0 0 3 + 1)
theorem wm_slot {n s c : Nat} {pa : Nat → Option Nat} {u : UU} (hu : wm n u) (ht : u.1 0 0 3 + 1 < 2 ^ 30) : wm n (km_slot n s c pa u) ∧ (km_slot n s c pa u).1 0 0 3 = u.1 0 0 3 + 1 ∧ sm2 u (km_slot n s c pa u) := by
  have h1 : em n u (fo (fun k w => km_dr1 (k + 1) w) u (n - 1)) := em_fo (fun _ _ _ => em_dr1) (n - 1) u hu
  have key : ∀ w, em n u w → wm n (un w 0 0 3 (w.1 0 0 3 + 1)) ∧ (un w 0 0 3 (w.1 0 0 3 + 1)).1 0 0 3 = u.1 0 0 3 + 1 ∧ sm2 u (un w 0 0 3 (w.1 0 0 3 + 1)) := by
    intro w h
    have e := h.2.2.2.2
    refine ⟨wm_un (h.1 hu) (by omega), by rw [un_1, if_pos ⟨rfl, rfl, rfl⟩, e], sm2_tr (sm2_of h.2) ⟨fun j => by rw [un_1, if_neg (by omega)], fun _ => rfl, by rw [un_1, if_neg (by omega)]⟩⟩
  unfold km_slot
  split
  · exact key _ h1
  · split
    · exact key _ (em_tr h1 (em_advert (h1.1 hu)))
    · exact key _ (em_tr h1 (em_fo (fun _ _ hw => em_play1 hw) c _ (h1.1 hu)))
theorem wm_slots {n s c : Nat} {pa : Nat → Option Nat} {u : UU} (hu : wm n u) : ∀ m, u.1 0 0 3 + m < 2 ^ 30 → wm n (fo (fun _ w => km_slot n s c pa w) u m) ∧ (fo (fun _ w => km_slot n s c pa w) u m).1 0 0 3 = u.1 0 0 3 + m ∧ sm2 u (fo (fun _ w => km_slot n s c pa w) u m) := by
  intro m
  induction m with
  | zero => intro _; exact ⟨hu, rfl, sm2_rf u⟩
  | succ m ih =>
    intro h
    obtain ⟨a, b, d⟩ := ih (by omega)
    obtain ⟨a2, b2, d2⟩ := wm_slot (s := s) (c := c) (pa := pa) a (by omega)
    exact ⟨a2, by show (km_slot n s c pa _).1 0 0 3 = _; rw [b2, b]; omega, sm2_tr d d2⟩
theorem km_p1_a {c : Nat} {pa : Nat → Option Nat} {sl k : Nat} {w : UU} (h : 300 ≤ w.1 10 0 (4 * sl + k)) : km_play1 c pa sl k w = km_down pa w (kfst (w.1 10 0 (4 * sl + k))) (ksnd (w.1 10 0 (4 * sl + k))) ((k + w.1 0 0 3) % c) := by unfold km_play1; rw [if_pos h]
theorem km_p1_b {c : Nat} {pa : Nat → Option Nat} {sl k : Nat} {w : UU} (h : w.1 10 0 (4 * sl + k) < 300) (h2 : 200 ≤ w.1 10 0 (4 * sl + k)) : km_play1 c pa sl k w = km_up w (kfst (w.1 10 0 (4 * sl + k))) (ksnd (w.1 10 0 (4 * sl + k))) ((k + w.1 0 0 3) % c) := by unfold km_play1; rw [if_neg (by omega), if_pos h2]
theorem km_p1_c {c : Nat} {pa : Nat → Option Nat} {sl k : Nat} {w : UU} (h2 : w.1 10 0 (4 * sl + k) < 200) : km_play1 c pa sl k w = w := by unfold km_play1; rw [if_neg (by omega), if_neg (by omega)]
set_option maxRecDepth 100000 in
set_option maxHeartbeats 4000000 in
theorem w_M_slotE {X : OX} (Y : YY) (n s c : Nat) (hX : ox X (vM Y n s c) (rd 3) b_M_slot 6 "SlottedMeshModel" gz none) (hV : pv_ok (vM Y n s c)) (w : UU) : ow X (vM Y n s c) none (un w 0 0 3 (w.1 0 0 3 + 1)) w [(0, .ref (pv_ad (vM Y n s c) 0 0))] 207 [] := by
  refine ow_aload_n (pc := 207) hX d_M_slot_207 rfl ?_
  refine ow_dup (pc := 208) hX d_M_slot_208 rfl ?_
  refine ow_gN (pc := 209) hX (kd_M Y n s c) 3 d_M_slot_209 kw_504 rfl Nat.zero_lt_one ?_
  refine ow_iconst (pc := 212) (v := nI 1) hX d_M_slot_212 (by decide) ?_
  refine ow_addn (pc := 213) hX d_M_slot_213 ?_
  refine ow_pN (pc := 214) hX (kd_M Y n s c) 3 d_M_slot_214 kw_504 rfl Nat.zero_lt_one rfl (by decide +kernel) ?_
  exact ow_vret (pc := 217) hX d_M_slot_217 rfl (by rfl)
set_option maxRecDepth 100000 in
set_option maxHeartbeats 4000000 in
theorem w_M_slotP {X : OX} (Y : YY) (n s c : Nat) (hX : ox X (vM Y n s c) (rd 3) b_M_slot 6 "SlottedMeshModel" gz none) (hV : pv_ok (vM Y n s c)) (u : UU) (hn : n ≤ 6) (hu : wm n u) (h0 : 0 < c) (hc : c ≤ 4) (sl al : Nat) (hsl : sl < 24) (hal : al < 400) (ha2 : al < 100 ∨ 200 ≤ al) (pa : Nat → Option Nat) (hpm : pm pa u) (hp : ¬ u.1 0 0 12 = 0) : ∀ j k, k + j = c → ow X (vM Y n s c) none (un (fo (km_play1 c pa sl) u c) 0 0 3 ((fo (km_play1 c pa sl) u c).1 0 0 3 + 1)) (fo (km_play1 c pa sl) u k) [(0, .ref (pv_ad (vM Y n s c) 0 0)), (1, .int (nI sl)), (2, .int (nI al)), (3, .int (nI k))] 97 [] := by
  intro j
  induction j with
  | zero =>
    intro k hk
    obtain ⟨w, hwe⟩ : ∃ w, w = (fo (km_play1 c pa sl) u k) := ⟨_, rfl⟩
    have hev : em n u w := by rw [hwe]; exact em_fo (fun _ _ hw => em_play1 hw) k u hu
    have hw : wm n w := hev.1 hu
    have htm := hw.2.2.2.2.2.2.2.2.2.2
    have hpl : ¬ w.1 0 0 12 = 0 := by rw [hev.2.2.2.1]; exact hp
    have hpl1 := hw.2.2.2.2.2.2.2.2.2.1
    obtain ⟨g1, g2, g3, g4⟩ := pm_sm (sm2_of hev.2) hpm hpl
    rw [← hwe]
    refine ow_iload_n (pc := 97) hX d_M_slot_97 rfl ?_
    refine ow_aload_n (pc := 98) hX d_M_slot_98 rfl ?_
    refine ow_gK (pc := 99) hX (kd_M Y n s c) 2 d_M_slot_99 kw_503 rfl Nat.zero_lt_one ?_
    refine ow_nc_ge (pc := 102) (tgt := 207) hX d_M_slot_102 (by decide) (by first | assumption | omega) (by first | assumption | omega) (fun h102 => ?_) (fun h102 => ?_)
    · skip
      have e9 : k = c := by omega
      subst e9
      rw [hwe]
      refine ow_loc (l2 := [(0, _)]) (fun q hq => by simp only [List.mem_cons, List.not_mem_nil, or_false] at hq ⊢; rcases hq with rfl <;> simp) (w_M_slotE Y n s k hX hV _)
    · skip
      exact absurd h102 (by omega)
  | succ j ih =>
    intro k hk
    obtain ⟨w, hwe⟩ : ∃ w, w = (fo (km_play1 c pa sl) u k) := ⟨_, rfl⟩
    have hev : em n u w := by rw [hwe]; exact em_fo (fun _ _ hw => em_play1 hw) k u hu
    have hw : wm n w := hev.1 hu
    have htm := hw.2.2.2.2.2.2.2.2.2.2
    have hpl : ¬ w.1 0 0 12 = 0 := by rw [hev.2.2.2.1]; exact hp
    have hpl1 := hw.2.2.2.2.2.2.2.2.2.1
    obtain ⟨g1, g2, g3, g4⟩ := pm_sm (sm2_of hev.2) hpm hpl
    rw [← hwe]
    refine ow_iload_n (pc := 97) hX d_M_slot_97 rfl ?_
    refine ow_aload_n (pc := 98) hX d_M_slot_98 rfl ?_
    refine ow_gK (pc := 99) hX (kd_M Y n s c) 2 d_M_slot_99 kw_503 rfl Nat.zero_lt_one ?_
    refine ow_nc_ge (pc := 102) (tgt := 207) hX d_M_slot_102 (by decide) (by first | assumption | omega) (by first | assumption | omega) (fun h102 => ?_) (fun h102 => ?_)
    · skip
      exact absurd h102 (by omega)
    · skip
      refine ow_aload_n (pc := 105) hX d_M_slot_105 rfl ?_
      refine ow_gN (pc := 106) hX (kd_M Y n s c) 12 d_M_slot_106 kw_513 rfl Nat.zero_lt_one ?_
      refine ow_nz_eq (pc := 109) (tgt := 207) hX d_M_slot_109 (by decide) (by first | assumption | omega) (fun h109 => ?_) (fun h109 => ?_)
      · skip
        exact absurd h109 hpl
      · skip
        refine ow_iload_n (pc := 112) hX d_M_slot_112 rfl ?_
        refine ow_bipush (pc := 113) (v := nI 100) hX d_M_slot_113 (by decide) ?_
        refine ow_nc_lt (pc := 115) (tgt := 125) hX d_M_slot_115 (by decide) (by first | assumption | omega) (by first | assumption | omega) (fun h115 => ?_) (fun h115 => ?_)
        · skip
          refine ow_aload_n (pc := 125) hX d_M_slot_125 rfl ?_
          refine ow_gR (pc := 126) hX (kd_M Y n s c) 15 d_M_slot_126 kw_516 rfl Nat.zero_lt_one ?_
          refine ow_iconst (pc := 129) (v := nI 4) hX d_M_slot_129 (by decide) ?_
          refine ow_iload_n (pc := 130) hX d_M_slot_130 rfl ?_
          refine ow_muln (pc := 131) hX d_M_slot_131 ?_
          refine ow_iload_n (pc := 132) hX d_M_slot_132 rfl ?_
          refine ow_addn (pc := 133) hX d_M_slot_133 ?_
          refine ow_aN (pc := 134) hX rfl d_M_slot_134 Nat.zero_lt_one (by show _ < 96; first | assumption | omega) ?_
          refine ow_istore (pc := 135) (l2 := [(0, _), (1, _), (2, _), (3, _), (4, _)]) hX d_M_slot_135 (by decide) rfl rfl ?_
          have hce := hw.2.2.2.1 (4 * sl + k)
          refine ow_iload_n (pc := 137) hX d_M_slot_137 rfl ?_
          refine ow_aload_n (pc := 138) hX d_M_slot_138 rfl ?_
          refine ow_gN (pc := 139) hX (kd_M Y n s c) 3 d_M_slot_139 kw_504 rfl Nat.zero_lt_one ?_
          refine ow_addn (pc := 142) hX d_M_slot_142 ?_
          refine ow_aload_n (pc := 143) hX d_M_slot_143 rfl ?_
          refine ow_gK (pc := 144) hX (kd_M Y n s c) 2 d_M_slot_144 kw_503 rfl Nat.zero_lt_one ?_
          refine ow_remn (pc := 147) hX d_M_slot_147 (by first | assumption | omega) (by first | assumption | omega) (by first | assumption | omega) ?_
          refine ow_istore (pc := 148) (l2 := [(0, _), (1, _), (2, _), (3, _), (4, _), (5, _)]) hX d_M_slot_148 (by decide) rfl rfl ?_
          refine ow_iload (pc := 150) hX d_M_slot_150 rfl ?_
          refine ow_sipush (pc := 152) (v := nI 300) hX d_M_slot_152 (by decide) ?_
          refine ow_nc_lt (pc := 155) (tgt := 177) hX d_M_slot_155 (by decide) (by first | assumption | omega) (by first | assumption | omega) (fun h155 => ?_) (fun h155 => ?_)
          · skip
            refine ow_iload (pc := 177) hX d_M_slot_177 rfl ?_
            refine ow_sipush (pc := 179) (v := nI 200) hX d_M_slot_179 (by decide) ?_
            refine ow_nc_lt (pc := 182) (tgt := 201) hX d_M_slot_182 (by decide) (by first | assumption | omega) (by first | assumption | omega) (fun h182 => ?_) (fun h182 => ?_)
            · skip
              refine ow_iinc (pc := 201) (l2 := [(0, _), (1, _), (2, _), (3, _), (4, _), (5, _)]) hX d_M_slot_201 rfl (ii_1 _) (by decide) rfl rfl ?_
              refine ow_goto (pc := 204) (tgt := 97) hX d_M_slot_204 (by decide) ?_
              have ih := ih (k + 1) (by omega)
              first | (rw [fo_s, ← hwe, km_p1_a h155] at ih; refine ow_loc (l2 := [(0, _), (1, _), (2, _), (3, _)]) (fun q hq => by simp only [List.mem_cons, List.not_mem_nil, or_false] at hq ⊢; rcases hq with rfl | rfl | rfl | rfl <;> simp) (ih)) | (rw [fo_s, ← hwe, km_p1_b h155 h182] at ih; refine ow_loc (l2 := [(0, _), (1, _), (2, _), (3, _)]) (fun q hq => by simp only [List.mem_cons, List.not_mem_nil, or_false] at hq ⊢; rcases hq with rfl | rfl | rfl | rfl <;> simp) (ih)) | (rw [fo_s, ← hwe, km_p1_c h182] at ih; refine ow_loc (l2 := [(0, _), (1, _), (2, _), (3, _)]) (fun q hq => by simp only [List.mem_cons, List.not_mem_nil, or_false] at hq ⊢; rcases hq with rfl | rfl | rfl | rfl <;> simp) (ih))
            · skip
              refine ow_aload_n (pc := 185) hX d_M_slot_185 rfl ?_
              refine ow_iload (pc := 186) hX d_M_slot_186 rfl ?_
              refine ow_callS (pc := 188) hX (c_M_first _ Y n s c hV w (w.1 10 0 (4 * sl + k)) (by omega)) (cw_S hX mz_M_first kw_637 ⟨rfl, rfl⟩ (by decide)) rfl (Nat.le_of_ble_eq_true rfl) d_M_slot_188 rfl ?_
              refine ow_iload (pc := 191) hX d_M_slot_191 rfl ?_
              refine ow_callS (pc := 193) hX (c_M_second _ Y n s c hV w (w.1 10 0 (4 * sl + k)) (by omega)) (cw_S hX mz_M_second kw_640 ⟨rfl, rfl⟩ (by decide)) rfl (Nat.le_of_ble_eq_true rfl) d_M_slot_193 rfl ?_
              refine ow_iload (pc := 196) hX d_M_slot_196 rfl ?_
              refine ow_callV (pc := 198) hX (kd_M Y n s c) Nat.zero_lt_one (c_M_up _ Y n s c hV w _ _ _ (g1 _ (by omega) (by omega)).1 (g1 _ (by omega) (by omega)).2 (Nat.lt_of_lt_of_le (Nat.mod_lt _ (by omega)) hc) hn hw) (cw_V hX mz_M_up kw_706 ⟨rfl, rfl⟩ (by decide)) rfl (Nat.le_of_ble_eq_true rfl) d_M_slot_198 rfl ?_
              refine ow_iinc (pc := 201) (l2 := [(0, _), (1, _), (2, _), (3, _), (4, _), (5, _)]) hX d_M_slot_201 rfl (ii_1 _) (by decide) rfl rfl ?_
              refine ow_goto (pc := 204) (tgt := 97) hX d_M_slot_204 (by decide) ?_
              have ih := ih (k + 1) (by omega)
              first | (rw [fo_s, ← hwe, km_p1_a h155] at ih; refine ow_loc (l2 := [(0, _), (1, _), (2, _), (3, _)]) (fun q hq => by simp only [List.mem_cons, List.not_mem_nil, or_false] at hq ⊢; rcases hq with rfl | rfl | rfl | rfl <;> simp) (ih)) | (rw [fo_s, ← hwe, km_p1_b h155 h182] at ih; refine ow_loc (l2 := [(0, _), (1, _), (2, _), (3, _)]) (fun q hq => by simp only [List.mem_cons, List.not_mem_nil, or_false] at hq ⊢; rcases hq with rfl | rfl | rfl | rfl <;> simp) (ih)) | (rw [fo_s, ← hwe, km_p1_c h182] at ih; refine ow_loc (l2 := [(0, _), (1, _), (2, _), (3, _)]) (fun q hq => by simp only [List.mem_cons, List.not_mem_nil, or_false] at hq ⊢; rcases hq with rfl | rfl | rfl | rfl <;> simp) (ih))
          · skip
            refine ow_aload_n (pc := 158) hX d_M_slot_158 rfl ?_
            refine ow_iload (pc := 159) hX d_M_slot_159 rfl ?_
            refine ow_callS (pc := 161) hX (c_M_first _ Y n s c hV w (w.1 10 0 (4 * sl + k)) (by omega)) (cw_S hX mz_M_first kw_637 ⟨rfl, rfl⟩ (by decide)) rfl (Nat.le_of_ble_eq_true rfl) d_M_slot_161 rfl ?_
            refine ow_iload (pc := 164) hX d_M_slot_164 rfl ?_
            refine ow_callS (pc := 166) hX (c_M_second _ Y n s c hV w (w.1 10 0 (4 * sl + k)) (by omega)) (cw_S hX mz_M_second kw_640 ⟨rfl, rfl⟩ (by decide)) rfl (Nat.le_of_ble_eq_true rfl) d_M_slot_166 rfl ?_
            refine ow_iload (pc := 169) hX d_M_slot_169 rfl ?_
            refine ow_callV (pc := 171) hX (kd_M Y n s c) Nat.zero_lt_one (c_M_down _ Y n s c hV w _ _ _ (g1 _ (by omega) (by omega)).1 (g1 _ (by omega) (by omega)).2 (Nat.lt_of_lt_of_le (Nat.mod_lt _ (by omega)) hc) hn hw pa g3 g4) (cw_V hX mz_M_down kw_690 ⟨rfl, rfl⟩ (by decide)) rfl (Nat.le_of_ble_eq_true rfl) d_M_slot_171 rfl ?_
            refine ow_goto (pc := 174) (tgt := 201) hX d_M_slot_174 (by decide) ?_
            refine ow_iinc (pc := 201) (l2 := [(0, _), (1, _), (2, _), (3, _), (4, _), (5, _)]) hX d_M_slot_201 rfl (ii_1 _) (by decide) rfl rfl ?_
            refine ow_goto (pc := 204) (tgt := 97) hX d_M_slot_204 (by decide) ?_
            have ih := ih (k + 1) (by omega)
            first | (rw [fo_s, ← hwe, km_p1_a h155] at ih; refine ow_loc (l2 := [(0, _), (1, _), (2, _), (3, _)]) (fun q hq => by simp only [List.mem_cons, List.not_mem_nil, or_false] at hq ⊢; rcases hq with rfl | rfl | rfl | rfl <;> simp) (ih)) | (rw [fo_s, ← hwe, km_p1_b h155 h182] at ih; refine ow_loc (l2 := [(0, _), (1, _), (2, _), (3, _)]) (fun q hq => by simp only [List.mem_cons, List.not_mem_nil, or_false] at hq ⊢; rcases hq with rfl | rfl | rfl | rfl <;> simp) (ih)) | (rw [fo_s, ← hwe, km_p1_c h182] at ih; refine ow_loc (l2 := [(0, _), (1, _), (2, _), (3, _)]) (fun q hq => by simp only [List.mem_cons, List.not_mem_nil, or_false] at hq ⊢; rcases hq with rfl | rfl | rfl | rfl <;> simp) (ih))
        · skip
          refine ow_iload_n (pc := 118) hX d_M_slot_118 rfl ?_
          refine ow_sipush (pc := 119) (v := nI 200) hX d_M_slot_119 (by decide) ?_
          refine ow_nc_lt (pc := 122) (tgt := 207) hX d_M_slot_122 (by decide) (by first | assumption | omega) (by first | assumption | omega) (fun h122 => ?_) (fun h122 => ?_)
          · skip
            exact absurd h122 (by omega)
          · skip
            refine ow_aload_n (pc := 125) hX d_M_slot_125 rfl ?_
            refine ow_gR (pc := 126) hX (kd_M Y n s c) 15 d_M_slot_126 kw_516 rfl Nat.zero_lt_one ?_
            refine ow_iconst (pc := 129) (v := nI 4) hX d_M_slot_129 (by decide) ?_
            refine ow_iload_n (pc := 130) hX d_M_slot_130 rfl ?_
            refine ow_muln (pc := 131) hX d_M_slot_131 ?_
            refine ow_iload_n (pc := 132) hX d_M_slot_132 rfl ?_
            refine ow_addn (pc := 133) hX d_M_slot_133 ?_
            refine ow_aN (pc := 134) hX rfl d_M_slot_134 Nat.zero_lt_one (by show _ < 96; first | assumption | omega) ?_
            refine ow_istore (pc := 135) (l2 := [(0, _), (1, _), (2, _), (3, _), (4, _)]) hX d_M_slot_135 (by decide) rfl rfl ?_
            have hce := hw.2.2.2.1 (4 * sl + k)
            refine ow_iload_n (pc := 137) hX d_M_slot_137 rfl ?_
            refine ow_aload_n (pc := 138) hX d_M_slot_138 rfl ?_
            refine ow_gN (pc := 139) hX (kd_M Y n s c) 3 d_M_slot_139 kw_504 rfl Nat.zero_lt_one ?_
            refine ow_addn (pc := 142) hX d_M_slot_142 ?_
            refine ow_aload_n (pc := 143) hX d_M_slot_143 rfl ?_
            refine ow_gK (pc := 144) hX (kd_M Y n s c) 2 d_M_slot_144 kw_503 rfl Nat.zero_lt_one ?_
            refine ow_remn (pc := 147) hX d_M_slot_147 (by first | assumption | omega) (by first | assumption | omega) (by first | assumption | omega) ?_
            refine ow_istore (pc := 148) (l2 := [(0, _), (1, _), (2, _), (3, _), (4, _), (5, _)]) hX d_M_slot_148 (by decide) rfl rfl ?_
            refine ow_iload (pc := 150) hX d_M_slot_150 rfl ?_
            refine ow_sipush (pc := 152) (v := nI 300) hX d_M_slot_152 (by decide) ?_
            refine ow_nc_lt (pc := 155) (tgt := 177) hX d_M_slot_155 (by decide) (by first | assumption | omega) (by first | assumption | omega) (fun h155 => ?_) (fun h155 => ?_)
            · skip
              refine ow_iload (pc := 177) hX d_M_slot_177 rfl ?_
              refine ow_sipush (pc := 179) (v := nI 200) hX d_M_slot_179 (by decide) ?_
              refine ow_nc_lt (pc := 182) (tgt := 201) hX d_M_slot_182 (by decide) (by first | assumption | omega) (by first | assumption | omega) (fun h182 => ?_) (fun h182 => ?_)
              · skip
                refine ow_iinc (pc := 201) (l2 := [(0, _), (1, _), (2, _), (3, _), (4, _), (5, _)]) hX d_M_slot_201 rfl (ii_1 _) (by decide) rfl rfl ?_
                refine ow_goto (pc := 204) (tgt := 97) hX d_M_slot_204 (by decide) ?_
                have ih := ih (k + 1) (by omega)
                first | (rw [fo_s, ← hwe, km_p1_a h155] at ih; refine ow_loc (l2 := [(0, _), (1, _), (2, _), (3, _)]) (fun q hq => by simp only [List.mem_cons, List.not_mem_nil, or_false] at hq ⊢; rcases hq with rfl | rfl | rfl | rfl <;> simp) (ih)) | (rw [fo_s, ← hwe, km_p1_b h155 h182] at ih; refine ow_loc (l2 := [(0, _), (1, _), (2, _), (3, _)]) (fun q hq => by simp only [List.mem_cons, List.not_mem_nil, or_false] at hq ⊢; rcases hq with rfl | rfl | rfl | rfl <;> simp) (ih)) | (rw [fo_s, ← hwe, km_p1_c h182] at ih; refine ow_loc (l2 := [(0, _), (1, _), (2, _), (3, _)]) (fun q hq => by simp only [List.mem_cons, List.not_mem_nil, or_false] at hq ⊢; rcases hq with rfl | rfl | rfl | rfl <;> simp) (ih))
              · skip
                refine ow_aload_n (pc := 185) hX d_M_slot_185 rfl ?_
                refine ow_iload (pc := 186) hX d_M_slot_186 rfl ?_
                refine ow_callS (pc := 188) hX (c_M_first _ Y n s c hV w (w.1 10 0 (4 * sl + k)) (by omega)) (cw_S hX mz_M_first kw_637 ⟨rfl, rfl⟩ (by decide)) rfl (Nat.le_of_ble_eq_true rfl) d_M_slot_188 rfl ?_
                refine ow_iload (pc := 191) hX d_M_slot_191 rfl ?_
                refine ow_callS (pc := 193) hX (c_M_second _ Y n s c hV w (w.1 10 0 (4 * sl + k)) (by omega)) (cw_S hX mz_M_second kw_640 ⟨rfl, rfl⟩ (by decide)) rfl (Nat.le_of_ble_eq_true rfl) d_M_slot_193 rfl ?_
                refine ow_iload (pc := 196) hX d_M_slot_196 rfl ?_
                refine ow_callV (pc := 198) hX (kd_M Y n s c) Nat.zero_lt_one (c_M_up _ Y n s c hV w _ _ _ (g1 _ (by omega) (by omega)).1 (g1 _ (by omega) (by omega)).2 (Nat.lt_of_lt_of_le (Nat.mod_lt _ (by omega)) hc) hn hw) (cw_V hX mz_M_up kw_706 ⟨rfl, rfl⟩ (by decide)) rfl (Nat.le_of_ble_eq_true rfl) d_M_slot_198 rfl ?_
                refine ow_iinc (pc := 201) (l2 := [(0, _), (1, _), (2, _), (3, _), (4, _), (5, _)]) hX d_M_slot_201 rfl (ii_1 _) (by decide) rfl rfl ?_
                refine ow_goto (pc := 204) (tgt := 97) hX d_M_slot_204 (by decide) ?_
                have ih := ih (k + 1) (by omega)
                first | (rw [fo_s, ← hwe, km_p1_a h155] at ih; refine ow_loc (l2 := [(0, _), (1, _), (2, _), (3, _)]) (fun q hq => by simp only [List.mem_cons, List.not_mem_nil, or_false] at hq ⊢; rcases hq with rfl | rfl | rfl | rfl <;> simp) (ih)) | (rw [fo_s, ← hwe, km_p1_b h155 h182] at ih; refine ow_loc (l2 := [(0, _), (1, _), (2, _), (3, _)]) (fun q hq => by simp only [List.mem_cons, List.not_mem_nil, or_false] at hq ⊢; rcases hq with rfl | rfl | rfl | rfl <;> simp) (ih)) | (rw [fo_s, ← hwe, km_p1_c h182] at ih; refine ow_loc (l2 := [(0, _), (1, _), (2, _), (3, _)]) (fun q hq => by simp only [List.mem_cons, List.not_mem_nil, or_false] at hq ⊢; rcases hq with rfl | rfl | rfl | rfl <;> simp) (ih))
            · skip
              refine ow_aload_n (pc := 158) hX d_M_slot_158 rfl ?_
              refine ow_iload (pc := 159) hX d_M_slot_159 rfl ?_
              refine ow_callS (pc := 161) hX (c_M_first _ Y n s c hV w (w.1 10 0 (4 * sl + k)) (by omega)) (cw_S hX mz_M_first kw_637 ⟨rfl, rfl⟩ (by decide)) rfl (Nat.le_of_ble_eq_true rfl) d_M_slot_161 rfl ?_
              refine ow_iload (pc := 164) hX d_M_slot_164 rfl ?_
              refine ow_callS (pc := 166) hX (c_M_second _ Y n s c hV w (w.1 10 0 (4 * sl + k)) (by omega)) (cw_S hX mz_M_second kw_640 ⟨rfl, rfl⟩ (by decide)) rfl (Nat.le_of_ble_eq_true rfl) d_M_slot_166 rfl ?_
              refine ow_iload (pc := 169) hX d_M_slot_169 rfl ?_
              refine ow_callV (pc := 171) hX (kd_M Y n s c) Nat.zero_lt_one (c_M_down _ Y n s c hV w _ _ _ (g1 _ (by omega) (by omega)).1 (g1 _ (by omega) (by omega)).2 (Nat.lt_of_lt_of_le (Nat.mod_lt _ (by omega)) hc) hn hw pa g3 g4) (cw_V hX mz_M_down kw_690 ⟨rfl, rfl⟩ (by decide)) rfl (Nat.le_of_ble_eq_true rfl) d_M_slot_171 rfl ?_
              refine ow_goto (pc := 174) (tgt := 201) hX d_M_slot_174 (by decide) ?_
              refine ow_iinc (pc := 201) (l2 := [(0, _), (1, _), (2, _), (3, _), (4, _), (5, _)]) hX d_M_slot_201 rfl (ii_1 _) (by decide) rfl rfl ?_
              refine ow_goto (pc := 204) (tgt := 97) hX d_M_slot_204 (by decide) ?_
              have ih := ih (k + 1) (by omega)
              first | (rw [fo_s, ← hwe, km_p1_a h155] at ih; refine ow_loc (l2 := [(0, _), (1, _), (2, _), (3, _)]) (fun q hq => by simp only [List.mem_cons, List.not_mem_nil, or_false] at hq ⊢; rcases hq with rfl | rfl | rfl | rfl <;> simp) (ih)) | (rw [fo_s, ← hwe, km_p1_b h155 h182] at ih; refine ow_loc (l2 := [(0, _), (1, _), (2, _), (3, _)]) (fun q hq => by simp only [List.mem_cons, List.not_mem_nil, or_false] at hq ⊢; rcases hq with rfl | rfl | rfl | rfl <;> simp) (ih)) | (rw [fo_s, ← hwe, km_p1_c h182] at ih; refine ow_loc (l2 := [(0, _), (1, _), (2, _), (3, _)]) (fun q hq => by simp only [List.mem_cons, List.not_mem_nil, or_false] at hq ⊢; rcases hq with rfl | rfl | rfl | rfl <;> simp) (ih))
set_option maxRecDepth 100000 in
set_option maxHeartbeats 4000000 in
theorem w_M_slotA {X : OX} (Y : YY) (n s c : Nat) (hX : ox X (vM Y n s c) (rd 3) b_M_slot 6 "SlottedMeshModel" gz none) (hV : pv_ok (vM Y n s c)) (w : UU) (h0 : 0 < c) (hc : c ≤ 4) (sl al : Nat) (hp : w.1 0 0 12 = 0) : ow X (vM Y n s c) none (un w 0 0 3 (w.1 0 0 3 + 1)) w [(0, .ref (pv_ad (vM Y n s c) 0 0)), (1, .int (nI sl)), (2, .int (nI al)), (3, .int (nI 0))] 97 [] := by
  refine ow_iload_n (pc := 97) hX d_M_slot_97 rfl ?_
  refine ow_aload_n (pc := 98) hX d_M_slot_98 rfl ?_
  refine ow_gK (pc := 99) hX (kd_M Y n s c) 2 d_M_slot_99 kw_503 rfl Nat.zero_lt_one ?_
  refine ow_nc_ge (pc := 102) (tgt := 207) hX d_M_slot_102 (by decide) (by first | assumption | omega) (by first | assumption | omega) (fun h102 => ?_) (fun h102 => ?_)
  · skip
    exact absurd h102 (by omega)
  · skip
    refine ow_aload_n (pc := 105) hX d_M_slot_105 rfl ?_
    refine ow_gN (pc := 106) hX (kd_M Y n s c) 12 d_M_slot_106 kw_513 rfl Nat.zero_lt_one ?_
    refine ow_nz_eq (pc := 109) (tgt := 207) hX d_M_slot_109 (by decide) (by first | assumption | omega) (fun h109 => ?_) (fun h109 => ?_)
    · skip
      refine ow_loc (l2 := [(0, _)]) (fun q hq => by simp only [List.mem_cons, List.not_mem_nil, or_false] at hq ⊢; rcases hq with rfl <;> simp) (w_M_slotE Y n s c hX hV w)
    · skip
      exact absurd hp h109
set_option maxRecDepth 100000 in
set_option maxHeartbeats 4000000 in
theorem w_M_slotB {X : OX} (Y : YY) (n s c : Nat) (hX : ox X (vM Y n s c) (rd 3) b_M_slot 6 "SlottedMeshModel" gz none) (hV : pv_ok (vM Y n s c)) (w : UU) (h0 : 0 < c) (hc : c ≤ 4) (sl al : Nat) (hp1 : w.1 0 0 12 ≤ 1) (ha1 : 100 ≤ al) (ha2 : al < 200) (hp : ¬ w.1 0 0 12 = 0) : ow X (vM Y n s c) none (un w 0 0 3 (w.1 0 0 3 + 1)) w [(0, .ref (pv_ad (vM Y n s c) 0 0)), (1, .int (nI sl)), (2, .int (nI al)), (3, .int (nI 0))] 97 [] := by
  refine ow_iload_n (pc := 97) hX d_M_slot_97 rfl ?_
  refine ow_aload_n (pc := 98) hX d_M_slot_98 rfl ?_
  refine ow_gK (pc := 99) hX (kd_M Y n s c) 2 d_M_slot_99 kw_503 rfl Nat.zero_lt_one ?_
  refine ow_nc_ge (pc := 102) (tgt := 207) hX d_M_slot_102 (by decide) (by first | assumption | omega) (by first | assumption | omega) (fun h102 => ?_) (fun h102 => ?_)
  · skip
    exact absurd h102 (by omega)
  · skip
    refine ow_aload_n (pc := 105) hX d_M_slot_105 rfl ?_
    refine ow_gN (pc := 106) hX (kd_M Y n s c) 12 d_M_slot_106 kw_513 rfl Nat.zero_lt_one ?_
    refine ow_nz_eq (pc := 109) (tgt := 207) hX d_M_slot_109 (by decide) (by first | assumption | omega) (fun h109 => ?_) (fun h109 => ?_)
    · skip
      exact absurd h109 hp
    · skip
      refine ow_iload_n (pc := 112) hX d_M_slot_112 rfl ?_
      refine ow_bipush (pc := 113) (v := nI 100) hX d_M_slot_113 (by decide) ?_
      refine ow_nc_lt (pc := 115) (tgt := 125) hX d_M_slot_115 (by decide) (by first | assumption | omega) (by first | assumption | omega) (fun h115 => ?_) (fun h115 => ?_)
      · skip
        exact absurd h115 (by omega)
      · skip
        refine ow_iload_n (pc := 118) hX d_M_slot_118 rfl ?_
        refine ow_sipush (pc := 119) (v := nI 200) hX d_M_slot_119 (by decide) ?_
        refine ow_nc_lt (pc := 122) (tgt := 207) hX d_M_slot_122 (by decide) (by first | assumption | omega) (by first | assumption | omega) (fun h122 => ?_) (fun h122 => ?_)
        · skip
          refine ow_loc (l2 := [(0, _)]) (fun q hq => by simp only [List.mem_cons, List.not_mem_nil, or_false] at hq ⊢; rcases hq with rfl <;> simp) (w_M_slotE Y n s c hX hV w)
        · skip
          exact absurd h122 (by omega)
set_option maxRecDepth 100000 in
set_option maxHeartbeats 4000000 in
theorem w_M_slotM {X : OX} (Y : YY) (n s c : Nat) (hX : ox X (vM Y n s c) (rd 3) b_M_slot 6 "SlottedMeshModel" gz none) (hV : pv_ok (vM Y n s c)) (w : UU) (h1 : 1 ≤ n) (hn : n ≤ 6) (h0 : 0 < c) (hc : c ≤ 4) (hs0 : 0 < s) (hs : s ≤ 24) (hw : wm n w) (pa : Nat → Option Nat) (hpm : pm pa w) : ow X (vM Y n s c) none (if w.1 0 0 12 = 0 then un w 0 0 3 (w.1 0 0 3 + 1) else if 100 ≤ (w.1 10 0 (4 * (w.1 0 0 3 % s))) ∧ (w.1 10 0 (4 * (w.1 0 0 3 % s))) < 200 then un (km_advert n c w (kfst (w.1 10 0 (4 * (w.1 0 0 3 % s))))) 0 0 3 ((km_advert n c w (kfst (w.1 10 0 (4 * (w.1 0 0 3 % s))))).1 0 0 3 + 1) else un (fo (km_play1 c pa (w.1 0 0 3 % s)) w c) 0 0 3 ((fo (km_play1 c pa (w.1 0 0 3 % s)) w c).1 0 0 3 + 1)) w [(0, .ref (pv_ad (vM Y n s c) 0 0))] 44 [] := by
  have htm := hw.2.2.2.2.2.2.2.2.2.2
  have hpl1 := hw.2.2.2.2.2.2.2.2.2.1
  have hs1 := Nat.mod_lt (w.1 0 0 3) hs0
  have hal := hw.2.2.2.1 (4 * (w.1 0 0 3 % s))
  refine ow_aload_n (pc := 44) hX d_M_slot_44 rfl ?_
  refine ow_gN (pc := 45) hX (kd_M Y n s c) 3 d_M_slot_45 kw_504 rfl Nat.zero_lt_one ?_
  refine ow_aload_n (pc := 48) hX d_M_slot_48 rfl ?_
  refine ow_gK (pc := 49) hX (kd_M Y n s c) 1 d_M_slot_49 kw_502 rfl Nat.zero_lt_one ?_
  refine ow_remn (pc := 52) hX d_M_slot_52 (by first | assumption | omega) (by first | assumption | omega) (by first | assumption | omega) ?_
  refine ow_istore_n (pc := 53) (l2 := [(0, _), (1, _)]) hX d_M_slot_53 (by decide) rfl rfl ?_
  refine ow_aload_n (pc := 54) hX d_M_slot_54 rfl ?_
  refine ow_gN (pc := 55) hX (kd_M Y n s c) 12 d_M_slot_55 kw_513 rfl Nat.zero_lt_one ?_
  refine ow_nz_eq (pc := 58) (tgt := 72) hX d_M_slot_58 (by decide) (by first | assumption | omega) (fun h58 => ?_) (fun h58 => ?_)
  · skip
    refine ow_iconst (pc := 72) (v := nI 0) hX d_M_slot_72 (by decide) ?_
    refine ow_istore_n (pc := 73) (l2 := [(0, _), (1, _), (2, _)]) hX d_M_slot_73 (by decide) rfl rfl ?_
    refine ow_iload_n (pc := 74) hX d_M_slot_74 rfl ?_
    refine ow_bipush (pc := 75) (v := nI 100) hX d_M_slot_75 (by decide) ?_
    refine ow_nc_lt (pc := 77) (tgt := 95) hX d_M_slot_77 (by decide) (by first | assumption | omega) (by first | assumption | omega) (fun h77 => ?_) (fun h77 => ?_)
    · skip
      skip
      refine ow_iconst (pc := 95) (v := nI 0) hX d_M_slot_95 (by decide) ?_
      refine ow_istore_n (pc := 96) (l2 := [(0, _), (1, _), (2, _), (3, _)]) hX d_M_slot_96 (by decide) rfl rfl ?_
      first
        | (rw [if_neg h58, if_neg (by omega)]; exact w_M_slotP Y n s c hX hV w hn hw h0 hc (w.1 0 0 3 % s) (w.1 10 0 (4 * (w.1 0 0 3 % s))) (by omega) hal (by omega) pa hpm h58 c 0 (by omega))
        | (rw [if_pos h58]; exact w_M_slotA Y n s c hX hV w h0 hc _ _ h58)
        | (rw [if_neg h58, if_pos ⟨h77, h84⟩]; exact w_M_slotB Y n s c hX hV _ h0 hc _ _ (by have := (em_advert (c := c) (a := kfst (w.1 10 0 (4 * (w.1 0 0 3 % s)))) hw).1 hw; exact this.2.2.2.2.2.2.2.2.2.1) h77 h84 (by rw [(em_advert (c := c) (a := kfst (w.1 10 0 (4 * (w.1 0 0 3 % s)))) hw).2.2.2.1]; exact h58))
    · skip
      exact absurd h77 (by decide)
  · skip
    refine ow_aload_n (pc := 61) hX d_M_slot_61 rfl ?_
    refine ow_gR (pc := 62) hX (kd_M Y n s c) 15 d_M_slot_62 kw_516 rfl Nat.zero_lt_one ?_
    refine ow_iconst (pc := 65) (v := nI 4) hX d_M_slot_65 (by decide) ?_
    refine ow_iload_n (pc := 66) hX d_M_slot_66 rfl ?_
    refine ow_muln (pc := 67) hX d_M_slot_67 ?_
    refine ow_aN (pc := 68) hX rfl d_M_slot_68 Nat.zero_lt_one (by show _ < 96; first | assumption | omega) ?_
    refine ow_goto (pc := 69) (tgt := 73) hX d_M_slot_69 (by decide) ?_
    refine ow_istore_n (pc := 73) (l2 := [(0, _), (1, _), (2, _)]) hX d_M_slot_73 (by decide) rfl rfl ?_
    refine ow_iload_n (pc := 74) hX d_M_slot_74 rfl ?_
    refine ow_bipush (pc := 75) (v := nI 100) hX d_M_slot_75 (by decide) ?_
    refine ow_nc_lt (pc := 77) (tgt := 95) hX d_M_slot_77 (by decide) (by first | assumption | omega) (by first | assumption | omega) (fun h77 => ?_) (fun h77 => ?_)
    · skip
      skip
      refine ow_iconst (pc := 95) (v := nI 0) hX d_M_slot_95 (by decide) ?_
      refine ow_istore_n (pc := 96) (l2 := [(0, _), (1, _), (2, _), (3, _)]) hX d_M_slot_96 (by decide) rfl rfl ?_
      first
        | (rw [if_neg h58, if_neg (by omega)]; exact w_M_slotP Y n s c hX hV w hn hw h0 hc (w.1 0 0 3 % s) (w.1 10 0 (4 * (w.1 0 0 3 % s))) (by omega) hal (by omega) pa hpm h58 c 0 (by omega))
        | (rw [if_pos h58]; exact w_M_slotA Y n s c hX hV w h0 hc _ _ h58)
        | (rw [if_neg h58, if_pos ⟨h77, h84⟩]; exact w_M_slotB Y n s c hX hV _ h0 hc _ _ (by have := (em_advert (c := c) (a := kfst (w.1 10 0 (4 * (w.1 0 0 3 % s)))) hw).1 hw; exact this.2.2.2.2.2.2.2.2.2.1) h77 h84 (by rw [(em_advert (c := c) (a := kfst (w.1 10 0 (4 * (w.1 0 0 3 % s)))) hw).2.2.2.1]; exact h58))
    · skip
      refine ow_iload_n (pc := 80) hX d_M_slot_80 rfl ?_
      refine ow_sipush (pc := 81) (v := nI 200) hX d_M_slot_81 (by decide) ?_
      refine ow_nc_ge (pc := 84) (tgt := 95) hX d_M_slot_84 (by decide) (by first | assumption | omega) (by first | assumption | omega) (fun h84 => ?_) (fun h84 => ?_)
      · skip
        skip
        refine ow_iconst (pc := 95) (v := nI 0) hX d_M_slot_95 (by decide) ?_
        refine ow_istore_n (pc := 96) (l2 := [(0, _), (1, _), (2, _), (3, _)]) hX d_M_slot_96 (by decide) rfl rfl ?_
        first
          | (rw [if_neg h58, if_neg (by omega)]; exact w_M_slotP Y n s c hX hV w hn hw h0 hc (w.1 0 0 3 % s) (w.1 10 0 (4 * (w.1 0 0 3 % s))) (by omega) hal (by omega) pa hpm h58 c 0 (by omega))
          | (rw [if_pos h58]; exact w_M_slotA Y n s c hX hV w h0 hc _ _ h58)
          | (rw [if_neg h58, if_pos ⟨h77, h84⟩]; exact w_M_slotB Y n s c hX hV _ h0 hc _ _ (by have := (em_advert (c := c) (a := kfst (w.1 10 0 (4 * (w.1 0 0 3 % s)))) hw).1 hw; exact this.2.2.2.2.2.2.2.2.2.1) h77 h84 (by rw [(em_advert (c := c) (a := kfst (w.1 10 0 (4 * (w.1 0 0 3 % s)))) hw).2.2.2.1]; exact h58))
      · skip
        refine ow_aload_n (pc := 87) hX d_M_slot_87 rfl ?_
        refine ow_iload_n (pc := 88) hX d_M_slot_88 rfl ?_
        refine ow_callS (pc := 89) hX (c_M_first _ Y n s c hV w (w.1 10 0 (4 * (w.1 0 0 3 % s))) (by omega)) (cw_S hX mz_M_first kw_637 ⟨rfl, rfl⟩ (by decide)) rfl (Nat.le_of_ble_eq_true rfl) d_M_slot_89 rfl ?_
        refine ow_callV (pc := 92) hX (kd_M Y n s c) Nat.zero_lt_one (c_M_advert _ Y n s c hV w (kfst (w.1 10 0 (4 * (w.1 0 0 3 % s)))) ((hpm h58).2.1 _ (by omega) h77) h1 h0 hc hn hw) (cw_V hX mz_M_advert kw_679 ⟨rfl, rfl⟩ (by decide)) rfl (Nat.le_of_ble_eq_true rfl) d_M_slot_92 rfl ?_
        skip
        refine ow_iconst (pc := 95) (v := nI 0) hX d_M_slot_95 (by decide) ?_
        refine ow_istore_n (pc := 96) (l2 := [(0, _), (1, _), (2, _), (3, _)]) hX d_M_slot_96 (by decide) rfl rfl ?_
        first
          | (rw [if_neg h58, if_neg (by omega)]; exact w_M_slotP Y n s c hX hV w hn hw h0 hc (w.1 0 0 3 % s) (w.1 10 0 (4 * (w.1 0 0 3 % s))) (by omega) hal (by omega) pa hpm h58 c 0 (by omega))
          | (rw [if_pos h58]; exact w_M_slotA Y n s c hX hV w h0 hc _ _ h58)
          | (rw [if_neg h58, if_pos ⟨h77, h84⟩]; exact w_M_slotB Y n s c hX hV _ h0 hc _ _ (by have := (em_advert (c := c) (a := kfst (w.1 10 0 (4 * (w.1 0 0 3 % s)))) hw).1 hw; exact this.2.2.2.2.2.2.2.2.2.1) h77 h84 (by rw [(em_advert (c := c) (a := kfst (w.1 10 0 (4 * (w.1 0 0 3 % s)))) hw).2.2.2.1]; exact h58))

set_option maxRecDepth 100000 in
set_option maxHeartbeats 4000000 in
theorem c_M_slot (l : Launch) (Y : YY) (n s c : Nat) (hV : pv_ok (vM Y n s c)) (u : UU) (h1 : 1 ≤ n) (hn : n ≤ 6) (hu : wm n u) (h0 : 0 < c) (hc : c ≤ 4) (hs0 : 0 < s) (hs : s ≤ 24) (pa : Nat → Option Nat) (hpm : pm pa u) : Ct l (vM Y n s c) ⟨"SlottedMeshModel", "slot", "()V"⟩ (wz ⟨"SlottedMeshModel", "slot", "()V"⟩ b_M_slot 6 none) (rd 3) [.ref (pv_ad (vM Y n s c) 0 0)] u none (km_slot n s c pa u) := by
  refine ct_mk hV (by decide +kernel) (Nat.le_of_ble_eq_true rfl) (fun X hX => ?_)
  have hX : ox X (vM Y n s c) (rd 3) b_M_slot 6 "SlottedMeshModel" gz none := hX
  show ow X (vM Y n s c) none (km_slot n s c pa u) u [(0, .ref (pv_ad (vM Y n s c) 0 0))] 0 []
  refine ow_iconst (pc := 0) (v := nI 1) hX d_M_slot_0 (by decide) ?_
  refine ow_istore_n (pc := 1) (l2 := [(0, _), (1, _)]) hX d_M_slot_1 (by decide) rfl rfl ?_
  have he : em n u (fo (fun k w => km_dr1 (k + 1) w) u (n - 1)) := em_fo (fun _ _ _ => em_dr1) (n - 1) u hu
  exact w_M_slotD Y n s c hX hV u h1 hn hu _ (w_M_slotM Y n s c hX hV (fo (fun k w => km_dr1 (k + 1) w) u (n - 1)) h1 hn h0 hc hs0 hs (he.1 hu) pa (pm_sm (sm2_of he.2) hpm)) (n - 1) 0 (by omega)
def km_run (n s c : Nat) (pa : Nat → Option Nat) (u : UU) (x : Int32) : Int32 × UU := if kin x (nI 1) (nI 64) = 0 then (-1, u) else (nI ((fo (fun _ w => km_slot n s c pa w) u x.toNatClampNeg).1 0 0 3), fo (fun _ w => km_slot n s c pa w) u x.toNatClampNeg)
set_option maxRecDepth 100000 in
set_option maxHeartbeats 4000000 in
theorem w_M_run {X : OX} (Y : YY) (n s c : Nat) (hX : ox X (vM Y n s c) (rd 4) b_M_run 3 "SlottedMeshModel" gz (some .int)) (hV : pv_ok (vM Y n s c)) (u : UU) (h1 : 1 ≤ n) (hn : n ≤ 6) (hu : wm n u) (h0 : 0 < c) (hc : c ≤ 4) (hs0 : 0 < s) (hs : s ≤ 24) (pa : Nat → Option Nat) (hpm : pm pa u) (m : Nat) (hm : m ≤ 64) (ht : u.1 0 0 3 + 64 < 2 ^ 30) : ∀ j k, k + j = m → ow X (vM Y n s c) (some (.int (nI ((fo (fun _ w => km_slot n s c pa w) u m).1 0 0 3)))) (fo (fun _ w => km_slot n s c pa w) u m) (fo (fun _ w => km_slot n s c pa w) u k) [(0, .ref (pv_ad (vM Y n s c) 0 0)), (1, .int (nI m)), (2, .int (nI k))] 15 [] := by
  intro j
  induction j with
  | zero =>
    intro k hk
    obtain ⟨w, hwe⟩ : ∃ w, w = (fo (fun _ w => km_slot n s c pa w) u k) := ⟨_, rfl⟩
    obtain ⟨hw, hwt, hwq⟩ := wm_slots (s := s) (c := c) (pa := pa) hu k (by omega)
    rw [← hwe] at hw hwt hwq
    rw [← hwe]
    refine ow_iload_n (pc := 15) hX d_M_run_15 rfl ?_
    refine ow_iload_n (pc := 16) hX d_M_run_16 rfl ?_
    refine ow_nc_ge (pc := 17) (tgt := 30) hX d_M_run_17 (by decide) (by first | assumption | omega) (by first | assumption | omega) (fun h17 => ?_) (fun h17 => ?_)
    · skip
      refine ow_aload_n (pc := 30) hX d_M_run_30 rfl ?_
      refine ow_gN (pc := 31) hX (kd_M Y n s c) 3 d_M_run_31 kw_504 rfl Nat.zero_lt_one ?_
      exact ow_iret (pc := 34) hX d_M_run_34 (by rw [hwe, show m = k by omega]) (by rw [hwe, show m = k by omega])
    · skip
      exact absurd h17 (by omega)
  | succ j ih =>
    intro k hk
    obtain ⟨w, hwe⟩ : ∃ w, w = (fo (fun _ w => km_slot n s c pa w) u k) := ⟨_, rfl⟩
    obtain ⟨hw, hwt, hwq⟩ := wm_slots (s := s) (c := c) (pa := pa) hu k (by omega)
    rw [← hwe] at hw hwt hwq
    rw [← hwe]
    refine ow_iload_n (pc := 15) hX d_M_run_15 rfl ?_
    refine ow_iload_n (pc := 16) hX d_M_run_16 rfl ?_
    refine ow_nc_ge (pc := 17) (tgt := 30) hX d_M_run_17 (by decide) (by first | assumption | omega) (by first | assumption | omega) (fun h17 => ?_) (fun h17 => ?_)
    · skip
      exact absurd h17 (by omega)
    · skip
      refine ow_aload_n (pc := 20) hX d_M_run_20 rfl ?_
      refine ow_callV (pc := 21) hX (kd_M Y n s c) Nat.zero_lt_one (c_M_slot _ Y n s c hV w h1 hn hw h0 hc hs0 hs pa (pm_sm hwq hpm)) (cw_V hX mz_M_slot kw_675 ⟨rfl, rfl⟩ (by decide)) rfl (Nat.le_of_ble_eq_true rfl) d_M_run_21 rfl ?_
      refine ow_iinc (pc := 24) (l2 := [(0, _), (1, _), (2, _)]) hX d_M_run_24 rfl (ii_1 _) (by decide) rfl rfl ?_
      refine ow_goto (pc := 27) (tgt := 15) hX d_M_run_27 (by decide) ?_
      have ih := ih (k + 1) (by omega)
      rw [fo_s, ← hwe] at ih
      exact ih
set_option maxRecDepth 100000 in
set_option maxHeartbeats 4000000 in
theorem c_M_run (l : Launch) (Y : YY) (n s c : Nat) (hV : pv_ok (vM Y n s c)) (u : UU) (h1 : 1 ≤ n) (hn : n ≤ 6) (hu : wm n u) (h0 : 0 < c) (hc : c ≤ 4) (hs0 : 0 < s) (hs : s ≤ 24) (pa : Nat → Option Nat) (hpm : pm pa u) (x : Int32) (ht : u.1 0 0 3 + 64 < 2 ^ 30) : Ct l (vM Y n s c) ⟨"SlottedMeshModel", "run", "(I)I"⟩ (wz ⟨"SlottedMeshModel", "run", "(I)I"⟩ b_M_run 3 (some .int)) (rd 4) [.ref (pv_ad (vM Y n s c) 0 0), .int x] u (some (.int (km_run n s c pa u x).1)) ((km_run n s c pa u x).2) := by
  refine ct_mk hV (by decide +kernel) (Nat.le_of_ble_eq_true rfl) (fun X hX => ?_)
  have hX : ox X (vM Y n s c) (rd 4) b_M_run 3 "SlottedMeshModel" gz (some .int) := hX
  show ow X (vM Y n s c) (some (.int (km_run n s c pa u x).1)) ((km_run n s c pa u x).2) u [(0, .ref (pv_ad (vM Y n s c) 0 0)), (1, .int x)] 0 []
  refine ow_iload_n (pc := 0) hX d_M_run_0 rfl ?_
  refine ow_iconst (pc := 1) (v := nI 1) hX d_M_run_1 (by decide) ?_
  refine ow_ic_lt (pc := 2) (tgt := 11) hX d_M_run_2 (by decide) (fun h2 => ?_) (fun h2 => ?_)
  · skip
    refine ow_iconst (pc := 11) (v := (-1)) hX d_M_run_11 (by decide) ?_
    exact ow_iret (pc := 12) hX d_M_run_12 (by unfold km_run; rw [if_pos (by unfold kin; first | rw [if_pos h2] | rw [if_neg h2, if_pos (by rw [Int32.lt_iff_toInt_lt]; rw [Int32.le_iff_toInt_le] at h8; omega)])]) (by unfold km_run; rw [if_pos (by unfold kin; first | rw [if_pos h2] | rw [if_neg h2, if_pos (by rw [Int32.lt_iff_toInt_lt]; rw [Int32.le_iff_toInt_le] at h8; omega)])])
  · skip
    refine ow_iload_n (pc := 5) hX d_M_run_5 rfl ?_
    refine ow_bipush (pc := 6) (v := nI 64) hX d_M_run_6 (by decide) ?_
    refine ow_ic_le (pc := 8) (tgt := 13) hX d_M_run_8 (by decide) (fun h8 => ?_) (fun h8 => ?_)
    · skip
      refine ow_iconst (pc := 13) (v := nI 0) hX d_M_run_13 (by decide) ?_
      refine ow_istore_n (pc := 14) (l2 := [(0, _), (1, _), (2, _)]) hX d_M_run_14 (by decide) rfl rfl ?_
      have h7 : ¬ kin x (nI 1) (nI 64) = 0 := by unfold kin; rw [if_neg h2, if_neg (by rw [Int32.lt_iff_toInt_lt]; rw [Int32.le_iff_toInt_le] at h8; omega)]; decide
      unfold km_run
      rw [if_neg h7]
      obtain ⟨m, hm1, hm2, rfl⟩ := kin_64 h7
      rw [nI_clamp (by omega)]
      exact w_M_run Y n s c hX hV u h1 hn hu h0 hc hs0 hs pa hpm m hm2 ht m 0 (by omega)
    · skip
      refine ow_iconst (pc := 11) (v := (-1)) hX d_M_run_11 (by decide) ?_
      exact ow_iret (pc := 12) hX d_M_run_12 (by unfold km_run; rw [if_pos (by unfold kin; first | rw [if_pos h2] | rw [if_neg h2, if_pos (by rw [Int32.lt_iff_toInt_lt]; rw [Int32.le_iff_toInt_le] at h8; omega)])]) (by unfold km_run; rw [if_pos (by unfold kin; first | rw [if_pos h2] | rw [if_neg h2, if_pos (by rw [Int32.lt_iff_toInt_lt]; rw [Int32.le_iff_toInt_le] at h8; omega)])])
