/-! SlottedMeshModel: placeAll, plan (by program, wip/whole/gen/m8.py) -/
def km_A (s c r : Nat) : Nat → Nat → Nat × UU → Nat × UU
  | 0, _, q => q
  | j + 1, a, q => if q.1 = 0 then q else if q.2.1 11 0 a = r then km_A s c r j (a + 1) (km_advP s c q.2 a) else km_A s c r j (a + 1) q
def km_AA (n s c : Nat) : Nat → Nat → Nat × UU → Nat × UU
  | 0, _, q => q
  | j + 1, r, q => km_AA n s c j (r + 1) (km_A s c r n 0 q)
def km_l3 (s c a p : Nat) (q : Nat × UU) : Nat × UU := if q.1 = 0 then q else km_place s c q.2 (300 + 10 * p + a)
def km_l2 (s c a : Nat) (g : Option Nat) (q : Nat × UU) : Nat × UU := match g with
  | none => q
  | some b => if q.1 = 0 then q else km_place s c q.2 (200 + 10 * a + b)
def km_l1 (s c a : Nat) (f g : Option Nat) (w : UU) : Nat × UU := match f with
  | none => (1, w)
  | some p => km_l3 s c a p (km_l2 s c a g (km_place s c w (200 + 10 * a + p)))
def km_L (s c : Nat) (fa sa : Nat → Option Nat) (r : Nat) : Nat → Nat → Nat × UU → Nat × UU
  | 0, _, q => q
  | j + 1, a, q => if q.1 = 0 then q else if q.2.1 11 0 a = r then km_L s c fa sa r j (a + 1) (km_l1 s c a (fa a) (sa a) q.2) else km_L s c fa sa r j (a + 1) q
def km_LL (n s c : Nat) (fa sa : Nat → Option Nat) : Nat → Nat → Nat × UU → Nat × UU
  | 0, _, q => q
  | j + 1, r, q => km_LL n s c fa sa j (r + 1) (km_L s c fa sa r n 0 q)
def km_cl (u : UU) : UU := fo (fun k w => un w 13 0 k 0) u 96
def km_all (n s c : Nat) (fa sa : Nat → Option Nat) (u : UU) : Nat × UU := km_LL n s c fa sa 5 1 (km_AA n s c 6 0 (1, km_cl u))
/-- what placing needs -/
def pp (n : Nat) (fa sa : Nat → Option Nat) (w : UU) : Prop := (∀ q, w.1 13 0 q < 400) ∧ (∀ j, w.1 11 0 j ≤ 99) ∧ (∀ a, a < n → w.2.1 12 0 (2 * a) = io (fa a)) ∧ (∀ a, a < n → w.2.1 12 0 (2 * a + 1) = io (sa a)) ∧ (∀ a, a < n → w.1 11 0 a ≠ 0 → ∃ b, fa a = some b ∧ b < n) ∧ ∀ a b, sa a = some b → b < n
theorem pp_un {n : Nat} {fa sa : Nat → Option Nat} {w : UU} (h : pp n fa sa w) {j v : Nat} (hv : v < 400) : pp n fa sa (un w 13 0 j v) := by
  refine ⟨fun q => ?_, fun q => ?_, h.2.2.1, h.2.2.2.1, fun a ha hq => ?_, h.2.2.2.2.2⟩
  · rw [un_1]; split; (· exact hv); exact h.1 q
  · rw [un_1, if_neg (by omega)]; exact h.2.1 q
  · rw [un_1, if_neg (by omega)] at hq; exact h.2.2.2.2.1 a ha hq
theorem pp_fo {n : Nat} {fa sa : Nat → Option Nat} {f : Nat → UU → UU} (h : ∀ k w, pp n fa sa w → pp n fa sa (f k w)) : ∀ m u, pp n fa sa u → pp n fa sa (fo f u m) := by
  intro m u hu
  induction m with
  | zero => exact hu
  | succ m ih => exact h m _ ih
theorem pp_cl {n : Nat} {fa sa : Nat → Option Nat} {u : UU} (h : pp n fa sa u) : pp n fa sa (km_cl u) := pp_fo (fun _ _ h => pp_un h (by omega)) 96 u h
theorem pp_place {n : Nat} {fa sa : Nat → Option Nat} {u : UU} (h : pp n fa sa u) {s c z : Nat} (hz : z < 400) : pp n fa sa (km_place s c u z).2 := by
  unfold km_place km_plc
  split
  · exact pp_un h hz
  · exact h
theorem pp_adv {n : Nat} {fa sa : Nat → Option Nat} {u : UU} (h : pp n fa sa u) {s c a : Nat} (ha : a < 6) : pp n fa sa (km_advP s c u a).2 := by
  unfold km_advP km_adv
  split
  · exact pp_fo (fun _ _ h => pp_un h (by omega)) c u h
  · exact h
theorem km_place_le {s c : Nat} {u : UU} {z : Nat} : (km_place s c u z).1 ≤ 1 := km_plc_le
theorem km_advP_le {s c : Nat} {u : UU} {a : Nat} : (km_advP s c u a).1 ≤ 1 := km_adv_le
/-- all that is carried: the answer is 0 or 1, the state fits -/
def qp (n : Nat) (fa sa : Nat → Option Nat) (q : Nat × UU) : Prop := q.1 ≤ 1 ∧ pp n fa sa q.2
theorem qp_A {n : Nat} {fa sa : Nat → Option Nat} {s c r : Nat} (hn : n ≤ 6) : ∀ j a q, a + j = n → qp n fa sa q → qp n fa sa (km_A s c r j a q) := by
  intro j
  induction j with
  | zero => intro a q _ h; exact h
  | succ j ih =>
    intro a q ha h
    rw [km_A]
    repeat' split
    · exact h
    · exact ih _ _ (by omega) ⟨km_advP_le, pp_adv h.2 (by omega)⟩
    · exact ih _ _ (by omega) h
theorem qp_l3 {n : Nat} {fa sa : Nat → Option Nat} {s c a p : Nat} {q : Nat × UU} (ha : a < 6) (hp : p < 6) (h : qp n fa sa q) : qp n fa sa (km_l3 s c a p q) := by
  unfold km_l3
  split
  · exact h
  · exact ⟨km_place_le, pp_place h.2 (by omega)⟩
theorem qp_l2 {n : Nat} {fa sa : Nat → Option Nat} {s c a : Nat} {g : Option Nat} {q : Nat × UU} (ha : a < 6) (hg : ∀ b, g = some b → b < 6) (h : qp n fa sa q) : qp n fa sa (km_l2 s c a g q) := by
  unfold km_l2
  split
  · exact h
  · rename_i b
    have := hg b rfl
    split
    · exact h
    · exact ⟨km_place_le, pp_place h.2 (by omega)⟩
theorem qp_l1 {n : Nat} {fa sa : Nat → Option Nat} {s c a : Nat} {f g : Option Nat} {w : UU} (ha : a < 6) (hf : ∀ b, f = some b → b < 6) (hg : ∀ b, g = some b → b < 6) (h : pp n fa sa w) : qp n fa sa (km_l1 s c a f g w) := by
  unfold km_l1
  split
  · exact ⟨Nat.le_refl 1, h⟩
  · rename_i b
    have := hf b rfl
    exact qp_l3 ha this (qp_l2 ha hg ⟨km_place_le, pp_place h (by omega)⟩)
theorem qp_L {n : Nat} {fa sa : Nat → Option Nat} {s c r : Nat} (hn : n ≤ 6) (hr : 1 ≤ r) : ∀ j a q, a + j = n → qp n fa sa q → qp n fa sa (km_L s c fa sa r j a q) := by
  intro j
  induction j with
  | zero => intro a q _ h; exact h
  | succ j ih =>
    intro a q ha h
    rw [km_L]
    split
    · exact h
    · split
      · rename_i hra
        refine ih _ _ (by omega) (qp_l1 (by omega) (fun b hb => ?_) (fun b hb => ?_) h.2)
        · obtain ⟨b2, h2, h3⟩ := h.2.2.2.2.2.1 a (by omega) (by omega)
          rw [h2] at hb; cases hb; omega
        · have := h.2.2.2.2.2.2 a b hb; omega
      · exact ih _ _ (by omega) h
set_option maxRecDepth 100000 in
set_option maxHeartbeats 4000000 in
theorem w_M_all0 {X : OX} (Y : YY) (n s c : Nat) (hX : ox X (vM Y n s c) (rd 2) b_M_placeAll 6 "SlottedMeshModel" gz (some .boolean)) (u : UU) (rr : Option Value) (uu : UU) (K : ow X (vM Y n s c) rr uu (km_cl u) [(0, .ref (pv_ad (vM Y n s c) 0 0)), (1, .int (nI 1))] 23 []) : ∀ j k, k + j = 96 → ow X (vM Y n s c) rr uu (fo (fun k w => un w 13 0 k 0) u k) [(0, .ref (pv_ad (vM Y n s c) 0 0)), (1, .int (nI 1)), (2, .int (nI k))] 4 [] := by
  intro j
  induction j with
  | zero =>
    intro k hk
    refine ow_iload_n (pc := 4) hX d_M_placeAll_4 rfl ?_
    refine ow_bipush (pc := 5) (v := nI 96) hX d_M_placeAll_5 (by decide) ?_
    refine ow_nc_ge (pc := 7) (tgt := 23) hX d_M_placeAll_7 (by decide) (by first | assumption | omega) (by first | assumption | omega) (fun h7 => ?_) (fun h7 => ?_)
    · skip
      have e9 : k = 96 := by omega
      subst e9
      refine ow_loc (l2 := [(0, _), (1, _)]) (fun q hq => by simp only [List.mem_cons, List.not_mem_nil, or_false] at hq ⊢; rcases hq with rfl | rfl <;> simp) (K)
    · skip
      exact absurd h7 (by omega)
  | succ j ih =>
    intro k hk
    refine ow_iload_n (pc := 4) hX d_M_placeAll_4 rfl ?_
    refine ow_bipush (pc := 5) (v := nI 96) hX d_M_placeAll_5 (by decide) ?_
    refine ow_nc_ge (pc := 7) (tgt := 23) hX d_M_placeAll_7 (by decide) (by first | assumption | omega) (by first | assumption | omega) (fun h7 => ?_) (fun h7 => ?_)
    · skip
      exact absurd h7 (by omega)
    · skip
      refine ow_aload_n (pc := 10) hX d_M_placeAll_10 rfl ?_
      refine ow_gR (pc := 11) hX (kd_M Y n s c) 18 d_M_placeAll_11 kw_519 rfl Nat.zero_lt_one ?_
      refine ow_iload_n (pc := 14) hX d_M_placeAll_14 rfl ?_
      refine ow_iconst (pc := 15) (v := nI 0) hX d_M_placeAll_15 (by decide) ?_
      refine ow_sN (pc := 16) hX rfl d_M_placeAll_16 Nat.zero_lt_one (by show _ < 96; first | assumption | omega) ?_
      refine ow_iinc (pc := 17) (l2 := [(0, _), (1, _), (2, _)]) hX d_M_placeAll_17 rfl (ii_1 _) (by decide) rfl rfl ?_
      refine ow_goto (pc := 20) (tgt := 4) hX d_M_placeAll_20 (by decide) ?_
      exact ih (k + 1) (by omega)
set_option maxRecDepth 100000 in
set_option maxHeartbeats 4000000 in
theorem w_M_all1 {X : OX} (Y : YY) (n s c : Nat) (hX : ox X (vM Y n s c) (rd 2) b_M_placeAll 6 "SlottedMeshModel" gz (some .boolean)) (hV : pv_ok (vM Y n s c)) (hn : n ≤ 6) (hs : s ≤ 24) (h0 : 0 < c) (hc : c ≤ 4) (fa sa : Nat → Option Nat) (r : Nat) (hr : r < 6) (rr : Option Value) (uu : UU) : ∀ j k (q : Nat × UU), qp n fa sa q → k + j = n → (∀ z, z = km_A s c r j k q → ow X (vM Y n s c) rr uu z.2 [(0, .ref (pv_ad (vM Y n s c) 0 0)), (1, .int (nI z.1)), (2, .int (nI r))] 67 []) → ow X (vM Y n s c) rr uu q.2 [(0, .ref (pv_ad (vM Y n s c) 0 0)), (1, .int (nI q.1)), (2, .int (nI r)), (3, .int (nI k))] 33 [] := by
  intro j
  induction j with
  | zero =>
    intro k q hq hk K
    refine ow_iload_n (pc := 33) hX d_M_placeAll_33 rfl ?_
    refine ow_aload_n (pc := 34) hX d_M_placeAll_34 rfl ?_
    refine ow_gK (pc := 35) hX (kd_M Y n s c) 0 d_M_placeAll_35 kw_501 rfl Nat.zero_lt_one ?_
    refine ow_nc_ge (pc := 38) (tgt := 67) hX d_M_placeAll_38 (by decide) (by first | assumption | omega | (have := hq.1; omega) | (have := hq.2.2.1 k; omega)) (by first | assumption | omega | (have := hq.1; omega) | (have := hq.2.2.1 k; omega)) (fun h38 => ?_) (fun h38 => ?_)
    · skip
      have K := K q rfl
      refine ow_loc (l2 := [(0, _), (1, _), (2, _)]) (fun q hq => by simp only [List.mem_cons, List.not_mem_nil, or_false] at hq ⊢; rcases hq with rfl | rfl | rfl <;> simp) (K)
    · skip
      exact absurd h38 (by omega)
  | succ j ih =>
    intro k q hq hk K
    refine ow_iload_n (pc := 33) hX d_M_placeAll_33 rfl ?_
    refine ow_aload_n (pc := 34) hX d_M_placeAll_34 rfl ?_
    refine ow_gK (pc := 35) hX (kd_M Y n s c) 0 d_M_placeAll_35 kw_501 rfl Nat.zero_lt_one ?_
    refine ow_nc_ge (pc := 38) (tgt := 67) hX d_M_placeAll_38 (by decide) (by first | assumption | omega | (have := hq.1; omega) | (have := hq.2.2.1 k; omega)) (by first | assumption | omega | (have := hq.1; omega) | (have := hq.2.2.1 k; omega)) (fun h38 => ?_) (fun h38 => ?_)
    · skip
      exact absurd h38 (by omega)
    · skip
      refine ow_iload_n (pc := 41) hX d_M_placeAll_41 rfl ?_
      refine ow_nz_eq (pc := 42) (tgt := 67) hX d_M_placeAll_42 (by decide) (by first | assumption | omega | (have := hq.1; omega) | (have := hq.2.2.1 k; omega)) (fun h42 => ?_) (fun h42 => ?_)
      · skip
        have K := K q (by rw [km_A, if_pos h42])
        refine ow_loc (l2 := [(0, _), (1, _), (2, _)]) (fun q hq => by simp only [List.mem_cons, List.not_mem_nil, or_false] at hq ⊢; rcases hq with rfl | rfl | rfl <;> simp) (K)
      · skip
        refine ow_aload_n (pc := 45) hX d_M_placeAll_45 rfl ?_
        refine ow_gR (pc := 46) hX (kd_M Y n s c) 16 d_M_placeAll_46 kw_517 rfl Nat.zero_lt_one ?_
        refine ow_iload_n (pc := 49) hX d_M_placeAll_49 rfl ?_
        refine ow_aN (pc := 50) hX rfl d_M_placeAll_50 Nat.zero_lt_one (by show _ < 6; first | assumption | omega) ?_
        refine ow_iload_n (pc := 51) hX d_M_placeAll_51 rfl ?_
        refine ow_nc_ne (pc := 52) (tgt := 61) hX d_M_placeAll_52 (by decide) (by first | assumption | omega | (have := hq.1; omega) | (have := hq.2.2.1 k; omega)) (by first | assumption | omega | (have := hq.1; omega) | (have := hq.2.2.1 k; omega)) (fun h52 => ?_) (fun h52 => ?_)
        · skip
          refine ow_iinc (pc := 61) (l2 := [(0, _), (1, _), (2, _), (3, _)]) hX d_M_placeAll_61 rfl (ii_1 _) (by decide) rfl rfl ?_
          refine ow_goto (pc := 64) (tgt := 33) hX d_M_placeAll_64 (by decide) ?_
          first | exact ih (k + 1) q hq (by omega) (fun z hz => K z (by rw [hz, km_A, if_neg h42, if_neg h52])) | exact ih (k + 1) (km_advP s c q.2 k) ⟨km_advP_le, pp_adv hq.2 (by omega)⟩ (by omega) (fun z hz => K z (by rw [hz, km_A, if_neg h42, if_pos h52]))
        · skip
          refine ow_aload_n (pc := 55) hX d_M_placeAll_55 rfl ?_
          refine ow_iload_n (pc := 56) hX d_M_placeAll_56 rfl ?_
          refine ow_callV (pc := 57) hX (kd_M Y n s c) Nat.zero_lt_one (c_M_placeAdvert _ Y n s c hV q.2 k hs hc hq.2.1) (cw_V hX mz_M_placeAdvert kw_629 ⟨rfl, rfl⟩ (by decide)) rfl (Nat.le_of_ble_eq_true rfl) d_M_placeAll_57 rfl ?_
          refine ow_istore_n (pc := 60) (l2 := [(0, _), (1, _), (2, _), (3, _)]) hX d_M_placeAll_60 (by decide) rfl rfl ?_
          refine ow_iinc (pc := 61) (l2 := [(0, _), (1, _), (2, _), (3, _)]) hX d_M_placeAll_61 rfl (ii_1 _) (by decide) rfl rfl ?_
          refine ow_goto (pc := 64) (tgt := 33) hX d_M_placeAll_64 (by decide) ?_
          first | exact ih (k + 1) q hq (by omega) (fun z hz => K z (by rw [hz, km_A, if_neg h42, if_neg h52])) | exact ih (k + 1) (km_advP s c q.2 k) ⟨km_advP_le, pp_adv hq.2 (by omega)⟩ (by omega) (fun z hz => K z (by rw [hz, km_A, if_neg h42, if_pos h52]))
set_option maxRecDepth 100000 in
set_option maxHeartbeats 4000000 in
theorem w_M_all2 {X : OX} (Y : YY) (n s c : Nat) (hX : ox X (vM Y n s c) (rd 2) b_M_placeAll 6 "SlottedMeshModel" gz (some .boolean)) (hV : pv_ok (vM Y n s c)) (hn : n ≤ 6) (hs : s ≤ 24) (h0 : 0 < c) (hc : c ≤ 4) (fa sa : Nat → Option Nat) (rr : Option Value) (uu : UU) : ∀ j k (q : Nat × UU), qp n fa sa q → k + j = 6 → (∀ z, z = km_AA n s c j k q → ow X (vM Y n s c) rr uu z.2 [(0, .ref (pv_ad (vM Y n s c) 0 0)), (1, .int (nI z.1))] 73 []) → ow X (vM Y n s c) rr uu q.2 [(0, .ref (pv_ad (vM Y n s c) 0 0)), (1, .int (nI q.1)), (2, .int (nI k))] 25 [] := by
  intro j
  induction j with
  | zero =>
    intro k q hq hk K
    refine ow_iload_n (pc := 25) hX d_M_placeAll_25 rfl ?_
    refine ow_bipush (pc := 26) (v := nI 6) hX d_M_placeAll_26 (by decide) ?_
    refine ow_nc_ge (pc := 28) (tgt := 73) hX d_M_placeAll_28 (by decide) (by first | assumption | omega | (have := hq.1; omega) | (have := hq.2.2.1 k; omega)) (by first | assumption | omega | (have := hq.1; omega) | (have := hq.2.2.1 k; omega)) (fun h28 => ?_) (fun h28 => ?_)
    · skip
      have K := K q rfl
      refine ow_loc (l2 := [(0, _), (1, _)]) (fun q hq => by simp only [List.mem_cons, List.not_mem_nil, or_false] at hq ⊢; rcases hq with rfl | rfl <;> simp) (K)
    · skip
      exact absurd h28 (by omega)
  | succ j ih =>
    intro k q hq hk K
    refine ow_iload_n (pc := 25) hX d_M_placeAll_25 rfl ?_
    refine ow_bipush (pc := 26) (v := nI 6) hX d_M_placeAll_26 (by decide) ?_
    refine ow_nc_ge (pc := 28) (tgt := 73) hX d_M_placeAll_28 (by decide) (by first | assumption | omega | (have := hq.1; omega) | (have := hq.2.2.1 k; omega)) (by first | assumption | omega | (have := hq.1; omega) | (have := hq.2.2.1 k; omega)) (fun h28 => ?_) (fun h28 => ?_)
    · skip
      exact absurd h28 (by omega)
    · skip
      refine ow_iconst (pc := 31) (v := nI 0) hX d_M_placeAll_31 (by decide) ?_
      refine ow_istore_n (pc := 32) (l2 := [(0, _), (1, _), (2, _), (3, _)]) hX d_M_placeAll_32 (by decide) rfl rfl ?_
      refine w_M_all1 Y n s c hX hV hn hs h0 hc fa sa k (by omega) rr uu n 0 q hq (by omega) (fun z hz => ?_)
      refine ow_iinc (pc := 67) (l2 := [(0, _), (1, _), (2, _)]) hX d_M_placeAll_67 rfl (ii_1 _) (by decide) rfl rfl ?_
      refine ow_goto (pc := 70) (tgt := 25) hX d_M_placeAll_70 (by decide) ?_
      exact ih (k + 1) z (by rw [hz]; exact qp_A hn n 0 q (by omega) hq) (by omega) (fun y hy => K y (by rw [hy, hz, km_AA]))
set_option maxRecDepth 100000 in
set_option maxHeartbeats 4000000 in
theorem w_M_all3 {X : OX} (Y : YY) (n s c : Nat) (hX : ox X (vM Y n s c) (rd 2) b_M_placeAll 6 "SlottedMeshModel" gz (some .boolean)) (hV : pv_ok (vM Y n s c)) (hn : n ≤ 6) (hs : s ≤ 24) (h0 : 0 < c) (hc : c ≤ 4) (fa sa : Nat → Option Nat) (r a p : Nat) (ha : a < 6) (hp : p < 6) (q : Nat × UU) (hq : qp n fa sa q) (rr : Option Value) (uu : UU) (K : ∀ z, z = km_l3 s c a p q → ow X (vM Y n s c) rr uu z.2 [(0, .ref (pv_ad (vM Y n s c) 0 0)), (1, .int (nI z.1)), (2, .int (nI r)), (3, .int (nI a))] 191 []) : ow X (vM Y n s c) rr uu q.2 [(0, .ref (pv_ad (vM Y n s c) 0 0)), (1, .int (nI q.1)), (2, .int (nI r)), (3, .int (nI a)), (4, .int (nI p))] 171 [] := by
  refine ow_iload_n (pc := 171) hX d_M_placeAll_171 rfl ?_
  refine ow_nz_eq (pc := 172) (tgt := 191) hX d_M_placeAll_172 (by decide) (by first | assumption | omega | (have := hq.1; omega) | (have := hq.2.2.1 a; omega)) (fun h172 => ?_) (fun h172 => ?_)
  · skip
    first | (have K := K q (by rw [km_l3, if_pos h172]); refine ow_loc (l2 := [(0, _), (1, _), (2, _), (3, _)]) (fun q hq => by simp only [List.mem_cons, List.not_mem_nil, or_false] at hq ⊢; rcases hq with rfl | rfl | rfl | rfl <;> simp) (K)) | (have K := K (km_place s c q.2 (300 + 10 * p + a)) (by rw [km_l3, if_neg h172]); refine ow_loc (l2 := [(0, _), (1, _), (2, _), (3, _)]) (fun q hq => by simp only [List.mem_cons, List.not_mem_nil, or_false] at hq ⊢; rcases hq with rfl | rfl | rfl | rfl <;> simp) (K))
  · skip
    refine ow_aload_n (pc := 175) hX d_M_placeAll_175 rfl ?_
    refine ow_sipush (pc := 176) (v := nI 300) hX d_M_placeAll_176 (by decide) ?_
    refine ow_bipush (pc := 179) (v := nI 10) hX d_M_placeAll_179 (by decide) ?_
    refine ow_iload (pc := 181) hX d_M_placeAll_181 rfl ?_
    refine ow_muln (pc := 183) hX d_M_placeAll_183 ?_
    refine ow_addn (pc := 184) hX d_M_placeAll_184 ?_
    refine ow_iload_n (pc := 185) hX d_M_placeAll_185 rfl ?_
    refine ow_addn (pc := 186) hX d_M_placeAll_186 ?_
    refine ow_callV (pc := 187) hX (kd_M Y n s c) Nat.zero_lt_one (c_M_place _ Y n s c hV q.2 (300 + 10 * p + a) (by omega) hs h0 hc hq.2.1) (cw_V hX mz_M_place kw_633 ⟨rfl, rfl⟩ (by decide)) rfl (Nat.le_of_ble_eq_true rfl) d_M_placeAll_187 rfl ?_
    refine ow_istore_n (pc := 190) (l2 := [(0, _), (1, _), (2, _), (3, _), (4, _)]) hX d_M_placeAll_190 (by decide) rfl rfl ?_
    first | (have K := K q (by rw [km_l3, if_pos h172]); refine ow_loc (l2 := [(0, _), (1, _), (2, _), (3, _)]) (fun q hq => by simp only [List.mem_cons, List.not_mem_nil, or_false] at hq ⊢; rcases hq with rfl | rfl | rfl | rfl <;> simp) (K)) | (have K := K (km_place s c q.2 (300 + 10 * p + a)) (by rw [km_l3, if_neg h172]); refine ow_loc (l2 := [(0, _), (1, _), (2, _), (3, _)]) (fun q hq => by simp only [List.mem_cons, List.not_mem_nil, or_false] at hq ⊢; rcases hq with rfl | rfl | rfl | rfl <;> simp) (K))
set_option maxRecDepth 100000 in
set_option maxHeartbeats 4000000 in
theorem w_M_all4 {X : OX} (Y : YY) (n s c : Nat) (hX : ox X (vM Y n s c) (rd 2) b_M_placeAll 6 "SlottedMeshModel" gz (some .boolean)) (hV : pv_ok (vM Y n s c)) (hn : n ≤ 6) (hs : s ≤ 24) (h0 : 0 < c) (hc : c ≤ 4) (fa sa : Nat → Option Nat) (r a p : Nat) (ha : a < 6) (hp : p < 6) (q : Nat × UU) (hq : qp n fa sa q) (rr : Option Value) (uu : UU) (K : ∀ z, z = km_l1 s c a (some p) none q.2 → ow X (vM Y n s c) rr uu z.2 [(0, .ref (pv_ad (vM Y n s c) 0 0)), (1, .int (nI z.1)), (2, .int (nI r)), (3, .int (nI a))] 191 []) : ow X (vM Y n s c) rr uu q.2 [(0, .ref (pv_ad (vM Y n s c) 0 0)), (1, .int (nI q.1)), (2, .int (nI r)), (3, .int (nI a)), (4, .int (nI p)), (5, .int (-1))] 130 [] := by
  have hq1 : qp n fa sa (km_place s c q.2 (200 + 10 * a + p)) := ⟨km_place_le, pp_place hq.2 (by omega)⟩
  refine ow_aload_n (pc := 130) hX d_M_placeAll_130 rfl ?_
  refine ow_sipush (pc := 131) (v := nI 200) hX d_M_placeAll_131 (by decide) ?_
  refine ow_bipush (pc := 134) (v := nI 10) hX d_M_placeAll_134 (by decide) ?_
  refine ow_iload_n (pc := 136) hX d_M_placeAll_136 rfl ?_
  refine ow_muln (pc := 137) hX d_M_placeAll_137 ?_
  refine ow_addn (pc := 138) hX d_M_placeAll_138 ?_
  refine ow_iload (pc := 139) hX d_M_placeAll_139 rfl ?_
  refine ow_addn (pc := 141) hX d_M_placeAll_141 ?_
  refine ow_callV (pc := 142) hX (kd_M Y n s c) Nat.zero_lt_one (c_M_place _ Y n s c hV q.2 (200 + 10 * a + p) (by omega) hs h0 hc hq.2.1) (cw_V hX mz_M_place kw_633 ⟨rfl, rfl⟩ (by decide)) rfl (Nat.le_of_ble_eq_true rfl) d_M_placeAll_142 rfl ?_
  refine ow_istore_n (pc := 145) (l2 := [(0, _), (1, _), (2, _), (3, _), (4, _), (5, _)]) hX d_M_placeAll_145 (by decide) rfl rfl ?_
  refine ow_iload_n (pc := 146) hX d_M_placeAll_146 rfl ?_
  refine ow_nz_eq (pc := 147) (tgt := 171) hX d_M_placeAll_147 (by decide) (by first | assumption | omega | (have := hq1.1; omega) | (have := hq.1; omega)) (fun h147 => ?_) (fun h147 => ?_)
  · skip
    refine ow_loc (l2 := [(0, _), (1, _), (2, _), (3, _), (4, _)]) (fun q hq => by simp only [List.mem_cons, List.not_mem_nil, or_false] at hq ⊢; rcases hq with rfl | rfl | rfl | rfl | rfl <;> simp) (w_M_all3 Y n s c hX hV hn hs h0 hc fa sa r a p ha hp (km_place s c q.2 (200 + 10 * a + p)) hq1 rr uu (fun z hz => K z (by rw [hz, km_l1, km_l2])))
  · skip
    refine ow_iload (pc := 150) hX d_M_placeAll_150 rfl ?_
    refine ow_if_lt (pc := 152) (tgt := 171) hX d_M_placeAll_152 (by decide) (fun h152 => ?_) (fun h152 => ?_)
    · skip
      refine ow_loc (l2 := [(0, _), (1, _), (2, _), (3, _), (4, _)]) (fun q hq => by simp only [List.mem_cons, List.not_mem_nil, or_false] at hq ⊢; rcases hq with rfl | rfl | rfl | rfl | rfl <;> simp) (w_M_all3 Y n s c hX hV hn hs h0 hc fa sa r a p ha hp (km_place s c q.2 (200 + 10 * a + p)) hq1 rr uu (fun z hz => K z (by rw [hz, km_l1, km_l2])))
    · skip
      exact absurd h152 (by decide)
set_option maxRecDepth 100000 in
set_option maxHeartbeats 4000000 in
theorem w_M_all5 {X : OX} (Y : YY) (n s c : Nat) (hX : ox X (vM Y n s c) (rd 2) b_M_placeAll 6 "SlottedMeshModel" gz (some .boolean)) (hV : pv_ok (vM Y n s c)) (hn : n ≤ 6) (hs : s ≤ 24) (h0 : 0 < c) (hc : c ≤ 4) (fa sa : Nat → Option Nat) (r a p g : Nat) (ha : a < 6) (hp : p < 6) (hg : g < 6) (q : Nat × UU) (hq : qp n fa sa q) (rr : Option Value) (uu : UU) (K : ∀ z, z = km_l1 s c a (some p) (some g) q.2 → ow X (vM Y n s c) rr uu z.2 [(0, .ref (pv_ad (vM Y n s c) 0 0)), (1, .int (nI z.1)), (2, .int (nI r)), (3, .int (nI a))] 191 []) : ow X (vM Y n s c) rr uu q.2 [(0, .ref (pv_ad (vM Y n s c) 0 0)), (1, .int (nI q.1)), (2, .int (nI r)), (3, .int (nI a)), (4, .int (nI p)), (5, .int (nI g))] 130 [] := by
  have hq1 : qp n fa sa (km_place s c q.2 (200 + 10 * a + p)) := ⟨km_place_le, pp_place hq.2 (by omega)⟩
  refine ow_aload_n (pc := 130) hX d_M_placeAll_130 rfl ?_
  refine ow_sipush (pc := 131) (v := nI 200) hX d_M_placeAll_131 (by decide) ?_
  refine ow_bipush (pc := 134) (v := nI 10) hX d_M_placeAll_134 (by decide) ?_
  refine ow_iload_n (pc := 136) hX d_M_placeAll_136 rfl ?_
  refine ow_muln (pc := 137) hX d_M_placeAll_137 ?_
  refine ow_addn (pc := 138) hX d_M_placeAll_138 ?_
  refine ow_iload (pc := 139) hX d_M_placeAll_139 rfl ?_
  refine ow_addn (pc := 141) hX d_M_placeAll_141 ?_
  refine ow_callV (pc := 142) hX (kd_M Y n s c) Nat.zero_lt_one (c_M_place _ Y n s c hV q.2 (200 + 10 * a + p) (by omega) hs h0 hc hq.2.1) (cw_V hX mz_M_place kw_633 ⟨rfl, rfl⟩ (by decide)) rfl (Nat.le_of_ble_eq_true rfl) d_M_placeAll_142 rfl ?_
  refine ow_istore_n (pc := 145) (l2 := [(0, _), (1, _), (2, _), (3, _), (4, _), (5, _)]) hX d_M_placeAll_145 (by decide) rfl rfl ?_
  refine ow_iload_n (pc := 146) hX d_M_placeAll_146 rfl ?_
  refine ow_nz_eq (pc := 147) (tgt := 171) hX d_M_placeAll_147 (by decide) (by first | assumption | omega | (have := hq1.1; omega) | (have := hq.1; omega)) (fun h147 => ?_) (fun h147 => ?_)
  · skip
    first | (refine ow_loc (l2 := [(0, _), (1, _), (2, _), (3, _), (4, _)]) (fun q hq => by simp only [List.mem_cons, List.not_mem_nil, or_false] at hq ⊢; rcases hq with rfl | rfl | rfl | rfl | rfl <;> simp) (w_M_all3 Y n s c hX hV hn hs h0 hc fa sa r a p ha hp (km_place s c q.2 (200 + 10 * a + p)) hq1 rr uu (fun z hz => K z (by rw [hz, km_l1, km_l2, if_pos h147])))) | (refine ow_loc (l2 := [(0, _), (1, _), (2, _), (3, _), (4, _)]) (fun q hq => by simp only [List.mem_cons, List.not_mem_nil, or_false] at hq ⊢; rcases hq with rfl | rfl | rfl | rfl | rfl <;> simp) (w_M_all3 Y n s c hX hV hn hs h0 hc fa sa r a p ha hp (km_place s c (km_place s c q.2 (200 + 10 * a + p)).2 (200 + 10 * a + g)) ⟨km_place_le, pp_place hq1.2 (by omega)⟩ rr uu (fun z hz => K z (by rw [hz, km_l1, km_l2, if_neg h147]))))
  · skip
    refine ow_iload (pc := 150) hX d_M_placeAll_150 rfl ?_
    refine ow_nz_lt (pc := 152) (tgt := 171) hX d_M_placeAll_152 (by decide) (by first | assumption | omega | (have := hq1.1; omega) | (have := hq.1; omega)) ?_
    refine ow_aload_n (pc := 155) hX d_M_placeAll_155 rfl ?_
    refine ow_sipush (pc := 156) (v := nI 200) hX d_M_placeAll_156 (by decide) ?_
    refine ow_bipush (pc := 159) (v := nI 10) hX d_M_placeAll_159 (by decide) ?_
    refine ow_iload_n (pc := 161) hX d_M_placeAll_161 rfl ?_
    refine ow_muln (pc := 162) hX d_M_placeAll_162 ?_
    refine ow_addn (pc := 163) hX d_M_placeAll_163 ?_
    refine ow_iload (pc := 164) hX d_M_placeAll_164 rfl ?_
    refine ow_addn (pc := 166) hX d_M_placeAll_166 ?_
    refine ow_callV (pc := 167) hX (kd_M Y n s c) Nat.zero_lt_one (c_M_place _ Y n s c hV (km_place s c q.2 (200 + 10 * a + p)).2 (200 + 10 * a + g) (by omega) hs h0 hc hq1.2.1) (cw_V hX mz_M_place kw_633 ⟨rfl, rfl⟩ (by decide)) rfl (Nat.le_of_ble_eq_true rfl) d_M_placeAll_167 rfl ?_
    refine ow_istore_n (pc := 170) (l2 := [(0, _), (1, _), (2, _), (3, _), (4, _), (5, _)]) hX d_M_placeAll_170 (by decide) rfl rfl ?_
    first | (refine ow_loc (l2 := [(0, _), (1, _), (2, _), (3, _), (4, _)]) (fun q hq => by simp only [List.mem_cons, List.not_mem_nil, or_false] at hq ⊢; rcases hq with rfl | rfl | rfl | rfl | rfl <;> simp) (w_M_all3 Y n s c hX hV hn hs h0 hc fa sa r a p ha hp (km_place s c q.2 (200 + 10 * a + p)) hq1 rr uu (fun z hz => K z (by rw [hz, km_l1, km_l2, if_pos h147])))) | (refine ow_loc (l2 := [(0, _), (1, _), (2, _), (3, _), (4, _)]) (fun q hq => by simp only [List.mem_cons, List.not_mem_nil, or_false] at hq ⊢; rcases hq with rfl | rfl | rfl | rfl | rfl <;> simp) (w_M_all3 Y n s c hX hV hn hs h0 hc fa sa r a p ha hp (km_place s c (km_place s c q.2 (200 + 10 * a + p)).2 (200 + 10 * a + g)) ⟨km_place_le, pp_place hq1.2 (by omega)⟩ rr uu (fun z hz => K z (by rw [hz, km_l1, km_l2, if_neg h147]))))
set_option maxRecDepth 100000 in
set_option maxHeartbeats 4000000 in
theorem w_M_all6 {X : OX} (Y : YY) (n s c : Nat) (hX : ox X (vM Y n s c) (rd 2) b_M_placeAll 6 "SlottedMeshModel" gz (some .boolean)) (hV : pv_ok (vM Y n s c)) (hn : n ≤ 6) (hs : s ≤ 24) (h0 : 0 < c) (hc : c ≤ 4) (fa sa : Nat → Option Nat) (r : Nat) (hr0 : 1 ≤ r) (hr : r < 6) (rr : Option Value) (uu : UU) : ∀ j k (q : Nat × UU), qp n fa sa q → k + j = n → (∀ z, z = km_L s c fa sa r j k q → ow X (vM Y n s c) rr uu z.2 [(0, .ref (pv_ad (vM Y n s c) 0 0)), (1, .int (nI z.1)), (2, .int (nI r))] 197 []) → ow X (vM Y n s c) rr uu q.2 [(0, .ref (pv_ad (vM Y n s c) 0 0)), (1, .int (nI q.1)), (2, .int (nI r)), (3, .int (nI k))] 83 [] := by
  intro j
  induction j with
  | zero =>
    intro k q hq hk K
    refine ow_iload_n (pc := 83) hX d_M_placeAll_83 rfl ?_
    refine ow_aload_n (pc := 84) hX d_M_placeAll_84 rfl ?_
    refine ow_gK (pc := 85) hX (kd_M Y n s c) 0 d_M_placeAll_85 kw_501 rfl Nat.zero_lt_one ?_
    refine ow_nc_ge (pc := 88) (tgt := 197) hX d_M_placeAll_88 (by decide) (by first | assumption | omega | (have := hq.1; omega) | (have := hq.2.2.1 k; omega)) (by first | assumption | omega | (have := hq.1; omega) | (have := hq.2.2.1 k; omega)) (fun h88 => ?_) (fun h88 => ?_)
    · skip
      have K := K q rfl
      refine ow_loc (l2 := [(0, _), (1, _), (2, _)]) (fun q hq => by simp only [List.mem_cons, List.not_mem_nil, or_false] at hq ⊢; rcases hq with rfl | rfl | rfl <;> simp) (K)
    · skip
      exact absurd h88 (by omega)
  | succ j ih =>
    intro k q hq hk K
    refine ow_iload_n (pc := 83) hX d_M_placeAll_83 rfl ?_
    refine ow_aload_n (pc := 84) hX d_M_placeAll_84 rfl ?_
    refine ow_gK (pc := 85) hX (kd_M Y n s c) 0 d_M_placeAll_85 kw_501 rfl Nat.zero_lt_one ?_
    refine ow_nc_ge (pc := 88) (tgt := 197) hX d_M_placeAll_88 (by decide) (by first | assumption | omega | (have := hq.1; omega) | (have := hq.2.2.1 k; omega)) (by first | assumption | omega | (have := hq.1; omega) | (have := hq.2.2.1 k; omega)) (fun h88 => ?_) (fun h88 => ?_)
    · skip
      exact absurd h88 (by omega)
    · skip
      refine ow_iload_n (pc := 91) hX d_M_placeAll_91 rfl ?_
      refine ow_nz_eq (pc := 92) (tgt := 197) hX d_M_placeAll_92 (by decide) (by first | assumption | omega | (have := hq.1; omega) | (have := hq.2.2.1 k; omega)) (fun h92 => ?_) (fun h92 => ?_)
      · skip
        have K := K q (by rw [km_L, if_pos h92])
        refine ow_loc (l2 := [(0, _), (1, _), (2, _)]) (fun q hq => by simp only [List.mem_cons, List.not_mem_nil, or_false] at hq ⊢; rcases hq with rfl | rfl | rfl <;> simp) (K)
      · skip
        refine ow_aload_n (pc := 95) hX d_M_placeAll_95 rfl ?_
        refine ow_gR (pc := 96) hX (kd_M Y n s c) 17 d_M_placeAll_96 kw_518 rfl Nat.zero_lt_one ?_
        refine ow_iconst (pc := 99) (v := nI 2) hX d_M_placeAll_99 (by decide) ?_
        refine ow_iload_n (pc := 100) hX d_M_placeAll_100 rfl ?_
        refine ow_muln (pc := 101) hX d_M_placeAll_101 ?_
        refine ow_aI (pc := 102) hX rfl d_M_placeAll_102 Nat.zero_lt_one (by show _ < 12; first | assumption | omega) ?_
        refine ow_istore (pc := 103) (l2 := [(0, _), (1, _), (2, _), (3, _), (4, _)]) hX d_M_placeAll_103 (by decide) rfl rfl ?_
        refine ow_aload_n (pc := 105) hX d_M_placeAll_105 rfl ?_
        refine ow_gR (pc := 106) hX (kd_M Y n s c) 17 d_M_placeAll_106 kw_518 rfl Nat.zero_lt_one ?_
        refine ow_iconst (pc := 109) (v := nI 2) hX d_M_placeAll_109 (by decide) ?_
        refine ow_iload_n (pc := 110) hX d_M_placeAll_110 rfl ?_
        refine ow_muln (pc := 111) hX d_M_placeAll_111 ?_
        refine ow_iconst (pc := 112) (v := nI 1) hX d_M_placeAll_112 (by decide) ?_
        refine ow_addn (pc := 113) hX d_M_placeAll_113 ?_
        refine ow_aI (pc := 114) hX rfl d_M_placeAll_114 Nat.zero_lt_one (by show _ < 12; first | assumption | omega) ?_
        refine ow_istore (pc := 115) (l2 := [(0, _), (1, _), (2, _), (3, _), (4, _), (5, _)]) hX d_M_placeAll_115 (by decide) rfl rfl ?_
        refine ow_aload_n (pc := 117) hX d_M_placeAll_117 rfl ?_
        refine ow_gR (pc := 118) hX (kd_M Y n s c) 16 d_M_placeAll_118 kw_517 rfl Nat.zero_lt_one ?_
        refine ow_iload_n (pc := 121) hX d_M_placeAll_121 rfl ?_
        refine ow_aN (pc := 122) hX rfl d_M_placeAll_122 Nat.zero_lt_one (by show _ < 6; first | assumption | omega) ?_
        refine ow_iload_n (pc := 123) hX d_M_placeAll_123 rfl ?_
        refine ow_nc_eq (pc := 124) (tgt := 130) hX d_M_placeAll_124 (by decide) (by first | assumption | omega | (have := hq.1; omega) | (have := hq.2.2.1 k; omega)) (by first | assumption | omega | (have := hq.1; omega) | (have := hq.2.2.1 k; omega)) (fun h124 => ?_) (fun h124 => ?_)
        · skip
          obtain ⟨p, hp1, hp2⟩ := hq.2.2.2.2.2.1 k h88 (by omega)
          rw [hq.2.2.2.1 k h88, hq.2.2.2.2.1 k h88, hp1]
          have hql : qp n fa sa (km_l1 s c k (fa k) (sa k) q.2) := qp_l1 (by omega) (fun b hb => by rw [hp1] at hb; cases hb; omega) (fun b hb => by have := hq.2.2.2.2.2.2 k b hb; omega) hq.2
          rcases hg : sa k with _ | g
          · refine w_M_all4 Y n s c hX hV hn hs h0 hc fa sa r k p (by omega) (by omega) q hq rr uu (fun z hz => ?_)
            refine ow_iinc (pc := 191) (l2 := [(0, _), (1, _), (2, _), (3, _)]) hX d_M_placeAll_191 rfl (ii_1 _) (by decide) rfl rfl ?_
            refine ow_goto (pc := 194) (tgt := 83) hX d_M_placeAll_194 (by decide) ?_
            exact ih (k + 1) z (by rw [hz, ← hp1, ← hg]; exact hql) (by omega) (fun y hy => K y (by rw [hy, hz, km_L, if_neg h92, if_pos h124, hp1, hg]))
          · have hgb := hq.2.2.2.2.2.2 k g hg
            refine w_M_all5 Y n s c hX hV hn hs h0 hc fa sa r k p g (by omega) (by omega) (by omega) q hq rr uu (fun z hz => ?_)
            refine ow_iinc (pc := 191) (l2 := [(0, _), (1, _), (2, _), (3, _)]) hX d_M_placeAll_191 rfl (ii_1 _) (by decide) rfl rfl ?_
            refine ow_goto (pc := 194) (tgt := 83) hX d_M_placeAll_194 (by decide) ?_
            exact ih (k + 1) z (by rw [hz, ← hp1, ← hg]; exact hql) (by omega) (fun y hy => K y (by rw [hy, hz, km_L, if_neg h92, if_pos h124, hp1, hg]))
        · skip
          refine ow_goto (pc := 127) (tgt := 191) hX d_M_placeAll_127 (by decide) ?_
          refine ow_iinc (pc := 191) (l2 := [(0, _), (1, _), (2, _), (3, _), (4, _), (5, _)]) hX d_M_placeAll_191 rfl (ii_1 _) (by decide) rfl rfl ?_
          refine ow_goto (pc := 194) (tgt := 83) hX d_M_placeAll_194 (by decide) ?_
          refine ow_loc (l2 := [(0, _), (1, _), (2, _), (3, _)]) (fun q hq => by simp only [List.mem_cons, List.not_mem_nil, or_false] at hq ⊢; rcases hq with rfl | rfl | rfl | rfl <;> simp) (ih (k + 1) q hq (by omega) (fun z hz => K z (by rw [hz, km_L, if_neg h92, if_neg h124])))
set_option maxRecDepth 100000 in
set_option maxHeartbeats 4000000 in
theorem w_M_all7 {X : OX} (Y : YY) (n s c : Nat) (hX : ox X (vM Y n s c) (rd 2) b_M_placeAll 6 "SlottedMeshModel" gz (some .boolean)) (hV : pv_ok (vM Y n s c)) (hn : n ≤ 6) (hs : s ≤ 24) (h0 : 0 < c) (hc : c ≤ 4) (fa sa : Nat → Option Nat) : ∀ j k (q : Nat × UU), qp n fa sa q → 1 ≤ k → k + j = 6 → ow X (vM Y n s c) (some (.int (nI (km_LL n s c fa sa j k q).1))) (km_LL n s c fa sa j k q).2 q.2 [(0, .ref (pv_ad (vM Y n s c) 0 0)), (1, .int (nI q.1)), (2, .int (nI k))] 75 [] := by
  intro j
  induction j with
  | zero =>
    intro k q hq h1 hk
    refine ow_iload_n (pc := 75) hX d_M_placeAll_75 rfl ?_
    refine ow_bipush (pc := 76) (v := nI 6) hX d_M_placeAll_76 (by decide) ?_
    refine ow_nc_ge (pc := 78) (tgt := 203) hX d_M_placeAll_78 (by decide) (by first | assumption | omega | (have := hq.1; omega) | (have := hq.2.2.1 k; omega)) (by first | assumption | omega | (have := hq.1; omega) | (have := hq.2.2.1 k; omega)) (fun h78 => ?_) (fun h78 => ?_)
    · skip
      refine ow_iload_n (pc := 203) hX d_M_placeAll_203 rfl ?_
      exact ow_zret (pc := 204) hX d_M_placeAll_204 (nb_01 (by have := hq.1; omega)) (by rfl) (by rfl)
    · skip
      exact absurd h78 (by omega)
  | succ j ih =>
    intro k q hq h1 hk
    refine ow_iload_n (pc := 75) hX d_M_placeAll_75 rfl ?_
    refine ow_bipush (pc := 76) (v := nI 6) hX d_M_placeAll_76 (by decide) ?_
    refine ow_nc_ge (pc := 78) (tgt := 203) hX d_M_placeAll_78 (by decide) (by first | assumption | omega | (have := hq.1; omega) | (have := hq.2.2.1 k; omega)) (by first | assumption | omega | (have := hq.1; omega) | (have := hq.2.2.1 k; omega)) (fun h78 => ?_) (fun h78 => ?_)
    · skip
      exact absurd h78 (by omega)
    · skip
      refine ow_iconst (pc := 81) (v := nI 0) hX d_M_placeAll_81 (by decide) ?_
      refine ow_istore_n (pc := 82) (l2 := [(0, _), (1, _), (2, _), (3, _)]) hX d_M_placeAll_82 (by decide) rfl rfl ?_
      refine w_M_all6 Y n s c hX hV hn hs h0 hc fa sa k (by omega) (by omega) _ _ n 0 q hq (by omega) (fun z hz => ?_)
      refine ow_iinc (pc := 197) (l2 := [(0, _), (1, _), (2, _)]) hX d_M_placeAll_197 rfl (ii_1 _) (by decide) rfl rfl ?_
      refine ow_goto (pc := 200) (tgt := 75) hX d_M_placeAll_200 (by decide) ?_
      have ih := ih (k + 1) z (by rw [hz]; exact qp_L hn (by omega) n 0 q (by omega) hq) (by omega) (by omega)
      rw [km_LL, ← hz]
      exact ih
theorem qp_AA {n : Nat} {fa sa : Nat → Option Nat} {s c : Nat} (hn : n ≤ 6) : ∀ j r q, qp n fa sa q → qp n fa sa (km_AA n s c j r q) := by
  intro j
  induction j with
  | zero => intro r q h; exact h
  | succ j ih => intro r q h; exact ih _ _ (qp_A hn n 0 q (by omega) h)
theorem qp_LL {n : Nat} {fa sa : Nat → Option Nat} {s c : Nat} (hn : n ≤ 6) : ∀ j r q, 1 ≤ r → qp n fa sa q → qp n fa sa (km_LL n s c fa sa j r q) := by
  intro j
  induction j with
  | zero => intro r q _ h; exact h
  | succ j ih => intro r q hr h; exact ih _ _ (by omega) (qp_L hn hr n 0 q (by omega) h)
theorem qp_all {n : Nat} {fa sa : Nat → Option Nat} {s c : Nat} {u : UU} (hn : n ≤ 6) (h : pp n fa sa u) : qp n fa sa (km_all n s c fa sa u) := qp_LL hn 5 1 _ (by omega) (qp_AA hn 6 0 _ ⟨Nat.le_refl 1, pp_cl h⟩)
set_option maxRecDepth 100000 in
set_option maxHeartbeats 4000000 in
theorem c_M_placeAll (l : Launch) (Y : YY) (n s c : Nat) (hV : pv_ok (vM Y n s c)) (u : UU) (hn : n ≤ 6) (hs : s ≤ 24) (h0 : 0 < c) (hc : c ≤ 4) (fa sa : Nat → Option Nat) (hp : pp n fa sa u) : Ct l (vM Y n s c) ⟨"SlottedMeshModel", "placeAll", "()Z"⟩ (wz ⟨"SlottedMeshModel", "placeAll", "()Z"⟩ b_M_placeAll 6 (some .boolean)) (rd 2) [.ref (pv_ad (vM Y n s c) 0 0)] u (some (.int (nI (km_all n s c fa sa u).1))) ((km_all n s c fa sa u).2) := by
  refine ct_mk hV (by decide +kernel) (Nat.le_of_ble_eq_true rfl) (fun X hX => ?_)
  have hX : ox X (vM Y n s c) (rd 2) b_M_placeAll 6 "SlottedMeshModel" gz (some .boolean) := hX
  show ow X (vM Y n s c) (some (.int (nI (km_all n s c fa sa u).1))) ((km_all n s c fa sa u).2) u [(0, .ref (pv_ad (vM Y n s c) 0 0))] 0 []
  refine ow_iconst (pc := 0) (v := nI 1) hX d_M_placeAll_0 (by decide) ?_
  refine ow_istore_n (pc := 1) (l2 := [(0, _), (1, _)]) hX d_M_placeAll_1 (by decide) rfl rfl ?_
  refine ow_iconst (pc := 2) (v := nI 0) hX d_M_placeAll_2 (by decide) ?_
  refine ow_istore_n (pc := 3) (l2 := [(0, _), (1, _), (2, _)]) hX d_M_placeAll_3 (by decide) rfl rfl ?_
  refine w_M_all0 Y n s c hX u _ _ ?_ 96 0 (by omega)
  refine ow_iconst (pc := 23) (v := nI 0) hX d_M_placeAll_23 (by decide) ?_
  refine ow_istore_n (pc := 24) (l2 := [(0, _), (1, _), (2, _)]) hX d_M_placeAll_24 (by decide) rfl rfl ?_
  refine w_M_all2 Y n s c hX hV hn hs h0 hc fa sa _ _ 6 0 (1, km_cl u) ⟨Nat.le_refl 1, pp_cl hp⟩ (by omega) (fun z hz => ?_)
  refine ow_iconst (pc := 73) (v := nI 1) hX d_M_placeAll_73 (by decide) ?_
  refine ow_istore_n (pc := 74) (l2 := [(0, _), (1, _), (2, _)]) hX d_M_placeAll_74 (by decide) rfl rfl ?_
  unfold km_all
  rw [← hz]
  exact w_M_all7 Y n s c hX hV hn hs h0 hc fa sa 5 1 z (by rw [hz]; exact qp_AA hn 6 0 _ ⟨Nat.le_refl 1, pp_cl hp⟩) (by omega) (by omega)
def km_c1 (k : Nat) (w : UU × Nat) : UU × Nat := (un w.1 10 0 k (w.1.1 13 0 k), w.2 + if w.1.1 13 0 k < 200 then 0 else 1)
theorem km_c1_a {k : Nat} {w : UU × Nat} (h : w.1.1 13 0 k < 200) : km_c1 k w = (un w.1 10 0 k (w.1.1 13 0 k), w.2 + 0) := by unfold km_c1; rw [if_pos h]
theorem km_c1_b {k : Nat} {w : UU × Nat} (h : 200 ≤ w.1.1 13 0 k) : km_c1 k w = (un w.1 10 0 k (w.1.1 13 0 k), w.2 + 1) := by unfold km_c1; rw [if_neg (by omega)]
def km_c2 (k : Nat) (w : UU) : UU := ui w 9 0 k (w.2.1 12 0 k)
def km_c3 (k : Nat) (w : UU) : UU := un (un (un (un (un w 8 0 k (w.1 11 0 k)) 3 0 k (if k = 0 then 1 else 0)) 18 0 k 0) 19 0 k 0) 14 0 (6 + k) 0
theorem km_c3_a {k : Nat} {w : UU} (h : k = 0) : km_c3 k w = un (un (un (un (un w 8 0 k (w.1 11 0 k)) 3 0 k 1) 18 0 k 0) 19 0 k 0) 14 0 (6 + k) 0 := by unfold km_c3; rw [if_pos h]
theorem km_c3_b {k : Nat} {w : UU} (h : ¬ k = 0) : km_c3 k w = un (un (un (un (un w 8 0 k (w.1 11 0 k)) 3 0 k 0) 18 0 k 0) 19 0 k 0) 14 0 (6 + k) 0 := by unfold km_c3; rw [if_neg h]
def km_cq (n : Nat) (u : UU) (k : Nat) : UU × Nat := fo km_c1 (un u 0 0 12 1, n) k
def km_fin (n : Nat) (u : UU) : UU := fo km_c3 (fo km_c2 (km_cq n u 96).1 12) 6
def km_pl (n s c : Nat) (fa sa : Nat → Option Nat) (w : UU) : Int32 × UU := if (km_all n s c fa sa w).1 = 0 then (-1, (km_all n s c fa sa w).2) else (nI (km_cq n (km_all n s c fa sa w).2 96).2, km_fin n (km_all n s c fa sa w).2)
def km_plan (n s c : Nat) (fa sa : Nat → Option Nat) (u : UU) : Int32 × UU := if km_al (km_rk n u) n = 0 then (-1, km_rk n u) else km_pl n s c fa sa (km_parents n (km_rk n u))
theorem km_cq_13 (n : Nat) (u : UU) (k q : Nat) : (km_cq n u k).1.1 13 0 q = u.1 13 0 q := by
  induction k with
  | zero => rfl
  | succ k ih =>
    show (un (km_cq n u k).1 10 0 k _).1 13 0 q = _
    rw [un_1, if_neg (by omega)]
    exact ih
theorem km_cq_11 (n : Nat) (u : UU) (k q : Nat) : (km_cq n u k).1.1 11 0 q = u.1 11 0 q := by
  induction k with
  | zero => rfl
  | succ k ih =>
    show (un (km_cq n u k).1 10 0 k _).1 11 0 q = _
    rw [un_1, if_neg (by omega)]
    exact ih
set_option maxRecDepth 100000 in
set_option maxHeartbeats 4000000 in
theorem w_M_plan1 {X : OX} (Y : YY) (n s c : Nat) (hX : ox X (vM Y n s c) (rd 3) b_M_plan 3 "SlottedMeshModel" gz (some .int)) (u : UU) (hg : ∀ q, u.1 13 0 q < 400) (rr : Option Value) (uu : UU) (K : ow X (vM Y n s c) rr uu (km_cq n u 96).1 [(0, .ref (pv_ad (vM Y n s c) 0 0)), (1, .int (nI (km_cq n u 96).2))] 78 []) : ∀ j k, k + j = 96 → ow X (vM Y n s c) rr uu (km_cq n u k).1 [(0, .ref (pv_ad (vM Y n s c) 0 0)), (1, .int (nI (km_cq n u k).2)), (2, .int (nI k))] 34 [] := by
  intro j
  induction j with
  | zero =>
    intro k hk
    obtain ⟨w, hwe⟩ : ∃ w, w = (km_cq n u k) := ⟨_, rfl⟩
    have hwk : w.1.1 13 0 k < 400 := by rw [hwe, km_cq_13]; exact hg k
    rw [← hwe]
    refine ow_iload_n (pc := 34) hX d_M_plan_34 rfl ?_
    refine ow_bipush (pc := 35) (v := nI 96) hX d_M_plan_35 (by decide) ?_
    refine ow_nc_ge (pc := 37) (tgt := 78) hX d_M_plan_37 (by decide) (by first | assumption | omega) (by first | assumption | omega) (fun h37 => ?_) (fun h37 => ?_)
    · skip
      have e9 : k = 96 := by omega
      subst e9
      rw [← hwe] at K
      refine ow_loc (l2 := [(0, _), (1, _)]) (fun q hq => by simp only [List.mem_cons, List.not_mem_nil, or_false] at hq ⊢; rcases hq with rfl | rfl <;> simp) (K)
    · skip
      exact absurd h37 (by omega)
  | succ j ih =>
    intro k hk
    obtain ⟨w, hwe⟩ : ∃ w, w = (km_cq n u k) := ⟨_, rfl⟩
    have hwk : w.1.1 13 0 k < 400 := by rw [hwe, km_cq_13]; exact hg k
    rw [← hwe]
    refine ow_iload_n (pc := 34) hX d_M_plan_34 rfl ?_
    refine ow_bipush (pc := 35) (v := nI 96) hX d_M_plan_35 (by decide) ?_
    refine ow_nc_ge (pc := 37) (tgt := 78) hX d_M_plan_37 (by decide) (by first | assumption | omega) (by first | assumption | omega) (fun h37 => ?_) (fun h37 => ?_)
    · skip
      exact absurd h37 (by omega)
    · skip
      refine ow_aload_n (pc := 40) hX d_M_plan_40 rfl ?_
      refine ow_gR (pc := 41) hX (kd_M Y n s c) 15 d_M_plan_41 kw_516 rfl Nat.zero_lt_one ?_
      refine ow_iload_n (pc := 44) hX d_M_plan_44 rfl ?_
      refine ow_aload_n (pc := 45) hX d_M_plan_45 rfl ?_
      refine ow_gR (pc := 46) hX (kd_M Y n s c) 18 d_M_plan_46 kw_519 rfl Nat.zero_lt_one ?_
      refine ow_iload_n (pc := 49) hX d_M_plan_49 rfl ?_
      refine ow_aN (pc := 50) hX rfl d_M_plan_50 Nat.zero_lt_one (by show _ < 96; first | assumption | omega) ?_
      refine ow_sN (pc := 51) hX rfl d_M_plan_51 Nat.zero_lt_one (by show _ < 96; first | assumption | omega) ?_
      refine ow_iload_n (pc := 52) hX d_M_plan_52 rfl ?_
      refine ow_aload_n (pc := 53) hX d_M_plan_53 rfl ?_
      refine ow_gR (pc := 54) hX (kd_M Y n s c) 15 d_M_plan_54 kw_516 rfl Nat.zero_lt_one ?_
      refine ow_iload_n (pc := 57) hX d_M_plan_57 rfl ?_
      refine ow_aN (pc := 58) hX rfl d_M_plan_58 Nat.zero_lt_one (by show _ < 96; first | assumption | omega) ?_
      try simp only [un_1, un_2, ui_1, ui_2, ui_3, ul_1, ul_2, ul_3, ul_4, ur_1, ur_2, ur_3, ur_4, Nat.reduceEqDiff, false_and, and_false, true_and, and_true, and_self, reduceIte]
      refine ow_sipush (pc := 59) (v := nI 200) hX d_M_plan_59 (by decide) ?_
      refine ow_nc_lt (pc := 62) (tgt := 69) hX d_M_plan_62 (by decide) (by first | assumption | omega) (by first | assumption | omega) (fun h62 => ?_) (fun h62 => ?_)
      · skip
        refine ow_iconst (pc := 69) (v := nI 0) hX d_M_plan_69 (by decide) ?_
        refine ow_addn (pc := 70) hX d_M_plan_70 ?_
        refine ow_istore_n (pc := 71) (l2 := [(0, _), (1, _), (2, _)]) hX d_M_plan_71 (by decide) rfl rfl ?_
        refine ow_iinc (pc := 72) (l2 := [(0, _), (1, _), (2, _)]) hX d_M_plan_72 rfl (ii_1 _) (by decide) rfl rfl ?_
        refine ow_goto (pc := 75) (tgt := 34) hX d_M_plan_75 (by decide) ?_
        have ih := ih (k + 1) (by omega)
        unfold km_cq at hwe ih
        first | (rw [fo_s, ← hwe, km_c1_a h62] at ih; exact ih) | (rw [fo_s, ← hwe, km_c1_b h62] at ih; exact ih)
      · skip
        refine ow_iconst (pc := 65) (v := nI 1) hX d_M_plan_65 (by decide) ?_
        refine ow_goto (pc := 66) (tgt := 70) hX d_M_plan_66 (by decide) ?_
        refine ow_addn (pc := 70) hX d_M_plan_70 ?_
        refine ow_istore_n (pc := 71) (l2 := [(0, _), (1, _), (2, _)]) hX d_M_plan_71 (by decide) rfl rfl ?_
        refine ow_iinc (pc := 72) (l2 := [(0, _), (1, _), (2, _)]) hX d_M_plan_72 rfl (ii_1 _) (by decide) rfl rfl ?_
        refine ow_goto (pc := 75) (tgt := 34) hX d_M_plan_75 (by decide) ?_
        have ih := ih (k + 1) (by omega)
        unfold km_cq at hwe ih
        first | (rw [fo_s, ← hwe, km_c1_a h62] at ih; exact ih) | (rw [fo_s, ← hwe, km_c1_b h62] at ih; exact ih)
set_option maxRecDepth 100000 in
set_option maxHeartbeats 4000000 in
theorem w_M_plan2 {X : OX} (Y : YY) (n s c : Nat) (hX : ox X (vM Y n s c) (rd 3) b_M_plan 3 "SlottedMeshModel" gz (some .int)) (u : UU) (m : Nat) (rr : Option Value) (uu : UU) (K : ow X (vM Y n s c) rr uu (fo km_c2 u 12) [(0, .ref (pv_ad (vM Y n s c) 0 0)), (1, .int (nI m))] 104 []) : ∀ j k, k + j = 12 → ow X (vM Y n s c) rr uu (fo km_c2 u k) [(0, .ref (pv_ad (vM Y n s c) 0 0)), (1, .int (nI m)), (2, .int (nI k))] 80 [] := by
  intro j
  induction j with
  | zero =>
    intro k hk
    refine ow_iload_n (pc := 80) hX d_M_plan_80 rfl ?_
    refine ow_bipush (pc := 81) (v := nI 12) hX d_M_plan_81 (by decide) ?_
    refine ow_nc_ge (pc := 83) (tgt := 104) hX d_M_plan_83 (by decide) (by first | assumption | omega) (by first | assumption | omega) (fun h83 => ?_) (fun h83 => ?_)
    · skip
      have e9 : k = 12 := by omega
      subst e9
      refine ow_loc (l2 := [(0, _), (1, _)]) (fun q hq => by simp only [List.mem_cons, List.not_mem_nil, or_false] at hq ⊢; rcases hq with rfl | rfl <;> simp) (K)
    · skip
      exact absurd h83 (by omega)
  | succ j ih =>
    intro k hk
    refine ow_iload_n (pc := 80) hX d_M_plan_80 rfl ?_
    refine ow_bipush (pc := 81) (v := nI 12) hX d_M_plan_81 (by decide) ?_
    refine ow_nc_ge (pc := 83) (tgt := 104) hX d_M_plan_83 (by decide) (by first | assumption | omega) (by first | assumption | omega) (fun h83 => ?_) (fun h83 => ?_)
    · skip
      exact absurd h83 (by omega)
    · skip
      refine ow_aload_n (pc := 86) hX d_M_plan_86 rfl ?_
      refine ow_gR (pc := 87) hX (kd_M Y n s c) 14 d_M_plan_87 kw_515 rfl Nat.zero_lt_one ?_
      refine ow_iload_n (pc := 90) hX d_M_plan_90 rfl ?_
      refine ow_aload_n (pc := 91) hX d_M_plan_91 rfl ?_
      refine ow_gR (pc := 92) hX (kd_M Y n s c) 17 d_M_plan_92 kw_518 rfl Nat.zero_lt_one ?_
      refine ow_iload_n (pc := 95) hX d_M_plan_95 rfl ?_
      refine ow_aI (pc := 96) hX rfl d_M_plan_96 Nat.zero_lt_one (by show _ < 12; first | assumption | omega) ?_
      refine ow_sI (pc := 97) hX rfl d_M_plan_97 Nat.zero_lt_one (by show _ < 12; first | assumption | omega) ?_
      refine ow_iinc (pc := 98) (l2 := [(0, _), (1, _), (2, _)]) hX d_M_plan_98 rfl (ii_1 _) (by decide) rfl rfl ?_
      refine ow_goto (pc := 101) (tgt := 80) hX d_M_plan_101 (by decide) ?_
      exact ih (k + 1) (by omega)
set_option maxRecDepth 100000 in
set_option maxHeartbeats 4000000 in
theorem w_M_plan3 {X : OX} (Y : YY) (n s c : Nat) (hX : ox X (vM Y n s c) (rd 3) b_M_plan 3 "SlottedMeshModel" gz (some .int)) (u : UU) (m : Nat) : ∀ j k, k + j = 6 → ow X (vM Y n s c) (some (.int (nI m))) (fo km_c3 u 6) (fo km_c3 u k) [(0, .ref (pv_ad (vM Y n s c) 0 0)), (1, .int (nI m)), (2, .int (nI k))] 106 [] := by
  intro j
  induction j with
  | zero =>
    intro k hk
    refine ow_iload_n (pc := 106) hX d_M_plan_106 rfl ?_
    refine ow_bipush (pc := 107) (v := nI 6) hX d_M_plan_107 (by decide) ?_
    refine ow_nc_ge (pc := 109) (tgt := 169) hX d_M_plan_109 (by decide) (by first | assumption | omega) (by first | assumption | omega) (fun h109 => ?_) (fun h109 => ?_)
    · skip
      refine ow_iload_n (pc := 169) hX d_M_plan_169 rfl ?_
      exact ow_iret (pc := 170) hX d_M_plan_170 (by first | rfl | rw [show k = 6 by omega]) (by first | rfl | rw [show k = 6 by omega])
    · skip
      exact absurd h109 (by omega)
  | succ j ih =>
    intro k hk
    refine ow_iload_n (pc := 106) hX d_M_plan_106 rfl ?_
    refine ow_bipush (pc := 107) (v := nI 6) hX d_M_plan_107 (by decide) ?_
    refine ow_nc_ge (pc := 109) (tgt := 169) hX d_M_plan_109 (by decide) (by first | assumption | omega | decide) (by first | assumption | omega | decide) (fun h109 => ?_) (fun h109 => ?_)
    · skip
      exact absurd h109 (by omega)
    · skip
      refine ow_aload_n (pc := 112) hX d_M_plan_112 rfl ?_
      refine ow_gR (pc := 113) hX (kd_M Y n s c) 13 d_M_plan_113 kw_514 rfl Nat.zero_lt_one ?_
      refine ow_iload_n (pc := 116) hX d_M_plan_116 rfl ?_
      refine ow_aload_n (pc := 117) hX d_M_plan_117 rfl ?_
      refine ow_gR (pc := 118) hX (kd_M Y n s c) 16 d_M_plan_118 kw_517 rfl Nat.zero_lt_one ?_
      refine ow_iload_n (pc := 121) hX d_M_plan_121 rfl ?_
      refine ow_aN (pc := 122) hX rfl d_M_plan_122 Nat.zero_lt_one (by show _ < 6; first | assumption | omega) ?_
      refine ow_sN (pc := 123) hX rfl d_M_plan_123 Nat.zero_lt_one (by show _ < 6; first | assumption | omega) ?_
      refine ow_aload_n (pc := 124) hX d_M_plan_124 rfl ?_
      refine ow_gR (pc := 125) hX (kd_M Y n s c) 7 d_M_plan_125 kw_508 rfl Nat.zero_lt_one ?_
      refine ow_iload_n (pc := 128) hX d_M_plan_128 rfl ?_
      refine ow_iload_n (pc := 129) hX d_M_plan_129 rfl ?_
      refine ow_nz_ne (pc := 130) (tgt := 137) hX d_M_plan_130 (by decide) (by first | assumption | omega | decide) (fun h130 => ?_) (fun h130 => ?_)
      · skip
        refine ow_iconst (pc := 137) (v := nI 0) hX d_M_plan_137 (by decide) ?_
        refine ow_sZ (pc := 138) hX rfl d_M_plan_138 Nat.zero_lt_one (by show _ < 6; first | assumption | omega) (by first | assumption | omega | decide) ?_
        refine ow_aload_n (pc := 139) hX d_M_plan_139 rfl ?_
        refine ow_gR (pc := 140) hX (kd_M Y n s c) 23 d_M_plan_140 kw_524 rfl Nat.zero_lt_one ?_
        refine ow_iload_n (pc := 143) hX d_M_plan_143 rfl ?_
        refine ow_iconst (pc := 144) (v := nI 0) hX d_M_plan_144 (by decide) ?_
        refine ow_sN (pc := 145) hX rfl d_M_plan_145 Nat.zero_lt_one (by show _ < 6; first | assumption | omega) ?_
        refine ow_aload_n (pc := 146) hX d_M_plan_146 rfl ?_
        refine ow_gR (pc := 147) hX (kd_M Y n s c) 24 d_M_plan_147 kw_525 rfl Nat.zero_lt_one ?_
        refine ow_iload_n (pc := 150) hX d_M_plan_150 rfl ?_
        refine ow_iconst (pc := 151) (v := nI 0) hX d_M_plan_151 (by decide) ?_
        refine ow_sN (pc := 152) hX rfl d_M_plan_152 Nat.zero_lt_one (by show _ < 6; first | assumption | omega) ?_
        refine ow_aload_n (pc := 153) hX d_M_plan_153 rfl ?_
        refine ow_gR (pc := 154) hX (kd_M Y n s c) 19 d_M_plan_154 kw_520 rfl Nat.zero_lt_one ?_
        refine ow_bipush (pc := 157) (v := nI 6) hX d_M_plan_157 (by decide) ?_
        refine ow_iload_n (pc := 159) hX d_M_plan_159 rfl ?_
        refine ow_addn (pc := 160) hX d_M_plan_160 ?_
        refine ow_iconst (pc := 161) (v := nI 0) hX d_M_plan_161 (by decide) ?_
        refine ow_sN (pc := 162) hX rfl d_M_plan_162 Nat.zero_lt_one (by show _ < 12; first | assumption | omega) ?_
        refine ow_iinc (pc := 163) (l2 := [(0, _), (1, _), (2, _)]) hX d_M_plan_163 rfl (ii_1 _) (by decide) rfl rfl ?_
        refine ow_goto (pc := 166) (tgt := 106) hX d_M_plan_166 (by decide) ?_
        have ih := ih (k + 1) (by omega)
        first | (rw [fo_s km_c3 u k, km_c3_a h130] at ih; exact ih) | (rw [fo_s km_c3 u k, km_c3_b h130] at ih; exact ih)
      · skip
        refine ow_iconst (pc := 133) (v := nI 1) hX d_M_plan_133 (by decide) ?_
        refine ow_goto (pc := 134) (tgt := 138) hX d_M_plan_134 (by decide) ?_
        refine ow_sZ (pc := 138) hX rfl d_M_plan_138 Nat.zero_lt_one (by show _ < 6; first | assumption | omega) (by first | assumption | omega | decide) ?_
        refine ow_aload_n (pc := 139) hX d_M_plan_139 rfl ?_
        refine ow_gR (pc := 140) hX (kd_M Y n s c) 23 d_M_plan_140 kw_524 rfl Nat.zero_lt_one ?_
        refine ow_iload_n (pc := 143) hX d_M_plan_143 rfl ?_
        refine ow_iconst (pc := 144) (v := nI 0) hX d_M_plan_144 (by decide) ?_
        refine ow_sN (pc := 145) hX rfl d_M_plan_145 Nat.zero_lt_one (by show _ < 6; first | assumption | omega) ?_
        refine ow_aload_n (pc := 146) hX d_M_plan_146 rfl ?_
        refine ow_gR (pc := 147) hX (kd_M Y n s c) 24 d_M_plan_147 kw_525 rfl Nat.zero_lt_one ?_
        refine ow_iload_n (pc := 150) hX d_M_plan_150 rfl ?_
        refine ow_iconst (pc := 151) (v := nI 0) hX d_M_plan_151 (by decide) ?_
        refine ow_sN (pc := 152) hX rfl d_M_plan_152 Nat.zero_lt_one (by show _ < 6; first | assumption | omega) ?_
        refine ow_aload_n (pc := 153) hX d_M_plan_153 rfl ?_
        refine ow_gR (pc := 154) hX (kd_M Y n s c) 19 d_M_plan_154 kw_520 rfl Nat.zero_lt_one ?_
        refine ow_bipush (pc := 157) (v := nI 6) hX d_M_plan_157 (by decide) ?_
        refine ow_iload_n (pc := 159) hX d_M_plan_159 rfl ?_
        refine ow_addn (pc := 160) hX d_M_plan_160 ?_
        refine ow_iconst (pc := 161) (v := nI 0) hX d_M_plan_161 (by decide) ?_
        refine ow_sN (pc := 162) hX rfl d_M_plan_162 Nat.zero_lt_one (by show _ < 12; first | assumption | omega) ?_
        refine ow_iinc (pc := 163) (l2 := [(0, _), (1, _), (2, _)]) hX d_M_plan_163 rfl (ii_1 _) (by decide) rfl rfl ?_
        refine ow_goto (pc := 166) (tgt := 106) hX d_M_plan_166 (by decide) ?_
        have ih := ih (k + 1) (by omega)
        first | (rw [fo_s km_c3 u k, km_c3_a h130] at ih; exact ih) | (rw [fo_s km_c3 u k, km_c3_b h130] at ih; exact ih)
set_option maxRecDepth 100000 in
set_option maxHeartbeats 4000000 in
theorem c_M_plan (l : Launch) (Y : YY) (n s c : Nat) (hV : pv_ok (vM Y n s c)) (u : UU) (hn : n ≤ 6) (hs : s ≤ 24) (h0 : 0 < c) (hc : c ≤ 4) (hr1 : ∀ j, u.1 1 0 j ≤ 1) (hr2 : ∀ j, u.1 11 0 j ≤ 99) (fa sa : Nat → Option Nat) (hP : km_al (km_rk n u) n ≠ 0 → pp n fa sa (km_parents n (km_rk n u))) : Ct l (vM Y n s c) ⟨"SlottedMeshModel", "plan", "()I"⟩ (wz ⟨"SlottedMeshModel", "plan", "()I"⟩ b_M_plan 3 (some .int)) (rd 3) [.ref (pv_ad (vM Y n s c) 0 0)] u (some (.int (km_plan n s c fa sa u).1)) ((km_plan n s c fa sa u).2) := by
  refine ct_mk hV (by decide +kernel) (Nat.le_of_ble_eq_true rfl) (fun X hX => ?_)
  have hX : ox X (vM Y n s c) (rd 3) b_M_plan 3 "SlottedMeshModel" gz (some .int) := hX
  show ow X (vM Y n s c) (some (.int (km_plan n s c fa sa u).1)) ((km_plan n s c fa sa u).2) u [(0, .ref (pv_ad (vM Y n s c) 0 0))] 0 []
  have hrk : ∀ j, (km_rk n u).1 1 0 j ≤ 1 := (rb_fo (fun _ _ h => rb_rR h) 6 _ (rb_r1 hr1 hr2) : rb (km_rk n u)).1
  refine ow_aload_n (pc := 0) hX d_M_plan_0 rfl ?_
  refine ow_callV (pc := 1) hX (kd_M Y n s c) Nat.zero_lt_one (c_M_ranks _ Y n s c hV u hn hr1 hr2) (cw_V hX mz_M_ranks kw_617 ⟨rfl, rfl⟩ (by decide)) rfl (Nat.le_of_ble_eq_true rfl) d_M_plan_1 rfl ?_
  refine ow_nz_ne (pc := 4) (tgt := 9) hX d_M_plan_4 (by decide) (by first | assumption | omega | exact Nat.lt_of_le_of_lt (km_al_le _ _) (by decide) | exact Nat.lt_of_le_of_lt (qp_all hn (hP h4)).1 (by decide)) (fun h4 => ?_) (fun h4 => ?_)
  · skip
    refine ow_aload_n (pc := 9) hX d_M_plan_9 rfl ?_
    refine ow_callV (pc := 10) hX (kd_M Y n s c) Nat.zero_lt_one (c_M_findParents _ Y n s c hV (km_rk n u) hn hrk) (cw_V hX mz_M_findParents kw_621 ⟨rfl, rfl⟩ (by decide)) rfl (Nat.le_of_ble_eq_true rfl) d_M_plan_10 rfl ?_
    refine ow_aload_n (pc := 13) hX d_M_plan_13 rfl ?_
    refine ow_callV (pc := 14) hX (kd_M Y n s c) Nat.zero_lt_one (c_M_placeAll _ Y n s c hV (km_parents n (km_rk n u)) hn hs h0 hc fa sa (hP h4)) (cw_V hX mz_M_placeAll kw_625 ⟨rfl, rfl⟩ (by decide)) rfl (Nat.le_of_ble_eq_true rfl) d_M_plan_14 rfl ?_
    refine ow_nz_ne (pc := 17) (tgt := 22) hX d_M_plan_17 (by decide) (by first | assumption | omega | exact Nat.lt_of_le_of_lt (km_al_le _ _) (by decide) | exact Nat.lt_of_le_of_lt (qp_all hn (hP h4)).1 (by decide)) (fun h17 => ?_) (fun h17 => ?_)
    · skip
      refine ow_aload_n (pc := 22) hX d_M_plan_22 rfl ?_
      refine ow_gK (pc := 23) hX (kd_M Y n s c) 0 d_M_plan_23 kw_501 rfl Nat.zero_lt_one ?_
      refine ow_istore_n (pc := 26) (l2 := [(0, _), (1, _)]) hX d_M_plan_26 (by decide) rfl rfl ?_
      refine ow_aload_n (pc := 27) hX d_M_plan_27 rfl ?_
      refine ow_iconst (pc := 28) (v := nI 1) hX d_M_plan_28 (by decide) ?_
      refine ow_pZ (pc := 29) hX (kd_M Y n s c) 12 d_M_plan_29 kw_513 rfl Nat.zero_lt_one rfl (by decide +kernel) (by first | assumption | omega | exact Nat.lt_of_le_of_lt (km_al_le _ _) (by decide) | exact Nat.lt_of_le_of_lt (qp_all hn (hP h4)).1 (by decide)) ?_
      refine ow_iconst (pc := 32) (v := nI 0) hX d_M_plan_32 (by decide) ?_
      refine ow_istore_n (pc := 33) (l2 := [(0, _), (1, _), (2, _)]) hX d_M_plan_33 (by decide) rfl rfl ?_
      have hq := qp_all (s := s) (c := c) hn (hP h4)
      rw [km_plan, if_neg h4, km_pl, if_neg h17]
      refine w_M_plan1 Y n s c hX (km_all n s c fa sa (km_parents n (km_rk n u))).2 hq.2.1 _ _ ?_ 96 0 (by omega)
      refine ow_iconst (pc := 78) (v := nI 0) hX d_M_plan_78 (by decide) ?_
      refine ow_istore_n (pc := 79) (l2 := [(0, _), (1, _), (2, _)]) hX d_M_plan_79 (by decide) rfl rfl ?_
      refine w_M_plan2 Y n s c hX _ _ _ _ ?_ 12 0 (by omega)
      refine ow_iconst (pc := 104) (v := nI 0) hX d_M_plan_104 (by decide) ?_
      refine ow_istore_n (pc := 105) (l2 := [(0, _), (1, _), (2, _)]) hX d_M_plan_105 (by decide) rfl rfl ?_
      exact w_M_plan3 Y n s c hX _ _ 6 0 (by omega)
    · skip
      refine ow_iconst (pc := 20) (v := (-1)) hX d_M_plan_20 (by decide) ?_
      exact ow_iret (pc := 21) hX d_M_plan_21 (by first | (rw [km_plan, if_pos h4]; done) | (rw [km_plan, if_neg h4, km_pl, if_pos h17]; done)) (by first | (rw [km_plan, if_pos h4]; done) | (rw [km_plan, if_neg h4, km_pl, if_pos h17]; done))
  · skip
    refine ow_iconst (pc := 7) (v := (-1)) hX d_M_plan_7 (by decide) ?_
    exact ow_iret (pc := 8) hX d_M_plan_8 (by first | (rw [km_plan, if_pos h4]; done) | (rw [km_plan, if_neg h4, km_pl, if_pos h17]; done)) (by first | (rw [km_plan, if_pos h4]; done) | (rw [km_plan, if_neg h4, km_pl, if_pos h17]; done))
