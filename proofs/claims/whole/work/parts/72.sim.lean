/-! Class and model: the calls alike -/
def Sim (n s c t : Nat) (u w : UU) : Prop := ∃ fa p, RR n c u w ∧ wf n u ∧ wm n w ∧ Jv n p (3 * (t : Int)) w ∧ LK n s c fa p u w ∧ w.1 0 0 3 ≤ t ∧ u.2.2.2 5 + u.2.2.2 6 = 1
theorem Jv_le {n : Nat} {p : Nat → Nat} {B C : Int} {w : UU} (h : Jv n p B w) (hB : B ≤ C) : Jv n p C w := ⟨h.1, fun a => by have := h.2 a; omega⟩
theorem Sim_le {n s c t t2 : Nat} {u w : UU} (h : Sim n s c t u w) (ht : t ≤ t2) : Sim n s c t2 u w := by
  obtain ⟨fa, p, h1, h2, h3, h4, h5, h6, h7⟩ := h
  exact ⟨fa, p, h1, h2, h3, Jv_le h4 (by omega), h5, by omega, h7⟩
theorem nf_nd {n : Nat} {x : Int32} (h1 : 1 ≤ n) (hn : n < 2 ^ 31) : nf n x = match nd n x with
    | none => none
    | some a => if a = 0 then none else some a := by
  unfold nf
  by_cases e : x = 0
  · rw [if_pos e, e]
    have : nd n (0 : Int32) = some 0 := nd_nI (a := 0) hn (by omega)
    rw [this]
    rfl
  · rw [if_neg e]
    cases q : nd n x with
    | none => rfl
    | some a =>
      obtain ⟨a1, a2⟩ := nd_some hn q
      show some a = if a = 0 then none else some a
      rw [if_neg]
      intro z
      rw [z] at a2
      exact e a2
theorem km_add_uik {w : UU} {r e k j : Nat} {x v y : Int32} (hk : k ≠ 16 ∧ k ≠ 17) : km_add (ui w k 0 j y) r e x v = ui (km_add w r e x v) k 0 j y := by
  unfold km_add
  show un (ui (ui (ui (un w 15 0 (4 * r + w.1 14 0 r) e) k 0 j y) 16 0 (4 * r + w.1 14 0 r) x) 17 0 (4 * r + w.1 14 0 r) v) 14 0 r (w.1 14 0 r + 1) = _
  rw [ui_ui (k := k) (k2 := 16) (fun q => hk.1 q.1), ui_ui (k := k) (k2 := 17) (fun q => hk.2 q.1)]
  rfl
section SC
variable {n s c t : Nat} {u w U W : UU}
theorem Sim_st {fa : Nat → Option Nat} {p : Nat → Nat} (h : LK n s c fa p u w) (ht : w.1 0 0 3 ≤ t) (h56 : u.2.2.2 5 + u.2.2.2 6 = 1) (hr : RR n c U W) (hu : wf n U) (hw : wm n W) (hj : Jv n p (3 * (t : Int)) W) (h1 : sq u U) (h2 : sm2 w W) (h3 : W.1 0 0 3 = w.1 0 0 3) : Sim n s c t U W :=
  ⟨fa, p, hr, hu, hw, hj, LK_st h h1 h2, by omega, by rw [h1.2.2]; exact h56⟩
theorem S_start (hn : n ≤ 6) (h : Sim n s c t u w) (x : Int32) : (kc_start n u x).1 = (km_start n w x).1 ∧ Sim n s c t (kc_start n u x).2 (km_start n w x).2 := by
  have hS := h
  obtain ⟨fa, p, h1, h2, h3, h4, h5, h6, h7⟩ := h
  unfold kc_start km_start
  cases q : nd n x with
  | none => exact ⟨rfl, hS⟩
  | some a =>
    obtain ⟨ha, -⟩ := nd_some (by omega) q
    show (if u.1 4 a 6 = 0 then (1, un (un u 4 a 6 1) 4 a 7 0) else (0, u)).1 = (if w.1 2 0 a = 0 then (1, un w 2 0 a 1) else (0, w)).1 ∧ Sim n s c t (if u.1 4 a 6 = 0 then (1, un (un u 4 a 6 1) 4 a 7 0) else (0, u)).2 (if w.1 2 0 a = 0 then (1, un w 2 0 a 1) else (0, w)).2
    rw [h1.sta ha]
    by_cases e : w.1 2 0 a = 0
    · rw [if_pos e, if_pos e]
      refine ⟨rfl, ?_⟩
      show Sim n s c t (un (un u 4 a 6 1) 4 a 7 0) (un w 2 0 a 1)
      have ec : (un u 4 a 6 1).1 4 a 7 = 0 := by
        rw [un_1, if_neg (by omega), h1.cur ha]
        exact h4.1.2.2.2.2.2.1 a e
      rw [un_same ec]
      refine Sim_st h5 h6 h7 (RR_un hn h1 (cn_sta ha) _) (wf_un h2 (by omega)) (wm_un h3 (by omega)) ?_ (sq_sp (sp_un u (by omega) _ _ _)) (sm2_of (sm_un w (by omega) _ _ _)) (by rw [un_1, if_neg (by omega)])
      obtain ⟨⟨g1, g2, g3, g4, g5, g6, g7, g8, g9, g10, g11⟩, hc⟩ := h4
      refine ⟨⟨fun a b ha hb => ?_, ?_, ?_, ?_, g5, fun b hb => ?_, g7, fun a => ?_, fun a => ?_, fun a => ?_, g11⟩, hc⟩
      · rw [un_1, un_1, if_neg (by omega), if_neg (by omega)]; exact g1 a b ha hb
      · rw [un_1]; split
        · rfl
        · exact g2
      · rw [un_1, if_neg (by omega)]; exact g3
      · rw [un_1, if_neg (by omega)]; exact g4
      · rw [un_1] at hb
        rw [un_1, if_neg (by omega)]
        split at hb
        · omega
        · exact g6 b hb
      · rw [un_1, if_neg (by omega)]; exact g8 a
      · rw [un_1, if_neg (by omega)]; exact g9 a
      · rw [un_1, if_neg (by omega)]; exact g10 a
    · rw [if_neg e, if_neg e]
      exact ⟨rfl, hS⟩
theorem off_v (n : Nat) (u : UU) (i : Nat) : (kc_off n u i).1 = (kc_off1 u i).1 ∧ (kc_off n u i).2.2 = (kc_off1 u i).2.2 ∧ ∀ a b d, (kc_off n u i).2.1 a b d = if a = 9 ∧ b = i ∧ d < n then nI 0 else if a = 10 ∧ b = i ∧ d < n ∧ d ≠ i then nI 0 else (kc_off1 u i).2.1 a b d := by
  have key : ∀ k (v : UU) m, (fo (fun j w => ui w k i j (nI 0)) v m).1 = v.1 ∧ (fo (fun j w => ui w k i j (nI 0)) v m).2.2 = v.2.2 ∧ ∀ a b d, (fo (fun j w => ui w k i j (nI 0)) v m).2.1 a b d = if a = k ∧ b = i ∧ d < m then nI 0 else v.2.1 a b d := by
    intro k v m
    induction m with
    | zero => exact ⟨rfl, rfl, fun a b d => by rw [if_neg (by omega)]; rfl⟩
    | succ m ih =>
      refine ⟨ih.1, ih.2.1, fun a b d => ?_⟩
      show (ui (fo (fun j w => ui w k i j (nI 0)) v m) k i m (nI 0)).2.1 a b d = _
      rw [ui_2, ih.2.2]
      by_cases h1 : a = k ∧ b = i ∧ d = m
      · rw [if_pos h1, if_pos (by omega)]
      · rw [if_neg h1]
        by_cases h2 : a = k ∧ b = i ∧ d < m
        · rw [if_pos h2, if_pos (by omega)]
        · rw [if_neg h2, if_neg (by omega)]
  obtain ⟨k1, k2, k3⟩ := key 9 (kc_off1 u i) n
  obtain ⟨j1, j2, j3⟩ := key 10 (kc_off2 n u i) n
  unfold kc_off
  refine ⟨j1.trans k1, j2.trans k2, fun a b d => ?_⟩
  rw [ui_2, j3]
  unfold kc_off2
  rw [k3, k3, if_neg (show ¬ (10 = 9 ∧ i = i ∧ i < n) by omega)]
  by_cases h1 : a = 10 ∧ b = i ∧ d = i
  · rw [if_pos h1, if_neg (by omega), if_neg (by omega), h1.1, h1.2.1, h1.2.2]
  · rw [if_neg h1]
    by_cases h2 : a = 10 ∧ b = i ∧ d < n
    · rw [if_pos h2, if_neg (by omega), if_pos (by omega)]
    · rw [if_neg h2]
      by_cases h3 : a = 9 ∧ b = i ∧ d < n
      · rw [if_pos h3, if_pos h3]
      · rw [if_neg h3, if_neg h3, if_neg (by omega)]
theorem st1_v (a : Nat) (ha : a < 6) (v : UU) (m : Nat) (hm : m ≤ 6) : (fo (km_st1 a) v m).1 = v.1 ∧ (fo (km_st1 a) v m).2.2 = v.2.2 ∧ ∀ k j, (fo (km_st1 a) v m).2.1 k 0 j = if k = 20 ∧ 6 * a ≤ j ∧ j < 6 * a + m then nI 0 else if k = 20 ∧ 36 + 6 * a ≤ j ∧ j < 36 + 6 * a + m ∧ j ≠ 36 + 7 * a then nI 0 else v.2.1 k 0 j := by
  induction m with
  | zero => exact ⟨rfl, rfl, fun k j => by rw [if_neg (by omega), if_neg (by omega)]; rfl⟩
  | succ m ih =>
    obtain ⟨i1, i2, i3⟩ := ih (by omega)
    rw [fo_s]
    unfold km_st1
    refine ⟨i1, i2, fun k j => ?_⟩
    show (ui (ui (fo (km_st1 a) v m) 20 0 (6 * a + m) (nI 0)) 20 0 (36 + 6 * a + m) (if m = a then (fo (km_st1 a) v m).2.1 20 0 (36 + 6 * a + m) else nI 0)).2.1 k 0 j = _
    rw [ui_2, ui_2, i3, i3]
    by_cases h1 : k = 20 ∧ 0 = 0 ∧ j = 36 + 6 * a + m
    · rw [if_pos h1]
      by_cases h2 : m = a
      · rw [if_pos h2, if_neg (by omega), if_neg (by omega), if_neg (by omega), if_neg (by omega), h1.1, h1.2.2]
      · rw [if_neg h2, if_neg (by omega), if_pos (by omega)]
    · rw [if_neg h1]
      by_cases h3 : k = 20 ∧ 0 = 0 ∧ j = 6 * a + m
      · rw [if_pos h3, if_pos (by omega)]
      · rw [if_neg h3]
        by_cases h4 : k = 20 ∧ 6 * a ≤ j ∧ j < 6 * a + m
        · rw [if_pos h4, if_pos (by omega)]
        · rw [if_neg h4, if_neg (show ¬ (k = 20 ∧ 6 * a ≤ j ∧ j < 6 * a + (m + 1)) by omega)]
          by_cases h5 : k = 20 ∧ 36 + 6 * a ≤ j ∧ j < 36 + 6 * a + m ∧ j ≠ 36 + 7 * a
          · rw [if_pos h5, if_pos (by omega)]
          · rw [if_neg h5, if_neg (by omega)]
theorem RR_off (hn : n ≤ 6) (h : RR n c u w) {a : Nat} (ha : a < n) : RR n c (kc_off n u a) (fo (km_st1 a) (km_st0 w a) 6) := by
  have h0 : RR n c (kc_off1 u a) (km_st0 w a) := by
    unfold kc_off1 km_st0
    exact RR_un hn (RR_un hn (RR_un hn (RR_un hn (RR_ui hn (RR_un hn (RR_un hn h (cn_sta ha) _) (cn_cur ha) _) (ci_clk ha) _) (cn_fls ha) _) (cn_trs ha) _) (cn_siz (by omega) (by omega)) _) (cn_siz (by omega) (by omega)) _
  obtain ⟨o1, o2, o3⟩ := off_v n u a
  obtain ⟨q1, q2, q3⟩ := st1_v a (by omega) (km_st0 w a) 6 (Nat.le_refl 6)
  refine ⟨fun k i j k2 j2 g => by rw [o1, q1]; exact h0.1 _ _ _ _ _ g, fun k i j k2 j2 g => ?_, fun k i j k2 j2 g => by rw [o2, q2]; exact h0.2.2 _ _ _ _ _ g⟩
  rw [o3, q3]
  have hb := h0.2.1 k i j k2 j2 g
  by_cases e9 : k = 9
  · have g2 : k2 = 20 ∧ i < n ∧ j < n ∧ j2 = 6 * i + j := by
      unfold CI at g
      rcases g with g | g | g | g | g | g | g | g | g | g | g | g | g | g <;> omega
    by_cases ei : i = a
    · rw [if_pos (by omega), if_pos (by omega)]
    · rw [if_neg (by omega), if_neg (by omega), if_neg (by omega), if_neg (by omega)]
      exact hb
  · by_cases e10 : k = 10
    · have g2 : k2 = 20 ∧ i < n ∧ j < n ∧ j2 = 36 + 6 * i + j := by
        unfold CI at g
        rcases g with g | g | g | g | g | g | g | g | g | g | g | g | g | g <;> omega
      by_cases ei : i = a ∧ j ≠ a
      · rw [if_neg (by omega), if_pos (by omega), if_neg (by omega), if_pos (by omega)]
      · rw [if_neg (by omega), if_neg (by omega), if_neg (by omega), if_neg (by omega)]
        exact hb
    · have g2 : k2 ≠ 20 := by
        unfold CI at g
        rcases g with g | g | g | g | g | g | g | g | g | g | g | g | g | g <;> omega
      rw [if_neg (by omega), if_neg (by omega), if_neg (by omega), if_neg (by omega)]
      exact hb
theorem S_stop (h1n : 1 ≤ n) (hn : n ≤ 6) (h : Sim n s c t u w) (x : Int32) : (kc_stop n u x).1 = (km_stop n w x).1 ∧ Sim n s c t (kc_stop n u x).2 (km_stop n w x).2 := by
  have hS := h
  obtain ⟨fa, p, h1, h2, h3, h4, h5, h6, h7⟩ := h
  unfold kc_stop km_stop
  rw [nf_nd h1n (by omega)]
  cases q : nd n x with
  | none => exact ⟨rfl, hS⟩
  | some a =>
    obtain ⟨ha, -⟩ := nd_some (by omega) q
    by_cases e0 : a = 0
    · subst e0
      exact ⟨rfl, hS⟩
    · show (match (if a = 0 then none else some a) with
        | none => (0, u)
        | some a => if u.1 4 a 6 = 0 then (0, u) else (1, kc_off n u a)).1 = (if a = 0 then (0, w) else if w.1 2 0 a = 0 then (0, w) else (1, fo (km_st1 a) (km_st0 w a) 6)).1 ∧ Sim n s c t (match (if a = 0 then none else some a) with
        | none => (0, u)
        | some a => if u.1 4 a 6 = 0 then (0, u) else (1, kc_off n u a)).2 (if a = 0 then (0, w) else if w.1 2 0 a = 0 then (0, w) else (1, fo (km_st1 a) (km_st0 w a) 6)).2
      rw [if_neg e0, if_neg e0]
      show (if u.1 4 a 6 = 0 then (0, u) else (1, kc_off n u a)).1 = (if w.1 2 0 a = 0 then (0, w) else (1, fo (km_st1 a) (km_st0 w a) 6)).1 ∧ Sim n s c t (if u.1 4 a 6 = 0 then (0, u) else (1, kc_off n u a)).2 (if w.1 2 0 a = 0 then (0, w) else (1, fo (km_st1 a) (km_st0 w a) 6)).2
      rw [h1.sta ha]
      by_cases e : w.1 2 0 a = 0
      · rw [if_pos e, if_pos e]
        exact ⟨rfl, hS⟩
      · rw [if_neg e, if_neg e]
        refine ⟨rfl, ?_⟩
        show Sim n s c t (kc_off n u a) (fo (km_st1 a) (km_st0 w a) 6)
        have hev1 : ev n u (kc_off1 u a) := by
          unfold kc_off1
          have st : ∀ (z : UU) k i j v, (k = 4 ∨ k = 8) → v = 0 → ev n z (un z k i j v) := fun z k i j v hk hv => ⟨fun q => wf_un q (by omega), sp_un z (by omega) _ _ _⟩
          exact ev_tr (ev_tr (ev_tr (ev_tr (ev_tr (ev_tr (st u 4 a 6 0 (by omega) rfl) (st _ 4 a 7 0 (by omega) rfl)) (ev_ui n _ (by omega) _ _ _)) (st _ 4 a 10 0 (by omega) rfl)) (st _ 4 a 11 0 (by omega) rfl)) (st _ 8 _ 3 0 (by omega) rfl)) (st _ 8 _ 3 0 (by omega) rfl)
        have hev2 : ∀ k, (k = 9 ∨ k = 10) → ∀ z : UU, ∀ m, ev n z (fo (fun j w => ui w k a j (nI 0)) z m) := fun k hk z m => by
          induction m with
          | zero => exact ev_rf n z
          | succ m ih => exact ev_tr ih (ev_ui n _ (by omega) _ _ _)
        have hev : ev n u (kc_off n u a) := by
          unfold kc_off kc_off2
          exact ev_tr (ev_tr (ev_tr hev1 (hev2 9 (Or.inl rfl) _ _)) (hev2 10 (Or.inr rfl) _ _)) (ev_ui n _ (by omega) _ _ _)
        have hem0 : em n w (km_st0 w a) := by
          unfold km_st0
          exact em_tr (em_tr (em_tr (em_tr (em_tr (em_tr (em_un (by omega) (by omega)) (em_un (by omega) (by omega))) (em_ui n _ (by omega) _ _ _)) (em_un (by omega) (by omega))) (em_un (by omega) (by omega))) (em_un (by omega) (by omega))) (em_un (by omega) (by omega))
        have hem : em n w (fo (km_st1 a) (km_st0 w a) 6) := em_tr hem0 (em_fo (fun k z _ => by unfold km_st1; exact em_tr (em_ui n z (by omega) _ _ _) (em_ui n _ (by omega) _ _ _)) 6 _ (hem0.1 h3))
        refine Sim_st h5 h6 h7 (RR_off hn h1 ha) (hev.1 h2) (hem.1 h3) ?_ (sq_sp hev.2) (sm2_of hem.2) hem.2.2.2.2
        refine Jv_fo (fun k z hz => ?_) 6 _ ?_
        · unfold km_st1
          exact Jv_ui (Jv_ui hz (by omega) (by omega)) (by omega) (by omega)
        · unfold km_st0
          have e00 : (nI 0).toInt = 0 := by decide
          have j1 : Jv n p (3 * (t : Int)) (un (un w 2 0 a 0) 3 0 a 0) := by
            obtain ⟨⟨g1, g2, g3, g4, g5, g6, g7, g8, g9, g10, g11⟩, hc⟩ := h4
            refine ⟨⟨fun x y hx hy => ?_, ?_, ?_, ?_, g5, fun b hb => ?_, g7, fun b => ?_, fun b => ?_, fun b => ?_, g11⟩, hc⟩
            · rw [un_1, un_1, if_neg (by omega), if_neg (by omega), un_1, un_1, if_neg (by omega), if_neg (by omega)]; exact g1 x y hx hy
            · rw [un_1, if_neg (by omega), un_1, if_neg (by omega)]; exact g2
            · rw [un_1, if_neg (by omega), un_1, if_neg (by omega)]; exact g3
            · rw [un_1, if_neg (by omega), un_1, if_neg (by omega)]; exact g4
            · rw [un_1, if_neg (by omega), un_1] at hb
              rw [un_1, un_1, if_neg (show ¬ (3 = 2 ∧ 0 = 0 ∧ b = a) by omega)]
              by_cases eb : b = a
              · rw [if_pos ⟨rfl, rfl, eb⟩]
              · rw [if_neg (fun q => eb q.2.2)] at hb ⊢
                exact g6 b hb
            · rw [un_1, if_neg (by omega), un_1, if_neg (by omega)]; exact g8 b
            · rw [un_1, if_neg (by omega), un_1, if_neg (by omega)]; exact g9 b
            · rw [un_1, if_neg (by omega), un_1, if_neg (by omega)]; exact g10 b
          exact Jv_un (Jv_un (Jv_un (Jv_un (Jv_ui j1 (by omega) (fun _ => by rw [e00]; omega)) (by omega) (by omega) (by omega)) (by omega) (by omega) (by omega)) (by omega) (by omega) (by omega)) (by omega) (by omega) (by omega)
theorem S_drift (h1n : 1 ≤ n) (hn : n ≤ 6) (h : Sim n s c t u w) (x d : Int32) : (kc_drift n u x d).1 = (km_drift n w x d).1 ∧ Sim n s c t (kc_drift n u x d).2 (km_drift n w x d).2 := by
  have hS := h
  obtain ⟨fa, p, h1, h2, h3, h4, h5, h6, h7⟩ := h
  unfold kc_drift km_drift
  rw [nf_nd h1n (by omega)]
  cases q : nd n x with
  | none => exact ⟨rfl, hS⟩
  | some a =>
    obtain ⟨ha, -⟩ := nd_some (by omega) q
    by_cases e0 : a = 0
    · subst e0
      exact ⟨rfl, hS⟩
    · show (match (if a = 0 then none else some a) with
        | none => (0, u)
        | some a => if kin d (-3) (nI 3) = 0 then (0, u) else (1, ui u 4 a 9 d)).1 = (if a = 0 then (0, w) else if d < -3 then (0, w) else if d ≤ nI 3 then (1, ui w 5 0 a d) else (0, w)).1 ∧ Sim n s c t (match (if a = 0 then none else some a) with
        | none => (0, u)
        | some a => if kin d (-3) (nI 3) = 0 then (0, u) else (1, ui u 4 a 9 d)).2 (if a = 0 then (0, w) else if d < -3 then (0, w) else if d ≤ nI 3 then (1, ui w 5 0 a d) else (0, w)).2
      rw [if_neg e0, if_neg e0]
      show (if kin d (-3) (nI 3) = 0 then (0, u) else (1, ui u 4 a 9 d)).1 = (if d < -3 then (0, w) else if d ≤ nI 3 then (1, ui w 5 0 a d) else (0, w)).1 ∧ Sim n s c t (if kin d (-3) (nI 3) = 0 then (0, u) else (1, ui u 4 a 9 d)).2 (if d < -3 then (0, w) else if d ≤ nI 3 then (1, ui w 5 0 a d) else (0, w)).2
      have hk := kin_eq d (-3) (nI 3)
      by_cases e1 : d < -3
      · rw [if_pos e1, if_pos (hk.mpr (Or.inl e1))]
        exact ⟨rfl, hS⟩
      · rw [if_neg e1]
        by_cases e2 : d ≤ nI 3
        · have e3 : ¬ kin d (-3) (nI 3) = 0 := fun q => by
            rcases hk.mp q with q | q
            · exact e1 q
            · rw [Int32.lt_iff_toInt_lt] at q
              rw [Int32.le_iff_toInt_le] at e2
              omega
          rw [if_pos e2, if_neg e3]
          refine ⟨rfl, ?_⟩
          show Sim n s c t (ui u 4 a 9 d) (ui w 5 0 a d)
          refine Sim_st h5 h6 h7 (RR_ui hn h1 (ci_dft ha) _) (wf_ui h2) (wm_ui h3) ?_ (sq_sp (sp_ui u (by omega) _ _ _)) (sm2_of (sm_ui w (by omega) _ _ _)) rfl
          obtain ⟨⟨g1, g2, g3, g4, g5, g6, g7, g8, g9, g10, g11⟩, hc⟩ := h4
          refine ⟨⟨g1, g2, g3, g4, ?_, g6, fun b => ?_, g8, g9, g10, fun b hb => ?_⟩, fun b => ?_⟩
          · rw [ui_2, if_neg (by omega)]; exact g5
          · rw [ui_2]; split
            · have m3 : (-3 : Int32).toInt = -3 := by decide
              have p3 : (nI 3).toInt = 3 := by decide
              rw [Int32.lt_iff_toInt_lt, m3] at e1
              rw [Int32.le_iff_toInt_le, p3] at e2
              omega
            · exact g7 b
          · rw [ui_2, if_neg (by omega)]; exact g11 b hb
          · rw [ui_2, if_neg (by omega)]; exact hc b
        · have e3 : kin d (-3) (nI 3) = 0 := hk.mpr (Or.inr (by
            rw [Int32.lt_iff_toInt_lt]
            rw [Int32.le_iff_toInt_le] at e2
            omega))
          rw [if_neg e2, if_pos e3]
          exact ⟨rfl, hS⟩
theorem S_radio (hc4 : c ≤ 4) (h : Sim n s c t u w) (x : Int32) (f g : Int64) : (kc_radio c u x f g).1 = (km_radio c w x f g).1 ∧ Sim n s c t (kc_radio c u x f g).2 (km_radio c w x f g).2 := by
  have hS := h
  obtain ⟨fa, p, h1, h2, h3, h4, h5, h6, h7⟩ := h
  unfold kc_radio km_radio
  cases q : nd c x with
  | none => exact ⟨rfl, hS⟩
  | some a =>
    obtain ⟨ha, -⟩ := nd_some (by omega) q
    refine ⟨rfl, ?_⟩
    show Sim n s c t (ul (ul u 5 a 0 f) 5 a 1 g) (ul (ul w 6 0 a f) 7 0 a g)
    exact Sim_st h5 h6 h7 (RR_ul (RR_ul h1 (cl_hrd ha) _) (cl_cfm ha) _) h2 h3 h4 ⟨fun _ _ _ _ => rfl, fun _ _ _ _ => rfl, rfl⟩ ⟨fun _ => rfl, fun _ => rfl, rfl⟩ rfl
theorem S_pair (hn : n ≤ 6) (h : Sim n s c t u w) (x y : Int32) (z : Nat) (hz : z ≤ 1) : (kc_pair n u x y z).1 = (km_pair n w x y z).1 ∧ Sim n s c t (kc_pair n u x y z).2 (km_pair n w x y z).2 := by
  have hS := h
  obtain ⟨fa, p, h1, h2, h3, h4, h5, h6, h7⟩ := h
  unfold kc_pair km_pair
  cases q : nd n x with
  | none => exact ⟨rfl, hS⟩
  | some a =>
    cases q2 : nd n y with
    | none => exact ⟨rfl, hS⟩
    | some b =>
      obtain ⟨ha, -⟩ := nd_some (by omega) q
      obtain ⟨hb, -⟩ := nd_some (by omega) q2
      show (if a = b then (0, u) else if u.1 7 a b = z then (0, u) else (1, un (un u 7 a b z) 7 b a z)).1 = (if a = b then (0, w) else if w.1 1 0 (6 * a + b) = z then (0, w) else (1, un (un w 1 0 (6 * a + b) z) 1 0 (6 * b + a) z)).1 ∧ Sim n s c t (if a = b then (0, u) else if u.1 7 a b = z then (0, u) else (1, un (un u 7 a b z) 7 b a z)).2 (if a = b then (0, w) else if w.1 1 0 (6 * a + b) = z then (0, w) else (1, un (un w 1 0 (6 * a + b) z) 1 0 (6 * b + a) z)).2
      by_cases e : a = b
      · rw [if_pos e, if_pos e]
        exact ⟨rfl, hS⟩
      · rw [if_neg e, if_neg e, h1.near ha hb]
        by_cases e2 : w.1 1 0 (6 * a + b) = z
        · rw [if_pos e2, if_pos e2]
          exact ⟨rfl, hS⟩
        · rw [if_neg e2, if_neg e2]
          refine ⟨rfl, ?_⟩
          show Sim n s c t (un (un u 7 a b z) 7 b a z) (un (un w 1 0 (6 * a + b) z) 1 0 (6 * b + a) z)
          refine Sim_st h5 h6 h7 (RR_un hn (RR_un hn h1 (cn_near ha hb) _) (cn_near hb ha) _) (wf_un (wf_un h2 (by omega)) (by omega)) (wm_un (wm_un h3 (by omega)) (by omega)) ?_ (sq_tr (sq_sp (sp_un u (by omega) _ _ _)) (sq_sp (sp_un _ (by omega) _ _ _))) (sm2_tr (sm2_of (sm_un w (by omega) _ _ _)) (sm2_of (sm_un _ (by omega) _ _ _))) (by rw [un_1, if_neg (by omega), un_1, if_neg (by omega)])
          obtain ⟨⟨g1, g2, g3, g4, g5, g6, g7, g8, g9, g10, g11⟩, hc⟩ := h4
          refine ⟨⟨fun d f hd hf => ?_, ?_, ?_, ?_, g5, fun d hd => ?_, g7, fun d => ?_, fun d => ?_, fun d => ?_, g11⟩, hc⟩
          · rw [un_1, un_1, un_1, un_1]
            have g := g1 d f hd hf
            by_cases k1 : (d = a ∧ f = b) ∨ (d = b ∧ f = a)
            · have r1 : ∀ i j, (i = a ∧ j = b) ∨ (i = b ∧ j = a) → (if 1 = 1 ∧ 0 = 0 ∧ 6 * i + j = 6 * b + a then z else if 1 = 1 ∧ 0 = 0 ∧ 6 * i + j = 6 * a + b then z else w.1 1 0 (6 * i + j)) = z := fun i j hij => by
                by_cases k2 : 6 * i + j = 6 * b + a
                · rw [if_pos ⟨rfl, rfl, k2⟩]
                · rw [if_neg (fun k => k2 k.2.2), if_pos ⟨rfl, rfl, by omega⟩]
              rw [r1 d f k1, r1 f d (by omega)]
            · rw [if_neg (by omega), if_neg (by omega), if_neg (by omega), if_neg (by omega)]
              exact g
          · rw [un_1, if_neg (by omega), un_1, if_neg (by omega)]; exact g2
          · rw [un_1, if_neg (by omega), un_1, if_neg (by omega)]; exact g3
          · rw [un_1, if_neg (by omega), un_1, if_neg (by omega)]; exact g4
          · rw [un_1, if_neg (by omega), un_1, if_neg (by omega)] at hd ⊢; exact g6 d hd
          · rw [un_1, if_neg (by omega), un_1, if_neg (by omega)]; exact g8 d
          · rw [un_1, if_neg (by omega), un_1, if_neg (by omega)]; exact g9 d
          · rw [un_1, if_neg (by omega), un_1, if_neg (by omega)]; exact g10 d
end SC
