/-! Class and model: the other calls -/
section SE
variable {n s c t : Nat} {u w : UU}
theorem i_le {a b : Int32} (h : ¬ b < a) : a ≤ b := by
  rw [Int32.lt_iff_toInt_lt] at h
  rw [Int32.le_iff_toInt_le]
  omega
theorem i_lt {a b : Int32} (h : ¬ a ≤ b) : b < a := by
  rw [Int32.le_iff_toInt_le] at h
  rw [Int32.lt_iff_toInt_lt]
  omega
theorem i_nl {a b : Int32} (h : a ≤ b) : ¬ b < a := by
  rw [Int32.le_iff_toInt_le] at h
  rw [Int32.lt_iff_toInt_lt]
  omega
theorem kin_lo {v lo hi : Int32} (h : v < lo) : kin v lo hi = 0 := (kin_eq v lo hi).mpr (Or.inl h)
theorem kin_hi {v lo hi : Int32} (h : hi < v) : kin v lo hi = 0 := (kin_eq v lo hi).mpr (Or.inr h)
theorem kin_ok {v lo hi : Int32} (h : ¬ v < lo) (g : ¬ hi < v) : ¬ kin v lo hi = 0 := fun q => by
  rcases (kin_eq v lo hi).mp q with q | q
  · exact h q
  · exact g q
theorem S_control (h1n : 1 ≤ n) (hn : n ≤ 6) (h : Sim n s c t u w) (x y p i : Int32) : (kc_control n u x y p i).1 = (km_control n w x y p i).1 ∧ Sim n s c t (kc_control n u x y p i).2 (km_control n w x y p i).2 := by
  have hS := h
  obtain ⟨fa, rk, h1, h2, h3, h4, h5, h6, h7⟩ := h
  unfold kc_control km_control
  rw [nf_nd h1n (by omega)]
  cases q : nd n x with
  | none => exact ⟨rfl, hS⟩
  | some a =>
    obtain ⟨ha, -⟩ := nd_some (by omega) q
    by_cases e0 : a = 0
    · subst e0
      exact ⟨rfl, hS⟩
    · dsimp only
      rw [if_neg e0, if_neg e0]
      dsimp only
      have z0 : nI 0 = 0 := rfl
      rw [z0]
      by_cases t1 : y < -1000
      · rw [if_pos t1, if_pos (kin_lo t1)]
        exact ⟨rfl, hS⟩
      · rw [if_neg t1]
        by_cases t2 : nI 1000 < y
        · rw [if_pos t2, if_pos (kin_hi t2)]
          exact ⟨rfl, hS⟩
        · rw [if_neg t2, if_neg (kin_ok t1 t2)]
          by_cases p1 : p < 0
          · rw [if_pos p1, if_pos (kin_lo p1)]
            exact ⟨rfl, hS⟩
          · rw [if_neg p1]
            by_cases p2 : nI 16 < p
            · rw [if_pos p2, if_pos (kin_hi p2)]
              exact ⟨rfl, hS⟩
            · rw [if_neg p2, if_neg (kin_ok p1 p2)]
              by_cases i1 : i < 0
              · rw [if_pos i1, if_pos (kin_lo i1)]
                exact ⟨rfl, hS⟩
              · rw [if_neg i1]
                by_cases i2 : i ≤ nI 16
                · rw [if_pos i2, if_neg (kin_ok i1 (i_nl i2))]
                  refine ⟨rfl, ?_⟩
                  show Sim n s c t (ui (ui (ui u 6 a 2 y) 6 a 3 p) 6 a 4 i) (ui (ui (ui w 24 0 a y) 25 0 a p) 26 0 a i)
                  refine Sim_st h5 h6 h7 (RR_ui hn (RR_ui hn (RR_ui hn h1 (ci_tgt ha) _) (ci_lps ha) _) (ci_lis ha) _) (wf_ui (wf_ui (wf_ui h2))) (wm_ui (wm_ui (wm_ui h3))) (Jv_ui (Jv_ui (Jv_ui h4 (by omega) (by omega)) (by omega) (by omega)) (by omega) (by omega)) (sq_sp (sp_tr (sp_tr (sp_ui u (by omega) _ _ _) (sp_ui _ (by omega) _ _ _)) (sp_ui _ (by omega) _ _ _))) (sm2_of (sm_tr (sm_tr (sm_ui w (by omega) _ _ _) (sm_ui _ (by omega) _ _ _)) (sm_ui _ (by omega) _ _ _))) rfl
                · rw [if_neg i2, if_pos (kin_hi (i_lt i2))]
                  exact ⟨rfl, hS⟩
theorem S_sample (h1n : 1 ≤ n) (hn : n ≤ 6) (h : Sim n s c t u w) (x v : Int32) : (kc_sample n u x v).1 = (km_sample n w x v).1 ∧ Sim n s c t (kc_sample n u x v).2 (km_sample n w x v).2 := by
  have hS := h
  obtain ⟨fa, rk, h1, h2, h3, h4, h5, h6, h7⟩ := h
  unfold kc_sample km_sample
  rw [nf_nd h1n (by omega)]
  cases q : nd n x with
  | none => exact ⟨rfl, hS⟩
  | some a =>
    obtain ⟨ha, -⟩ := nd_some (by omega) q
    by_cases e0 : a = 0
    · subst e0
      exact ⟨rfl, hS⟩
    · dsimp only
      rw [if_neg e0, if_neg e0]
      dsimp only
      rw [h1.sta ha]
      by_cases e : w.1 2 0 a = 0
      · rw [if_pos e, if_pos e]
        exact ⟨rfl, hS⟩
      · rw [if_neg e, if_neg e]
        by_cases t1 : v < -1000
        · rw [if_pos t1, if_pos (kin_lo t1)]
          exact ⟨rfl, hS⟩
        · rw [if_neg t1]
          by_cases t2 : nI 1000 < v
          · rw [if_pos t2, if_pos (kin_hi t2)]
            exact ⟨rfl, hS⟩
          · rw [if_neg t2, if_neg (kin_ok t1 t2)]
            have ez := h1.upz ha
            have h4' := h3.2.2.2.2.1 a
            by_cases m4 : w.1 14 0 a = 4
            · rw [if_pos m4, if_neg (by omega)]
              exact ⟨rfl, hS⟩
            · rw [if_neg m4, if_pos (by omega)]
              have hlt : u.1 8 (2 * a) 3 < 4 := by omega
              have ec : ∀ y, (kc_append u (2 * a) a y v).2.1 4 a 12 = u.2.1 4 a 12 := fun y => by
                unfold kc_append
                rw [if_pos hlt, un_2, ui_2, if_neg (by omega), ui_2, if_neg (by omega), un_2]
              rw [ec, h1.cnt ha, km_add_uik (by omega)]
              refine ⟨rfl, ?_⟩
              show Sim n s c t (ui (kc_append u (2 * a) a (w.2.1 21 0 a + nI 1) v) 4 a 12 (w.2.1 21 0 a + nI 1)) (ui (km_add w a a (w.2.1 21 0 a + nI 1) v) 21 0 a (w.2.1 21 0 a + nI 1))
              have hev : ev n u (ui (kc_append u (2 * a) a (w.2.1 21 0 a + nI 1) v) 4 a 12 (w.2.1 21 0 a + nI 1)) := ev_tr (ev_append ha) (ev_ui n _ (by omega) _ _ _)
              have hem : em n w (ui (km_add w a a (w.2.1 21 0 a + nI 1) v) 21 0 a (w.2.1 21 0 a + nI 1)) := em_tr (em_add ha (by omega)) (em_ui n _ (by omega) _ _ _)
              exact Sim_st h5 h6 h7 (RR_ui hn (RR_app hn h1 (by omega) (by omega) hlt) (ci_cnt ha) _) (hev.1 h2) (hem.1 h3) (Jv_ui (Jv_add h4 e0) (by omega) (by omega)) (sq_sp hev.2) (sm2_of hem.2) hem.2.2.2.2
theorem S_rank (hn : n ≤ 6) (h : Sim n s c t u w) (x : Int32) : kc_rank n u x = km_rank n w x := by
  obtain ⟨fa, p, h1, h2, h3, h4, h5, h6, h7⟩ := h
  unfold kc_rank km_rank
  rw [h5.1]
  by_cases e : w.1 0 0 12 = 0
  · rw [if_pos e, if_pos e]
  · rw [if_neg e, if_neg e]
    obtain ⟨l1, l2, l3, l4, l5, l6, l7, l8, l9, l10⟩ := h5.2 e
    cases q : nd n x with
    | none => rfl
    | some a =>
      obtain ⟨ha, -⟩ := nd_some (by omega) q
      show u.2.1 16 (u.2.2.2 5) a = nI (w.1 8 0 a)
      rw [(l7 a ha).1, h4.1.2.2.2.2.2.2.2.1 a]
theorem S_parent (hn : n ≤ 6) (h : Sim n s c t u w) (x k : Int32) : kc_parent n u x k = km_parent n w x k := by
  obtain ⟨fa, p, h1, h2, h3, h4, h5, h6, h7⟩ := h
  unfold kc_parent km_parent
  rw [h5.1]
  by_cases e : w.1 0 0 12 = 0
  · rw [if_pos e, if_pos e]
  · rw [if_neg e, if_neg e]
    obtain ⟨l1, l2, l3, l4, l5, l6, l7, l8, l9, l10⟩ := h5.2 e
    cases q : nd n x with
    | none => rfl
    | some a =>
      obtain ⟨ha, -⟩ := nd_some (by omega) q
      show (if k = 0 then u.2.1 17 (u.2.2.2 5) a else if k = nI 1 then u.2.1 18 (u.2.2.2 5) a else -1) = match nd 2 k with
        | none => -1
        | some b => w.2.1 9 0 (2 * a + b)
      by_cases k0 : k = 0
      · rw [if_pos k0, k0]
        have : nd 2 (0 : Int32) = some 0 := nd_nI (n := 2) (a := 0) (by omega) (by omega)
        rw [this]
        show _ = w.2.1 9 0 (2 * a)
        rw [(l4 a ha).1, (l4 a ha).2]
      · rw [if_neg k0]
        by_cases k1 : k = nI 1
        · rw [if_pos k1, k1, nd_nI (n := 2) (a := 1) (by omega) (by omega)]
          exact l5 a ha
        · rw [if_neg k1]
          cases z : nd 2 k with
          | none => rfl
          | some b =>
            obtain ⟨b1, b2⟩ := nd_some (by omega) z
            have : b = 0 ∨ b = 1 := by omega
            rcases this with this | this
            · rw [this] at b2; exact absurd b2 k0
            · rw [this] at b2; exact absurd b2 k1
theorem S_cell (hs : s ≤ 24) (hc : c ≤ 4) (h : Sim n s c t u w) (x y : Int32) : kc_cell s c u x y = km_cell s c w x y := by
  obtain ⟨fa, p, h1, h2, h3, h4, h5, h6, h7⟩ := h
  unfold kc_cell km_cell
  cases q : nd s x with
  | none => rfl
  | some a =>
    cases q2 : nd c y with
    | none => rfl
    | some b =>
      obtain ⟨ha, -⟩ := nd_some (by omega) q
      obtain ⟨hb, -⟩ := nd_some (by omega) q2
      show (if u.1 15 (u.2.2.2 5) 8 = 0 then nI 0 else nI (u.1 20 (u.2.2.2 5) (a * c + b))) = if w.1 0 0 12 = 0 then nI 0 else nI (w.1 10 0 (4 * a + b))
      rw [h5.1]
      by_cases e : w.1 0 0 12 = 0
      · rw [if_pos e, if_pos e]
      · rw [if_neg e, if_neg e]
        obtain ⟨l1, -⟩ := h5.2 e
        rw [l1 a b ha hb]
theorem S_current (hn : n ≤ 6) (h : Sim n s c t u w) (x : Int32) : kc_current n u x = km_current n w x := by
  obtain ⟨fa, p, h1, -⟩ := h
  unfold kc_current km_current
  cases q : nd n x with
  | none => rfl
  | some a =>
    obtain ⟨ha, -⟩ := nd_some (by omega) q
    show (if u.1 4 a 7 = 0 then 0 else 1) = if w.1 3 0 a = 0 then 0 else 1
    rw [h1.cur ha]
theorem S_offset (hn : n ≤ 6) (h : Sim n s c t u w) (x : Int32) : kc_offset n u x = km_offset n w x := by
  obtain ⟨fa, p, h1, -⟩ := h
  unfold kc_offset km_offset
  cases q : nd n x with
  | none => rfl
  | some a =>
    obtain ⟨ha, -⟩ := nd_some (by omega) q
    exact h1.clk ha
theorem S_latest (h1n : 1 ≤ n) (hn : n ≤ 6) (h : Sim n s c t u w) (x : Int32) : kc_latest n u x = km_latest n w x := by
  obtain ⟨fa, p, h1, -⟩ := h
  unfold kc_latest km_latest
  cases q : nd n x with
  | none => rfl
  | some a =>
    obtain ⟨ha, -⟩ := nd_some (by omega) q
    show u.2.1 9 0 a = w.2.1 20 0 a
    rw [h1.tku (i := 0) (by omega) ha, show 6 * 0 + a = a by omega]
theorem S_actuator (h1n : 1 ≤ n) (hn : n ≤ 6) (h : Sim n s c t u w) (x : Int32) : kc_actuator n u x = km_actuator n w x := by
  obtain ⟨fa, p, h1, -⟩ := h
  unfold kc_actuator km_actuator
  rw [nf_nd h1n (by omega)]
  cases q : nd n x with
  | none => rfl
  | some a =>
    obtain ⟨ha, -⟩ := nd_some (by omega) q
    by_cases e0 : a = 0
    · subst e0; rfl
    · dsimp only
      rw [if_neg e0, if_neg e0]
      exact h1.act ha
theorem S_cached (hn : n ≤ 6) (h : Sim n s c t u w) (x k : Int32) : kc_cached n u x k = km_cached n w x k := by
  obtain ⟨fa, p, h1, h2, -⟩ := h
  unfold kc_cached km_cached
  cases q : nd n x with
  | none => rfl
  | some a =>
    obtain ⟨ha, -⟩ := nd_some (by omega) q
    dsimp only
    have hk := h2.2.2.2.2.2.2.2.1 a
    rw [← h1.kpt ha]
    cases z : nd (u.1 6 a 1) k with
    | none => rfl
    | some b =>
      obtain ⟨b1, b2⟩ := nd_some (by omega) z
      exact h1.new ha (by omega)
theorem S_count (hn : n ≤ 6) (h : Sim n s c t u w) (x k : Int32) : kc_count n u x k = km_count n w x k := by
  obtain ⟨fa, p, h1, h2, -⟩ := h
  unfold kc_count km_count
  cases q : nd n x with
  | none => rfl
  | some a =>
    obtain ⟨ha, -⟩ := nd_some (by omega) q
    dsimp only
    rw [h1.upz ha, h1.dnz ha, h1.fls ha, h1.trs ha]
    generalize nd 4 k = z
    rcases z with _ | (_ | _ | _ | _ | j) <;> rfl
theorem S_sent (h : Sim n s c t u w) : u.2.1 0 0 8 = w.2.1 0 0 4 := by
  obtain ⟨fa, p, h1, -⟩ := h
  exact h1.snt
theorem S_run (h1n : 1 ≤ n) (hn : n ≤ 6) (h0 : 0 < c) (hc : c ≤ 4) (hs0 : 0 < s) (hs : s ≤ 24) (h : Sim n s c t u w) (ht : t + 64 < 2 ^ 26) (x : Int32) : ∃ fa, pw n s c fa u ∧ pm (paf n fa) w ∧ (kc_run n s c fa u x).1 = (km_run n s c (paf n fa) w x).1 ∧ Sim n s c (t + 64) (kc_run n s c fa u x).2 (km_run n s c (paf n fa) w x).2 := by
  have hS := h
  obtain ⟨fa, p, h1, h2, h3, h4, h5, h6, h7⟩ := h
  refine ⟨fa, LK_pw h5 h1n h0 hc hs, LK_pm h5 hn, ?_⟩
  unfold kc_run km_run
  by_cases e : kin x (nI 1) (nI 64) = 0
  · rw [if_pos e, if_pos e]
    exact ⟨rfl, Sim_le hS (by omega)⟩
  · rw [if_neg e, if_neg e]
    have hm : x.toNatClampNeg ≤ 64 := by
      have q : ¬ nI 64 < x := fun q => e (kin_hi q)
      have e64 : (nI 64).toInt = 64 := by decide
      rw [Int32.lt_iff_toInt_lt, e64] at q
      show x.toInt.toNat ≤ 64
      omega
    have htm := h1.tim
    generalize x.toNatClampNeg = m at hm ⊢
    obtain ⟨r1, r2⟩ := RR_slots hn h1n h0 hc hs0 hs h1 h2 h3 h4 (by omega) h5 m (by omega) (by omega)
    obtain ⟨a1, a2, a3⟩ := wf_slots (s := s) (c := c) (fa := fa) h2 m (by omega)
    obtain ⟨b1, b2, b3⟩ := wm_slots (s := s) (c := c) (pa := paf n fa) h3 m (by omega)
    refine ⟨?_, fa, p, r1, a1, b1, Jv_le r2 (by omega), LK_st h5 a3 b3, ?_, ?_⟩
    · show nI _ = nI _
      rw [r1.tim]
    · show (fo (fun _ w => km_slot n s c (paf n fa) w) w m).1 0 0 3 ≤ t + 64
      rw [b2]; omega
    · show (fo (fun _ w => kc_slot n s c fa w) u m).2.2.2 5 + (fo (fun _ w => kc_slot n s c fa w) u m).2.2.2 6 = 1
      rw [a3.2.2]; exact h7
theorem S_plan (h1n : 1 ≤ n) (hn : n ≤ 6) (h0 : 0 < c) (hc : c ≤ 4) (hs : s ≤ 24) (h : Sim n s c t u w) : ∃ fa sa, (km_al (km_rk n w) n ≠ 0 → pp n fa sa (km_parents n (km_rk n w))) ∧ (kc_plan n s c u).1 = (km_plan n s c fa sa w).1 ∧ Sim n s c t (kc_plan n s c u).2 (km_plan n s c fa sa w).2 := by
  obtain ⟨fa, p, h1, h2, h3, h4, h5, h6, h7⟩ := h
  obtain ⟨f, g, k1, k2, k3, k4, k5, k6, k7, fb, r, k8, k9⟩ := plan_sim h1n hn h0 hc hs h1 h2 h3 h4 h5 h7
  exact ⟨f, g, k1, k2, fb, r, k3, k4, k5, k8, k9, by omega, k6⟩
end SE
