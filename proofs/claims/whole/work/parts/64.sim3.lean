/-! Class and model: a slot, a run -/
def paf (n : Nat) (fa : Nat → Option Nat) (i : Nat) : Option Nat := if i < n then fa i else some 0
/-- the plans in use are alike; fa are the first parents, p the ranks -/
def LK (n s c : Nat) (fa : Nat → Option Nat) (p : Nat → Nat) (u w : UU) : Prop := u.1 15 (u.2.2.2 5) 8 = w.1 0 0 12 ∧ (w.1 0 0 12 ≠ 0 →
  (∀ sl k, sl < s → k < c → u.1 20 (u.2.2.2 5) (sl * c + k) = w.1 10 0 (4 * sl + k)) ∧
  (∀ q, q < 96 → w.1 10 0 q = 0 ∨ (100 ≤ w.1 10 0 q ∧ w.1 10 0 q / 10 % 10 < n ∧ w.1 10 0 q % 10 < n)) ∧
  (∀ sl k, sl < s → k < c → ((100 ≤ w.1 10 0 (4 * sl + k) ∧ w.1 10 0 (4 * sl + k) < 200) ↔ (100 ≤ w.1 10 0 (4 * sl) ∧ w.1 10 0 (4 * sl) < 200))) ∧
  (∀ i, i < n → u.2.1 17 (u.2.2.2 5) i = io (fa i) ∧ w.2.1 9 0 (2 * i) = io (fa i)) ∧
  (∀ i, i < n → u.2.1 18 (u.2.2.2 5) i = w.2.1 9 0 (2 * i + 1)) ∧
  (∀ i, n ≤ i → i < 6 → w.2.1 9 0 (2 * i) = nI 0) ∧
  (∀ i, i < n → u.2.1 16 (u.2.2.2 5) i = nI (p i) ∧ p i < n) ∧
  fa 0 = none ∧ (∀ i b, fa i = some b → b < n) ∧ ∀ i b, i < n → fa i = some b → p b < p i)
theorem LK_st {n s c : Nat} {fa : Nat → Option Nat} {p : Nat → Nat} {u w U W : UU} (h : LK n s c fa p u w) (h1 : sq u U) (h2 : sm2 w W) : LK n s c fa p U W := by
  obtain ⟨l1, l2⟩ := h
  obtain ⟨a1, a2, a3⟩ := h1
  obtain ⟨b1, b2, b3⟩ := h2
  refine ⟨by rw [a3, a1 15 _ _ (by decide), b3]; exact l1, fun hq => ?_⟩
  rw [b3] at hq
  obtain ⟨g1, g2, g3, g4, g5, g6, g7, g8, g9, g10⟩ := l2 hq
  refine ⟨fun sl k h1 h2 => ?_, fun q hq => ?_, fun sl k h1 h2 => ?_, fun i hi => ?_, fun i hi => ?_, fun i hi h6 => ?_, fun i hi => ?_, g8, g9, g10⟩
  · rw [a3, a1 20 _ _ (by decide), b1]; exact g1 sl k h1 h2
  · rw [b1]; exact g2 q hq
  · rw [b1, b1]; exact g3 sl k h1 h2
  · rw [a3, a2 17 _ _ (by decide), b2]; exact g4 i hi
  · rw [a3, a2 18 _ _ (by decide), b2]; exact g5 i hi
  · rw [b2]; exact g6 i hi h6
  · rw [a3, a2 16 _ _ (by decide)]; exact g7 i hi
theorem LK_pw {n s c : Nat} {fa : Nat → Option Nat} {p : Nat → Nat} {u w : UU} (h : LK n s c fa p u w) (h1 : 1 ≤ n) (h0 : 0 < c) (hc : c ≤ 4) (hs : s ≤ 24) : pw n s c fa u := by
  intro hq
  rw [h.1] at hq
  obtain ⟨g1, g2, g3, g4, g5, g6, g7, g8, g9, g10⟩ := h.2 hq
  refine ⟨fun q hq => ?_, fun i hi => (g4 i hi).1, g9⟩
  have hk : q % c < c := Nat.mod_lt _ h0
  have hsl : q / c < s := Nat.div_lt_of_lt_mul (by rw [Nat.mul_comm]; exact hq)
  have e : q / c * c + q % c = q := Nat.div_add_mod' q c
  have e2 := g1 (q / c) (q % c) hsl hk
  rw [e] at e2
  rw [e2]
  rcases g2 (4 * (q / c) + q % c) (by omega) with e3 | e3
  · rw [e3]; exact ⟨by omega, by omega⟩
  · exact ⟨e3.2.1, e3.2.2⟩
theorem LK_pm {n s c : Nat} {fa : Nat → Option Nat} {p : Nat → Nat} {u w : UU} (h : LK n s c fa p u w) (hn : n ≤ 6) : pm (paf n fa) w := by
  intro hq
  obtain ⟨g1, g2, g3, g4, g5, g6, g7, g8, g9, g10⟩ := h.2 hq
  refine ⟨fun q hq h2 => ?_, fun q hq h2 => ?_, fun i hi => ?_, fun i a ha => ?_⟩
  · unfold kfst ksnd
    rw [if_neg (by omega), if_pos h2]
    have := g2 q hq
    omega
  · unfold kfst
    rw [if_neg (by omega)]
    have := g2 q hq
    omega
  · unfold paf
    by_cases e : i < n
    · rw [if_pos e]; exact (g4 i e).2
    · rw [if_neg e]; exact g6 i (by omega) hi
  · unfold paf at ha
    split at ha
    · have := g9 i a ha; omega
    · cases ha; omega
theorem kl_kb {n : Nat} {fa : Nat → Option Nat} {p : Nat → Nat} (h0 : fa 0 = none) (hp : ∀ i b, i < n → fa i = some b → b < n ∧ p b < p i) (b : Nat) : ∀ j1 j2 x, x < n → p x < j1 → p x < j2 → kleads fa b j1 (some x) = kbel (paf n fa) b j2 (some x) := by
  intro j1
  induction j1 with
  | zero => intro j2 x _ h _; omega
  | succ j1 ih =>
    intro j2 x hx h1 h2
    cases j2 with
    | zero => omega
    | succ j2 =>
      rw [kleads, kbel]
      by_cases e : x = b
      · rw [if_pos e]
        subst e
        by_cases e0 : x = 0
        · rw [if_pos e0, if_pos e0]
        · rw [if_neg e0, if_pos rfl]
      · rw [if_neg e]
        by_cases e0 : x = 0
        · rw [if_pos e0, if_neg (by omega), e0, h0]
          cases j1 <;> rfl
        · rw [if_neg e0, if_neg e]
          have ep : paf n fa x = fa x := by unfold paf; rw [if_pos hx]
          rw [ep]
          cases q : fa x with
          | none => cases j1 <;> cases j2 <;> simp [kleads, kbel]
          | some d =>
            obtain ⟨d1, d2⟩ := hp x d hx q
            exact ih j2 d d1 (by omega) (by omega)
def DI (n c : Nat) (p : Nat → Nat) (B : Int) (k : Nat) (U W : UU) : Prop := RR n c U W ∧ Iv n p W ∧ Ck (B + 3) W ∧ ∀ a, k < a → -B ≤ (W.2.1 4 0 a).toInt ∧ (W.2.1 4 0 a).toInt ≤ B
section SL
variable {n s c : Nat} {fa : Nat → Option Nat} {p : Nat → Nat} {B : Int} {u w : UU}
theorem RR_dr (hn : n ≤ 6) (h1 : 1 ≤ n) (h : RR n c u w) (hj : Iv n p w) (hc : Ck B w) (hB0 : 0 ≤ B) (hB : B + 3 ≤ 2 ^ 29) : RR n c (fo kc_dr1 u n) (fo (fun k w => km_dr1 (k + 1) w) w (n - 1)) ∧ Jv n p (B + 3) (fo (fun k w => km_dr1 (k + 1) w) w (n - 1)) := by
  obtain ⟨m, rfl⟩ : ∃ m, n = m + 1 := ⟨n - 1, by omega⟩
  have e0 : kc_dr1 0 u = u := by
    unfold kc_dr1
    split
    · rfl
    · exact ui_same (by rw [h.dft (by omega), hj.2.2.2.2.1, Int32.add_zero])
  rw [fo_sh, e0, Nat.add_sub_cancel]
  have key : DI (m + 1) c p B m (fo (fun k => kc_dr1 (k + 1)) u m) (fo (fun k w => km_dr1 (k + 1) w) w m) := by
    refine RR_fo (I := DI (m + 1) c p B) m ⟨h, hj, fun a => ?_, fun a _ => hc a⟩ (fun k U W hk g => ?_)
    · have := hc a; omega
    · obtain ⟨g1, g2, g3, g4⟩ := g
      show DI (m + 1) c p B (k + 1) (kc_dr1 (k + 1) U) (km_dr1 (k + 1) W)
      unfold kc_dr1 km_dr1
      rw [g1.sta (i := k + 1) (by omega), g1.clk (i := k + 1) (by omega), g1.dft (i := k + 1) (by omega)]
      by_cases e : W.1 2 0 (k + 1) = 0
      · rw [if_pos e, if_pos e, ui_same (u := W) (k := 4) (i := 0) (j := k + 1) (by rw [show nI 0 = 0 from rfl, Int32.add_zero])]
        exact ⟨g1, g2, g3, fun a ha => g4 a (by omega)⟩
      · rw [if_neg e, if_neg e]
        have e1 := g4 (k + 1) (by omega)
        have e2 := g2.2.2.2.2.2.2.1 (k + 1)
        have e3 := add_sm (x := W.2.1 4 0 (k + 1)) (y := W.2.1 5 0 (k + 1)) (B := B + 3) hB (by omega) (by omega)
        have hJ : Jv (m + 1) p (B + 3) (ui W 4 0 (k + 1) (W.2.1 4 0 (k + 1) + W.2.1 5 0 (k + 1))) := Jv_ui ⟨g2, g3⟩ (by omega) (fun _ => by rw [e3]; omega)
        refine ⟨RR_ui hn g1 (ci_clk (by omega)) _, hJ.1, hJ.2, fun a ha => ?_⟩
        rw [ui_2, if_neg (by omega)]
        exact g4 a (by omega)
  exact ⟨key.1, key.2.1, key.2.2.1⟩
theorem fo_id {α : Type} {f : Nat → α → α} {u : α} : ∀ m, (∀ k, k < m → f k u = u) → fo f u m = u := by
  intro m
  induction m with
  | zero => intro _; rfl
  | succ m ih => intro h; rw [fo_s, ih (fun k hk => h k (by omega)), h m (by omega)]
theorem RR_slot (hn : n ≤ 6) (h1 : 1 ≤ n) (h0 : 0 < c) (hc : c ≤ 4) (hs0 : 0 < s) (hs : s ≤ 24) (h : RR n c u w) (hu : wf n u) (hw : wm n w) (hj : Jv n p B w) (hB0 : 0 ≤ B) (hB : B + 3 ≤ 2 ^ 29) (hl : LK n s c fa p u w) : RR n c (kc_slot n s c fa u) (km_slot n s c (paf n fa) w) ∧ Jv n p (B + 3) (km_slot n s c (paf n fa) w) := by
  obtain ⟨d1, d2⟩ := RR_dr hn h1 h hj.1 hj.2 hB0 hB
  have hu1 : ev n u (fo kc_dr1 u n) := ev_fo (fun _ _ _ => ev_dr1) n u hu
  have hw1 : em n w (fo (fun k w => km_dr1 (k + 1) w) w (n - 1)) := em_fo (fun _ _ _ => em_dr1) (n - 1) w hw
  have hl1 : LK n s c fa p (fo kc_dr1 u n) (fo (fun k w => km_dr1 (k + 1) w) w (n - 1)) := LK_st hl (sq_sp hu1.2) (sm2_of hw1.2)
  have hu2 := hu1.1 hu
  have hw2 := hw1.1 hw
  unfold kc_slot km_slot
  clear hu1 hw1
  generalize fo kc_dr1 u n = U at d1 hl1 hu2 ⊢
  generalize fo (fun k w => km_dr1 (k + 1) w) w (n - 1) = W at d1 d2 hl1 hw2 ⊢
  have fin : ∀ U' W', RR n c U' W' → Jv n p (B + 3) W' → RR n c (un U' 0 0 7 (U'.1 0 0 7 + 1)) (un W' 0 0 3 (W'.1 0 0 3 + 1)) ∧ Jv n p (B + 3) (un W' 0 0 3 (W'.1 0 0 3 + 1)) := fun U' W' a b => ⟨by rw [a.tim]; exact RR_un hn a cn_tim _, Jv_un b (by omega) (by omega) (by omega)⟩
  rw [hl1.1]
  by_cases e1 : W.1 0 0 12 = 0
  · rw [if_pos e1, if_pos e1]
    exact fin _ _ d1 d2
  · rw [if_neg e1, if_neg e1]
    obtain ⟨l1, l2, l3, l4, l5, l6, l7, l8, l9, l10⟩ := hl1.2 e1
    have hLp : Lp n U W := ⟨fun i hi => by rw [(l4 i hi).1, (l4 i hi).2], by
      have := (l4 0 (by omega)).2
      rw [l8] at this
      exact this⟩
    have hkl : ∀ b x, x < n → kleads fa b n (some x) = kbel (paf n fa) b 6 (some x) := fun b x hx => kl_kb l8 (fun i d hi hd => ⟨l9 i d hd, l10 i d hi hd⟩) b n 6 x hx (l7 x hx).2 (by have := (l7 x hx).2; omega)
    have hsl : W.1 0 0 3 % s < s := Nat.mod_lt _ hs0
    rw [d1.tim]
    generalize W.1 0 0 3 % s = sl at hsl ⊢
    by_cases e2 : 100 ≤ W.1 10 0 (4 * sl) ∧ W.1 10 0 (4 * sl) < 200
    · rw [if_pos e2]
      have hcd : ∀ k, k < c → U.1 20 (U.2.2.2 5) (sl * c + k) / 100 * 100 = 100 := fun k hk => by
        rw [l1 sl k hsl hk]
        have := (l3 sl k hsl hk).mpr e2
        omega
      have ef : kfst (W.1 10 0 (4 * sl)) = W.1 10 0 (4 * sl) / 10 % 10 := by
        unfold kfst; rw [if_neg (by omega)]
      have hcls : fo (kc_play1 n c fa sl) U c = kc_advertise n U (kfst (W.1 10 0 (4 * sl))) ((0 + U.1 0 0 7) % c) := by
        have e4 : fo (kc_play1 n c fa sl) U (c - 1 + 1) = kc_advertise n U (kfst (W.1 10 0 (4 * sl))) ((0 + U.1 0 0 7) % c) := by
          rw [fo_sh, kc_p1_a (hcd 0 h0) rfl, ef, l1 sl 0 hsl h0]
          refine fo_id _ (fun k hk => ?_)
          have hsp := (ev_advertise (n := n) (u := U) (a := W.1 10 0 (4 * sl + 0) / 10 % 10) (ch := (0 + U.1 0 0 7) % c) hu2).2
          refine kc_p1_b ?_ (by omega)
          rw [hsp.2.2, hsp.1 20 _ _ (by omega)]
          exact hcd (k + 1) (by omega)
        rw [show c - 1 + 1 = c by omega] at e4
        exact e4
      rw [hcls]
      refine fin _ _ (RR_advert hn h1 d1 hLp d2 hB ?_ h0) (Jv_advert d2)
      rw [ef]
      have := l2 (4 * sl) (by omega)
      omega
    · rw [if_neg e2]
      have key : (RR n c (fo (kc_play1 n c fa sl) U c) (fo (km_play1 c (paf n fa) sl) W c) ∧ Jv n p (B + 3) (fo (km_play1 c (paf n fa) sl) W c)) ∧ wf n (fo (kc_play1 n c fa sl) U c) ∧ wm n (fo (km_play1 c (paf n fa) sl) W c) ∧ sp U (fo (kc_play1 n c fa sl) U c) ∧ sm W (fo (km_play1 c (paf n fa) sl) W c) := by
        refine RR_fo (I := fun _ U' W' => (RR n c U' W' ∧ Jv n p (B + 3) W') ∧ wf n U' ∧ wm n W' ∧ sp U U' ∧ sm W W') c ⟨⟨d1, d2⟩, hu2, hw2, sp_rf U, sm_rf W⟩ (fun k U' W' hk g => ?_)
        obtain ⟨⟨g1, g2⟩, g3, g4, g5, g6⟩ := g
        have hev := ev_play1 (n := n) (c := c) (fa := fa) (sl := sl) (k := k) g3
        have hem := em_play1 (n := n) (c := c) (pa := paf n fa) (sl := sl) (k := k) g4
        refine ⟨⟨?_, Jv_play1 g2⟩, hev.1 g3, hem.1 g4, sp_tr g5 hev.2, sm_tr g6 hem.2⟩
        have ec : U'.1 20 (U'.2.2.2 5) (sl * c + k) = W'.1 10 0 (4 * sl + k) := by
          rw [g5.2.2, g5.1 20 _ _ (by omega), g6.1]; exact l1 sl k hsl hk
        have hz := l2 (4 * sl + k) (by omega)
        have hz2 : ¬ (100 ≤ W.1 10 0 (4 * sl + k) ∧ W.1 10 0 (4 * sl + k) < 200) := fun q => e2 ((l3 sl k hsl hk).mp q)
        have h400 := g4.2.2.2.1 (4 * sl + k)
        rw [← g6.1] at hz hz2
        have hch : (k + W'.1 0 0 3) % c < c := Nat.mod_lt _ h0
        have hLp2 := Lp_st hLp g5 g6
        show RR n c (kc_play1 n c fa sl k U') (km_play1 c (paf n fa) sl k W')
        have kf : 200 ≤ W'.1 10 0 (4 * sl + k) → kfst (W'.1 10 0 (4 * sl + k)) = W'.1 10 0 (4 * sl + k) / 10 % 10 ∧ ksnd (W'.1 10 0 (4 * sl + k)) = W'.1 10 0 (4 * sl + k) % 10 := fun q => by
          unfold kfst ksnd
          rw [if_neg (by omega), if_pos q]
          exact ⟨rfl, rfl⟩
        by_cases q3 : 300 ≤ W'.1 10 0 (4 * sl + k)
        · rw [kc_p1_d (by rw [ec]; omega), km_p1_a q3, ec, g1.tim, (kf (by omega)).1, (kf (by omega)).2]
          exact RR_down hn g1 g3 g2 hB hkl (by omega) (by omega) hch
        · by_cases q2 : 200 ≤ W'.1 10 0 (4 * sl + k)
          · rw [kc_p1_c (by rw [ec]; omega), km_p1_b (by omega) q2, ec, g1.tim, (kf (by omega)).1, (kf (by omega)).2]
            exact RR_up hn h1 g1 g3 g4 hLp2 g2 hB (by omega) (by omega) hch
          · rw [kc_p1_e (by rw [ec]; omega), km_p1_c (by omega)]
            exact g1
      exact fin _ _ key.1.1 key.1.2
theorem RR_slots (hn : n ≤ 6) (h1 : 1 ≤ n) (h0 : 0 < c) (hc : c ≤ 4) (hs0 : 0 < s) (hs : s ≤ 24) (h : RR n c u w) (hu : wf n u) (hw : wm n w) (hj : Jv n p B w) (hB0 : 0 ≤ B) (hl : LK n s c fa p u w) : ∀ m : Nat, u.1 0 0 7 + m < 2 ^ 30 → B + 3 * m ≤ 2 ^ 29 → RR n c (fo (fun _ w => kc_slot n s c fa w) u m) (fo (fun _ w => km_slot n s c (paf n fa) w) w m) ∧ Jv n p (B + 3 * m) (fo (fun _ w => km_slot n s c (paf n fa) w) w m) := by
  intro m
  induction m with
  | zero =>
    intro _ _
    refine ⟨h, ?_⟩
    rw [show B + 3 * ((0 : Nat) : Int) = B by omega]
    exact hj
  | succ m ih =>
    intro q1 q2
    obtain ⟨i1, i2⟩ := ih (by omega) (by omega)
    have ht := h.tim
    obtain ⟨a1, a2, a3⟩ := wf_slots (s := s) (c := c) (fa := fa) hu m (by omega)
    obtain ⟨b1, b2, b3⟩ := wm_slots (s := s) (c := c) (pa := paf n fa) hw m (by omega)
    have := RR_slot hn h1 h0 hc hs0 hs i1 a1 b1 i2 (by omega) (by omega) (LK_st hl a3 b3)
    rw [show B + 3 * ((m + 1 : Nat) : Int) = B + 3 * (m : Int) + 3 by omega]
    exact this
end SL
