/-! Plan: both end alike (pure rows) -/
theorem fin_v (n : Nat) (b : UU) : (∀ q, q < 96 → (km_fin n b).1 10 0 q = b.1 13 0 q) ∧ (km_fin n b).1 0 0 12 = 1 ∧ (∀ j, j < 6 → (km_fin n b).1 8 0 j = b.1 11 0 j) ∧ (∀ j, (km_fin n b).1 3 0 j = if j < 6 then (if j = 0 then 1 else 0) else b.1 3 0 j) ∧ (∀ j, j < 6 → (km_fin n b).1 14 0 j = b.1 14 0 j) ∧ (∀ a i j, (a ≠ 8 ∧ a ≠ 3 ∧ a ≠ 18 ∧ a ≠ 19 ∧ a ≠ 14 ∧ a ≠ 10) → (a = 0 → j ≠ 12) → (km_fin n b).1 a i j = b.1 a i j) ∧ (∀ j, j < 12 → (km_fin n b).2.1 9 0 j = b.2.1 12 0 j) ∧ (∀ a i j, a ≠ 9 → (km_fin n b).2.1 a i j = b.2.1 a i j) ∧ (km_fin n b).2.2 = b.2.2 := by
  obtain ⟨q1, q2, q3⟩ := cq_v n b 96
  obtain ⟨d1, d2, d3⟩ := c2_v (km_cq n b 96).1 12
  obtain ⟨e1, e2, e3, e4, e5⟩ := c3_v (fo km_c2 (km_cq n b 96).1 12) 6
  unfold km_fin
  refine ⟨fun q hq => ?_, ?_, fun j hj => ?_, fun j => ?_, fun j hj => ?_, fun a i j ha h0 => ?_, fun j hj => ?_, fun a i j ha => ?_, ?_⟩
  · rw [e2 10 0 q (by decide) (by decide) (by decide) (by decide) (by decide), d1, q1, if_pos ⟨rfl, rfl, hq⟩]
  · rw [e2 0 0 12 (by decide) (by decide) (by decide) (by decide) (by decide), d1, q1, if_neg (by omega), if_pos ⟨rfl, rfl, rfl⟩]
  · rw [e3, if_pos hj, d1, q1, if_neg (by omega), if_neg (by omega)]
  · rw [e4, d1, q1, if_neg (show ¬ (3 = 10 ∧ 0 = 0 ∧ j < 96) by omega), if_neg (show ¬ (3 = 0 ∧ 0 = 0 ∧ j = 12) by omega)]
  · rw [e5 j hj, d1, q1, if_neg (by omega), if_neg (by omega)]
  · rw [e2 a i j ha.1 ha.2.1 ha.2.2.1 ha.2.2.2.1 ha.2.2.2.2.1, d1, q1, if_neg (fun q => ha.2.2.2.2.2 q.1), if_neg (fun q => h0 q.1 q.2.2)]
  · rw [e1, d3, if_pos ⟨rfl, rfl, hj⟩, q2]
  · rw [e1, d3, if_neg (fun q => ha q.1), q2]
  · rw [e1, d2, q2]
theorem ent_v (u : UU) (m : Nat) : ∀ k i j, k ≠ 4 → k ≠ 8 → (fo (fun k w => kc_enter w k) u m).1 k i j = u.1 k i j := by
  induction m with
  | zero => intro _ _ _ _ _; rfl
  | succ m ih =>
    intro k i j h1 h2
    rw [fo_s]
    unfold kc_enter
    rw [un_1, if_neg (fun q => h2 q.1), un_1, if_neg (fun q => h1 q.1), un_1, if_neg (fun q => h1 q.1), un_1, if_neg (fun q => h1 q.1)]
    exact ih k i j h1 h2
theorem wf_ur {n : Nat} {u : UU} (h : wf n u) {j v : Nat} (hv : v < 2) : wf n (ur u j v) := by
  obtain ⟨g1, g2, g3, g4, g5, g6, g7, g8, g9, g10, g11, g12, g13⟩ := h
  refine ⟨g1, g2, g3, g4, g5, g6, g7, g8, g9, g10, g11, ?_, ?_⟩
  · rw [ur_4]; split
    · exact hv
    · exact g12
  · rw [ur_4]; split
    · exact hv
    · exact g13
theorem wf_ent {n : Nat} {u : UU} (h : wf n u) (m : Nat) : wf n (fo (fun k w => kc_enter w k) u m) := by
  refine fo_in (I := fun _ w => wf n w) m h (fun k w _ g => ?_)
  show wf n (kc_enter w k)
  unfold kc_enter
  refine wf_un (wf_un (wf_un (wf_un g ?_) (by omega)) (by omega)) (by omega)
  split <;> omega
theorem wm_fin {n : Nat} {b : UU} (h : wm n b) (h13 : ∀ j, b.1 13 0 j < 400) (h1 : 1 ≤ n) : wm n (km_fin n b) := by
  have k1 : wm n (km_cq n b 96).1 ∧ ∀ j, (km_cq n b 96).1.1 13 0 j < 400 := by
    refine fo_in (I := fun _ (q : UU × Nat) => wm n q.1 ∧ ∀ j, q.1.1 13 0 j < 400) 96 ⟨wm_un h (by omega), fun j => ?_⟩ (fun k q _ g => ?_)
    · rw [un_1, if_neg (by omega)]; exact h13 j
    · show wm n (km_c1 k q).1 ∧ ∀ j, (km_c1 k q).1.1 13 0 j < 400
      unfold km_c1
      refine ⟨wm_un g.1 ?_, fun j => ?_⟩
      · have := g.2 k; omega
      · show (un q.1 10 0 k (q.1.1 13 0 k)).1 13 0 j < 400
        rw [un_1, if_neg (by omega)]; exact g.2 j
  have k2 : wm n (fo km_c2 (km_cq n b 96).1 12) := fo_in (I := fun _ w => wm n w) 12 k1.1 (fun k w _ g => wm_ui g)
  unfold km_fin
  refine fo_in (I := fun _ w => wm n w) 6 k2 (fun k w _ g => ?_)
  show wm n (km_c3 k w)
  unfold km_c3
  refine wm_un (wm_un (wm_un (wm_un (wm_un g (by omega)) ?_) (by omega)) (by omega)) (by omega)
  split <;> omega
/-- what a plan leaves, in both -/
def PE (n s c : Nat) (B : Int) (w : UU) (x y : Int32 × UU) : Prop := x.1 = y.1 ∧ RR n c x.2 y.2 ∧ wf n x.2 ∧ wm n y.2 ∧ x.2.2.2.2 5 + x.2.2.2.2 6 = 1 ∧ y.2.1 0 0 3 = w.1 0 0 3 ∧ ∃ fb r, Jv n r B y.2 ∧ LK n s c fb r x.2 y.2
section PL
variable {n s c p : Nat} {fa : Nat → Option Nat} {r : Nat → Nat} {B : Int} {u w M Q : UU}
theorem PE_no (h : RR n c u w) (hu : wf n u) (hw : wm n w) (hj : Jv n r B w) (hl : LK n s c fa r u w) (h56 : u.2.2.2 5 + u.2.2.2 6 = 1) (hp : p = u.2.2.2 6) (gM : cG p u M) (gQ : mG n w Q) : PE n s c B w (-1, M) (-1, Q) := by
  refine ⟨rfl, RR_G h gM gQ, wf_G hu gM, wm_G hw gQ, ?_, gQ.1 0 0 3 (by decide) (by decide), fa, r, Jv_G hj gQ, LK_G hl (by omega) gM gQ⟩
  show M.2.2.2 5 + M.2.2.2 6 = 1
  rw [gM.2.2.1]
  exact h56
theorem PE_ok {fb : Nat → Option Nat} (h1 : 1 ≤ n) (hn : n ≤ 6) (h0 : 0 < c) (hc : c ≤ 4) (hs : s ≤ 24) (h : RR n c u w) (hu : wf n u) (hw : wm n w) (hj : Jv n r B w) (h56 : u.2.2.2 5 + u.2.2.2 6 = 1) (hp : p = u.2.2.2 6) (gM : cG p u M) (gQ : mG n w Q) (hP : PU n s c p n M Q) (hM8 : M.1 15 p 8 = 1) (hf : ∀ i, i < n → M.2.1 17 p i = io (fb i) ∧ Q.2.1 12 0 (2 * i) = io (fb i)) (hg : ∀ i, i < n → M.2.1 18 p i = Q.2.1 12 0 (2 * i + 1)) (hr : ∀ i, i < n → M.2.1 16 p i = nI (Q.1 11 0 i) ∧ Q.1 11 0 i < n) (hf0 : fb 0 = none) (hfl : ∀ i b, fb i = some b → b < n) (hfr : ∀ i b, i < n → fb i = some b → Q.1 11 0 b < Q.1 11 0 i) : PE n s c B w (nI ((fo (fun k w => kc_enter w k) (ur (ur M 6 (u.2.2.2 5)) 5 p) n).1 15 p 7), fo (fun k w => kc_enter w k) (ur (ur M 6 (u.2.2.2 5)) 5 p) n) (nI (km_cq n Q 96).2, km_fin n Q) := by
  obtain ⟨f1, f2, f3, f4, f5, f6, f7, f8, f9⟩ := fin_v n Q
  obtain ⟨q1, q2, q3⟩ := cq_v n Q 96
  obtain ⟨d1, d2, d3⟩ := c2_v (km_cq n Q 96).1 12
  obtain ⟨P1, P2, P3, P4, P5⟩ := hP
  obtain ⟨a1, a2, a3, a4, a5⟩ := gM
  obtain ⟨b1, b2, b3, b4, b5, b6⟩ := gQ
  have gM : cG p u M := ⟨a1, a2, a3, a4, a5⟩
  have gQ : mG n w Q := ⟨b1, b2, b3, b4, b5, b6⟩
  have ev := ent_v (ur (ur M 6 (u.2.2.2 5)) 5 p) n
  have ev2 := kc_enters_2 (ur (ur M 6 (u.2.2.2 5)) 5 p) n
  have e5 : (fo (fun k w => kc_enter w k) (ur (ur M 6 (u.2.2.2 5)) 5 p) n).2.2.2 5 = p := by rw [ev2]; rfl
  have e6 : (fo (fun k w => kc_enter w k) (ur (ur M 6 (u.2.2.2 5)) 5 p) n).2.2.2 6 = u.2.2.2 5 := by rw [ev2]; rfl
  have ei : ∀ k i j, (fo (fun k w => kc_enter w k) (ur (ur M 6 (u.2.2.2 5)) 5 p) n).2.1 k i j = M.2.1 k i j := fun k i j => by rw [ev2]; rfl
  have en : ∀ k i j, k ≠ 4 → k ≠ 8 → (fo (fun k w => kc_enter w k) (ur (ur M 6 (u.2.2.2 5)) 5 p) n).1 k i j = M.1 k i j := fun k i j h1 h2 => by rw [ev k i j h1 h2]; rfl
  have hRR : RR n c (fo (fun k w => kc_enter w k) (ur (ur M 6 (u.2.2.2 5)) 5 p) n) (km_fin n Q) := by
    unfold km_fin
    refine RR_ent hn (RR_fr h (fun k i j hk => a1 k i j (Or.inl hk)) (fun k i j hk => a2 k i j (Or.inl hk)) (by show M.2.2.1 = u.2.2.1; rw [a3]) (fun k j h8 h10 h11 h13 h012 => ?_) (fun k j h9 h12 => ?_) ?_)
    · rw [d1, q1, if_neg (fun q => h10 q.1), if_neg (fun q => h012 q.1 q.2.2)]
      exact b1 k 0 j h11 h13
    · rw [d3, if_neg (fun q => h9 q.1), q2]
      exact b2 k 0 j h12
    · rw [d2, q2, b3]
  have hwf : wf n (fo (fun k w => kc_enter w k) (ur (ur M 6 (u.2.2.2 5)) 5 p) n) := wf_ent (wf_ur (wf_ur (wf_G hu gM) (by omega)) (by omega)) n
  refine ⟨?_, hRR, hwf, wm_fin (wm_G hw gQ) b5 h1, by show _ + _ = 1; rw [e5, e6]; omega, ?_, fb, fun a => (km_fin n Q).1 8 0 a, ?_, ?_, fun _ => ?_⟩
  · show nI _ = nI _
    rw [en 15 p 7 (by decide) (by decide), q3, P5]
  · show (km_fin n Q).1 0 0 3 = _
    rw [f6 0 0 3 (by decide) (by omega)]
    exact b1 0 0 3 (by decide) (by decide)
  · obtain ⟨⟨g1, g2, g3, g4, g5, g6, g7, g8, g9, g10, g11⟩, hcK⟩ := Jv_G hj gQ
    refine ⟨⟨fun a b ha hb => ?_, ?_, ?_, ?_, ?_, fun a ha => ?_, fun a => ?_, fun a => rfl, fun a => ?_, fun a => ?_, fun a ha => ?_⟩, fun a => ?_⟩
    · show (km_fin n Q).1 1 0 _ = (km_fin n Q).1 1 0 _
      rw [f6 1 0 _ (by decide) (by omega), f6 1 0 _ (by decide) (by omega)]; exact g1 a b ha hb
    · show (km_fin n Q).1 2 0 0 = 1
      rw [f6 2 0 _ (by decide) (by omega)]; exact g2
    · show (km_fin n Q).1 3 0 0 = 1
      rw [f4, if_pos (by decide), if_pos rfl]
    · show (km_fin n Q).1 14 0 0 = 0
      rw [f5 0 (by decide)]; exact g4
    · show (km_fin n Q).2.1 5 0 0 = 0
      rw [f8 5 0 0 (by decide)]; exact g5
    · have ha : (km_fin n Q).1 2 0 a = 0 := ha
      rw [f6 2 0 _ (by decide) (by omega)] at ha
      show (km_fin n Q).1 3 0 a = 0
      rw [f4]
      split
      · split
        · rename_i q; rw [q, g2] at ha; omega
        · rfl
      · exact g6 a ha
    · show -3 ≤ ((km_fin n Q).2.1 5 0 a).toInt ∧ ((km_fin n Q).2.1 5 0 a).toInt ≤ 3
      rw [f8 5 0 a (by decide)]; exact g7 a
    · show (km_fin n Q).1 11 0 a ≤ 99
      rw [f6 11 0 _ (by decide) (by omega)]; exact g9 a
    · show (km_fin n Q).1 13 0 a < 400
      rw [f6 13 0 _ (by decide) (by omega)]; exact g10 a
    · show (km_fin n Q).2.1 12 0 a = 0
      rw [f8 12 0 a (by decide)]; exact g11 a ha
    · show -B ≤ ((km_fin n Q).2.1 4 0 a).toInt ∧ ((km_fin n Q).2.1 4 0 a).toInt ≤ B
      rw [f8 4 0 a (by decide)]; exact hcK a
  · show (fo (fun k w => kc_enter w k) (ur (ur M 6 (u.2.2.2 5)) 5 p) n).1 15 _ 8 = (km_fin n Q).1 0 0 12
    rw [e5, en 15 p 8 (by decide) (by decide), f2, hM8]
  · show (∀ sl k, sl < s → k < c → (fo (fun k w => kc_enter w k) (ur (ur M 6 (u.2.2.2 5)) 5 p) n).1 20 ((fo (fun k w => kc_enter w k) (ur (ur M 6 (u.2.2.2 5)) 5 p) n).2.2.2 5) (sl * c + k) = (km_fin n Q).1 10 0 (4 * sl + k)) ∧ _
    rw [e5]
    refine ⟨fun sl k hsl hk => ?_, fun q hq => ?_, fun sl k hsl hk => ?_, fun i hi => ?_, fun i hi => ?_, fun i hi h6 => ?_, fun i hi => ?_, hf0, hfl, fun i b hi hb => ?_⟩
    · rw [en 20 p _ (by decide) (by decide), f1 _ (by omega)]
      exact P1 sl k hsl hk
    · show (km_fin n Q).1 10 0 q = 0 ∨ (100 ≤ (km_fin n Q).1 10 0 q ∧ (km_fin n Q).1 10 0 q / 10 % 10 < n ∧ (km_fin n Q).1 10 0 q % 10 < n)
      rw [f1 q hq]
      rcases P2 q hq with e | e
      · exact Or.inl e
      · exact Or.inr ⟨e.1, e.2.2.1, e.2.2.2⟩
    · show (100 ≤ (km_fin n Q).1 10 0 (4 * sl + k) ∧ (km_fin n Q).1 10 0 (4 * sl + k) < 200) ↔ (100 ≤ (km_fin n Q).1 10 0 (4 * sl) ∧ (km_fin n Q).1 10 0 (4 * sl) < 200)
      rw [f1 _ (by omega), f1 _ (by omega)]
      exact P3 sl k hsl hk
    · show (fo (fun k w => kc_enter w k) (ur (ur M 6 (u.2.2.2 5)) 5 p) n).2.1 17 _ i = io (fb i) ∧ (km_fin n Q).2.1 9 0 (2 * i) = io (fb i)
      rw [ei, f7 _ (by omega)]
      exact hf i hi
    · show (fo (fun k w => kc_enter w k) (ur (ur M 6 (u.2.2.2 5)) 5 p) n).2.1 18 _ i = (km_fin n Q).2.1 9 0 (2 * i + 1)
      rw [ei, f7 _ (by omega)]
      exact hg i hi
    · show (km_fin n Q).2.1 9 0 (2 * i) = nI 0
      rw [f7 _ (by omega)]
      exact b6 _ (by omega)
    · show (fo (fun k w => kc_enter w k) (ur (ur M 6 (u.2.2.2 5)) 5 p) n).2.1 16 _ i = nI ((km_fin n Q).1 8 0 i) ∧ (km_fin n Q).1 8 0 i < n
      rw [ei, f3 i (by omega)]
      exact hr i hi
    · have := hfl i b hb
      show (km_fin n Q).1 8 0 b < (km_fin n Q).1 8 0 i
      rw [f3 i (by omega), f3 b (by omega)]
      exact hfr i b hi hb
end PL
/-! the ranks, found by both -/
theorem mk_v (s c : Nat) (u : UU) (p : Nat) : (kmk s c u p).2 = u.2 ∧ ∀ a b d, (kmk s c u p).1 a b d = if a = 20 ∧ b = p ∧ d < s * c then 0 else if a = 15 ∧ b = p ∧ (d = 7 ∨ d = 8) then 0 else u.1 a b d := by
  obtain ⟨k1, k2⟩ := kfl20 (un (un u 15 p 8 0) 15 p 7 0) p 0 (s * c)
  refine ⟨k1, fun a b d => ?_⟩
  unfold kmk
  rw [k2, un_1, un_1]
  by_cases h : a = 20 ∧ b = p ∧ d < s * c
  · rw [if_pos h, if_pos h]
  · rw [if_neg h, if_neg h]
    by_cases h7 : a = 15 ∧ b = p ∧ d = 7
    · rw [if_pos h7, if_pos (by omega)]
    · rw [if_neg h7]
      by_cases h8 : a = 15 ∧ b = p ∧ d = 8
      · rw [if_pos h8, if_pos (by omega)]
      · rw [if_neg h8, if_neg (by omega)]
abbrev nb (u : UU) : Nat → Nat → Bool := fun a b => decide (u.1 7 a b ≠ 0)
section RA
variable {n s c p : Nat} {u : UU}
theorem cr_I (h1 : 1 ≤ n) (hn : n ≤ 6) : cI n p (nb u) n 0 (kc_ranks n (kmk s c u p) p) :=
  cI_all h1 (by omega) (fun a b _ _ => by rw [(mk_v s c u p).2, if_neg (by omega), if_neg (by omega)])
theorem cr_n (h1 : 1 ≤ n) (hn : n ≤ 6) (hz : ∀ a b, u.1 7 a b ≤ 1) : (kc_ranks n (kmk s c u p) p).2 = n ↔ ∀ a, a < n → rkf n (nb u) n a ≠ none := by
  have hk : kri n p (kc_ranks n (kmk s c u p) p) := kri_3 (by omega) (n - 1) 1 _ (kri_0 h1 (fun a b => by rw [(mk_v s c u p).2, if_neg (by omega), if_neg (by omega)]; exact hz a b)) (by omega)
  obtain ⟨c1, c2, c3⟩ := cr_I (s := s) (c := c) (p := p) (u := u) h1 hn
  have e : ∀ a, a < n → (kas (kc_ranks n (kmk s c u p) p).1 p a = true ↔ rkf n (nb u) n a ≠ none) := fun a ha => by
    unfold kas
    rw [decide_eq_true_eq, c2 a ha, if_neg (by omega)]
    constructor
    · intro q z; rw [z] at q; exact q rfl
    · intro q z; exact q (io_m1 (fun b hb => by have := rkf_lt hb; omega) z)
  rw [hk.1]
  constructor
  · intro q a ha
    exact (e a ha).mp (cn_all (by omega) a ha)
  · intro q
    exact cn_full (fun a ha => (e a ha).mpr (q a ha))
theorem cr_G (h1 : 1 ≤ n) (hn : n ≤ 6) (hu : wf n u) : cG p u (kc_ranks n (kmk s c u p) p).1 := by
  obtain ⟨k1, k2, k3, k4, -⟩ := kro_all (u := kmk s c u p) (p := p) h1 (by omega)
  obtain ⟨m1, m2⟩ := mk_v s c u p
  refine ⟨fun k i j hk => ?_, fun k i j hk => ?_, by rw [k2, m1], fun q => ?_, ?_⟩
  · by_cases e : k = 19
    · subst e
      rw [(k4 i j (by omega)).2, m2, if_neg (by omega), if_neg (by omega)]
    · rw [k1 k i j e, m2, if_neg (by omega), if_neg (by omega)]
  · by_cases e : k = 16
    · subst e
      rw [(k4 i j (by omega)).1, m1]
    · rw [k3 k i j e, m1]
  · rw [k1 20 p q (by decide), m2]
    split
    · omega
    · rw [if_neg (by omega)]; exact hu.2.2.2.2.2.2.2.2.2.1 p q
  · rw [k1 15 p 8 (by decide), m2, if_neg (by omega), if_pos ⟨rfl, rfl, Or.inr rfl⟩]
    omega
theorem cp_G {U : UU} (h1 : 1 ≤ n) (h : cG p u U) : cG p u (kc_parents n U p) := by
  obtain ⟨p1, p2, p3, p4, -⟩ := kpi_all (u := U) (n := n) (p := p) h1
  obtain ⟨a1, a2, a3, a4, a5⟩ := h
  refine ⟨fun k i j hk => by rw [p1]; exact a1 k i j hk, fun k i j hk => ?_, p2.trans a3, fun q => by rw [p1]; exact a4 q, by rw [p1]; exact a5⟩
  by_cases e : k = 17
  · subst e; rw [(p4 i j (by omega)).1]; exact a2 17 i j hk
  · by_cases e2 : k = 18
    · subst e2; rw [(p4 i j (by omega)).2]; exact a2 18 i j hk
    · rw [p3 k i j e e2]; exact a2 k i j hk
theorem cF_G {U V : UU} (h : cG p u U) (g : cF p U V) : cG p u V := by
  obtain ⟨a1, a2, a3, a4, a5⟩ := h
  obtain ⟨b1, b2, b3⟩ := g
  refine ⟨fun k i j hk => ?_, fun k i j hk => by rw [b2]; exact a2 k i j hk, by rw [b2]; exact a3, b3 a4, by rw [b1 15 p 8 (by omega) (by omega)]; exact a5⟩
  rw [b1 k i j (by omega) (by omega)]
  exact a1 k i j hk
theorem c8_G {U : UU} (h : cG p u U) {v : Nat} (hv : v ≤ 1) : cG p u (un U 15 p 8 v) := by
  obtain ⟨a1, a2, a3, a4, a5⟩ := h
  refine ⟨fun k i j hk => ?_, a2, a3, fun q => ?_, ?_⟩
  · rw [un_1, if_neg (by omega)]; exact a1 k i j hk
  · rw [un_1, if_neg (by omega)]; exact a4 q
  · rw [un_1, if_pos ⟨rfl, rfl, rfl⟩]; exact hv
end RA
