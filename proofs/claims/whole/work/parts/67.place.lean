/-! Plan: cells find the same places (pure rows) -/
theorem dm_inj {a b c x y : Nat} (h : a * c + b = x * c + y) (hb : b < c) (hy : y < c) : a = x ∧ b = y := by
  rcases Nat.lt_trichotomy a x with e | e | e
  · have h1 := Nat.mul_le_mul_right c (show a + 1 ≤ x from e)
    rw [Nat.add_mul, Nat.one_mul] at h1
    omega
  · subst e; omega
  · have h1 := Nat.mul_le_mul_right c (show x + 1 ≤ a from e)
    rw [Nat.add_mul, Nat.one_mul] at h1
    omega
def PG (n s c : Nat) (g1 g2 : Nat → Nat) (z m : Nat) : Prop :=
  (∀ sl k, sl < s → k < c → g1 (sl * c + k) = g2 (4 * sl + k)) ∧
  (∀ q, q < 96 → g2 q = 0 ∨ (100 ≤ g2 q ∧ g2 q < 400 ∧ g2 q / 10 % 10 < n ∧ g2 q % 10 < n)) ∧
  (∀ sl k, sl < s → k < c → ((100 ≤ g2 (4 * sl + k) ∧ g2 (4 * sl + k) < 200) ↔ (100 ≤ g2 (4 * sl) ∧ g2 (4 * sl) < 200))) ∧
  (∀ sl j k, sl < s → j ≤ k → k < c → g2 (4 * sl + j) = 0 → g2 (4 * sl + k) = 0) ∧
  z = m + cn (fun q => decide (200 ≤ g2 q)) 96
theorem kpi_c (g : Nat → Nat) (sl z : Nat) : ∀ m (w : Option Nat × Nat), ((kpi_ g sl z m w).1 = match fnd (fun k => decide (g (4 * sl + k) = 0)) m 0 with
    | some k => some k
    | none => w.1) ∧ ((kpi_ g sl z m w).2 = 0 ↔ w.2 = 0 ∨ ∃ k, k < m ∧ g (4 * sl + k) ≠ 0 ∧ kcl z (g (4 * sl + k)) ≠ 0) := by
  intro m
  induction m with
  | zero =>
    intro w
    refine ⟨rfl, ⟨fun h => Or.inl h, fun h => ?_⟩⟩
    rcases h with h | ⟨k, hk, _⟩
    · exact h
    · omega
  | succ m ih =>
    intro w
    obtain ⟨i1, i2⟩ := ih (kst z (g (4 * sl + m)) m w)
    rw [kpi_]
    refine ⟨?_, ?_⟩
    · rw [i1]
      cases e : fnd (fun k => decide (g (4 * sl + k) = 0)) m 0 with
      | some k => rw [fnd_sn e]
      | none =>
        show (if g (4 * sl + m) = 0 then some m else w.1) = _
        by_cases q : g (4 * sl + m) = 0
        · rw [fnd_nn e (by rw [Nat.zero_add]; exact decide_eq_true q), if_pos q, Nat.zero_add]
        · rw [fnd_nf e (by rw [Nat.zero_add]; exact decide_eq_false q), if_neg q]
    · rw [i2]
      have e : (kst z (g (4 * sl + m)) m w).2 = 0 ↔ w.2 = 0 ∨ (g (4 * sl + m) ≠ 0 ∧ kcl z (g (4 * sl + m)) ≠ 0) := by
        show (if w.2 = 0 then 0 else if g (4 * sl + m) = 0 then 1 else if kcl z (g (4 * sl + m)) = 0 then 1 else 0) = 0 ↔ _
        by_cases q1 : w.2 = 0
        · rw [if_pos q1]; exact ⟨fun _ => Or.inl q1, fun _ => rfl⟩
        · rw [if_neg q1]
          by_cases q2 : g (4 * sl + m) = 0
          · rw [if_pos q2]
            refine ⟨fun h => by omega, fun h => ?_⟩
            rcases h with h | h
            · exact absurd h q1
            · exact absurd q2 h.1
          · rw [if_neg q2]
            by_cases q3 : kcl z (g (4 * sl + m)) = 0
            · rw [if_pos q3]
              refine ⟨fun h => by omega, fun h => ?_⟩
              rcases h with h | h
              · exact absurd h q1
              · exact absurd q3 h.2
            · rw [if_neg q3]
              exact ⟨fun _ => Or.inr ⟨q2, q3⟩, fun _ => rfl⟩
      rw [e]
      constructor
      · rintro ((h | h) | ⟨k, hk, h⟩)
        · exact Or.inl h
        · exact Or.inr ⟨m, by omega, h⟩
        · exact Or.inr ⟨k, by omega, h⟩
      · rintro (h | ⟨k, hk, h⟩)
        · exact Or.inl (Or.inl h)
        · by_cases q : k = m
          · subst q; exact Or.inl (Or.inr h)
          · exact Or.inr ⟨k, by omega, h⟩
section KF
variable {g : Nat → Nat} {c a x y : Nat}
theorem kfree_s : ∀ j k b, k ≤ b → b < k + j → g (a * c + b) = 0 → (∀ i, k ≤ i → i < b → g (a * c + i) ≠ 0 ∧ ¬ g (a * c + i) / 100 * 100 = 100 ∧ ktouch (g (a * c + i)) x = 0 ∧ ktouch (g (a * c + i)) y = 0) → kfree g c a x y j k = some b := by
  intro j
  induction j with
  | zero => intro k b h1 h2; omega
  | succ j ih =>
    intro k b h1 h2 h3 h4
    rw [kfree]
    by_cases e : k = b
    · subst e; rw [if_pos h3]
    · obtain ⟨q1, q2, q3, q4⟩ := h4 k (Nat.le_refl k) (by omega)
      rw [if_neg q1, if_neg q2, if_neg (by rw [q3]; omega), if_neg (by rw [q4]; omega)]
      exact ih (k + 1) b (by omega) (by omega) h3 (fun i hi => h4 i (by omega))
theorem kfree_z : ∀ j k, (∀ i, k ≤ i → i < k + j → g (a * c + i) ≠ 0) → kfree g c a x y j k = none := by
  intro j
  induction j with
  | zero => intro k _; rfl
  | succ j ih =>
    intro k h
    rw [kfree, if_neg (h k (Nat.le_refl k) (by omega)), ih (k + 1) (fun i h1 h2 => h i (by omega) (by omega))]
    split
    · rfl
    · split
      · rfl
      · split <;> rfl
theorem kfree_b : ∀ j k i, k ≤ i → i < k + j → (∀ d, k ≤ d → d ≤ i → g (a * c + d) ≠ 0) → (g (a * c + i) / 100 * 100 = 100 ∨ ktouch (g (a * c + i)) x ≠ 0 ∨ ktouch (g (a * c + i)) y ≠ 0) → kfree g c a x y j k = none := by
  intro j
  induction j with
  | zero => intro k i h1 h2; omega
  | succ j ih =>
    intro k i h1 h2 h3 h4
    rw [kfree, if_neg (h3 k (Nat.le_refl k) h1)]
    by_cases e : k = i
    · subst e
      by_cases q1 : g (a * c + k) / 100 * 100 = 100
      · rw [if_pos q1]
      · rw [if_neg q1]
        by_cases q2 : ktouch (g (a * c + k)) x ≠ 0
        · rw [if_pos q2]
        · rw [if_neg q2, if_pos]
          rcases h4 with h | h | h
          · exact absurd h q1
          · exact absurd h q2
          · exact h
    · rw [ih (k + 1) i (by omega) (by omega) (fun d d1 d2 => h3 d (by omega) d2) h4]
      split
      · rfl
      · split
        · rfl
        · split <;> rfl
theorem kfree_w : ∀ j k b, kfree g c a x y j k = some b → k ≤ b ∧ b < k + j ∧ g (a * c + b) = 0 ∧ ∀ i, k ≤ i → i < b → g (a * c + i) ≠ 0 := by
  intro j
  induction j with
  | zero => intro k b h; cases h
  | succ j ih =>
    intro k b h
    rw [kfree] at h
    split at h
    · rename_i h0
      cases h
      exact ⟨Nat.le_refl k, by omega, h0, fun i h1 h2 => by omega⟩
    · rename_i h0
      split at h
      · cases h
      · split at h
        · cases h
        · split at h
          · cases h
          · obtain ⟨i1, i2, i3, i4⟩ := ih (k + 1) b h
            refine ⟨by omega, by omega, i3, fun i h1 h2 => ?_⟩
            by_cases e : i = k
            · subst e; exact h0
            · exact i4 i (by omega) h2
theorem klink_w : ∀ j k p, klink g c x y j k = some p → k ≤ p.1 ∧ p.1 < k + j ∧ kfree g c p.1 x y c 0 = some p.2 := by
  intro j
  induction j with
  | zero => intro k p h; cases h
  | succ j ih =>
    intro k p h
    cases e : kfree g c k x y c 0 with
    | some b =>
      rw [klink_s e] at h
      cases h
      exact ⟨Nat.le_refl k, by show k < _; omega, e⟩
    | none =>
      rw [klink_n e] at h
      obtain ⟨i1, i2, i3⟩ := ih (k + 1) p h
      exact ⟨by omega, by omega, i3⟩
end KF
theorem kcl_t {d x y q : Nat} (hd : d = 200 ∨ d = 300) (hx : x < 10) (hy : y < 10) (hq : 200 ≤ q) : kcl (d + 10 * x + y) q ≠ 0 ↔ ktouch q x ≠ 0 ∨ ktouch q y ≠ 0 := by
  have e1 : kfst (d + 10 * x + y) = x := by unfold kfst; rw [if_neg (by omega)]; omega
  have e2 : ksnd (d + 10 * x + y) = y := by unfold ksnd; rw [if_pos (by omega)]; omega
  have e3 : kfst q = q / 10 % 10 := by unfold kfst; rw [if_neg (by omega)]
  have e4 : ksnd q = q % 10 := by unfold ksnd; rw [if_pos hq]
  unfold kcl ktouch
  rw [e1, e2, e3, e4]
  generalize q / 10 % 10 = A
  generalize q % 10 = C
  by_cases h1 : A = x
  · rw [if_pos h1, if_pos h1]; exact ⟨fun _ => Or.inl (by omega), fun _ => by omega⟩
  · rw [if_neg h1, if_neg h1]
    by_cases h2 : A = y
    · rw [if_pos h2, if_pos h2]; exact ⟨fun _ => Or.inr (by omega), fun _ => by omega⟩
    · rw [if_neg h2, if_neg h2]
      by_cases h3 : C = x
      · rw [if_pos h3, if_pos h3]; exact ⟨fun _ => Or.inl (by omega), fun _ => by omega⟩
      · rw [if_neg h3, if_neg h3]
        by_cases h4 : C = y
        · rw [if_pos h4]; exact ⟨fun _ => Or.inr (by omega), fun _ => by omega⟩
        · rw [if_neg h4]
          exact ⟨fun h => absurd rfl h, fun h => by omega⟩
section PGS
variable {n s c : Nat} {g1 g2 : Nat → Nat} {z m : Nat}
theorem slot_eq (h : PG n s c g1 g2 z m) (hs : s ≤ 24) (hc : c ≤ 4) {d x y sl : Nat} (hd : d = 200 ∨ d = 300) (hx : x < 10) (hy : y < 10) (hsl : sl < s) : kfree g1 c sl x y c 0 = if (kpi_ g2 sl (d + 10 * x + y) c (none, kg0 g2 sl)).2 = 0 then none else (kpi_ g2 sl (d + 10 * x + y) c (none, kg0 g2 sl)).1 := by
  obtain ⟨p1, p2, p3, p4, p5⟩ := h
  obtain ⟨k1, k2⟩ := kpi_c g2 sl (d + 10 * x + y) c (none, kg0 g2 sl)
  cases e : fnd (fun k => decide (g2 (4 * sl + k) = 0)) c 0 with
  | none =>
    rw [e] at k1
    have hz : ∀ i, 0 ≤ i → i < 0 + c → g1 (sl * c + i) ≠ 0 := fun i _ hi => by
      have := fnd_none e i (Nat.zero_le i) hi
      rw [p1 sl i hsl (by omega)]
      exact of_decide_eq_false this
    rw [kfree_z c 0 hz, k1]
    split <;> rfl
  | some b =>
    rw [e] at k1
    obtain ⟨a1, a2, a3⟩ := fnd_some e
    have a1 : g2 (4 * sl + b) = 0 := of_decide_eq_true a1
    have hbc : b < c := by omega
    have hnz : ∀ i, i < b → g2 (4 * sl + i) ≠ 0 := fun i hi => of_decide_eq_false (fnd_first e i (Nat.zero_le i) hi)
    have hr : ∀ i, i < b → 100 ≤ g2 (4 * sl + i) ∧ g2 (4 * sl + i) < 400 := fun i hi => by
      have q1 := p2 (4 * sl + i) (by omega)
      have q2 := hnz i hi
      omega
    by_cases bad : ∃ i, i < b ∧ (g2 (4 * sl + i) / 100 * 100 = 100 ∨ ktouch (g2 (4 * sl + i)) x ≠ 0 ∨ ktouch (g2 (4 * sl + i)) y ≠ 0)
    · obtain ⟨i, hi, hb⟩ := bad
      rw [kfree_b c 0 i (Nat.zero_le i) (by omega) (fun d _ hd => by rw [p1 sl d hsl (by omega)]; exact hnz d (by omega)) (by rw [p1 sl i hsl (by omega)]; exact hb)]
      rw [if_pos]
      rw [k2]
      have q1 := hr i hi
      by_cases ad : g2 (4 * sl + i) < 200
      · left
        have q2 := (p3 sl i hsl (by omega)).mp ⟨q1.1, ad⟩
        show kg0 g2 sl = 0
        unfold kg0
        rw [if_neg (by omega), if_pos q2.2]
      · right
        refine ⟨i, by omega, hnz i hi, (kcl_t hd hx hy (by omega)).mpr ?_⟩
        rcases hb with hb | hb
        · omega
        · exact hb
    · have hg : ∀ i, i < b → ¬ g2 (4 * sl + i) / 100 * 100 = 100 ∧ ktouch (g2 (4 * sl + i)) x = 0 ∧ ktouch (g2 (4 * sl + i)) y = 0 := fun i hi => by
        refine ⟨fun q => bad ⟨i, hi, Or.inl q⟩, ?_, ?_⟩
        · by_cases q : ktouch (g2 (4 * sl + i)) x = 0
          · exact q
          · exact absurd ⟨i, hi, Or.inr (Or.inl q)⟩ bad
        · by_cases q : ktouch (g2 (4 * sl + i)) y = 0
          · exact q
          · exact absurd ⟨i, hi, Or.inr (Or.inr q)⟩ bad
      rw [kfree_s c 0 b (Nat.zero_le b) (by omega) (by rw [p1 sl b hsl hbc]; exact a1) (fun i _ hi => by rw [p1 sl i hsl (by omega)]; exact ⟨hnz i hi, hg i hi⟩)]
      rw [if_neg, k1]
      rw [k2]
      rintro (q | ⟨k, hk, q1, q2⟩)
      · have q : kg0 g2 sl = 0 := q
        unfold kg0 at q
        split at q
        · omega
        · split at q
          · rename_i w1 w2
            by_cases hb0 : b = 0
            · subst hb0
              have : g2 (4 * sl) = 0 := a1
              omega
            · have := (hg 0 (by omega)).1
              have e0 : g2 (4 * sl + 0) = g2 (4 * sl) := rfl
              rw [e0] at this
              omega
          · omega
      · by_cases hkb : k < b
        · have w1 := hr k hkb
          have w2 := hg k hkb
          have w3 := (kcl_t hd hx hy (q := g2 (4 * sl + k)) (by omega)).mp q2
          rcases w3 with w3 | w3
          · exact w3 w2.2.1
          · exact w3 w2.2.2
        · exact q1 (p4 sl b k hsl (by omega) hk a1)
theorem link_eq (h : PG n s c g1 g2 z m) (hs : s ≤ 24) (hc : c ≤ 4) {d x y : Nat} (hd : d = 200 ∨ d = 300) (hx : x < 10) (hy : y < 10) : ∀ j k, k + j = s → klink g1 c x y j k = kplc g2 c (d + 10 * x + y) j k := by
  intro j
  induction j with
  | zero => intro k _; rfl
  | succ j ih =>
    intro k hk
    have e := slot_eq h hs hc hd hx hy (sl := k) (by omega)
    rw [kplc]
    by_cases q : (kpi_ g2 k (d + 10 * x + y) c (none, kg0 g2 k)).2 = 0
    · rw [if_pos q] at e
      rw [if_pos q, klink_n e]
      exact ih (k + 1) (by omega)
    · rw [if_neg q] at e
      rw [if_neg q]
      cases r : (kpi_ g2 k (d + 10 * x + y) c (none, kg0 g2 k)).1 with
      | none =>
        rw [r] at e
        rw [klink_n e]
        exact ih (k + 1) (by omega)
      | some b =>
        rw [r] at e
        rw [klink_s e]
theorem PG_set (h : PG n s c g1 g2 z m) (hs : s ≤ 24) (hc : c ≤ 4) {sl b v : Nat} (hsl : sl < s) (hb : b < c) (h0 : g2 (4 * sl + b) = 0) (hf : ∀ j, j < b → g2 (4 * sl + j) ≠ 0) (hv : 200 ≤ v ∧ v < 400 ∧ v / 10 % 10 < n ∧ v % 10 < n) {G1 G2 : Nat → Nat} (e1 : ∀ q, G1 q = if q = sl * c + b then v else g1 q) (e2 : ∀ q, G2 q = if q = 4 * sl + b then v else g2 q) : PG n s c G1 G2 (z + 1) m := by
  obtain ⟨p1, p2, p3, p4, p5⟩ := h
  refine ⟨fun s2 k h1 h2 => ?_, fun q hq => ?_, fun s2 k h1 h2 => ?_, fun s2 j k h1 h2 h3 h4 => ?_, ?_⟩
  · rw [e1, e2]
    by_cases q : s2 = sl ∧ k = b
    · obtain ⟨rfl, rfl⟩ := q
      rw [if_pos rfl, if_pos rfl]
    · rw [if_neg (fun w => q (dm_inj w h2 hb)), if_neg (by omega)]
      exact p1 s2 k h1 h2
  · rw [e2]
    split
    · omega
    · exact p2 q hq
  · have q3 := p3 s2 k h1 h2
    have q4 := p3 sl b hsl hb
    rw [e2, e2]
    by_cases w1 : 4 * s2 + k = 4 * sl + b
    · have : s2 = sl ∧ k = b := by omega
      obtain ⟨rfl, rfl⟩ := this
      rw [if_pos rfl]
      by_cases w2 : 4 * s2 = 4 * s2 + k
      · rw [if_pos w2]
      · rw [if_neg w2]
        omega
    · rw [if_neg w1]
      by_cases w2 : 4 * s2 = 4 * sl + b
      · have w3 : s2 = sl ∧ b = 0 := by omega
        obtain ⟨rfl, rfl⟩ := w3
        rw [if_pos w2]
        have := p4 s2 0 k h1 (Nat.zero_le k) h2 h0
        omega
      · rw [if_neg w2]
        exact q3
  · rw [e2] at h4 ⊢
    by_cases w1 : 4 * s2 + j = 4 * sl + b
    · rw [if_pos w1] at h4; omega
    · rw [if_neg w1] at h4
      by_cases w2 : 4 * s2 + k = 4 * sl + b
      · have w3 : s2 = sl ∧ k = b := by omega
        obtain ⟨rfl, rfl⟩ := w3
        exact absurd h4 (hf j (by omega))
      · rw [if_neg w2]
        exact p4 s2 j k h1 h2 h3 h4
  · have := cn_up (q := fun q => decide (200 ≤ g2 q)) (r := fun q => decide (200 ≤ G2 q)) (m := 96) (k := 4 * sl + b) (by omega) (by rw [h0]; rfl) (by rw [e2, if_pos rfl]; exact decide_eq_true hv.1) (fun a ha => by rw [e2, if_neg ha])
    rw [this, p5]
    omega
theorem PG_adv (h : PG n s c g1 g2 z m) (hs : s ≤ 24) (h0c : 0 < c) (hc : c ≤ 4) {sl v : Nat} (hsl : sl < s) (h0 : g2 (4 * sl) = 0) (hv : 100 ≤ v ∧ v < 200 ∧ v / 10 % 10 < n ∧ v % 10 < n) {G1 G2 : Nat → Nat} (e1 : ∀ q, G1 q = if sl * c ≤ q ∧ q < sl * c + c then v else g1 q) (e2 : ∀ q, G2 q = if 4 * sl ≤ q ∧ q < 4 * sl + c then v else g2 q) : PG n s c G1 G2 (z + 1) (m + 1) := by
  obtain ⟨p1, p2, p3, p4, p5⟩ := h
  have hz : ∀ k, k < c → g2 (4 * sl + k) = 0 := fun k hk => p4 sl 0 k hsl (Nat.zero_le k) hk h0
  refine ⟨fun s2 k h1 h2 => ?_, fun q hq => ?_, fun s2 k h1 h2 => ?_, fun s2 j k h1 h2 h3 h4 => ?_, ?_⟩
  · rw [e1, e2]
    by_cases q : s2 = sl
    · subst q
      rw [if_pos ⟨by omega, by omega⟩, if_pos ⟨by omega, by omega⟩]
    · rw [if_neg (fun w => q ((dm_inj (y := s2 * c + k - sl * c) (x := sl) (a := s2) (b := k) (c := c) (by omega) h2 (by omega)).1)), if_neg (by omega)]
      exact p1 s2 k h1 h2
  · rw [e2]
    split
    · omega
    · exact p2 q hq
  · rw [e2, e2]
    by_cases q : s2 = sl
    · subst q
      rw [if_pos ⟨by omega, by omega⟩, if_pos ⟨by omega, by omega⟩]
    · rw [if_neg (by omega), if_neg (by omega)]
      exact p3 s2 k h1 h2
  · rw [e2] at h4 ⊢
    by_cases q : s2 = sl
    · subst q
      rw [if_pos ⟨by omega, by omega⟩] at h4
      omega
    · rw [if_neg (by omega)] at h4 ⊢
      exact p4 s2 j k h1 h2 h3 h4
  · have : cn (fun q => decide (200 ≤ G2 q)) 96 = cn (fun q => decide (200 ≤ g2 q)) 96 := cn_eq (fun k hk => by
      show decide (200 ≤ G2 k) = decide (200 ≤ g2 k)
      rw [e2]
      by_cases q : 4 * sl ≤ k ∧ k < 4 * sl + c
      · have := hz (k - 4 * sl) (by omega)
        rw [show 4 * sl + (k - 4 * sl) = k by omega] at this
        rw [if_pos q, this, decide_eq_false (by omega), decide_eq_false (by omega)]
      · rw [if_neg q])
    rw [this, p5]
    omega
end PGS
