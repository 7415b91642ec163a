/-! Plan of the model: ranks, parents (pure rows) -/
theorem fo_in {α : Type} {f : Nat → α → α} {u : α} {I : Nat → α → Prop} (m : Nat) (h0 : I 0 u) (hs : ∀ k w, k < m → I k w → I (k + 1) (f k w)) : I m (fo f u m) := by
  have key : ∀ q, q ≤ m → I q (fo f u q) := by
    intro q
    induction q with
    | zero => intro _; exact h0
    | succ q ih => intro hq; exact hs q _ (by omega) (ih (by omega))
  exact key m (Nat.le_refl m)
/-- in round m, before the look at (a, b) -/
def mI (n : Nat) (N : Nat → Nat → Bool) (u : UU) (m a b : Nat) (w : UU) : Prop := (∀ k i j, k ≠ 11 → w.1 k i j = u.1 k i j) ∧ w.2 = u.2 ∧ (∀ j, w.1 11 0 j ≤ 99) ∧ (∀ x, x < n → w.1 11 0 x < 99 → rc n N (w.1 11 0 x) x = true) ∧ (∀ x j, x < n → j ≤ m → rc n N j x = true → w.1 11 0 x ≤ j) ∧ ∀ x y, x < n → y < n → (x < a ∨ (x = a ∧ y < b)) → N y x = true → rc n N m x = true → w.1 11 0 y ≤ m + 1
section MR
variable {n : Nat} {N : Nat → Nat → Bool} {u : UU}
theorem mI_x {m a b : Nat} {w : UU} (hN : ∀ a b, a < n → b < n → N b a = decide (u.1 1 0 (6 * a + b) ≠ 0)) (ha : a < n) (hb : b < n) (h : mI n N u m a b w) : mI n N u m a (b + 1) (km_rx a b w) := by
  obtain ⟨i1, i2, i3, i4, i5, i6⟩ := h
  have hne : N b a = decide (w.1 1 0 (6 * a + b) ≠ 0) := by rw [hN a b ha hb, i1 1 0 _ (by omega)]
  unfold km_rx
  by_cases e1 : w.1 1 0 (6 * a + b) = 0
  · rw [if_pos e1]
    refine ⟨i1, i2, i3, i4, i5, fun x y hx hy hxy hn hr => ?_⟩
    by_cases e : x = a ∧ y = b
    · obtain ⟨rfl, rfl⟩ := e
      rw [hne, e1] at hn
      exact absurd hn (by decide)
    · exact i6 x y hx hy (by omega) hn hr
  · rw [if_neg e1]
    by_cases e2 : w.1 11 0 b ≤ w.1 11 0 a + 1
    · rw [if_pos e2]
      refine ⟨i1, i2, i3, i4, i5, fun x y hx hy hxy hn hr => ?_⟩
      by_cases e : x = a ∧ y = b
      · obtain ⟨rfl, rfl⟩ := e
        have := i5 x m hx (Nat.le_refl m) hr
        omega
      · exact i6 x y hx hy (by omega) hn hr
    · rw [if_neg e2]
      have h99 := i3 b
      have hle : ∀ x, (un w 11 0 b (w.1 11 0 a + 1)).1 11 0 x ≤ w.1 11 0 x := fun x => by
        rw [un_1]
        split
        · rename_i q; rw [q.2.2]; omega
        · exact Nat.le_refl _
      refine ⟨fun k i j hk => ?_, i2, fun j => ?_, fun x hx hl => ?_, fun x j hx hj hr => ?_, fun x y hx hy hxy hn hr => ?_⟩
      · rw [un_1, if_neg (fun q => hk q.1)]; exact i1 k i j hk
      · have := hle j; have := i3 j; omega
      · by_cases q : x = b
        · subst q
          rw [un_1, if_pos ⟨rfl, rfl, rfl⟩]
          exact rc_st ha (by rw [hne]; exact decide_eq_true e1) (i4 a ha (by omega))
        · rw [un_1, if_neg (fun z => q z.2.2)] at hl ⊢
          exact i4 x hx hl
      · have := hle x; have := i5 x j hx hj hr; omega
      · by_cases q : y = b
        · subst q
          by_cases z : x = a
          · subst z
            have := i5 x m hx (Nat.le_refl m) hr
            rw [un_1, if_pos ⟨rfl, rfl, rfl⟩]
            omega
          · have := hle y; have := i6 x y hx hy (by omega) hn hr; omega
        · have := hle y; have := i6 x y hx hy (by omega) hn hr; omega
theorem mI_A {m a : Nat} {w : UU} (hN : ∀ a b, a < n → b < n → N b a = decide (u.1 1 0 (6 * a + b) ≠ 0)) (ha : a < n) (h : mI n N u m a 0 w) : mI n N u m (a + 1) 0 (km_rA n a w) := by
  have key : mI n N u m a n (km_rA n a w) := fo_in (I := fun b w => mI n N u m a b w) n h (fun b w hb g => mI_x hN ha hb g)
  obtain ⟨i1, i2, i3, i4, i5, i6⟩ := key
  exact ⟨i1, i2, i3, i4, i5, fun x y hx hy hxy => i6 x y hx hy (by omega)⟩
theorem mI_R {m : Nat} {w : UU} (hN : ∀ a b, a < n → b < n → N b a = decide (u.1 1 0 (6 * a + b) ≠ 0)) (h : mI n N u m 0 0 w) : mI n N u (m + 1) 0 0 (km_rR n w) := by
  have key : mI n N u m n 0 (km_rR n w) := fo_in (I := fun a w => mI n N u m a 0 w) n h (fun a w ha g => mI_A hN ha g)
  obtain ⟨i1, i2, i3, i4, i5, i6⟩ := key
  refine ⟨i1, i2, i3, i4, fun x j hx hj hr => ?_, fun x y hx hy hxy => by omega⟩
  by_cases e : j = m + 1
  · subst e
    rcases rc_in hr with q | ⟨b, b1, b2, b3⟩
    · have := i5 x m hx (Nat.le_refl m) q; omega
    · exact i6 b x b1 hx (by omega) b2 b3
  · exact i5 x j hx (by omega) hr
theorem mr_1 (u : UU) (m : Nat) : (∀ k i j, (fo km_r1 u m).1 k i j = if k = 11 ∧ i = 0 ∧ j < m then (if j = 0 then 0 else 99) else u.1 k i j) ∧ (fo km_r1 u m).2 = u.2 := by
  induction m with
  | zero => exact ⟨fun k i j => by rw [if_neg (by omega)]; rfl, rfl⟩
  | succ m ih =>
    refine ⟨fun k i j => ?_, ih.2⟩
    show (un (fo km_r1 u m) 11 0 m (if m = 0 then 0 else 99)).1 k i j = _
    rw [un_1, ih.1]
    by_cases e : k = 11 ∧ i = 0 ∧ j = m
    · rw [if_pos e, if_pos (show k = 11 ∧ i = 0 ∧ j < m + 1 by omega), e.2.2]
    · rw [if_neg e]
      by_cases e2 : k = 11 ∧ i = 0 ∧ j < m
      · rw [if_pos e2, if_pos (show k = 11 ∧ i = 0 ∧ j < m + 1 by omega)]
      · rw [if_neg e2, if_neg (show ¬ (k = 11 ∧ i = 0 ∧ j < m + 1) by omega)]
theorem mr_all (h1 : 1 ≤ n) (hn : n ≤ 6) (hN : ∀ a b, a < n → b < n → N b a = decide (u.1 1 0 (6 * a + b) ≠ 0)) (h99 : ∀ j, u.1 11 0 j ≤ 99) : (∀ k i j, k ≠ 11 → (km_rk n u).1 k i j = u.1 k i j) ∧ (km_rk n u).2 = u.2 ∧ (∀ j, (km_rk n u).1 11 0 j ≤ 99) ∧ ∀ a, a < n → (km_rk n u).1 11 0 a = (rkf n N n a).getD 99 := by
  obtain ⟨f1, f2⟩ := mr_1 u 6
  have h0 : mI n N u 0 0 0 (fo km_r1 u 6) := by
    refine ⟨fun k i j hk => by rw [f1, if_neg (fun q => hk q.1)], f2, fun j => ?_, fun x hx hl => ?_, fun x j hx hj hr => ?_, fun x y hx hy hxy => by omega⟩
    · rw [f1]; split
      · split <;> omega
      · exact h99 j
    · rw [f1, if_pos ⟨rfl, rfl, by omega⟩] at hl ⊢
      by_cases e : x = 0
      · rw [if_pos e, rc]; exact decide_eq_true e
      · rw [if_neg e] at hl; omega
    · have e : j = 0 := by omega
      subst e
      rw [rc] at hr
      rw [f1, if_pos ⟨rfl, rfl, by omega⟩, if_pos (of_decide_eq_true hr)]
      exact Nat.le_refl 0
  have key : mI n N u 6 0 0 (km_rk n u) := fo_in (I := fun m w => mI n N u m 0 0 w) 6 h0 (fun m w _ g => mI_R hN g)
  obtain ⟨i1, i2, i3, i4, i5, i6⟩ := key
  refine ⟨i1, i2, i3, fun a ha => ?_⟩
  cases e : rkf n N n a with
  | none =>
    show _ = 99
    by_cases q : (km_rk n u).1 11 0 a < 99
    · have := rc_all h1 ha (i4 a ha q)
      have h2 := fnd_none e (n - 1) (Nat.zero_le _) (by omega)
      rw [this] at h2
      cases h2
    · have := i3 a; omega
  | some j =>
    show _ = j
    obtain ⟨a1, a2, a3⟩ := fnd_some e
    have h2 := i5 a j ha (by omega) a1
    have h3 := i4 a ha (by omega)
    by_cases q : (km_rk n u).1 11 0 a < j
    · have h4 := fnd_first e _ (Nat.zero_le _) q
      rw [h3] at h4
      cases h4
    · omega
end MR
theorem al_iff (w : UU) (m : Nat) : km_al w m ≠ 0 ↔ ∀ a, a < m → w.1 11 0 a < 99 := by
  induction m with
  | zero => exact ⟨fun _ a h => by omega, fun _ => by rw [km_al]; omega⟩
  | succ m ih =>
    rw [km_al]
    by_cases e : km_al w m = 0
    · rw [if_pos e]
      refine ⟨fun h => absurd rfl h, fun h => absurd e (ih.mpr (fun a ha => h a (by omega)))⟩
    · rw [if_neg e]
      have h1 := ih.mp e
      by_cases e2 : 99 ≤ w.1 11 0 m
      · rw [if_pos e2]
        refine ⟨fun h => absurd rfl h, fun h => ?_⟩
        have := h m (by omega); omega
      · rw [if_neg e2]
        refine ⟨fun _ a ha => ?_, fun _ => by omega⟩
        by_cases q : a = m
        · subst q; omega
        · exact h1 a (by omega)
/-! parents -/
def kpb (w : UU) (a b : Nat) : Bool := decide (w.1 1 0 (6 * a + b) ≠ 0 ∧ nI (w.1 11 0 b) = nI (w.1 11 0 a) - nI 1)
def pf (n : Nat) (w : UU) (a : Nat) : Option Nat := fnd (kpb w a) n 0
def ps (n : Nat) (w : UU) (a : Nat) : Option Nat := fnd (kpb w a) (n - kfr (pf n w a)) (kfr (pf n w a))
theorem f1_t {a b : Nat} {w : UU × Nat} (h : kpb w.1 a b = true) : km_f1 a b w = (ui w.1 12 0 (2 * a + w.2) (nI b), w.2 + 1) := by
  have h := of_decide_eq_true h
  exact km_f1_c h.1 h.2
theorem f1_f {a b : Nat} {w : UU × Nat} (h : kpb w.1 a b = false) : km_f1 a b w = w := by
  have h := of_decide_eq_false h
  by_cases e : w.1.1 1 0 (6 * a + b) = 0
  · exact km_f1_a e
  · exact km_f1_b e (fun q => h ⟨e, q⟩)
theorem f2_2 {a j b : Nat} {w : UU} : km_f2 a j b (w, 2) = (w, 2) := by
  cases j with
  | zero => rfl
  | succ j => rw [km_f2, if_pos (Nat.le_refl 2)]
theorem f2_1 {a : Nat} : ∀ j b (w : UU), (km_f2 a j b (w, 1)).1 = match fnd (kpb w a) j b with
    | none => w
    | some y => ui w 12 0 (2 * a + 1) (nI y) := by
  intro j
  induction j with
  | zero => intro b w; rfl
  | succ j ih =>
    intro b w
    rw [km_f2, if_neg (show ¬ 2 ≤ 1 by omega), fnd]
    cases e : kpb w a b with
    | true => rw [f1_t (w := (w, 1)) e, f2_2, if_pos rfl]
    | false => rw [f1_f (w := (w, 1)) e, if_neg (by decide)]; exact ih (b + 1) w
theorem f2_0 {a : Nat} : ∀ j b (w : UU), (km_f2 a j b (w, 0)).1 = match fnd (kpb w a) j b with
    | none => w
    | some x => match fnd (kpb w a) (b + j - (x + 1)) (x + 1) with
      | none => ui w 12 0 (2 * a) (nI x)
      | some y => ui (ui w 12 0 (2 * a) (nI x)) 12 0 (2 * a + 1) (nI y) := by
  intro j
  induction j with
  | zero => intro b w; rfl
  | succ j ih =>
    intro b w
    rw [km_f2, if_neg (show ¬ 2 ≤ 0 by omega), fnd]
    cases e : kpb w a b with
    | true =>
      rw [f1_t (w := (w, 0)) e, if_pos rfl]
      show (km_f2 a j (b + 1) (ui w 12 0 (2 * a) (nI b), 1)).1 = match fnd (kpb w a) (b + (j + 1) - (b + 1)) (b + 1) with
        | none => ui w 12 0 (2 * a) (nI b)
        | some y => ui (ui w 12 0 (2 * a) (nI b)) 12 0 (2 * a + 1) (nI y)
      rw [f2_1, show b + (j + 1) - (b + 1) = j by omega]
      rfl
    | false =>
      rw [f1_f (w := (w, 0)) e, if_neg (by decide), ih (b + 1) w, show b + 1 + j = b + (j + 1) by omega]
theorem f3_v {n a : Nat} {w : UU} : (km_f3 n a w).1 = w.1 ∧ (km_f3 n a w).2.2 = w.2.2 ∧ ∀ k i j, (km_f3 n a w).2.1 k i j = if k = 12 ∧ i = 0 ∧ j = 2 * a then io (pf n w a) else if k = 12 ∧ i = 0 ∧ j = 2 * a + 1 then io (ps n w a) else w.2.1 k i j := by
  have e0 : km_f3 n a w = match fnd (kpb w a) n 0 with
    | none => ui (ui w 12 0 (2 * a) (-1)) 12 0 (2 * a + 1) (-1)
    | some x => match fnd (kpb w a) (0 + n - (x + 1)) (x + 1) with
      | none => ui (ui (ui w 12 0 (2 * a) (-1)) 12 0 (2 * a + 1) (-1)) 12 0 (2 * a) (nI x)
      | some y => ui (ui (ui (ui w 12 0 (2 * a) (-1)) 12 0 (2 * a + 1) (-1)) 12 0 (2 * a) (nI x)) 12 0 (2 * a + 1) (nI y) := f2_0 n 0 (ui (ui w 12 0 (2 * a) (-1)) 12 0 (2 * a + 1) (-1))
  have e9 : ∀ x, fnd (kpb w a) n 0 = some x → ps n w a = fnd (kpb w a) (0 + n - (x + 1)) (x + 1) := fun x q => by
    unfold ps pf
    rw [q, Nat.zero_add]
    rfl
  cases q : fnd (kpb w a) n 0 with
  | none =>
    have e1 : pf n w a = none := q
    have e2 : ps n w a = none := by
      unfold ps
      rw [e1]
      exact q
    rw [q] at e0
    rw [e0, e1, e2]
    refine ⟨rfl, rfl, fun k i j => ?_⟩
    show (ui (ui w 12 0 (2 * a) (-1)) 12 0 (2 * a + 1) (-1)).2.1 k i j = _
    rw [ui_2, ui_2]
    by_cases h1 : k = 12 ∧ i = 0 ∧ j = 2 * a
    · rw [if_pos h1, if_neg (by omega), if_pos h1]; rfl
    · rw [if_neg h1, if_neg h1]; rfl
  | some x =>
    have e1 : pf n w a = some x := q
    have e2 := e9 x q
    rw [q] at e0
    rw [e1, e2]
    cases r : fnd (kpb w a) (0 + n - (x + 1)) (x + 1) with
    | none =>
      have e3 : km_f3 n a w = ui (ui (ui w 12 0 (2 * a) (-1)) 12 0 (2 * a + 1) (-1)) 12 0 (2 * a) (nI x) := by
        rw [e0]
        show (match fnd (kpb w a) (0 + n - (x + 1)) (x + 1) with
          | none => _
          | some y => _) = _
        rw [r]
      rw [e3]
      refine ⟨rfl, rfl, fun k i j => ?_⟩
      rw [ui_2, ui_2, ui_2]
      by_cases h1 : k = 12 ∧ i = 0 ∧ j = 2 * a
      · rw [if_pos h1, if_pos h1]; rfl
      · rw [if_neg h1, if_neg h1, if_neg h1]; rfl
    | some y =>
      have e3 : km_f3 n a w = ui (ui (ui (ui w 12 0 (2 * a) (-1)) 12 0 (2 * a + 1) (-1)) 12 0 (2 * a) (nI x)) 12 0 (2 * a + 1) (nI y) := by
        rw [e0]
        show (match fnd (kpb w a) (0 + n - (x + 1)) (x + 1) with
          | none => _
          | some y => _) = _
        rw [r]
      rw [e3]
      refine ⟨rfl, rfl, fun k i j => ?_⟩
      rw [ui_2, ui_2, ui_2, ui_2]
      by_cases h1 : k = 12 ∧ i = 0 ∧ j = 2 * a
      · rw [if_neg (by omega), if_pos h1, if_pos h1]; rfl
      · by_cases h2 : k = 12 ∧ i = 0 ∧ j = 2 * a + 1
        · rw [if_pos h2, if_neg h1, if_pos h2]; rfl
        · rw [if_neg h2, if_neg h1, if_neg h2, if_neg h1, if_neg h1, if_neg h2]
theorem mp_all {n : Nat} {u : UU} : (km_parents n u).1 = u.1 ∧ (km_parents n u).2.2 = u.2.2 ∧ (∀ k i j, k ≠ 12 → (km_parents n u).2.1 k i j = u.2.1 k i j) ∧ (∀ j, 2 * n ≤ j → (km_parents n u).2.1 12 0 j = u.2.1 12 0 j) ∧ ∀ a, a < n → (km_parents n u).2.1 12 0 (2 * a) = io (pf n u a) ∧ (km_parents n u).2.1 12 0 (2 * a + 1) = io (ps n u a) := by
  have key : ∀ m, (fo (km_f3 n) u m).1 = u.1 ∧ (fo (km_f3 n) u m).2.2 = u.2.2 ∧ (∀ k i j, k ≠ 12 → (fo (km_f3 n) u m).2.1 k i j = u.2.1 k i j) ∧ (∀ j, 2 * m ≤ j → (fo (km_f3 n) u m).2.1 12 0 j = u.2.1 12 0 j) ∧ ∀ a, a < m → (fo (km_f3 n) u m).2.1 12 0 (2 * a) = io (pf n u a) ∧ (fo (km_f3 n) u m).2.1 12 0 (2 * a + 1) = io (ps n u a) := by
    intro m
    induction m with
    | zero => exact ⟨rfl, rfl, fun _ _ _ _ => rfl, fun _ _ => rfl, fun a h => by omega⟩
    | succ m ih =>
      obtain ⟨i1, i2, i3, i4, i5⟩ := ih
      rw [fo_s]
      obtain ⟨v1, v2, v3⟩ := f3_v (n := n) (a := m) (w := fo (km_f3 n) u m)
      have ep : ∀ a, kpb (fo (km_f3 n) u m) a = kpb u a := fun a => by
        funext b
        unfold kpb
        rw [i1]
      have e1 : pf n (fo (km_f3 n) u m) m = pf n u m := by unfold pf; rw [ep]
      have e2 : ps n (fo (km_f3 n) u m) m = ps n u m := by unfold ps; rw [e1, ep]
      rw [e1, e2] at v3
      refine ⟨v1.trans i1, v2.trans i2, fun k i j hk => ?_, fun j hj => ?_, fun a ha => ?_⟩
      · rw [v3, if_neg (fun q => hk q.1), if_neg (fun q => hk q.1)]; exact i3 k i j hk
      · rw [v3, if_neg (by omega), if_neg (by omega)]; exact i4 j (by omega)
      · rw [v3, v3]
        by_cases e : a = m
        · subst e
          rw [if_pos ⟨rfl, rfl, rfl⟩, if_neg (by omega), if_pos ⟨rfl, rfl, rfl⟩]
          exact ⟨rfl, rfl⟩
        · rw [if_neg (by omega), if_neg (by omega), if_neg (by omega), if_neg (by omega)]
          exact i5 a (by omega)
  exact key n
