/-! Plan: frames, and what the end of the model's plan leaves (pure rows) -/
def cG (p : Nat) (u U : UU) : Prop := (∀ k i j, k < 15 ∨ i ≠ p → U.1 k i j = u.1 k i j) ∧ (∀ k i j, k < 15 ∨ i ≠ p → U.2.1 k i j = u.2.1 k i j) ∧ U.2.2 = u.2.2 ∧ (∀ q, U.1 20 p q < 400) ∧ U.1 15 p 8 ≤ 1
def mG (n : Nat) (w W : UU) : Prop := (∀ k i j, k ≠ 11 → k ≠ 13 → W.1 k i j = w.1 k i j) ∧ (∀ k i j, k ≠ 12 → W.2.1 k i j = w.2.1 k i j) ∧ W.2.2 = w.2.2 ∧ (∀ j, W.1 11 0 j ≤ 99) ∧ (∀ j, W.1 13 0 j < 400) ∧ ∀ j, 2 * n ≤ j → W.2.1 12 0 j = 0
theorem RR_fr {n c : Nat} {u w U W : UU} (h : RR n c u w) (a1 : ∀ k i j, k < 15 → U.1 k i j = u.1 k i j) (a2 : ∀ k i j, k < 15 → U.2.1 k i j = u.2.1 k i j) (a3 : U.2.2.1 = u.2.2.1) (b1 : ∀ k j, k ≠ 8 → k ≠ 10 → k ≠ 11 → k ≠ 13 → (k = 0 → j ≠ 12) → W.1 k 0 j = w.1 k 0 j) (b2 : ∀ k j, k ≠ 9 → k ≠ 12 → W.2.1 k 0 j = w.2.1 k 0 j) (b3 : W.2.2.1 = w.2.2.1) : RR n c U W := by
  refine ⟨fun k i j k2 j2 g => ?_, fun k i j k2 j2 g => ?_, fun k i j k2 j2 g => ?_⟩
  · have e : k < 15 ∧ k2 ≠ 8 ∧ k2 ≠ 10 ∧ k2 ≠ 11 ∧ k2 ≠ 13 ∧ (k2 = 0 → j2 ≠ 12) := by
      have g2 := g
      unfold CN at g2
      rcases g2 with g2 | g2 | g2 | g2 | g2 | g2 | g2 | g2 | g2 <;> omega
    rw [a1 k i j e.1, b1 k2 j2 e.2.1 e.2.2.1 e.2.2.2.1 e.2.2.2.2.1 e.2.2.2.2.2]
    exact h.1 _ _ _ _ _ g
  · have e : k < 15 ∧ k2 ≠ 9 ∧ k2 ≠ 12 := by
      have g2 := g
      unfold CI at g2
      rcases g2 with g2 | g2 | g2 | g2 | g2 | g2 | g2 | g2 | g2 | g2 | g2 | g2 | g2 | g2 <;> omega
    rw [a2 k i j e.1, b2 k2 j2 e.2.1 e.2.2]
    exact h.2.1 _ _ _ _ _ g
  · rw [a3, b3]
    exact h.2.2 _ _ _ _ _ g
section FR
variable {n s c p : Nat} {fa : Nat → Option Nat} {r : Nat → Nat} {B : Int} {u w U W : UU}
theorem RR_G (h : RR n c u w) (h1 : cG p u U) (h2 : mG n w W) : RR n c U W :=
  RR_fr h (fun k i j hk => h1.1 k i j (Or.inl hk)) (fun k i j hk => h1.2.1 k i j (Or.inl hk)) (by rw [h1.2.2.1]) (fun k j _ _ q3 q4 _ => h2.1 k 0 j q3 q4) (fun k j _ q2 => h2.2.1 k 0 j q2) (by rw [h2.2.2.1])
theorem wf_G (h : wf n u) (h1 : cG p u U) : wf n U := by
  obtain ⟨g1, g2, g3, g4, g5, g6, g7, g8, g9, g10, g11, g12, g13⟩ := h
  obtain ⟨a1, a2, a3, a4, a5⟩ := h1
  refine ⟨fun i j => ?_, fun i => ?_, fun i => ?_, fun i => ?_, fun i => ?_, fun i => ?_, fun i j => ?_, fun i => ?_, fun i => ?_, fun i q => ?_, ?_, ?_, ?_⟩
  · rw [a1 _ _ _ (Or.inl (by decide))]; exact g1 i j
  · rw [a1 _ _ _ (Or.inl (by decide))]; exact g2 i
  · rw [a1 _ _ _ (Or.inl (by decide))]; exact g3 i
  · rw [a1 _ _ _ (Or.inl (by decide))]; exact g4 i
  · rw [a1 _ _ _ (Or.inl (by decide))]; exact g5 i
  · rw [a1 _ _ _ (Or.inl (by decide))]; exact g6 i
  · rw [a1 _ _ _ (Or.inl (by decide))]; exact g7 i j
  · rw [a1 _ _ _ (Or.inl (by decide))]; exact g8 i
  · by_cases e : i = p
    · rw [e]; exact a5
    · rw [a1 _ _ _ (Or.inr e)]; exact g9 i
  · by_cases e : i = p
    · rw [e]; exact a4 q
    · rw [a1 _ _ _ (Or.inr e)]; exact g10 i q
  · rw [a1 _ _ _ (Or.inl (by decide))]; exact g11
  · rw [a3]; exact g12
  · rw [a3]; exact g13
theorem wm_G (h : wm n w) (h2 : mG n w W) : wm n W := by
  obtain ⟨g1, g2, g3, g4, g5, g6, g7, g8, g9, g10, g11⟩ := h
  obtain ⟨b1, -⟩ := h2
  refine ⟨fun j => ?_, fun j => ?_, fun j => ?_, fun j => ?_, fun j => ?_, fun j => ?_, fun j => ?_, fun j => ?_, fun j => ?_, ?_, ?_⟩
  all_goals rw [b1 _ _ _ (by decide) (by decide)]
  · exact g1 j
  · exact g2 j
  · exact g3 j
  · exact g4 j
  · exact g5 j
  · exact g6 j
  · exact g7 j
  · exact g8 j
  · exact g9 j
  · exact g10
  · exact g11
theorem Jv_G (h : Jv n r B w) (h2 : mG n w W) : Jv n r B W := by
  obtain ⟨⟨g1, g2, g3, g4, g5, g6, g7, g8, g9, g10, g11⟩, hc⟩ := h
  obtain ⟨b1, b2, b3, b4, b5, b6⟩ := h2
  refine ⟨⟨fun a b ha hb => ?_, ?_, ?_, ?_, ?_, fun a ha => ?_, fun a => ?_, fun a => ?_, b4, b5, b6⟩, fun a => ?_⟩
  · rw [b1 _ _ _ (by decide) (by decide), b1 _ _ _ (by decide) (by decide)]; exact g1 a b ha hb
  · rw [b1 _ _ _ (by decide) (by decide)]; exact g2
  · rw [b1 _ _ _ (by decide) (by decide)]; exact g3
  · rw [b1 _ _ _ (by decide) (by decide)]; exact g4
  · rw [b2 _ _ _ (by decide)]; exact g5
  · rw [b1 _ _ _ (by decide) (by decide)] at ha ⊢; exact g6 a ha
  · rw [b2 _ _ _ (by decide)]; exact g7 a
  · rw [b1 _ _ _ (by decide) (by decide)]; exact g8 a
  · rw [b2 _ _ _ (by decide)]; exact hc a
theorem LK_G (h : LK n s c fa r u w) (hp : u.2.2.2 5 ≠ p) (h1 : cG p u U) (h2 : mG n w W) : LK n s c fa r U W := by
  obtain ⟨l1, l2⟩ := h
  obtain ⟨a1, a2, a3, -, -⟩ := h1
  obtain ⟨b1, b2, -⟩ := h2
  have b1 : ∀ k j, k ≠ 11 ∧ k ≠ 13 → W.1 k 0 j = w.1 k 0 j := fun k j hk => b1 k 0 j hk.1 hk.2
  have b2 : ∀ j, W.2.1 9 0 j = w.2.1 9 0 j := fun j => b2 9 0 j (by decide)
  have a1 : ∀ k j, U.1 k (u.2.2.2 5) j = u.1 k (u.2.2.2 5) j := fun k j => a1 k _ j (Or.inr hp)
  have a2 : ∀ k j, U.2.1 k (u.2.2.2 5) j = u.2.1 k (u.2.2.2 5) j := fun k j => a2 k _ j (Or.inr hp)
  have a3 : U.2.2.2 = u.2.2.2 := by rw [a3]
  refine ⟨by rw [a3, a1, b1 0 12 (by decide)]; exact l1, fun hq => ?_⟩
  rw [b1 0 12 (by decide)] at hq
  obtain ⟨g1, g2, g3, g4, g5, g6, g7, g8, g9, g10⟩ := l2 hq
  refine ⟨fun sl k h1 h2 => ?_, fun q hq => ?_, fun sl k h1 h2 => ?_, fun i hi => ?_, fun i hi => ?_, fun i hi h6 => ?_, fun i hi => ?_, g8, g9, g10⟩
  · rw [a3, a1, b1 10 _ (by decide)]; exact g1 sl k h1 h2
  · rw [b1 10 _ (by decide)]; exact g2 q hq
  · rw [b1 10 _ (by decide), b1 10 _ (by decide)]; exact g3 sl k h1 h2
  · rw [a3, a2, b2]; exact g4 i hi
  · rw [a3, a2, b2]; exact g5 i hi
  · rw [b2]; exact g6 i hi h6
  · rw [a3, a2]; exact g7 i hi
end FR
theorem cq_v (n : Nat) (b : UU) (k : Nat) : (∀ a i j, (km_cq n b k).1.1 a i j = if a = 10 ∧ i = 0 ∧ j < k then b.1 13 0 j else if a = 0 ∧ i = 0 ∧ j = 12 then 1 else b.1 a i j) ∧ (km_cq n b k).1.2 = b.2 ∧ (km_cq n b k).2 = n + cn (fun q => decide (200 ≤ b.1 13 0 q)) k := by
  induction k with
  | zero =>
    refine ⟨fun a i j => ?_, rfl, rfl⟩
    rw [if_neg (by omega)]
    rfl
  | succ k ih =>
    obtain ⟨i1, i2, i3⟩ := ih
    have e13 : (km_cq n b k).1.1 13 0 k = b.1 13 0 k := km_cq_13 n b k k
    have es : km_cq n b (k + 1) = km_c1 k (km_cq n b k) := rfl
    rw [es]
    unfold km_c1
    rw [e13]
    refine ⟨fun a i j => ?_, i2, ?_⟩
    · show (un (km_cq n b k).1 10 0 k (b.1 13 0 k)).1 a i j = _
      rw [un_1, i1]
      by_cases h1 : a = 10 ∧ i = 0 ∧ j = k
      · rw [if_pos h1, if_pos (by omega), h1.2.2]
      · rw [if_neg h1]
        by_cases h2 : a = 10 ∧ i = 0 ∧ j < k
        · rw [if_pos h2, if_pos (by omega)]
        · rw [if_neg h2, if_neg (show ¬ (a = 10 ∧ i = 0 ∧ j < k + 1) by omega)]
    · show (km_cq n b k).2 + (if b.1 13 0 k < 200 then 0 else 1) = n + (cn (fun q => decide (200 ≤ b.1 13 0 q)) k + if decide (200 ≤ b.1 13 0 k) = true then 1 else 0)
      rw [i3]
      by_cases h : b.1 13 0 k < 200
      · rw [if_pos h, if_neg (by rw [decide_eq_true_eq]; omega)]; omega
      · rw [if_neg h, if_pos (by rw [decide_eq_true_eq]; omega)]; omega
theorem c2_v (v : UU) (k : Nat) : (fo km_c2 v k).1 = v.1 ∧ (fo km_c2 v k).2.2 = v.2.2 ∧ ∀ a i j, (fo km_c2 v k).2.1 a i j = if a = 9 ∧ i = 0 ∧ j < k then v.2.1 12 0 j else v.2.1 a i j := by
  induction k with
  | zero => exact ⟨rfl, rfl, fun a i j => by rw [if_neg (by omega)]; rfl⟩
  | succ k ih =>
    obtain ⟨i1, i2, i3⟩ := ih
    refine ⟨i1, i2, fun a i j => ?_⟩
    show (ui (fo km_c2 v k) 9 0 k ((fo km_c2 v k).2.1 12 0 k)).2.1 a i j = _
    rw [ui_2, i3, i3, if_neg (show ¬ (12 = 9 ∧ 0 = 0 ∧ k < k) by omega)]
    by_cases h1 : a = 9 ∧ i = 0 ∧ j = k
    · rw [if_pos h1, if_pos (by omega), h1.2.2]
    · rw [if_neg h1]
      by_cases h2 : a = 9 ∧ i = 0 ∧ j < k
      · rw [if_pos h2, if_pos (by omega)]
      · rw [if_neg h2, if_neg (by omega)]
theorem c3_v (v : UU) (k : Nat) : (fo km_c3 v k).2 = v.2 ∧ (∀ a i j, a ≠ 8 → a ≠ 3 → a ≠ 18 → a ≠ 19 → a ≠ 14 → (fo km_c3 v k).1 a i j = v.1 a i j) ∧ (∀ j, (fo km_c3 v k).1 8 0 j = if j < k then v.1 11 0 j else v.1 8 0 j) ∧ (∀ j, (fo km_c3 v k).1 3 0 j = if j < k then (if j = 0 then 1 else 0) else v.1 3 0 j) ∧ ∀ j, j < 6 → (fo km_c3 v k).1 14 0 j = v.1 14 0 j := by
  induction k with
  | zero => exact ⟨rfl, fun _ _ _ _ _ _ _ _ => rfl, fun j => rfl, fun j => rfl, fun _ _ => rfl⟩
  | succ k ih =>
    obtain ⟨i1, i2, i3, i4, i5⟩ := ih
    have es : fo km_c3 v (k + 1) = km_c3 k (fo km_c3 v k) := rfl
    have e11 : (fo km_c3 v k).1 11 0 k = v.1 11 0 k := i2 11 0 k (by decide) (by decide) (by decide) (by decide) (by decide)
    rw [es]
    generalize fo km_c3 v k = Z at i1 i2 i3 i4 i5 e11 ⊢
    unfold km_c3
    rw [e11]
    refine ⟨i1, fun a i j h1 h2 h3 h4 h5 => ?_, fun j => ?_, fun j => ?_, fun j hj => ?_⟩
    · rw [un_1, if_neg (fun q => h5 q.1), un_1, if_neg (fun q => h4 q.1), un_1, if_neg (fun q => h3 q.1), un_1, if_neg (fun q => h2 q.1), un_1, if_neg (fun q => h1 q.1)]
      exact i2 a i j h1 h2 h3 h4 h5
    · rw [un_1, if_neg (by omega), un_1, if_neg (by omega), un_1, if_neg (by omega), un_1, if_neg (by omega), un_1, i3]
      by_cases h : j = k
      · rw [if_pos ⟨rfl, rfl, h⟩, if_pos (by omega), h]
      · rw [if_neg (fun q => h q.2.2)]
        by_cases h2 : j < k
        · rw [if_pos h2, if_pos (by omega)]
        · rw [if_neg h2, if_neg (by omega)]
    · rw [un_1, if_neg (by omega), un_1, if_neg (by omega), un_1, if_neg (by omega), un_1, un_1, if_neg (show ¬ (3 = 8 ∧ 0 = 0 ∧ j = k) by omega), i4]
      by_cases h : j = k
      · rw [if_pos ⟨rfl, rfl, h⟩, if_pos (show j < k + 1 by omega), h]
      · rw [if_neg (fun q => h q.2.2)]
        by_cases h2 : j < k
        · rw [if_pos h2, if_pos (show j < k + 1 by omega)]
        · rw [if_neg h2, if_neg (show ¬ j < k + 1 by omega)]
    · rw [un_1, if_neg (by omega), un_1, if_neg (by omega), un_1, if_neg (by omega), un_1, if_neg (by omega), un_1, if_neg (by omega)]
      exact i5 j hj
/-- the end of the plan: nodes enter it -/
theorem RR_ent {n c : Nat} (hn : n ≤ 6) {u w : UU} (h : RR n c u w) : RR n c (fo (fun k w => kc_enter w k) u n) (fo km_c3 w 6) := by
  have h8 : ∀ k a b d, ¬ CN n a b d 8 k := fun k a b d g => by
    unfold CN at g
    rcases g with g | g | g | g | g | g | g | g | g <;> omega
  have k1 : ∀ k, k ≤ n → RR n c (fo (fun k w => kc_enter w k) u k) (fo km_c3 w k) := by
    intro k
    induction k with
    | zero => intro _; exact h
    | succ k ih =>
      intro hk
      have g := ih (by omega)
      have hkn : k < n := by omega
      rw [fo_s, fo_s]
      unfold kc_enter km_c3
      exact RR_un hn (RR_un hn (RR_un hn (RR_un hn (RR_unr g (h8 k) _) (cn_cur hkn) _) (cn_fls hkn) _) (cn_trs hkn) _) (cn_siz (by omega) (by omega)) _
  have k2 : ∀ m, n + m ≤ 6 → RR n c (fo (fun k w => kc_enter w k) u n) (fo km_c3 w (n + m)) := by
    intro m
    induction m with
    | zero => intro _; exact k1 n (Nat.le_refl n)
    | succ m ih =>
      intro hm
      have g := ih (by omega)
      rw [show n + (m + 1) = n + m + 1 by omega, fo_s]
      unfold km_c3
      have key : ∀ k j, (k = 3 ∧ j = n + m) ∨ (k = 18 ∧ j = n + m) ∨ (k = 19 ∧ j = n + m) ∨ (k = 14 ∧ j = 6 + (n + m)) → ∀ a b d, ¬ CN n a b d k j := fun k j hk a b d g => by
        unfold CN at g
        rcases hk with hk | hk | hk | hk <;> rcases g with g | g | g | g | g | g | g | g | g <;> omega
      exact RR_unr (RR_unr (RR_unr (RR_unr (RR_unr g (h8 _) _) (key 3 _ (Or.inl ⟨rfl, rfl⟩)) _) (key 18 _ (Or.inr (Or.inl ⟨rfl, rfl⟩))) _) (key 19 _ (Or.inr (Or.inr (Or.inl ⟨rfl, rfl⟩)))) _) (key 14 _ (Or.inr (Or.inr (Or.inr ⟨rfl, rfl⟩)))) _
  have := k2 (6 - n) (by omega)
  rw [show n + (6 - n) = 6 by omega] at this
  exact this
theorem kri_3 {n p : Nat} (hn : n < 2 ^ 31) : ∀ j r (w : UU × Nat), kri n p w → r + j = n → kri n p (krk3 n p j r w) := by
  intro j
  induction j with
  | zero => intro r w h _; exact h
  | succ j ih => intro r w h hk; exact ih (r + 1) _ (kri_2 (by omega) n 0 w h (by omega)) (by omega)
theorem cn_zero {q : Nat → Bool} : ∀ m, (∀ k, k < m → q k = false) → cn q m = 0 := by
  intro m
  induction m with
  | zero => intro _; rfl
  | succ m ih => intro h; rw [cn, ih (fun k hk => h k (by omega)), if_neg (by rw [h m (by omega)]; decide)]
