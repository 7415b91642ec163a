/-! Plan: what the loops leave (pure rows) -/
theorem fnd_some {q : Nat → Bool} {j k b : Nat} (h : fnd q j k = some b) : q b = true ∧ k ≤ b ∧ b < k + j := by
  induction j generalizing k with
  | zero => cases h
  | succ j ih =>
    rw [fnd] at h
    split at h
    · rename_i hq; cases h; exact ⟨hq, by omega, by omega⟩
    · have := ih h; exact ⟨this.1, by omega, by omega⟩
theorem fnd_none {q : Nat → Bool} {j k : Nat} (h : fnd q j k = none) : ∀ b, k ≤ b → b < k + j → q b = false := by
  induction j generalizing k with
  | zero => intro b h1 h2; omega
  | succ j ih =>
    intro b h1 h2
    rw [fnd] at h
    split at h
    · cases h
    · rename_i hq
      by_cases e : b = k
      · subst e; simpa using hq
      · exact ih h b (by omega) (by omega)
theorem fnd_ex {q : Nat → Bool} {j k b : Nat} (h1 : k ≤ b) (h2 : b < k + j) (hq : q b = true) : ∃ a, fnd q j k = some a := by
  cases h : fnd q j k with
  | some a => exact ⟨a, rfl⟩
  | none => have := fnd_none h b h1 h2; rw [hq] at this; cases this
theorem fnd_first {q : Nat → Bool} {j k b : Nat} (h : fnd q j k = some b) : ∀ a, k ≤ a → a < b → q a = false := by
  induction j generalizing k with
  | zero => cases h
  | succ j ih =>
    intro a h1 h2
    rw [fnd] at h
    split at h
    · cases h; omega
    · rename_i hq
      by_cases e : a = k
      · subst e; simpa using hq
      · exact ih h a (by omega) h2
theorem fnd_cong {q r : Nat → Bool} {j k : Nat} (h : ∀ a, k ≤ a → a < k + j → q a = r a) : fnd q j k = fnd r j k := by
  induction j generalizing k with
  | zero => rfl
  | succ j ih => rw [fnd, fnd, h k (by omega) (by omega), ih (fun a h1 h2 => h a (by omega) (by omega))]
theorem knr_cong {u w : UU} {p i : Nat} {rk : Int32} (h1 : ∀ k, w.1 7 i k = u.1 7 i k) (h2 : ∀ k, w.2.1 16 p k = u.2.1 16 p k) : knr w p i rk = knr u p i rk := by
  funext k
  unfold knr
  rw [h1, h2]
/-- parents, by ranks -/
def kfa (n : Nat) (u : UU) (p i : Nat) : Option Nat := if i = 0 then none else kc_next n u p i (u.2.1 16 p i - nI 1) 0
def ksa (n : Nat) (u : UU) (p i : Nat) : Option Nat := if i = 0 then none else kc_next n u p i (u.2.1 16 p i - nI 1) (kfr (kfa n u p i))
theorem kfa_lt {n : Nat} {u : UU} {p i a : Nat} (h : kfa n u p i = some a) : a < n := by
  unfold kfa at h
  split at h
  · cases h
  · have := fnd_lt h; omega
theorem ksa_lt {n : Nat} {u : UU} {p i a : Nat} (h : ksa n u p i = some a) : a < n := by
  unfold ksa at h
  split at h
  · cases h
  · have h1 := fnd_lt h
    have h2 : kfr (kfa n u p i) ≤ n := by
      cases e : kfa n u p i with
      | none => simp [kfr]
      | some b => have := kfa_lt e; simp [kfr]; omega
    omega
/-- what findParents leaves: i0 nodes are done -/
def kpi (u : UU) (n p m : Nat) (w : UU) : Prop := w.1 = u.1 ∧ w.2.2 = u.2.2 ∧ (∀ a b c, a ≠ 17 → a ≠ 18 → w.2.1 a b c = u.2.1 a b c) ∧ (∀ b c, b ≠ p → w.2.1 17 b c = u.2.1 17 b c ∧ w.2.1 18 b c = u.2.1 18 b c) ∧ ∀ i, i < m → w.2.1 17 p i = io (kfa n u p i) ∧ w.2.1 18 p i = io (ksa n u p i)
theorem kpi_next {u w : UU} {n p m k : Nat} (h : kpi u n p m w) (i : Nat) (rk : Int32) : kc_next n w p i rk k = kc_next n u p i rk k := by
  unfold kc_next
  rw [knr_cong (fun a => by rw [h.1]) (fun a => h.2.2.1 16 p a (by decide) (by decide))]
theorem kpi_1 {u w : UU} {n p m : Nat} (h : kpi u n p m w) (hm : m ≠ 0) : kpi u n p (m + 1) (kpar1 n p m w) := by
  have e16 : w.2.1 16 p m = u.2.1 16 p m := h.2.2.1 16 p m (by decide) (by decide)
  have e1 : kc_next n w p m (w.2.1 16 p m - nI 1) 0 = kfa n u p m := by rw [kpi_next h, e16]; unfold kfa; rw [if_neg hm]
  have e2 : ∀ z k, kc_next n (ui w 17 p m z) p m (w.2.1 16 p m - nI 1) k = kc_next n u p m (u.2.1 16 p m - nI 1) k := by
    intro z k
    rw [e16]
    unfold kc_next
    rw [knr_cong (u := u) (w := ui w 17 p m z) (fun a => by rw [ui_1, h.1]) (fun a => by rw [ui_2, if_neg (by omega)]; exact h.2.2.1 16 p a (by decide) (by decide))]
  have e3 : kpar1 n p m w = ui (ui w 17 p m (io (kfa n u p m))) 18 p m (io (ksa n u p m)) := by
    unfold kpar1
    rw [e2, e1]
    congr 2
    unfold ksa
    rw [if_neg hm]
  rw [e3]
  refine ⟨h.1, h.2.1, fun a b c h1 h2 => ?_, fun b c hb => ?_, fun i hi => ?_⟩
  · rw [ui_2, if_neg (fun q => h2 q.1), ui_2, if_neg (fun q => h1 q.1)]; exact h.2.2.1 a b c h1 h2
  · rw [ui_2, if_neg (fun q => hb q.2.1), ui_2, if_neg (fun q => hb q.2.1), ui_2, if_neg (fun q => hb q.2.1), ui_2, if_neg (fun q => hb q.2.1)]; exact h.2.2.2.1 b c hb
  · by_cases e : i = m
    · subst e
      rw [ui_2, if_neg (by omega), ui_2, if_pos ⟨rfl, rfl, rfl⟩, ui_2, if_pos ⟨rfl, rfl, rfl⟩]
      exact ⟨rfl, rfl⟩
    · rw [ui_2, if_neg (by omega), ui_2, if_neg (by omega), ui_2, if_neg (by omega), ui_2, if_neg (by omega)]
      exact h.2.2.2.2 i (by omega)
theorem kpi_s {u : UU} {n p : Nat} : ∀ j k w, kpi u n p k w → k ≠ 0 → kpi u n p (k + j) (kpars n p j k w) := by
  intro j
  induction j with
  | zero => intro k w h _; exact h
  | succ j ih =>
    intro k w h hk
    have := ih (k + 1) _ (kpi_1 h hk) (by omega)
    rw [show k + (j + 1) = k + 1 + j by omega]
    exact this
theorem kpi_all {u : UU} {n p : Nat} (h1 : 1 ≤ n) : kpi u n p n (kc_parents n u p) := by
  have h0 : kpi u n p 1 (ui (ui u 17 p 0 (-1)) 18 p 0 (-1)) := by
    refine ⟨rfl, rfl, fun a b c h1 h2 => ?_, fun b c hb => ?_, fun i hi => ?_⟩
    · rw [ui_2, if_neg (fun q => h2 q.1), ui_2, if_neg (fun q => h1 q.1)]
    · rw [ui_2, if_neg (fun q => hb q.2.1), ui_2, if_neg (fun q => hb q.2.1), ui_2, if_neg (fun q => hb q.2.1), ui_2, if_neg (fun q => hb q.2.1)]
      exact ⟨rfl, rfl⟩
    · have e : i = 0 := by omega
      subst e
      rw [ui_2, if_neg (by omega), ui_2, if_pos ⟨rfl, rfl, rfl⟩, ui_2, if_pos ⟨rfl, rfl, rfl⟩]
      exact ⟨rfl, rfl⟩
  have := kpi_s (n - 1) 1 _ h0 (by omega)
  rw [show 1 + (n - 1) = n by omega] at this
  exact this
/-- what findRanks keeps: found nodes stand in the order, each but the first with a near one of the rank before -/
def kro (u : UU) (n p : Nat) (w : UU × Nat) : Prop :=
  (∀ a b c, a ≠ 19 → w.1.1 a b c = u.1 a b c) ∧ w.1.2.2 = u.2.2 ∧ (∀ a b c, a ≠ 16 → w.1.2.1 a b c = u.2.1 a b c) ∧ (∀ b c, b ≠ p → w.1.2.1 16 b c = u.2.1 16 b c ∧ w.1.1 19 b c = u.1 19 b c) ∧
  1 ≤ w.2 ∧ ¬ w.1.2.1 16 p 0 = -1 ∧ (∀ i, i < w.2 → w.1.1 19 p i < n) ∧
  ∀ i, 1 ≤ i → i < w.2 → w.1.1 19 p i ≠ 0 ∧ ¬ w.1.2.1 16 p (w.1.1 19 p i) = -1 ∧ ∃ b, b < n ∧ w.1.1 7 (w.1.1 19 p i) b ≠ 0 ∧ ¬ w.1.2.1 16 p b = -1 ∧ w.1.2.1 16 p b = w.1.2.1 16 p (w.1.1 19 p i) - nI 1
theorem kro_1 {u : UU} {n p r k : Nat} {w : UU × Nat} (h : kro u n p w) (hk : k < n) (h1 : 1 ≤ r) (hr : r < 2 ^ 31) : kro u n p (krk1 n p r k w) := by
  obtain ⟨c1, c2, c3, c4, c5, c6, c7, c8⟩ := h
  unfold krk1
  split
  · rename_i h0
    obtain ⟨hm, hne⟩ := h0
    obtain ⟨b, hb⟩ : ∃ b, kc_next n w.1 p k (nI (r - 1)) 0 = some b := by
      cases e : kc_next n w.1 p k (nI (r - 1)) 0 with
      | none => exact absurd e hne
      | some b => exact ⟨b, rfl⟩
    have hs := fnd_some hb
    have hq : w.1.1 7 k b ≠ 0 ∧ w.1.2.1 16 p b = nI (r - 1) := by simpa [knr] using hs.1
    have hk0 : k ≠ 0 := fun e => c6 (by rw [← e]; exact hm)
    have hbk : b ≠ k := fun e => by
      have h2 := hq.2
      rw [e, hm] at h2
      exact nI_m1 (by omega) h2.symm
    have en : ∀ a b c, a ≠ 19 → (un (ui w.1 16 p k (nI r)) 19 p w.2 k).1 a b c = w.1.1 a b c := fun a b c ha => by rw [un_1, if_neg (fun q => ha q.1)]; rfl
    have eo : ∀ i, (un (ui w.1 16 p k (nI r)) 19 p w.2 k).1 19 p i = if i = w.2 then k else w.1.1 19 p i := fun i => by
      rw [un_1]
      by_cases e : i = w.2
      · rw [if_pos ⟨rfl, rfl, e⟩, if_pos e]
      · rw [if_neg (fun q => e q.2.2), if_neg e]; rfl
    have er : ∀ i, (un (ui w.1 16 p k (nI r)) 19 p w.2 k).2.1 16 p i = if i = k then nI r else w.1.2.1 16 p i := fun i => by
      rw [un_2, ui_2]
      by_cases e : i = k
      · rw [if_pos ⟨rfl, rfl, e⟩, if_pos e]
      · rw [if_neg (fun q => e q.2.2), if_neg e]
    refine ⟨fun a b c ha => ?_, c2, fun a b c ha => ?_, fun b c hb => ⟨?_, ?_⟩, by show 1 ≤ w.2 + 1; omega, ?_, fun i hi => ?_, fun i hi1 hi2 => ?_⟩
    · rw [en a b c ha]; exact c1 a b c ha
    · show (ui w.1 16 p k (nI r)).2.1 a b c = _
      rw [ui_2, if_neg (fun q => ha q.1)]; exact c3 a b c ha
    · show (ui w.1 16 p k (nI r)).2.1 16 b c = _
      rw [ui_2, if_neg (fun q => hb q.2.1)]; exact (c4 b c hb).1
    · rw [un_1, if_neg (fun q => hb q.2.1)]; exact (c4 b c hb).2
    · rw [er, if_neg (Ne.symm hk0)]; exact c6
    · show (un (ui w.1 16 p k (nI r)) 19 p w.2 k).1 19 p i < n
      rw [eo]
      split
      · exact hk
      · exact c7 i (by have : i < w.2 + 1 := hi; omega)
    · show (un (ui w.1 16 p k (nI r)) 19 p w.2 k).1 19 p i ≠ 0 ∧ ¬ (un (ui w.1 16 p k (nI r)) 19 p w.2 k).2.1 16 p ((un (ui w.1 16 p k (nI r)) 19 p w.2 k).1 19 p i) = -1 ∧ ∃ b, b < n ∧ (un (ui w.1 16 p k (nI r)) 19 p w.2 k).1 7 ((un (ui w.1 16 p k (nI r)) 19 p w.2 k).1 19 p i) b ≠ 0 ∧ ¬ (un (ui w.1 16 p k (nI r)) 19 p w.2 k).2.1 16 p b = -1 ∧ (un (ui w.1 16 p k (nI r)) 19 p w.2 k).2.1 16 p b = (un (ui w.1 16 p k (nI r)) 19 p w.2 k).2.1 16 p ((un (ui w.1 16 p k (nI r)) 19 p w.2 k).1 19 p i) - nI 1
      rw [eo]
      by_cases e : i = w.2
      · rw [if_pos e, er, if_pos rfl]
        refine ⟨hk0, nI_m1 hr, b, by have := hs.2.2; omega, by rw [en 7 k b (by decide)]; exact hq.1, by rw [er, if_neg hbk, hq.2]; exact nI_m1 (by omega), ?_⟩
        rw [er, if_neg hbk, hq.2, pk_sub h1]
      · obtain ⟨d1, d2, b2, d3, d4, d5, d6⟩ := c8 i hi1 (by have : i < w.2 + 1 := hi2; omega)
        have hb2 : b2 ≠ k := fun q => d5 (by rw [q]; exact hm)
        have ho2 : w.1.1 19 p i ≠ k := fun q => d2 (by rw [q]; exact hm)
        rw [if_neg e, er, if_neg ho2]
        exact ⟨d1, d2, b2, d3, by rw [en 7 _ b2 (by decide)]; exact d4, by rw [er, if_neg hb2]; exact d5, by rw [er, if_neg hb2]; exact d6⟩
  · exact ⟨c1, c2, c3, c4, c5, c6, c7, c8⟩
theorem kro_2 {u : UU} {n p r : Nat} (h1 : 1 ≤ r) (hr : r < 2 ^ 31) : ∀ j k (w : UU × Nat), kro u n p w → k + j = n → kro u n p (krk2 n p r j k w) := by
  intro j
  induction j with
  | zero => intro k w h _; exact h
  | succ j ih => intro k w h hk; exact ih (k + 1) _ (kro_1 h (by omega) h1 hr) (by omega)
theorem kro_3 {u : UU} {n p : Nat} (hn : n < 2 ^ 31) : ∀ j r (w : UU × Nat), kro u n p w → 1 ≤ r → r + j = n → kro u n p (krk3 n p j r w) := by
  intro j
  induction j with
  | zero => intro r w h _ _; exact h
  | succ j ih => intro r w h h1 hk; exact ih (r + 1) _ (kro_2 h1 (by omega) n 0 w h (by omega)) (by omega) (by omega)
theorem kfl16 (u : UU) (p : Nat) (v : Int32) (m : Nat) : (fo (fun j w => ui w 16 p j v) u m).1 = u.1 ∧ (fo (fun j w => ui w 16 p j v) u m).2.2 = u.2.2 ∧ ∀ a b c, (fo (fun j w => ui w 16 p j v) u m).2.1 a b c = if a = 16 ∧ b = p ∧ c < m then v else u.2.1 a b c := by
  induction m with
  | zero => exact ⟨rfl, rfl, fun a b c => by rw [if_neg (by omega)]; rfl⟩
  | succ m ih =>
    refine ⟨ih.1, ih.2.1, fun a b c => ?_⟩
    show (ui (fo (fun j w => ui w 16 p j v) u m) 16 p m v).2.1 a b c = _
    rw [ui_2, ih.2.2]
    by_cases h1 : a = 16 ∧ b = p ∧ c = m
    · rw [if_pos h1, if_pos (by omega)]
    · rw [if_neg h1]
      by_cases h2 : a = 16 ∧ b = p ∧ c < m
      · rw [if_pos h2, if_pos (by omega)]
      · rw [if_neg h2, if_neg (by omega)]
theorem kro_all {u : UU} {n p : Nat} (h1 : 1 ≤ n) (hn : n < 2 ^ 31) : kro u n p (kc_ranks n u p) := by
  obtain ⟨f1, f2, f3⟩ := kfl16 u p (-1) n
  refine kro_3 hn (n - 1) 1 _ ⟨fun a b c ha => ?_, f2, fun a b c ha => ?_, fun b c hb => ⟨?_, ?_⟩, Nat.le_refl 1, ?_, fun i hi => ?_, fun i hi1 hi2 => absurd hi2 (by show ¬ i < 1; omega)⟩ (by omega) (by omega)
  · show (un (ui _ 16 p 0 (nI 0)) 19 p 0 0).1 a b c = _
    rw [un_1, if_neg (fun q => ha q.1), ui_1, f1]
  · show (ui _ 16 p 0 (nI 0)).2.1 a b c = _
    rw [ui_2, if_neg (fun q => ha q.1), f3, if_neg (fun q => ha q.1)]
  · show (ui _ 16 p 0 (nI 0)).2.1 16 b c = _
    rw [ui_2, if_neg (fun q => hb q.2.1), f3, if_neg (fun q => hb q.2.1)]
  · show (un (ui _ 16 p 0 (nI 0)) 19 p 0 0).1 19 b c = _
    rw [un_1, if_neg (fun q => hb q.2.1), ui_1, f1]
  · show ¬ (ui _ 16 p 0 (nI 0)).2.1 16 p 0 = -1
    rw [ui_2, if_pos ⟨rfl, rfl, rfl⟩]
    exact nI_m1 (by decide)
  · have e : i = 0 := by have : i < 1 := hi; omega
    subst e
    show (un (ui _ 16 p 0 (nI 0)) 19 p 0 0).1 19 p 0 < n
    rw [un_1, if_pos ⟨rfl, rfl, rfl⟩]
    omega
/-- behind ranks that were found for all, the parents are as placeLinks needs them -/
theorem kj_all {u : UU} {n p : Nat} (h1 : 1 ≤ n) (hn : n < 2 ^ 31) (hg : ∀ q, u.1 20 p q < 400) (hf : (kc_ranks n u p).2 = n) : kj n p (kfa n (kc_ranks n u p).1 p) (ksa n (kc_ranks n u p).1 p) (kc_parents n (kc_ranks n u p).1 p) := by
  obtain ⟨c1, c2, c3, c4, c5, c6, c7, c8⟩ := kro_all (u := u) (p := p) h1 hn
  obtain ⟨p1, p2, p3, p4, p5⟩ := kpi_all (u := (kc_ranks n u p).1) (p := p) h1
  refine ⟨⟨fun q => by rw [p1, c1 20 p q (by decide)]; exact hg q, fun k hk => by rw [p1]; exact c7 k (by omega)⟩, fun i hi => (p5 i hi).1, fun i hi => (p5 i hi).2, fun k hk1 hk2 => ?_, fun i a h => ksa_lt h⟩
  rw [p1]
  obtain ⟨d1, d2, b, d3, d4, d5, d6⟩ := c8 k hk1 (by omega)
  obtain ⟨a, ha⟩ := fnd_ex (q := knr (kc_ranks n u p).1 p ((kc_ranks n u p).1.1 19 p k) ((kc_ranks n u p).1.2.1 16 p ((kc_ranks n u p).1.1 19 p k) - nI 1)) (j := n - 0) (k := 0) (Nat.zero_le b) (by omega) (knr_t d4 d6)
  have e : kfa n (kc_ranks n u p).1 p ((kc_ranks n u p).1.1 19 p k) = some a := by
    unfold kfa kc_next
    rw [if_neg d1]
    exact ha
  exact ⟨a, e, kfa_lt e⟩
/-- adverts leave the rest -/
theorem kc_adv_2 {c p x : Nat} {w : UU} {o : Option Nat} : (kc_adv c w p x o).2.2 = w.2 := by
  cases o with
  | none => rfl
  | some a => show (un (kc_fill c w p a (100 + 10 * x)) 15 p 7 _).2 = _; rw [un_2, kc_fill_2]
theorem kc_adv_o {c p x : Nat} {w : UU} {o : Option Nat} (i k : Nat) : (kc_adv c w p x o).2.1 19 i k = w.1 19 i k := by
  cases o with
  | none => rfl
  | some a =>
    show (un (kc_fill c w p a (100 + 10 * x)) 15 p 7 _).1 19 i k = _
    rw [un_1, if_neg (by omega), kc_fill_1, if_neg (by omega)]
theorem kj_adv {n p s c : Nat} {fa sa : Nat → Option Nat} {w : UU} {x : Nat} (h : kj n p fa sa w) (hx : x < 10) : kj n p fa sa (kc_advert s c w p x).2 := by
  unfold kc_advert
  refine ⟨ki_adv h.1 hx, fun i hi => ?_, fun i hi => ?_, fun k h1 h2 => ?_, h.2.2.2.2⟩
  · rw [kc_adv_2]; exact h.2.1 i hi
  · rw [kc_adv_2]; exact h.2.2.1 i hi
  · rw [kc_adv_o]; exact h.2.2.2.1 k h1 h2
theorem kj_advs {n p s c : Nat} {fa sa : Nat → Option Nat} (hn : n ≤ 6) : ∀ j k w, kj n p fa sa w → k + j = n → kj n p fa sa (kadvs s c p j k w).2 := by
  intro j
  induction j with
  | zero => intro k w h _; exact h
  | succ j ih =>
    intro k w h hk
    have hx := h.1.2 k (by omega)
    rw [kadvs]
    split
    · exact kj_adv h (by omega)
    · exact ih (k + 1) _ (kj_adv h (by omega)) (by omega)
