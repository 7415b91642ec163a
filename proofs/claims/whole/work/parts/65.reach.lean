/-! Plan: which nodes are reached in how many steps -/
theorem fnd_is {q : Nat → Bool} {j k b : Nat} (h1 : k ≤ b) (h2 : b < k + j) (hq : q b = true) (hf : ∀ a, k ≤ a → a < b → q a = false) : fnd q j k = some b := by
  obtain ⟨a, ha⟩ := fnd_ex h1 h2 hq
  obtain ⟨a1, a2, a3⟩ := fnd_some ha
  rcases Nat.lt_trichotomy a b with e | e | e
  · have := hf a a2 e; rw [a1] at this; cases this
  · rw [ha, e]
  · have := fnd_first ha b h1 e; rw [hq] at this; cases this
theorem fnd_no {q : Nat → Bool} {j k : Nat} (h : ∀ b, k ≤ b → b < k + j → q b = false) : fnd q j k = none := by
  cases e : fnd q j k with
  | none => rfl
  | some b =>
    obtain ⟨a1, a2, a3⟩ := fnd_some e
    rw [h b a2 a3] at a1
    cases a1
theorem fnd_sn {q : Nat → Bool} {j k a : Nat} (h : fnd q j k = some a) : fnd q (j + 1) k = some a := by
  obtain ⟨a1, a2, a3⟩ := fnd_some h
  exact fnd_is a2 (by omega) a1 (fnd_first h)
theorem fnd_nn {q : Nat → Bool} {j k : Nat} (h : fnd q j k = none) (hq : q (k + j) = true) : fnd q (j + 1) k = some (k + j) :=
  fnd_is (by omega) (by omega) hq (fun a h1 h2 => fnd_none h a h1 h2)
theorem fnd_nf {q : Nat → Bool} {j k : Nat} (h : fnd q j k = none) (hq : q (k + j) = false) : fnd q (j + 1) k = none := by
  refine fnd_no (fun b h1 h2 => ?_)
  by_cases e : b = k + j
  · rw [e]; exact hq
  · exact fnd_none h b h1 (by omega)
theorem cn_mono {q r : Nat → Bool} {m : Nat} (h : ∀ k, k < m → q k = true → r k = true) : cn q m ≤ cn r m := by
  induction m with
  | zero => exact Nat.le_refl 0
  | succ m ih =>
    have i1 := ih (fun k hk => h k (by omega))
    have i2 := h m (by omega)
    rw [cn, cn]
    by_cases e : q m = true
    · rw [if_pos e, if_pos (i2 e)]; omega
    · rw [if_neg e]; omega
theorem cn_strict {q r : Nat → Bool} {m k : Nat} (hk : k < m) (h0 : q k = false) (h1 : r k = true) (h : ∀ k, k < m → q k = true → r k = true) : cn q m + 1 ≤ cn r m := by
  induction m with
  | zero => omega
  | succ m ih =>
    rw [cn, cn]
    by_cases e : k = m
    · subst e
      have i1 := cn_mono (fun k hk => h k (Nat.lt_succ_of_lt hk))
      rw [if_pos h1, if_neg (by rw [h0]; decide)]
      omega
    · have i1 := ih (by omega) (fun k hk => h k (by omega))
      have i2 := h m (by omega)
      by_cases e2 : q m = true
      · rw [if_pos e2, if_pos (i2 e2)]; omega
      · rw [if_neg e2]; omega
theorem cn_all {q : Nat → Bool} {m : Nat} (h : m ≤ cn q m) : ∀ k, k < m → q k = true := by
  intro k hk
  cases e : q k with
  | true => rfl
  | false => have := cn_lt hk e; omega
theorem cn_full {q : Nat → Bool} {m : Nat} (h : ∀ k, k < m → q k = true) : cn q m = m := by
  induction m with
  | zero => rfl
  | succ m ih => rw [cn, ih (fun k hk => h k (by omega)), if_pos (h m (by omega))]
/-- is node k reached in at most m steps -/
def rc (n : Nat) (N : Nat → Nat → Bool) : Nat → Nat → Bool
  | 0, k => decide (k = 0)
  | m + 1, k => rc n N m k || (fnd (fun b => N k b && rc n N m b) n 0).isSome
section RC
variable {n : Nat} {N : Nat → Nat → Bool}
theorem rc_up {m k : Nat} (h : rc n N m k = true) : rc n N (m + 1) k = true := by
  rw [rc, h, Bool.true_or]
theorem rc_mono {m j k : Nat} (h : rc n N m k = true) : rc n N (m + j) k = true := by
  induction j with
  | zero => exact h
  | succ j ih => exact rc_up ih
theorem rc_st {m k b : Nat} (hb : b < n) (hN : N k b = true) (h : rc n N m b = true) : rc n N (m + 1) k = true := by
  obtain ⟨a, ha⟩ := fnd_ex (q := fun b => N k b && rc n N m b) (j := n) (k := 0) (Nat.zero_le b) (by omega) (by show (N k b && rc n N m b) = true; rw [hN, h]; rfl)
  rw [rc, ha]
  exact Bool.or_true _
theorem rc_in {m k : Nat} (h : rc n N (m + 1) k = true) : rc n N m k = true ∨ ∃ b, b < n ∧ N k b = true ∧ rc n N m b = true := by
  rw [rc] at h
  cases e : rc n N m k with
  | true => exact Or.inl rfl
  | false =>
    right
    rw [e, Bool.false_or] at h
    cases q : fnd (fun b => N k b && rc n N m b) n 0 with
    | none => rw [q] at h; cases h
    | some b =>
      obtain ⟨a1, a2, a3⟩ := fnd_some q
      have a1 : (N k b && rc n N m b) = true := a1
      rw [Bool.and_eq_true] at a1
      exact ⟨b, by omega, a1.1, a1.2⟩
theorem rc_next {m : Nat} (h : ∀ k, k < n → rc n N (m + 1) k = true → rc n N m k = true) : ∀ k, k < n → rc n N (m + 2) k = true → rc n N (m + 1) k = true := by
  intro k hk h2
  rcases rc_in h2 with e | ⟨b, b1, b2, b3⟩
  · exact e
  · exact rc_st b1 b2 (h b b1 b3)
theorem rc_cn (h1 : 1 ≤ n) (m : Nat) : (∀ k, k < n → rc n N (m + 1) k = true → rc n N m k = true) ∨ m + 1 ≤ cn (rc n N m) n := by
  induction m with
  | zero =>
    right
    have := cn_strict (q := fun _ => false) (r := rc n N 0) (m := n) (k := 0) (by omega) rfl rfl (fun k _ h => by cases h)
    omega
  | succ m ih =>
    by_cases hs : ∀ k, k < n → rc n N (m + 1) k = true → rc n N m k = true
    · exact Or.inl (rc_next hs)
    · rcases ih with e | e
      · exact absurd e hs
      · right
        obtain ⟨k, hk⟩ := Classical.not_forall.mp hs
        have hkn : k < n := by
          by_cases q : k < n
          · exact q
          · exact absurd (fun a => absurd a q) hk
        have h2 : rc n N (m + 1) k = true := by
          cases q : rc n N (m + 1) k with
          | true => rfl
          | false => exact absurd (fun _ b => by rw [q] at b; cases b) hk
        have h3 : rc n N m k = false := by
          cases q : rc n N m k with
          | false => rfl
          | true => exact absurd (fun _ _ => q) hk
        have := cn_strict (q := rc n N m) (r := rc n N (m + 1)) hkn h3 h2 (fun k _ h => rc_up h)
        omega
theorem rc_stop (h1 : 1 ≤ n) : ∀ k, k < n → rc n N (n - 1 + 1) k = true → rc n N (n - 1) k = true := by
  rcases rc_cn (N := N) h1 (n - 1) with e | e
  · exact e
  · intro k hk _
    exact cn_all (by omega) k hk
theorem rc_all (h1 : 1 ≤ n) {m k : Nat} (hk : k < n) (h : rc n N m k = true) : rc n N (n - 1) k = true := by
  have key : ∀ j k, k < n → rc n N (n - 1 + j) k = true → rc n N (n - 1) k = true := by
    intro j
    induction j with
    | zero => intro k _ h; exact h
    | succ j ih =>
      intro k hk h
      rcases rc_in h with e | ⟨b, b1, b2, b3⟩
      · exact ih k hk e
      · exact rc_stop h1 k hk (rc_st b1 b2 (ih b b1 b3))
  by_cases e : m ≤ n - 1
  · have := rc_mono (j := n - 1 - m) h
    rw [show m + (n - 1 - m) = n - 1 by omega] at this
    exact this
  · refine key (m - (n - 1)) k hk ?_
    rw [show n - 1 + (m - (n - 1)) = m by omega]
    exact h
end RC
/-- the rank, if it is below j -/
abbrev rkf (n : Nat) (N : Nat → Nat → Bool) (j a : Nat) : Option Nat := fnd (fun i => rc n N i a) j 0
/-- nodes of rank q, in their order -/
abbrev lay (n : Nat) (N : Nat → Nat → Bool) (q : Nat) : List Nat := (List.range n).filter (fun a => decide (rkf n N (q + 1) a = some q))
def abv (w : UU) (p m : Nat) : List Nat := (List.range m).map (fun i => w.1 19 p i)
theorem io_inj {o : Option Nat} {j : Nat} (h : io o = nI j) (ho : ∀ a, o = some a → a < 2 ^ 31) (hj : j < 2 ^ 31) : o = some j := by
  cases o with
  | none => exact absurd h (nI_m1' hj)
  | some a =>
    have h2 := congrArg Int32.toInt h
    have e1 : (io (some a)).toInt = a := nI_toInt (ho a rfl)
    rw [e1, nI_toInt hj] at h2
    have : a = j := by omega
    rw [this]
theorem io_m1 {o : Option Nat} (ho : ∀ a, o = some a → a < 2 ^ 31) (h : io o = -1) : o = none := by
  cases o with
  | none => rfl
  | some a => exact absurd h (nI_m1 (ho a rfl))
/-- findRanks, in round r, before node k -/
def cI (n p : Nat) (N : Nat → Nat → Bool) (r k : Nat) (w : UU × Nat) : Prop := (∀ a b, a < n → b < n → N a b = decide (w.1.1 7 a b ≠ 0)) ∧ (∀ a, a < n → w.1.2.1 16 p a = io (rkf n N (if a < k then r + 1 else r) a)) ∧ abv w.1 p w.2 = (List.range r).flatMap (lay n N) ++ (List.range k).filter (fun a => decide (rkf n N (r + 1) a = some r))
theorem rkf_lt {n : Nat} {N : Nat → Nat → Bool} {j a b : Nat} (h : rkf n N j a = some b) : b < j := by
  have := (fnd_some h).2.2; omega
theorem cI_1 {n p r k : Nat} {N : Nat → Nat → Bool} {w : UU × Nat} (h : cI n p N r k w) (hk : k < n) (h1 : 1 ≤ r) (hr : r < 2 ^ 30) : cI n p N r (k + 1) (krk1 n p r k w) := by
  obtain ⟨c1, c2, c3⟩ := h
  have hb31 : ∀ a b, rkf n N (if a < k then r + 1 else r) a = some b → b < 2 ^ 31 := fun a b q => by
    have := rkf_lt q
    split at this <;> omega
  have ek : w.1.2.1 16 p k = io (rkf n N r k) := by rw [c2 k hk, if_neg (by omega)]
  have hkb : ∀ b, rkf n N r k = some b → b < 2 ^ 31 := fun b q => by have := rkf_lt q; omega
  have hC : (w.1.2.1 16 p k = -1 ∧ kc_next n w.1 p k (nI (r - 1)) 0 ≠ none) ↔ rkf n N (r + 1) k = some r := by
    constructor
    · rintro ⟨q1, q2⟩
      rw [ek] at q1
      have hnone := io_m1 hkb q1
      obtain ⟨b, hb⟩ : ∃ b, kc_next n w.1 p k (nI (r - 1)) 0 = some b := by
        cases e : kc_next n w.1 p k (nI (r - 1)) 0 with
        | none => exact absurd e q2
        | some b => exact ⟨b, rfl⟩
      obtain ⟨a1, a2, a3⟩ := fnd_some hb
      have a1 : w.1.1 7 k b ≠ 0 ∧ w.1.2.1 16 p b = nI (r - 1) := by simpa [knr] using a1
      have hbn : b < n := by omega
      have hrk := io_inj (by rw [← c2 b hbn]; exact a1.2) (hb31 b) (by omega)
      have hrc := (fnd_some hrk).1
      have h2 : rc n N (r - 1 + 1) k = true := rc_st hbn (by rw [c1 k b hk hbn]; exact decide_eq_true a1.1) hrc
      rw [show r - 1 + 1 = r by omega] at h2
      have := fnd_nn (q := fun i => rc n N i k) hnone (by rw [Nat.zero_add]; exact h2)
      rw [Nat.zero_add] at this
      exact this
    · intro q
      have hrc := (fnd_some q).1
      have hfirst : ∀ j, j < r → rc n N j k = false := fun j hj => fnd_first q j (Nat.zero_le j) hj
      have hnone : rkf n N r k = none := fnd_no (fun b _ h2 => hfirst b (by omega))
      refine ⟨by rw [ek, hnone]; rfl, ?_⟩
      obtain ⟨r', rfl⟩ : ∃ r', r = r' + 1 := ⟨r - 1, by omega⟩
      rcases rc_in hrc with e | ⟨b, b1, b2, b3⟩
      · rw [hfirst r' (by omega)] at e; cases e
      · have hbf : ∀ j, j < r' → rc n N j b = false := fun j hj => by
          cases e : rc n N j b with
          | false => rfl
          | true =>
            have := rc_st b1 b2 e
            rw [hfirst (j + 1) (by omega)] at this
            cases this
        have hrb : w.1.2.1 16 p b = nI r' := by
          rw [c2 b b1]
          have : rkf n N (if b < k then r' + 1 + 1 else r' + 1) b = some r' := fnd_is (Nat.zero_le _) (by split <;> omega) b3 (fun j _ hj => hbf j hj)
          rw [this]
          rfl
        have hnr : knr w.1 p k (nI r') b = true := by
          rw [c1 k b hk b1] at b2
          have b2 := of_decide_eq_true b2
          unfold knr
          exact decide_eq_true ⟨b2, hrb⟩
        intro hn
        have := fnd_none hn b (Nat.zero_le b) (by omega)
        rw [Nat.add_sub_cancel] at this
        rw [hnr] at this
        cases this
  unfold krk1
  by_cases e : w.1.2.1 16 p k = -1 ∧ kc_next n w.1 p k (nI (r - 1)) 0 ≠ none
  · rw [if_pos e]
    have hl := hC.mp e
    refine ⟨fun a b ha hb => ?_, fun a ha => ?_, ?_⟩
    · show N a b = decide ((un (ui w.1 16 p k (nI r)) 19 p w.2 k).1 7 a b ≠ 0)
      rw [un_1, if_neg (by omega), ui_1]
      exact c1 a b ha hb
    · show (ui w.1 16 p k (nI r)).2.1 16 p a = _
      rw [ui_2]
      by_cases q : a = k
      · rw [if_pos ⟨rfl, rfl, q⟩, if_pos (by omega), q, hl]
        rfl
      · rw [if_neg (fun z => q z.2.2), c2 a ha]
        by_cases q2 : a < k
        · rw [if_pos q2, if_pos (by omega)]
        · rw [if_neg q2, if_neg (by omega)]
    · show abv (un (ui w.1 16 p k (nI r)) 19 p w.2 k) p (w.2 + 1) = _
      have e2 : abv (un (ui w.1 16 p k (nI r)) 19 p w.2 k) p (w.2 + 1) = abv w.1 p w.2 ++ [k] := by
        unfold abv
        rw [List.range_succ, List.map_append]
        congr 1
        · refine List.map_congr_left (fun i hi => ?_)
          have := List.mem_range.mp hi
          rw [un_1, if_neg (by omega)]
          rfl
        · show [(un (ui w.1 16 p k (nI r)) 19 p w.2 k).1 19 p w.2] = [k]
          rw [un_1, if_pos ⟨rfl, rfl, rfl⟩]
      rw [e2, c3, List.range_succ, List.filter_append, List.append_assoc]
      congr 2
      rw [List.filter_cons_of_pos (by exact decide_eq_true hl)]
      rfl
  · rw [if_neg e]
    have hl : ¬ rkf n N (r + 1) k = some r := fun q => e (hC.mpr q)
    refine ⟨c1, fun a ha => ?_, ?_⟩
    · by_cases q : a = k
      · rw [if_pos (by omega), q, ek]
        cases z : rkf n N r k with
        | some b => rw [show rkf n N (r + 1) k = some b from fnd_sn z]
        | none =>
          have : rc n N (0 + r) k = false := by
            cases y : rc n N (0 + r) k with
            | false => rfl
            | true =>
              have := fnd_nn (q := fun i => rc n N i k) z y
              rw [Nat.zero_add] at this
              exact absurd this hl
          rw [show rkf n N (r + 1) k = none from fnd_nf z this]
      · rw [c2 a ha]
        by_cases q2 : a < k
        · rw [if_pos q2, if_pos (by omega)]
        · rw [if_neg q2, if_neg (by omega)]
    · rw [c3, List.range_succ, List.filter_append, List.filter_cons_of_neg (by rw [decide_eq_true_eq]; exact hl), List.filter_nil, List.append_nil]
theorem cI_2 {n p r : Nat} {N : Nat → Nat → Bool} (h1 : 1 ≤ r) (hr : r < 2 ^ 30) : ∀ j k (w : UU × Nat), cI n p N r k w → k + j = n → cI n p N r n (krk2 n p r j k w) := by
  intro j
  induction j with
  | zero => intro k w h hk; rw [show n = k by omega]; rw [show n = k by omega] at h; exact h
  | succ j ih => intro k w h hk; exact ih (k + 1) _ (cI_1 h (by omega) h1 hr) (by omega)
theorem cI_3 {n p : Nat} {N : Nat → Nat → Bool} (hn : n < 2 ^ 30) : ∀ j r (w : UU × Nat), cI n p N r 0 w → 1 ≤ r → r + j = n → cI n p N n 0 (krk3 n p j r w) := by
  intro j
  induction j with
  | zero => intro r w h _ hk; rw [show r = n by omega] at h; exact h
  | succ j ih =>
    intro r w h h1 hk
    refine ih (r + 1) _ ?_ (by omega) (by omega)
    obtain ⟨c1, c2, c3⟩ := cI_2 h1 (by omega) n 0 w h (by omega)
    refine ⟨c1, fun a ha => ?_, ?_⟩
    · rw [c2 a ha, if_pos ha, if_neg (by omega)]
    · rw [c3, List.range_succ, List.flatMap_append, List.flatMap_singleton]
      simp
theorem cI_all {n p : Nat} {N : Nat → Nat → Bool} {u : UU} (h1 : 1 ≤ n) (hn : n < 2 ^ 30) (hN : ∀ a b, a < n → b < n → N a b = decide (u.1 7 a b ≠ 0)) : cI n p N n 0 (kc_ranks n u p) := by
  obtain ⟨f1, f2, f3⟩ := kfl16 u p (-1) n
  have e0 : ∀ a, rkf n N 1 a = if a = 0 then some 0 else none := fun a => by
    by_cases e : a = 0
    · rw [if_pos e]
      exact fnd_is (Nat.le_refl 0) (by omega) (by rw [rc]; exact decide_eq_true e) (fun b _ h2 => by omega)
    · rw [if_neg e]
      refine fnd_no (fun b _ h2 => ?_)
      have : b = 0 := by omega
      rw [this, rc]
      exact decide_eq_false e
  refine cI_3 hn (n - 1) 1 _ ⟨fun a b ha hb => ?_, fun a ha => ?_, ?_⟩ (by omega) (by omega)
  · show N a b = decide ((un (ui _ 16 p 0 (nI 0)) 19 p 0 0).1 7 a b ≠ 0)
    rw [un_1, if_neg (by omega), ui_1, f1]
    exact hN a b ha hb
  · show (ui (fo (fun j w => ui w 16 p j (-1)) u n) 16 p 0 (nI 0)).2.1 16 p a = _
    rw [ui_2, if_neg (show ¬ a < 0 by omega), e0]
    by_cases e : a = 0
    · rw [if_pos ⟨rfl, rfl, e⟩, if_pos e]
      rfl
    · rw [if_neg (fun z => e z.2.2), if_neg e, f3, if_pos ⟨rfl, rfl, ha⟩]
      rfl
  · obtain ⟨m, rfl⟩ : ∃ m, n = m + 1 := ⟨n - 1, by omega⟩
    show abv (un (ui _ 16 p 0 (nI 0)) 19 p 0 0) p 1 = (List.range 1).flatMap (lay (m + 1) N) ++ []
    have e1 : (List.range 1).flatMap (lay (m + 1) N) = lay (m + 1) N 0 := by
      show List.flatMap (lay (m + 1) N) [0] = _
      rw [List.flatMap_singleton]
    rw [e1, List.append_nil]
    have e2 : lay (m + 1) N 0 = [0] := by
      show (List.range (m + 1)).filter (fun a => decide (rkf (m + 1) N 1 a = some 0)) = [0]
      rw [List.range_succ_eq_map, List.filter_cons_of_pos (by rw [e0, if_pos rfl]; exact decide_eq_true rfl), List.filter_eq_nil_iff.mpr]
      intro a ha
      obtain ⟨b, _, hb⟩ := List.mem_map.mp ha
      rw [e0, if_neg (by omega)]
      decide
    rw [e2]
    show [(un (ui (fo (fun j w => ui w 16 p j (-1)) u (m + 1)) 16 p 0 (nI 0)) 19 p 0 0).1 19 p 0] = [0]
    rw [un_1, if_pos ⟨rfl, rfl, rfl⟩]
