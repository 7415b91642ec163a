/-! Plan: adverts and links over the same list of nodes (pure rows) -/
def advL (s c p : Nat) : List Nat → UU → Nat × UU
  | [], w => (1, w)
  | x :: l, w => if (kc_advert s c w p x).1 = 0 then (0, (kc_advert s c w p x).2) else advL s c p l (kc_advert s c w p x).2
def lnkL (s c p : Nat) (fa sa : Nat → Option Nat) : List Nat → UU → Nat × UU
  | [], w => (1, w)
  | x :: l, w => match fa x with
    | none => (0, w)
    | some f => kl1 s c p x f (sa x) (lnkL s c p fa sa l) w
def mavL (s c : Nat) : List Nat → Nat × UU → Nat × UU
  | [], q => q
  | x :: l, q => if q.1 = 0 then q else mavL s c l (km_advP s c q.2 x)
def mlkL (s c : Nat) (fa sa : Nat → Option Nat) : List Nat → Nat × UU → Nat × UU
  | [], q => q
  | x :: l, q => if q.1 = 0 then q else mlkL s c fa sa l (km_l1 s c x (fa x) (sa x) q.2)
theorem kadvs_L {s c p : Nat} : ∀ j k (w : UU), kadvs s c p j k w = advL s c p ((List.range j).map (fun i => w.1 19 p (k + i))) w := by
  intro j
  induction j with
  | zero => intro k w; rfl
  | succ j ih =>
    intro k w
    rw [kadvs, List.range_succ_eq_map, List.map_cons, List.map_map, advL, ih (k + 1)]
    have e : ((List.range j).map (fun i => (kc_advert s c w p (w.1 19 p k)).2.1 19 p (k + 1 + i))) = (List.range j).map ((fun i => w.1 19 p (k + i)) ∘ Nat.succ) := by
      refine List.map_congr_left (fun i _ => ?_)
      show (kc_advert s c w p (w.1 19 p k)).2.1 19 p (k + 1 + i) = w.1 19 p (k + (i + 1))
      unfold kc_advert
      rw [kc_adv_o, show k + 1 + i = k + (i + 1) by omega]
    rw [e]
    rfl
theorem kl1_c {s c p x f : Nat} {g : Option Nat} {r1 r2 : UU → Nat × UU} {w : UU} (h : ∀ W, (∀ i, W.1 19 p i = w.1 19 p i) → r1 W = r2 W) : kl1 s c p x f g r1 w = kl1 s c p x f g r2 w := by
  have hl : ∀ (W : UU) d a b i, (kc_link s c W p d a b).2.1 19 p i = W.1 19 p i := fun W d a b i => by unfold kc_link; rw [kc_lnk_o]
  unfold kl1 kl2 kl3
  split
  · rfl
  · split
    · split
      · rfl
      · exact h _ (fun i => by rw [hl, hl])
    · split
      · rfl
      · split
        · rfl
        · exact h _ (fun i => by rw [hl, hl, hl])
theorem klnks_L {s c p : Nat} {fa sa : Nat → Option Nat} : ∀ j k (w : UU), klnks s c p fa sa j k w = lnkL s c p fa sa ((List.range j).map (fun i => w.1 19 p (k + i))) w := by
  intro j
  induction j with
  | zero => intro k w; rfl
  | succ j ih =>
    intro k w
    rw [klnks, List.range_succ_eq_map, List.map_cons, List.map_map, lnkL]
    show (match fa (w.1 19 p k) with
      | none => (0, w)
      | some f => kl1 s c p (w.1 19 p k) f (sa (w.1 19 p k)) (klnks s c p fa sa j (k + 1)) w) = (match fa (w.1 19 p k) with
      | none => (0, w)
      | some f => kl1 s c p (w.1 19 p k) f (sa (w.1 19 p k)) (lnkL s c p fa sa ((List.range j).map ((fun i => w.1 19 p (k + i)) ∘ Nat.succ))) w)
    cases fa (w.1 19 p k) with
    | none => rfl
    | some f =>
      refine kl1_c (fun W hW => ?_)
      rw [ih (k + 1) W]
      congr 1
      refine List.map_congr_left (fun i _ => ?_)
      show W.1 19 p (k + 1 + i) = w.1 19 p (k + (i + 1))
      rw [hW, show k + 1 + i = k + (i + 1) by omega]
theorem mavL_0 {s c : Nat} {q : Nat × UU} (h : q.1 = 0) (l : List Nat) : mavL s c l q = q := by
  cases l with
  | nil => rfl
  | cons x l => rw [mavL, if_pos h]
theorem mavL_app {s c : Nat} : ∀ (l1 l2 : List Nat) (q : Nat × UU), mavL s c (l1 ++ l2) q = mavL s c l2 (mavL s c l1 q) := by
  intro l1
  induction l1 with
  | nil => intro l2 q; rfl
  | cons x l1 ih =>
    intro l2 q
    rw [List.cons_append, mavL, mavL]
    split
    · rename_i h; rw [mavL_0 h]
    · exact ih l2 _
theorem mlkL_0 {s c : Nat} {fa sa : Nat → Option Nat} {q : Nat × UU} (h : q.1 = 0) (l : List Nat) : mlkL s c fa sa l q = q := by
  cases l with
  | nil => rfl
  | cons x l => rw [mlkL, if_pos h]
theorem mlkL_app {s c : Nat} {fa sa : Nat → Option Nat} : ∀ (l1 l2 : List Nat) (q : Nat × UU), mlkL s c fa sa (l1 ++ l2) q = mlkL s c fa sa l2 (mlkL s c fa sa l1 q) := by
  intro l1
  induction l1 with
  | nil => intro l2 q; rfl
  | cons x l1 ih =>
    intro l2 q
    rw [List.cons_append, mlkL, mlkL]
    split
    · rename_i h; rw [mlkL_0 h]
    · exact ih l2 _
/-- what placing leaves as it was -/
def mF (w W : UU) : Prop := (∀ k i j, k ≠ 13 → W.1 k i j = w.1 k i j) ∧ W.2 = w.2
theorem mF_rf (w : UU) : mF w w := ⟨fun _ _ _ _ => rfl, rfl⟩
theorem mF_tr {u v w : UU} (h : mF u v) (g : mF v w) : mF u w := ⟨fun k i j hk => (g.1 k i j hk).trans (h.1 k i j hk), g.2.trans h.2⟩
theorem mF_un (w : UU) (j v : Nat) : mF w (un w 13 0 j v) := ⟨fun k i j hk => by rw [un_1, if_neg (fun q => hk q.1)], rfl⟩
theorem mF_fo {f : Nat → UU → UU} (h : ∀ k w, mF w (f k w)) (u : UU) : ∀ m, mF u (fo f u m) := by
  intro m
  induction m with
  | zero => exact mF_rf u
  | succ m ih => exact mF_tr ih (h m _)
theorem mF_adv {s c a : Nat} {u : UU} : mF u (km_advP s c u a).2 := by
  unfold km_advP km_adv
  split
  · exact mF_fo (fun k w => mF_un w _ _) u c
  · exact mF_rf u
theorem mF_place {s c z : Nat} {u : UU} : mF u (km_place s c u z).2 := by
  unfold km_place km_plc
  split
  · exact mF_un u _ _
  · exact mF_rf u
theorem mF_l1 {s c a : Nat} {f g : Option Nat} {u : UU} : mF u (km_l1 s c a f g u).2 := by
  unfold km_l1
  split
  · exact mF_rf u
  · have h3 : ∀ p q, mF u q.2 → mF u (km_l3 s c a p q).2 := fun p q h => by
      unfold km_l3
      split
      · exact h
      · exact mF_tr h mF_place
    have h2 : ∀ q, mF u q.2 → mF u (km_l2 s c a g q).2 := fun q h => by
      unfold km_l2
      split
      · exact h
      · split
        · exact h
        · exact mF_tr h mF_place
    exact h3 _ _ (h2 _ mF_place)
theorem mF_mav {s c : Nat} : ∀ (l : List Nat) (q : Nat × UU), mF q.2 (mavL s c l q).2 := by
  intro l
  induction l with
  | nil => intro q; exact mF_rf _
  | cons x l ih =>
    intro q
    rw [mavL]
    split
    · exact mF_rf _
    · exact mF_tr mF_adv (ih _)
theorem mF_mlk {s c : Nat} {fa sa : Nat → Option Nat} : ∀ (l : List Nat) (q : Nat × UU), mF q.2 (mlkL s c fa sa l q).2 := by
  intro l
  induction l with
  | nil => intro q; exact mF_rf _
  | cons x l ih =>
    intro q
    rw [mlkL]
    split
    · exact mF_rf _
    · exact mF_tr mF_l1 (ih _)
theorem km_A_L {s c r : Nat} {rk : Nat → Nat} : ∀ j a (q : Nat × UU), (∀ x, q.2.1 11 0 x = rk x) → km_A s c r j a q = mavL s c ((List.range' a j).filter (fun x => decide (rk x = r))) q := by
  intro j
  induction j with
  | zero => intro a q _; rfl
  | succ j ih =>
    intro a q h
    rw [km_A, List.range'_succ, h a]
    by_cases e : q.1 = 0
    · rw [if_pos e, mavL_0 e]
    · rw [if_neg e]
      by_cases e2 : rk a = r
      · rw [if_pos e2, List.filter_cons_of_pos (by exact decide_eq_true e2), mavL, if_neg e]
        exact ih (a + 1) _ (fun x => by rw [mF_adv.1 11 0 x (by decide)]; exact h x)
      · rw [if_neg e2, List.filter_cons_of_neg (by rw [decide_eq_true_eq]; exact e2)]
        exact ih (a + 1) q h
theorem km_AA_L {n s c : Nat} {rk : Nat → Nat} : ∀ j r (q : Nat × UU), (∀ x, q.2.1 11 0 x = rk x) → km_AA n s c j r q = mavL s c ((List.range' r j).flatMap (fun r => (List.range' 0 n).filter (fun x => decide (rk x = r)))) q := by
  intro j
  induction j with
  | zero => intro r q _; rfl
  | succ j ih =>
    intro r q h
    rw [km_AA, List.range'_succ, List.flatMap_cons, mavL_app, km_A_L n 0 q h]
    exact ih (r + 1) _ (fun x => by rw [(mF_mav _ q).1 11 0 x (by decide)]; exact h x)
theorem km_L_L {s c r : Nat} {fa sa : Nat → Option Nat} {rk : Nat → Nat} : ∀ j a (q : Nat × UU), (∀ x, q.2.1 11 0 x = rk x) → km_L s c fa sa r j a q = mlkL s c fa sa ((List.range' a j).filter (fun x => decide (rk x = r))) q := by
  intro j
  induction j with
  | zero => intro a q _; rfl
  | succ j ih =>
    intro a q h
    rw [km_L, List.range'_succ, h a]
    by_cases e : q.1 = 0
    · rw [if_pos e, mlkL_0 e]
    · rw [if_neg e]
      by_cases e2 : rk a = r
      · rw [if_pos e2, List.filter_cons_of_pos (by exact decide_eq_true e2), mlkL, if_neg e]
        exact ih (a + 1) _ (fun x => by rw [mF_l1.1 11 0 x (by decide)]; exact h x)
      · rw [if_neg e2, List.filter_cons_of_neg (by rw [decide_eq_true_eq]; exact e2)]
        exact ih (a + 1) q h
theorem km_LL_L {n s c : Nat} {fa sa : Nat → Option Nat} {rk : Nat → Nat} : ∀ j r (q : Nat × UU), (∀ x, q.2.1 11 0 x = rk x) → km_LL n s c fa sa j r q = mlkL s c fa sa ((List.range' r j).flatMap (fun r => (List.range' 0 n).filter (fun x => decide (rk x = r)))) q := by
  intro j
  induction j with
  | zero => intro r q _; rfl
  | succ j ih =>
    intro r q h
    rw [km_LL, List.range'_succ, List.flatMap_cons, mlkL_app, km_L_L n 0 q h]
    exact ih (r + 1) _ (fun x => by rw [(mF_mlk _ q).1 11 0 x (by decide)]; exact h x)
/-- what the class's placing leaves as it was -/
def cF (p : Nat) (u U : UU) : Prop := (∀ k i j, ¬ (k = 20 ∧ i = p) → ¬ (k = 15 ∧ i = p ∧ j = 7) → U.1 k i j = u.1 k i j) ∧ U.2 = u.2 ∧ ((∀ q, u.1 20 p q < 400) → ∀ q, U.1 20 p q < 400)
theorem cF_rf (p : Nat) (w : UU) : cF p w w := ⟨fun _ _ _ _ _ => rfl, rfl, fun h => h⟩
theorem cF_tr {p : Nat} {u v w : UU} (h : cF p u v) (g : cF p v w) : cF p u w := ⟨fun k i j h1 h2 => (g.1 k i j h1 h2).trans (h.1 k i j h1 h2), g.2.1.trans h.2.1, fun q => g.2.2 (h.2.2 q)⟩
theorem cF_adv {s c p x : Nat} {u : UU} (hx : x < 10) : cF p u (kc_advert s c u p x).2 := by
  unfold kc_advert kc_adv
  split
  · rename_i a _
    refine ⟨fun k i j h1 h2 => ?_, ?_, fun h q => ?_⟩
    · rw [un_1, if_neg h2, kc_fill_1, if_neg (fun q => h1 ⟨q.1, q.2.1⟩)]
    · rw [un_2, kc_fill_2]
    · show (un (kc_fill c u p a (100 + 10 * x)) 15 p 7 _).1 20 p q < 400
      rw [un_1, if_neg (by omega), kc_fill_1]
      split
      · omega
      · exact h q
  · exact cF_rf p u
theorem cF_link {s c p d x y : Nat} {u : UU} (hz : d + 10 * x + y < 400) : cF p u (kc_link s c u p d x y).2 := by
  unfold kc_link kc_lnk
  split
  · rename_i a _
    refine ⟨fun k i j h1 h2 => ?_, rfl, fun h q => ?_⟩
    · rw [un_1, if_neg h2, un_1, if_neg (fun q => h1 ⟨q.1, q.2.1⟩)]
    · show (un (un u 20 p (a.1 * c + a.2) (d + 10 * x + y)) 15 p 7 _).1 20 p q < 400
      rw [un_1, if_neg (by omega), un_1]
      split
      · exact hz
      · exact h q
  · exact cF_rf p u
theorem cF_advL {s c p : Nat} : ∀ (l : List Nat) (u : UU), (∀ x, x ∈ l → x < 10) → cF p u (advL s c p l u).2 := by
  intro l
  induction l with
  | nil => intro u _; exact cF_rf p u
  | cons x l ih =>
    intro u h
    have hx := h x (List.mem_cons_self ..)
    rw [advL]
    split
    · exact cF_adv hx
    · exact cF_tr (cF_adv hx) (ih _ (fun y hy => h y (List.mem_cons_of_mem _ hy)))
theorem cF_lnkL {s c p : Nat} {fa sa : Nat → Option Nat} (hf : ∀ x f, fa x = some f → f < 10) (hg : ∀ x f, sa x = some f → f < 10) : ∀ (l : List Nat) (u : UU), (∀ x, x ∈ l → x < 10) → cF p u (lnkL s c p fa sa l u).2 := by
  intro l
  induction l with
  | nil => intro u _; exact cF_rf p u
  | cons x l ih =>
    intro u h
    have hx := h x (List.mem_cons_self ..)
    have ih2 : ∀ W, cF p u W → cF p u (lnkL s c p fa sa l W).2 := fun W hW => cF_tr hW (ih W (fun y hy => h y (List.mem_cons_of_mem _ hy)))
    rw [lnkL]
    split
    · exact cF_rf p u
    · rename_i f e
      have hf := hf x f e
      have key3 : ∀ W, cF p u W → cF p u (kl3 s c p x f (lnkL s c p fa sa l) W).2 := fun W hW => by
        unfold kl3
        split
        · exact cF_tr hW (cF_link (by omega))
        · exact ih2 _ (cF_tr hW (cF_link (by omega)))
      unfold kl1
      split
      · exact cF_link (by omega)
      · unfold kl2
        split
        · exact key3 _ (cF_link (by omega))
        · rename_i b e2
          have hg := hg x b e2
          split
          · exact cF_tr (cF_link (by omega)) (cF_link (by omega))
          · exact key3 _ (cF_tr (cF_link (by omega)) (cF_link (by omega)))
/-! alike -/
abbrev PU (n s c p m : Nat) (u w : UU) : Prop := PG n s c (fun q => u.1 20 p q) (fun q => w.1 13 0 q) (u.1 15 p 7) m
theorem km_fl_1 (c : Nat) (u : UU) (sl z q : Nat) : (km_fl c u sl z).1 13 0 q = if 4 * sl ≤ q ∧ q < 4 * sl + c then z else u.1 13 0 q := by
  unfold km_fl
  suffices h : ∀ m, (fo (fun k w => un w 13 0 (4 * sl + k) z) u m).1 13 0 q = if 4 * sl ≤ q ∧ q < 4 * sl + m then z else u.1 13 0 q from h c
  intro m
  induction m with
  | zero => rw [if_neg (by omega)]; rfl
  | succ m ih =>
    show (un (fo (fun k w => un w 13 0 (4 * sl + k) z) u m) 13 0 (4 * sl + m) z).1 13 0 q = _
    rw [un_1, ih]
    by_cases h1 : q = 4 * sl + m
    · rw [if_pos ⟨rfl, rfl, h1⟩, if_pos (by omega)]
    · rw [if_neg (fun w => h1 w.2.2)]
      by_cases h2 : 4 * sl ≤ q ∧ q < 4 * sl + m
      · rw [if_pos h2, if_pos (by omega)]
      · rw [if_neg h2, if_neg (by omega)]
section PS
variable {n s c p m : Nat} {u w : UU}
theorem PU_adv (hn : n ≤ 6) (hs : s ≤ 24) (h0 : 0 < c) (hc : c ≤ 4) (h : PU n s c p m u w) {x : Nat} (hx : x < n) : (kc_advert s c u p x).1 = (km_advP s c w x).1 ∧ ((kc_advert s c u p x).1 ≠ 0 → PU n s c p (m + 1) (kc_advert s c u p x).2 (km_advP s c w x).2) := by
  have e : fnd (kadv c u p) s 0 = fnd (kmv w) s 0 := fnd_cong (fun a h1 h2 => by
    unfold kadv kmv
    have := h.1 a 0 (by omega) h0
    have this : u.1 20 p (a * c + 0) = w.1 13 0 (4 * a) := this
    rw [this])
  unfold kc_advert km_advP
  rw [e]
  cases q : fnd (kmv w) s 0 with
  | none => exact ⟨rfl, fun h => absurd rfl h⟩
  | some sl =>
    obtain ⟨a1, a2, a3⟩ := fnd_some q
    have a1 : w.1 13 0 (4 * sl) = 0 := of_decide_eq_true a1
    refine ⟨rfl, fun _ => ?_⟩
    show PG n s c (fun q => (un (kc_fill c u p sl (100 + 10 * x)) 15 p 7 ((kc_fill c u p sl (100 + 10 * x)).1 15 p 7 + 1)).1 20 p q) (fun q => (km_fl c w sl (100 + 10 * x)).1 13 0 q) ((un (kc_fill c u p sl (100 + 10 * x)) 15 p 7 ((kc_fill c u p sl (100 + 10 * x)).1 15 p 7 + 1)).1 15 p 7) (m + 1)
    rw [un_1, if_pos ⟨rfl, rfl, rfl⟩, kc_fill_1, if_neg (by omega)]
    refine PG_adv h hs h0 hc (by omega) a1 (v := 100 + 10 * x) (by omega) (fun q => ?_) (fun q => ?_)
    · rw [un_1, if_neg (by omega), kc_fill_1]
      by_cases w1 : sl * c ≤ q ∧ q < sl * c + c
      · rw [if_pos ⟨rfl, rfl, w1⟩, if_pos w1]
      · rw [if_neg (fun w => w1 w.2.2), if_neg w1]
    · exact km_fl_1 c w sl (100 + 10 * x) q
theorem PU_link (hn : n ≤ 6) (hs : s ≤ 24) (hc : c ≤ 4) (h : PU n s c p m u w) {d x y : Nat} (hd : d = 200 ∨ d = 300) (hx : x < n) (hy : y < n) : (kc_link s c u p d x y).1 = (km_place s c w (d + 10 * x + y)).1 ∧ ((kc_link s c u p d x y).1 ≠ 0 → PU n s c p m (kc_link s c u p d x y).2 (km_place s c w (d + 10 * x + y)).2) := by
  have e := link_eq h hs hc hd (x := x) (y := y) (by omega) (by omega) s 0 (by omega)
  unfold kc_link km_place
  rw [← e]
  cases q : klink (fun q => u.1 20 p q) c x y s 0 with
  | none => exact ⟨rfl, fun h => absurd rfl h⟩
  | some o =>
    obtain ⟨k1, k2, k3⟩ := klink_w s 0 o q
    obtain ⟨f1, f2, f3, f4⟩ := kfree_w c 0 o.2 k3
    have g1 := h.1 o.1 o.2 (by omega) (by omega)
    refine ⟨rfl, fun _ => ?_⟩
    show PG n s c (fun q => (un (un u 20 p (o.1 * c + o.2) (d + 10 * x + y)) 15 p 7 (u.1 15 p 7 + 1)).1 20 p q) (fun q => (un w 13 0 (4 * o.1 + o.2) (d + 10 * x + y)).1 13 0 q) ((un (un u 20 p (o.1 * c + o.2) (d + 10 * x + y)) 15 p 7 (u.1 15 p 7 + 1)).1 15 p 7) m
    rw [un_1, if_pos ⟨rfl, rfl, rfl⟩]
    refine PG_set h hs hc (sl := o.1) (b := o.2) (v := d + 10 * x + y) (by omega) (by omega) (g1.symm.trans f3) (fun j hj => ?_) (by omega) (fun q => ?_) (fun q => ?_)
    · have := h.1 o.1 j (by omega) (by omega)
      exact fun w => f4 j (Nat.zero_le j) hj (this.trans w)
    · rw [un_1, if_neg (by omega), un_1]
      by_cases w1 : q = o.1 * c + o.2
      · rw [if_pos ⟨rfl, rfl, w1⟩, if_pos w1]
      · rw [if_neg (fun w => w1 w.2.2), if_neg w1]
    · rw [un_1]
      by_cases w1 : q = 4 * o.1 + o.2
      · rw [if_pos ⟨rfl, rfl, w1⟩, if_pos w1]
      · rw [if_neg (fun w => w1 w.2.2), if_neg w1]
end PS
theorem PU_advs {n s c p : Nat} (hn : n ≤ 6) (hs : s ≤ 24) (h0 : 0 < c) (hc : c ≤ 4) : ∀ (l : List Nat) (m : Nat) (u w : UU), (∀ x, x ∈ l → x < n) → PU n s c p m u w → (advL s c p l u).1 = (mavL s c l (1, w)).1 ∧ ((advL s c p l u).1 ≠ 0 → PU n s c p (m + l.length) (advL s c p l u).2 (mavL s c l (1, w)).2) := by
  intro l
  induction l with
  | nil => intro m u w _ h; exact ⟨rfl, fun _ => h⟩
  | cons x l ih =>
    intro m u w hl h
    obtain ⟨a1, a2⟩ := PU_adv hn hs h0 hc h (hl x (List.mem_cons_self ..))
    have hle : (km_advP s c w x).1 ≤ 1 := km_advP_le
    rw [advL, mavL, if_neg (show ¬ (1, w).1 = 0 from Nat.one_ne_zero)]
    by_cases e : (kc_advert s c u p x).1 = 0
    · rw [if_pos e, mavL_0 (by rw [← a1]; exact e)]
      exact ⟨by rw [← a1, e], fun h => absurd rfl h⟩
    · rw [if_neg e]
      have e2 : km_advP s c w x = (1, (km_advP s c w x).2) := Prod.ext (by show (km_advP s c w x).1 = 1; omega) rfl
      have := ih (m + 1) _ _ (fun y hy => hl y (List.mem_cons_of_mem _ hy)) (a2 e)
      rw [← e2] at this
      rw [List.length_cons, show m + (l.length + 1) = m + 1 + l.length by omega]
      exact this
theorem PU_lnks {n s c p : Nat} {fa sa : Nat → Option Nat} (hn : n ≤ 6) (hs : s ≤ 24) (hc : c ≤ 4) (hg : ∀ x f, sa x = some f → f < n) : ∀ (l : List Nat) (m : Nat) (u w : UU), (∀ x, x ∈ l → x < n ∧ ∃ f, fa x = some f ∧ f < n) → PU n s c p m u w → (lnkL s c p fa sa l u).1 = (mlkL s c fa sa l (1, w)).1 ∧ ((lnkL s c p fa sa l u).1 ≠ 0 → PU n s c p m (lnkL s c p fa sa l u).2 (mlkL s c fa sa l (1, w)).2) := by
  intro l
  induction l with
  | nil => intro m u w _ h; exact ⟨rfl, fun _ => h⟩
  | cons x l ih =>
    intro m u w hl h
    obtain ⟨hx, f, hf, hfn⟩ := hl x (List.mem_cons_self ..)
    have hl2 : ∀ y, y ∈ l → y < n ∧ ∃ f, fa y = some f ∧ f < n := fun y hy => hl y (List.mem_cons_of_mem _ hy)
    rw [lnkL, mlkL, if_neg (show ¬ (1, w).1 = 0 from Nat.one_ne_zero), hf]
    show (kl1 s c p x f (sa x) (lnkL s c p fa sa l) u).1 = (mlkL s c fa sa l (km_l3 s c x f (km_l2 s c x (sa x) (km_place s c w (200 + 10 * x + f))))).1 ∧ ((kl1 s c p x f (sa x) (lnkL s c p fa sa l) u).1 ≠ 0 → PU n s c p m (kl1 s c p x f (sa x) (lnkL s c p fa sa l) u).2 (mlkL s c fa sa l (km_l3 s c x f (km_l2 s c x (sa x) (km_place s c w (200 + 10 * x + f))))).2)
    have one : ∀ W z, (km_place s c W z).1 ≠ 0 → km_place s c W z = (1, (km_place s c W z).2) := fun W z q => Prod.ext (by have : (km_place s c W z).1 ≤ 1 := km_place_le; show (km_place s c W z).1 = 1; omega) rfl
    have dead : ∀ q : Nat × UU, q.1 = 0 → mlkL s c fa sa l (km_l3 s c x f (km_l2 s c x (sa x) q)) = q := fun q hq => by
      have e1 : km_l2 s c x (sa x) q = q := by
        unfold km_l2
        split
        · rfl
        · rw [if_pos hq]
      rw [e1]
      unfold km_l3
      rw [if_pos hq, mlkL_0 hq]
    have key3 : ∀ U W, PU n s c p m U W → (kl3 s c p x f (lnkL s c p fa sa l) U).1 = (mlkL s c fa sa l (km_l3 s c x f (1, W))).1 ∧ ((kl3 s c p x f (lnkL s c p fa sa l) U).1 ≠ 0 → PU n s c p m (kl3 s c p x f (lnkL s c p fa sa l) U).2 (mlkL s c fa sa l (km_l3 s c x f (1, W))).2) := fun U W hU => by
      obtain ⟨b1, b2⟩ := PU_link hn hs hc hU (d := 300) (Or.inr rfl) hfn hx
      unfold kl3 km_l3
      rw [if_neg (show ¬ (1, W).1 = 0 from Nat.one_ne_zero)]
      by_cases e : (kc_link s c U p 300 f x).1 = 0
      · rw [if_pos e, mlkL_0 (by rw [← b1]; exact e)]
        exact ⟨by rw [← b1, e], fun h => absurd rfl h⟩
      · rw [if_neg e]
        have e2 := one W (300 + 10 * f + x) (by rw [← b1]; exact e)
        have := ih m _ _ hl2 (b2 e)
        rw [← e2] at this
        exact this
    obtain ⟨b1, b2⟩ := PU_link hn hs hc h (d := 200) (Or.inl rfl) hx hfn
    unfold kl1
    by_cases e : (kc_link s c u p 200 x f).1 = 0
    · rw [if_pos e, dead _ (by rw [← b1]; exact e)]
      exact ⟨by rw [← b1, e], fun h => absurd rfl h⟩
    · rw [if_neg e, one w (200 + 10 * x + f) (by rw [← b1]; exact e)]
      have hP := b2 e
      generalize (kc_link s c u p 200 x f).2 = U at hP ⊢
      generalize (km_place s c w (200 + 10 * x + f)).2 = W at hP ⊢
      unfold kl2 km_l2
      cases hsa : sa x with
      | none => exact key3 U W hP
      | some b =>
        have hbn := hg x b hsa
        obtain ⟨d1, d2⟩ := PU_link hn hs hc hP (d := 200) (Or.inl rfl) hx hbn
        show (if (kc_link s c U p 200 x b).1 = 0 then (0, (kc_link s c U p 200 x b).2) else kl3 s c p x f (lnkL s c p fa sa l) (kc_link s c U p 200 x b).2).1 = (mlkL s c fa sa l (km_l3 s c x f (if (1, W).1 = 0 then (1, W) else km_place s c (1, W).2 (200 + 10 * x + b)))).1 ∧ ((if (kc_link s c U p 200 x b).1 = 0 then (0, (kc_link s c U p 200 x b).2) else kl3 s c p x f (lnkL s c p fa sa l) (kc_link s c U p 200 x b).2).1 ≠ 0 → PU n s c p m (if (kc_link s c U p 200 x b).1 = 0 then (0, (kc_link s c U p 200 x b).2) else kl3 s c p x f (lnkL s c p fa sa l) (kc_link s c U p 200 x b).2).2 (mlkL s c fa sa l (km_l3 s c x f (if (1, W).1 = 0 then (1, W) else km_place s c (1, W).2 (200 + 10 * x + b)))).2)
        rw [if_neg (show ¬ (1, W).1 = 0 from Nat.one_ne_zero)]
        by_cases e3 : (kc_link s c U p 200 x b).1 = 0
        · rw [if_pos e3]
          have e4 : km_l3 s c x f (km_place s c W (200 + 10 * x + b)) = km_place s c W (200 + 10 * x + b) := by
            unfold km_l3
            rw [if_pos (by rw [← d1]; exact e3)]
          show (0 : Nat) = (mlkL s c fa sa l (km_l3 s c x f (km_place s c W (200 + 10 * x + b)))).1 ∧ _
          rw [e4, mlkL_0 (by rw [← d1]; exact e3)]
          exact ⟨by rw [← d1, e3], fun h => absurd rfl h⟩
        · rw [if_neg e3]
          show (kl3 s c p x f (lnkL s c p fa sa l) (kc_link s c U p 200 x b).2).1 = (mlkL s c fa sa l (km_l3 s c x f (km_place s c W (200 + 10 * x + b)))).1 ∧ ((kl3 s c p x f (lnkL s c p fa sa l) (kc_link s c U p 200 x b).2).1 ≠ 0 → PU n s c p m (kl3 s c p x f (lnkL s c p fa sa l) (kc_link s c U p 200 x b).2).2 (mlkL s c fa sa l (km_l3 s c x f (km_place s c W (200 + 10 * x + b)))).2)
          rw [one W (200 + 10 * x + b) (by rw [← d1]; exact e3)]
          exact key3 _ _ (d2 e3)
