/-! Plan: class and model alike -/
theorem cl_v (u : UU) : (∀ a i j, (km_cl u).1 a i j = if a = 13 ∧ i = 0 ∧ j < 96 then 0 else u.1 a i j) ∧ (km_cl u).2 = u.2 := by
  unfold km_cl
  suffices h : ∀ m, (∀ a i j, (fo (fun k w => un w 13 0 k 0) u m).1 a i j = if a = 13 ∧ i = 0 ∧ j < m then 0 else u.1 a i j) ∧ (fo (fun k w => un w 13 0 k 0) u m).2 = u.2 from h 96
  intro m
  induction m with
  | zero => exact ⟨fun a i j => by rw [if_neg (by omega)]; rfl, rfl⟩
  | succ m ih =>
    refine ⟨fun a i j => ?_, ih.2⟩
    show (un (fo (fun k w => un w 13 0 k 0) u m) 13 0 m 0).1 a i j = _
    rw [un_1, ih.1]
    by_cases h1 : a = 13 ∧ i = 0 ∧ j = m
    · rw [if_pos h1, if_pos (by omega)]
    · rw [if_neg h1]
      by_cases h2 : a = 13 ∧ i = 0 ∧ j < m
      · rw [if_pos h2, if_pos (by omega)]
      · rw [if_neg h2, if_neg (by omega)]
/-- nodes of model rank q -/
abbrev lym (n : Nat) (v : Nat → Nat) (q : Nat) : List Nat := (List.range' 0 n).filter (fun x => decide (v x = q))
section LY
variable {n : Nat} {N : Nat → Nat → Bool} {v : Nat → Nat}
theorem rkf_0 (h1 : 1 ≤ n) : rkf n N n 0 = some 0 := fnd_is (Nat.le_refl 0) (by omega) rfl (fun a _ h => by omega)
theorem rkf_00 {a : Nat} (h : rkf n N n a = some 0) : a = 0 := by
  have h2 := (fnd_some h).1
  have h2 : rc n N 0 a = true := h2
  rw [rc] at h2
  exact of_decide_eq_true h2
theorem lay_eq (hn : n ≤ 6) (hv : ∀ a, a < n → ∃ j, rkf n N n a = some j ∧ v a = j) : (List.range n).flatMap (lay n N) = (List.range' 0 6).flatMap (lym n v) := by
  have e6 : List.range' 0 6 = List.range' 0 n ++ List.range' n (6 - n) := by
    have := List.range'_append_1 (s := 0) (m := n) (n := 6 - n)
    rw [Nat.zero_add, show n + (6 - n) = 6 by omega] at this
    exact this.symm
  have e2 : (List.range' n (6 - n)).flatMap (lym n v) = [] := by
    refine List.flatMap_eq_nil_iff.mpr (fun r hr => List.filter_eq_nil_iff.mpr (fun x hx => ?_))
    have hr := List.mem_range'_1.mp hr
    have hx := List.mem_range'_1.mp hx
    obtain ⟨j, j1, j2⟩ := hv x (by omega)
    have := rkf_lt j1
    rw [decide_eq_true_eq]
    omega
  rw [e6, List.flatMap_append, e2, List.append_nil, List.range_eq_range', List.flatMap_def, List.flatMap_def]
  congr 1
  refine List.map_congr_left (fun r hr => ?_)
  have hr := List.mem_range'_1.mp hr
  show (List.range n).filter (fun a => decide (rkf n N (r + 1) a = some r)) = (List.range' 0 n).filter (fun x => decide (v x = r))
  rw [List.range_eq_range']
  refine List.filter_congr (fun x hx => ?_)
  have hx := List.mem_range'_1.mp hx
  obtain ⟨j, j1, j2⟩ := hv x (by omega)
  by_cases e : j = r
  · have q1 : v x = r := by omega
    have q2 : rkf n N (r + 1) x = some r := by
      rw [e] at j1
      exact fnd_is (Nat.zero_le r) (by omega) (fnd_some j1).1 (fnd_first j1)
    rw [decide_eq_true q1, decide_eq_true q2]
  · have q1 : ¬ v x = r := by omega
    have q2 : ¬ rkf n N (r + 1) x = some r := fun q => by
      have := fnd_is (q := fun i => rc n N i x) (j := n) (k := 0) (Nat.zero_le r) (by omega) (fnd_some q).1 (fnd_first q)
      rw [show fnd (fun i => rc n N i x) n 0 = some j from j1] at this
      cases this
      exact e rfl
    rw [decide_eq_false q1, decide_eq_false q2]
theorem lym_0 (h1 : 1 ≤ n) (hv : ∀ a, a < n → ∃ j, rkf n N n a = some j ∧ v a = j) : lym n v 0 = [0] := by
  obtain ⟨m, rfl⟩ : ∃ m, n = m + 1 := ⟨n - 1, by omega⟩
  show (List.range' 0 (m + 1)).filter (fun x => decide (v x = 0)) = [0]
  rw [List.range'_succ, List.filter_cons_of_pos, List.filter_eq_nil_iff.mpr]
  · intro x hx
    have hx := List.mem_range'_1.mp hx
    obtain ⟨j, j1, j2⟩ := hv x (by omega)
    rw [decide_eq_true_eq]
    intro q
    have : j = 0 := by omega
    rw [this] at j1
    have := rkf_00 j1
    omega
  · obtain ⟨j, j1, j2⟩ := hv 0 (by omega)
    rw [rkf_0 (by omega)] at j1
    cases j1
    exact decide_eq_true j2
end LY
theorem nI_pre {a b : Nat} (ha : a ≤ 99) (hb : b ≤ 99) : nI b = nI a - nI 1 ↔ b + 1 = a := by
  have e1 := nI_toInt (show a < 2 ^ 31 by omega)
  have e2 := nI_toInt (show b < 2 ^ 31 by omega)
  have e3 : (nI 1).toInt = 1 := by decide
  have e4 := sub_sm (x := nI a) (y := nI 1) (B := 100) (by omega) (by rw [e1]; omega) (by rw [e3]; omega)
  constructor
  · intro h
    have h2 := congrArg Int32.toInt h
    rw [e2, e4, e1, e3] at h2
    omega
  · intro h
    apply Int32.toInt_inj.mp
    rw [e2, e4, e1, e3]
    omega
theorem PU_8 {n s c p m v : Nat} {U W : UU} (h : PU n s c p m U W) : PU n s c p m (un U 15 p 8 v) W := by
  have e1 : (fun q => (un U 15 p 8 v).1 20 p q) = fun q => U.1 20 p q := by
    funext q
    rw [un_1, if_neg (by omega)]
  show PG n s c (fun q => (un U 15 p 8 v).1 20 p q) (fun q => W.1 13 0 q) ((un U 15 p 8 v).1 15 p 7) m
  rw [e1, un_1, if_neg (by omega)]
  exact h
theorem plan_sim {n s c : Nat} {f0 : Nat → Option Nat} {r0 : Nat → Nat} {B : Int} {u w : UU} (h1 : 1 ≤ n) (hn : n ≤ 6) (h0 : 0 < c) (hc : c ≤ 4) (hs : s ≤ 24) (h : RR n c u w) (hu : wf n u) (hw : wm n w) (hj : Jv n r0 B w) (hl : LK n s c f0 r0 u w) (h56 : u.2.2.2 5 + u.2.2.2 6 = 1) : ∃ fa sa, (km_al (km_rk n w) n ≠ 0 → pp n fa sa (km_parents n (km_rk n w))) ∧ PE n s c B w (kc_plan n s c u) (km_plan n s c fa sa w) := by
  obtain ⟨p, hp⟩ : ∃ p, p = u.2.2.2 6 := ⟨_, rfl⟩
  have hN : ∀ a b, a < n → b < n → nb u b a = decide (w.1 1 0 (6 * a + b) ≠ 0) := fun a b ha hb => by
    show decide (u.1 7 b a ≠ 0) = _
    rw [h.near hb ha, hj.1.1 b a hb ha]
  obtain ⟨m1, m2, m3, m4⟩ := mr_all h1 hn hN hj.1.2.2.2.2.2.2.2.2.1
  have gW1 : mG n w (km_rk n w) := ⟨fun k i j h11 _ => m1 k i j h11, fun k i j _ => by rw [m2], by rw [m2], m3, fun j => by rw [m1 13 0 j (by decide)]; exact hj.1.2.2.2.2.2.2.2.2.2.1 j, fun j q => by rw [m2]; exact hj.1.2.2.2.2.2.2.2.2.2.2 j q⟩
  have hal : km_al (km_rk n w) n ≠ 0 ↔ ∀ a, a < n → rkf n (nb u) n a ≠ none := by
    rw [al_iff]
    constructor
    · intro q a ha z
      have := q a ha
      rw [m4 a ha, z] at this
      exact absurd this (by decide)
    · intro q a ha
      rw [m4 a ha]
      cases z : rkf n (nb u) n a with
      | none => exact absurd z (q a ha)
      | some j => have := rkf_lt z; show j < 99; omega
  have hcn := cr_n (s := s) (c := c) (p := p) (u := u) h1 hn hu.1
  have gR := cr_G (s := s) (c := c) (p := p) h1 hn hu
  by_cases hall : ∀ a, a < n → rkf n (nb u) n a ≠ none
  · have hR2 := hcn.mpr hall
    obtain ⟨I1, I2, I3⟩ := cr_I (s := s) (c := c) (p := p) (u := u) h1 hn
    obtain ⟨K1, K2, K3, K4, -⟩ := kro_all (u := kmk s c u p) (p := p) h1 (by omega)
    obtain ⟨V1, V2⟩ := mk_v s c u p
    rw [hR2, List.range_zero, List.filter_nil, List.append_nil] at I3
    have hmake : kc_make n s c u p = kc_mk3 n s c (kc_parents n (kc_ranks n (kmk s c u p) p).1 p) p (kc_ranks n (kmk s c u p) p).1 := by
      unfold kc_make; rw [if_pos hR2]
    generalize (kc_ranks n (kmk s c u p) p).1 = R at hmake gR I1 I2 I3 K1 K2 K3 K4
    obtain ⟨v, hv⟩ : ∃ v : Nat → Nat, v = fun x => (km_rk n w).1 11 0 x := ⟨_, rfl⟩
    have hv1 : ∀ a, a < n → ∃ j, rkf n (nb u) n a = some j ∧ v a = j := fun a ha => by
      cases z : rkf n (nb u) n a with
      | none => exact absurd z (hall a ha)
      | some j => exact ⟨j, rfl, by rw [hv]; show (km_rk n w).1 11 0 a = j; rw [m4 a ha, z]; rfl⟩
    have hvn : ∀ a, a < n → v a < n := fun a ha => by
      obtain ⟨j, j1, j2⟩ := hv1 a ha
      have := rkf_lt j1
      omega
    have hv0 : v 0 = 0 := by
      obtain ⟨j, j1, j2⟩ := hv1 0 (by omega)
      rw [rkf_0 h1] at j1
      cases j1
      exact j2
    have hrk : ∀ a, a < n → R.2.1 16 p a = nI (v a) := fun a ha => by
      obtain ⟨j, j1, j2⟩ := hv1 a ha
      rw [I2 a ha, if_neg (by omega), j1, j2]
      rfl
    have hkp : ∀ i k, kpb (km_rk n w) i k = decide (w.1 1 0 (6 * i + k) ≠ 0 ∧ nI (v k) = nI (v i) - nI 1) := fun i k => by
      unfold kpb
      rw [m1 1 0 _ (by decide), hv]
    have hkn : ∀ i k, i < n → k < n → knr R p i (R.2.1 16 p i - nI 1) k = kpb (km_rk n w) i k := fun i k hi hk => by
      rw [hkp]
      unfold knr
      rw [gR.1 7 i k (Or.inl (by decide)), h.near hi hk, hrk i hi, hrk k hk]
    have hk0 : ∀ k, k < n → kpb (km_rk n w) 0 k = false := fun k hk => by
      rw [hkp]
      refine decide_eq_false (fun q => ?_)
      have := (nI_pre (by have := hvn 0 (by omega); omega) (by have := hvn k hk; omega)).mp q.2
      omega
    have hpf0 : pf n (km_rk n w) 0 = none := fnd_no (fun b _ hb => hk0 b (by omega))
    have hfa : ∀ i, i < n → kfa n R p i = pf n (km_rk n w) i := fun i hi => by
      unfold kfa
      by_cases e : i = 0
      · rw [if_pos e, e, hpf0]
      · rw [if_neg e]
        unfold kc_next pf
        exact fnd_cong (fun a _ ha => hkn i a hi (by omega))
    have hsa : ∀ i, i < n → ksa n R p i = ps n (km_rk n w) i := fun i hi => by
      unfold ksa
      by_cases e : i = 0
      · rw [if_pos e, e]
        unfold ps
        rw [hpf0]
        exact hpf0.symm
      · rw [if_neg e, hfa i hi]
        unfold kc_next ps
        have hle : kfr (pf n (km_rk n w) i) ≤ n := by
          cases z : pf n (km_rk n w) i with
          | none => exact Nat.zero_le n
          | some b => have := fnd_lt z; show b + 1 ≤ n; omega
        exact fnd_cong (fun a _ ha => hkn i a hi (by omega))
    have hpar : ∀ i b, i < n → kfa n R p i = some b → v b < v i := fun i b hi hb => by
      have hbn := kfa_lt hb
      rw [hfa i hi] at hb
      have q := (fnd_some hb).1
      rw [hkp] at q
      have q := (of_decide_eq_true q).2
      have := (nI_pre (by have := hvn i hi; omega) (by have := hvn b hbn; omega)).mp q
      omega
    have hex : ∀ i, i < n → v i ≠ 0 → ∃ b, kfa n R p i = some b ∧ b < n := fun i hi hvi => by
      obtain ⟨j, j1, j2⟩ := hv1 i hi
      obtain ⟨k, rfl⟩ : ∃ k, j = k + 1 := ⟨j - 1, by omega⟩
      have hfirst := fnd_first j1
      rcases rc_in (fnd_some j1).1 with e | ⟨b, b1, b2, b3⟩
      · have := hfirst k (Nat.zero_le k) (by omega)
        rw [e] at this
        cases this
      · have hbf : rkf n (nb u) n b = some k := by
          have hlt := rkf_lt j1
          refine fnd_is (Nat.zero_le k) (by omega) b3 (fun d _ hd => ?_)
          cases e : rc n (nb u) d b with
          | false => rfl
          | true =>
            have q1 := rc_st b1 b2 e
            have q2 := hfirst (d + 1) (Nat.zero_le _) (by omega)
            rw [q1] at q2
            cases q2
        have hvb : v b = k := by
          obtain ⟨j', j1', j2'⟩ := hv1 b b1
          rw [hbf] at j1'
          cases j1'
          exact j2'
        have hkb : kpb (km_rk n w) i b = true := by
          rw [hkp]
          refine decide_eq_true ⟨?_, ?_⟩
          · have b2 := of_decide_eq_true b2
            rw [h.near hi b1] at b2
            exact b2
          · exact (nI_pre (by have := hvn i hi; omega) (by have := hvn b b1; omega)).mpr (by omega)
        obtain ⟨a, ha⟩ := fnd_ex (q := kpb (km_rk n w) i) (j := n) (k := 0) (Nat.zero_le b) (by omega) hkb
        have hfi : kfa n R p i = some a := by rw [hfa i hi]; exact ha
        exact ⟨a, hfi, kfa_lt hfi⟩
    obtain ⟨W1, W2, W3, W4, W5⟩ := mp_all (n := n) (u := km_rk n w)
    have gW2 : mG n w (km_parents n (km_rk n w)) := by
      obtain ⟨b1, b2, b3, b4, b5, b6⟩ := gW1
      refine ⟨fun k i j q1 q2 => by rw [W1]; exact b1 k i j q1 q2, fun k i j q => by rw [W3 k i j q]; exact b2 k i j q, by rw [W2]; exact b3, fun j => by rw [W1]; exact b4 j, fun j => by rw [W1]; exact b5 j, fun j q => by rw [W4 j q]; exact b6 j q⟩
    have hpp : pp n (kfa n R p) (ksa n R p) (km_parents n (km_rk n w)) := by
      refine ⟨gW2.2.2.2.2.1, gW2.2.2.2.1, fun a ha => by rw [(W5 a ha).1, hfa a ha], fun a ha => by rw [(W5 a ha).2, hsa a ha], fun a ha hq => hex a ha ?_, fun a b q => ksa_lt q⟩
      rw [W1] at hq
      rw [hv]
      exact hq
    refine ⟨kfa n R p, ksa n R p, fun _ => hpp, ?_⟩
    have hplan : km_plan n s c (kfa n R p) (ksa n R p) w = km_pl n s c (kfa n R p) (ksa n R p) (km_parents n (km_rk n w)) := by
      unfold km_plan; rw [if_neg (hal.mpr hall)]
    rw [hplan]
    have hqp := qp_all (s := s) (c := c) hn hpp
    have gP := cp_G h1 gR
    obtain ⟨P1, P2, P3, P4, P5⟩ := kpi_all (u := R) (n := n) (p := p) h1
    have hv11 : ∀ x, (km_cl (km_parents n (km_rk n w))).1 11 0 x = v x := fun x => by
      rw [(cl_v _).1, if_neg (by omega), W1, hv]
    have hmF0 : mF (km_parents n (km_rk n w)) (km_cl (km_parents n (km_rk n w))) := ⟨fun k i j q => by rw [(cl_v _).1, if_neg (by omega)], (cl_v _).2⟩
    have hAA := km_AA_L (n := n) (s := s) (c := c) (rk := v) 6 0 (1, km_cl (km_parents n (km_rk n w))) hv11
    have hLm : ∀ x, x ∈ (List.range' 0 6).flatMap (lym n v) → x < n := fun x hx => by
      obtain ⟨r, _, hr⟩ := List.mem_flatMap.mp hx
      have := List.mem_range'_1.mp (List.mem_filter.mp hr).1
      omega
    have hLc : (List.range n).map (fun i => (kc_parents n R p).1 19 p (0 + i)) = (List.range' 0 6).flatMap (lym n v) := by
      rw [← lay_eq hn hv1, ← I3]
      unfold abv
      refine List.map_congr_left (fun i _ => ?_)
      rw [P1, Nat.zero_add]
    have hlen : ((List.range' 0 6).flatMap (lym n v)).length = n := by
      rw [← hLc, List.length_map, List.length_range]
    have hPU0 : PU n s c p 0 (kc_parents n R p) (km_cl (km_parents n (km_rk n w))) := by
      have z2 : ∀ q, q < 96 → (km_cl (km_parents n (km_rk n w))).1 13 0 q = 0 := fun q hq => by rw [(cl_v _).1, if_pos ⟨rfl, rfl, hq⟩]
      refine ⟨fun sl k hsl hk => ?_, fun q hq => Or.inl (z2 q hq), fun sl k hsl hk => ?_, fun sl j k hsl hjk hk _ => z2 _ (by omega), ?_⟩
      · show (kc_parents n R p).1 20 p (sl * c + k) = (km_cl (km_parents n (km_rk n w))).1 13 0 (4 * sl + k)
        have hlt : sl * c + k < s * c := by
          have := Nat.mul_le_mul_right c (show sl + 1 ≤ s from hsl)
          rw [Nat.add_mul, Nat.one_mul] at this
          omega
        rw [z2 _ (by omega), P1, K1 20 p _ (by decide), V2, if_pos ⟨rfl, rfl, hlt⟩]
      · show (100 ≤ (km_cl (km_parents n (km_rk n w))).1 13 0 (4 * sl + k) ∧ (km_cl (km_parents n (km_rk n w))).1 13 0 (4 * sl + k) < 200) ↔ (100 ≤ (km_cl (km_parents n (km_rk n w))).1 13 0 (4 * sl) ∧ (km_cl (km_parents n (km_rk n w))).1 13 0 (4 * sl) < 200)
        rw [z2 _ (by omega), z2 _ (by omega)]
      · show (kc_parents n R p).1 15 p 7 = 0 + cn (fun q => decide (200 ≤ (km_cl (km_parents n (km_rk n w))).1 13 0 q)) 96
        rw [cn_zero 96 (fun k hk => by show decide (200 ≤ (km_cl (km_parents n (km_rk n w))).1 13 0 k) = false; rw [z2 k hk]; rfl), P1, K1 15 p 7 (by decide), V2, if_neg (by omega), if_pos ⟨rfl, rfl, Or.inl rfl⟩]
    have hadv := kadvs_L (s := s) (c := c) (p := p) n 0 (kc_parents n R p)
    rw [hLc] at hadv
    obtain ⟨A1, A2⟩ := PU_advs hn hs h0 hc ((List.range' 0 6).flatMap (lym n v)) 0 (kc_parents n R p) (km_cl (km_parents n (km_rk n w))) hLm hPU0
    have hcFA := cF_advL (s := s) (c := c) (p := p) ((List.range' 0 6).flatMap (lym n v)) (kc_parents n R p) (fun x hx => by have := hLm x hx; omega)
    have hmFA := mF_mav (s := s) (c := c) ((List.range' 0 6).flatMap (lym n v)) (1, km_cl (km_parents n (km_rk n w)))
    have hle1 : (mavL s c ((List.range' 0 6).flatMap (lym n v)) (1, km_cl (km_parents n (km_rk n w)))).1 ≤ 1 := by
      have := (qp_AA (s := s) (c := c) hn 6 0 (1, km_cl (km_parents n (km_rk n w))) ⟨Nat.le_refl 1, pp_cl hpp⟩).1
      rw [hAA] at this
      exact this
    have hLL := km_LL_L (n := n) (s := s) (c := c) (fa := kfa n R p) (sa := ksa n R p) (rk := v) 5 1 (mavL s c ((List.range' 0 6).flatMap (lym n v)) (1, km_cl (km_parents n (km_rk n w)))) (fun x => by rw [hmFA.1 11 0 x (by decide)]; exact hv11 x)
    have hallE : km_all n s c (kfa n R p) (ksa n R p) (km_parents n (km_rk n w)) = mlkL s c (kfa n R p) (ksa n R p) ((List.range' 1 5).flatMap (lym n v)) (mavL s c ((List.range' 0 6).flatMap (lym n v)) (1, km_cl (km_parents n (km_rk n w)))) := by
      unfold km_all
      rw [hAA, hLL]
    have hmFL := mF_mlk (s := s) (c := c) (fa := kfa n R p) (sa := ksa n R p) ((List.range' 1 5).flatMap (lym n v)) (mavL s c ((List.range' 0 6).flatMap (lym n v)) (1, km_cl (km_parents n (km_rk n w))))
    have hmFT : mF (km_parents n (km_rk n w)) (km_all n s c (kfa n R p) (ksa n R p) (km_parents n (km_rk n w))).2 := by
      rw [hallE]
      exact mF_tr hmF0 (mF_tr hmFA hmFL)
    have gQ : mG n w (km_all n s c (kfa n R p) (ksa n R p) (km_parents n (km_rk n w))).2 := by
      obtain ⟨b1, b2, b3, b4, b5, b6⟩ := gW2
      refine ⟨fun k i j q1 q2 => by rw [hmFT.1 k i j q2]; exact b1 k i j q1 q2, fun k i j q => by rw [hmFT.2]; exact b2 k i j q, by rw [hmFT.2]; exact b3, hqp.2.2.1, hqp.2.1, fun j q => by rw [hmFT.2]; exact b6 j q⟩
    have hlist : (List.range (n - 1)).map (fun i => (kc_parents n R p).1 19 p (1 + i)) = (List.range' 1 5).flatMap (lym n v) := by
      obtain ⟨m, hm⟩ : ∃ m, n = m + 1 := ⟨n - 1, by omega⟩
      have q1 : (List.range' 0 (5 + 1)).flatMap (lym n v) = [0] ++ (List.range' 1 5).flatMap (lym n v) := by
        rw [List.range'_succ, List.flatMap_cons, lym_0 h1 hv1]
      have q2 := hLc
      rw [show (List.range' 0 6) = List.range' 0 (5 + 1) from rfl, q1, show List.range n = List.range (m + 1) by rw [hm], List.range_succ_eq_map, List.map_cons, List.map_map] at q2
      have q3 := (List.cons.inj q2).2
      rw [show n - 1 = m by omega]
      rw [← show _ = (List.range' 1 5).flatMap (lym n v) from q3]
      refine List.map_congr_left (fun i _ => ?_)
      show (kc_parents n R p).1 19 p (1 + i) = (kc_parents n R p).1 19 p (0 + (i + 1))
      rw [show 1 + i = 0 + (i + 1) by omega]
    rw [hp] at hmake
    have hplanc : ∀ f M, kc_make n s c u (u.2.2.2 6) = (f, M) → kc_plan n s c u = if f = 0 then (-1, M) else (nI ((fo (fun k w => kc_enter w k) (ur (ur M 6 (u.2.2.2 5)) 5 (u.2.2.2 6)) n).1 15 (u.2.2.2 6) 7), fo (fun k w => kc_enter w k) (ur (ur M 6 (u.2.2.2 5)) 5 (u.2.2.2 6)) n) := fun f M q => by
      unfold kc_plan kc_planW
      rw [q]
    rw [← hp] at hmake
    unfold kc_mk3 at hmake
    rw [hadv] at hmake
    by_cases ea : (advL s c p ((List.range' 0 6).flatMap (lym n v)) (kc_parents n R p)).1 = 0
    · rw [if_pos ea, hp] at hmake
      rw [hplanc _ _ hmake, if_pos rfl]
      have e0 : (km_all n s c (kfa n R p) (ksa n R p) (km_parents n (km_rk n w))).1 = 0 := by
        rw [hallE, mlkL_0 (by rw [← A1]; exact ea), ← A1]
        exact ea
      unfold km_pl
      rw [if_pos e0, ← hp]
      exact PE_no h hu hw hj hl h56 hp (c8_G (cF_G gP hcFA) (by omega)) gQ
    · rw [if_neg ea] at hmake
      have hPU1 := A2 ea
      rw [hlen, Nat.zero_add] at hPU1
      have e1 : mavL s c ((List.range' 0 6).flatMap (lym n v)) (1, km_cl (km_parents n (km_rk n w))) = (1, (mavL s c ((List.range' 0 6).flatMap (lym n v)) (1, km_cl (km_parents n (km_rk n w)))).2) := Prod.ext (by show (mavL s c ((List.range' 0 6).flatMap (lym n v)) (1, km_cl (km_parents n (km_rk n w)))).1 = 1; rw [← A1] at hle1 ⊢; omega) rfl
      have hlk := klnks_L (s := s) (c := c) (p := p) (fa := kfa n R p) (sa := ksa n R p) (n - 1) 1 (advL s c p ((List.range' 0 6).flatMap (lym n v)) (kc_parents n R p)).2
      have hl2 : (List.range (n - 1)).map (fun i => (advL s c p ((List.range' 0 6).flatMap (lym n v)) (kc_parents n R p)).2.1 19 p (1 + i)) = (List.range' 1 5).flatMap (lym n v) := by
        rw [← hlist]
        refine List.map_congr_left (fun i _ => ?_)
        rw [hcFA.1 19 p _ (by omega) (by omega)]
      rw [hl2] at hlk
      rw [hlk] at hmake
      have hT : ∀ x, x ∈ (List.range' 1 5).flatMap (lym n v) → x < n ∧ ∃ f, kfa n R p x = some f ∧ f < n := fun x hx => by
        obtain ⟨r, hr1, hr⟩ := List.mem_flatMap.mp hx
        have hr1 := List.mem_range'_1.mp hr1
        have hr := List.mem_filter.mp hr
        have q1 := List.mem_range'_1.mp hr.1
        have q2 := of_decide_eq_true hr.2
        exact ⟨by omega, hex x (by omega) (by omega)⟩
      obtain ⟨L1, L2⟩ := PU_lnks (fa := kfa n R p) (sa := ksa n R p) hn hs hc (fun x f q => ksa_lt q) ((List.range' 1 5).flatMap (lym n v)) n _ _ hT hPU1
      rw [← e1, ← hallE] at L1 L2
      have hcFL := cF_lnkL (s := s) (c := c) (p := p) (fa := kfa n R p) (sa := ksa n R p) (fun x f q => by have := kfa_lt q; omega) (fun x f q => by have := ksa_lt q; omega) ((List.range' 1 5).flatMap (lym n v)) (advL s c p ((List.range' 0 6).flatMap (lym n v)) (kc_parents n R p)).2 (fun x hx => by have := (hT x hx).1; omega)
      have gZ := cF_G (cF_G gP hcFA) hcFL
      by_cases el : (lnkL s c p (kfa n R p) (ksa n R p) ((List.range' 1 5).flatMap (lym n v)) (advL s c p ((List.range' 0 6).flatMap (lym n v)) (kc_parents n R p)).2).1 = 0
      · rw [if_pos el, hp] at hmake
        rw [hplanc _ _ hmake, if_pos rfl]
        unfold km_pl
        rw [if_pos (by rw [← L1]; exact el), ← hp]
        exact PE_no h hu hw hj hl h56 hp (c8_G gZ (by omega)) gQ
      · rw [if_neg el, hp] at hmake
        rw [hplanc _ _ hmake, if_neg (by decide)]
        unfold km_pl
        rw [if_neg (by rw [← L1]; exact el), ← hp]
        have hPU2 := L2 el
        have hcT := cF_tr hcFA hcFL
        have hM2 : (lnkL s c p (kfa n R p) (ksa n R p) ((List.range' 1 5).flatMap (lym n v)) (advL s c p ((List.range' 0 6).flatMap (lym n v)) (kc_parents n R p)).2).2.2 = (kc_parents n R p).2 := hcT.2.1
        have hQ11 : ∀ i, (km_all n s c (kfa n R p) (ksa n R p) (km_parents n (km_rk n w))).2.1 11 0 i = v i := fun i => by
          rw [hmFT.1 11 0 i (by decide), W1, hv]
        refine PE_ok (p := p) (fb := kfa n R p) h1 hn h0 hc hs h hu hw hj h56 hp (c8_G gZ (Nat.le_refl 1)) gQ ?_ ?_ (fun i hi => ⟨?_, ?_⟩) (fun i hi => ?_) (fun i hi => ⟨?_, ?_⟩) ?_ (fun i b q => kfa_lt q) (fun i b hi q => ?_)
        · exact PU_8 hPU2
        · rw [un_1, if_pos ⟨rfl, rfl, rfl⟩]
        · rw [un_2, hM2]; exact (P5 i hi).1
        · rw [hmFT.2, (W5 i hi).1, hfa i hi]
        · rw [un_2, hM2, (P5 i hi).2, hmFT.2, (W5 i hi).2, hsa i hi]
        · rw [un_2, hM2, P3 16 p i (by decide) (by decide), hrk i hi, hQ11]
        · rw [hQ11]; exact hvn i hi
        · unfold kfa; rw [if_pos rfl]
        · rw [hQ11, hQ11]; exact hpar i b hi q
  · have hal0 : km_al (km_rk n w) n = 0 := by
      by_cases e : km_al (km_rk n w) n = 0
      · exact e
      · exact absurd (hal.mp e) hall
    refine ⟨fun _ => none, fun _ => none, fun q => absurd hal0 q, ?_⟩
    have hmake : kc_make n s c u (u.2.2.2 6) = (0, (kc_ranks n (kmk s c u p) p).1) := by
      unfold kc_make
      rw [← hp, if_neg (fun q => hall (hcn.mp q))]
    have e1 : kc_plan n s c u = (-1, (kc_ranks n (kmk s c u p) p).1) := by
      unfold kc_plan
      rw [hmake, if_pos rfl]
    have e2 : km_plan n s c (fun _ => none) (fun _ => none) w = (-1, km_rk n w) := by
      unfold km_plan
      rw [if_pos hal0]
    rw [e1, e2]
    exact PE_no h hu hw hj hl h56 hp gR gW1
