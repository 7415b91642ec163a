/-! The law: from its entry -/
section SPL
variable {D : va_G} {cl : List vw_C} {A : Nat → Prop} {W1 W2 : va_W} {H : Heap}
theorem ap_l {k : Nat} {q : Nat × va_E} (h : W1[k]? = some q) : (W1 ++ W2)[k]? = some q := by
  rw [List.getElem?_append_left (List.getElem?_eq_some_iff.mp h).1]
  exact h
theorem ap_r {k : Nat} {q : Nat × va_E} (h : W2[k]? = some q) : (W1 ++ W2)[W1.length + k]? = some q := by
  rw [List.getElem?_append_right (by omega), Nat.add_sub_cancel_left]
  exact h
theorem va_P_l (h : va_P D cl (W1 ++ W2) H) : va_P D cl W1 H := fun k q hq => h k q (ap_l hq)
theorem va_P_r (h : va_P D cl (W1 ++ W2) H) : va_P D cl W2 H := fun k q hq => h _ q (ap_r hq)
theorem va_D_l (h : va_D A (W1 ++ W2)) : va_D A W1 := ⟨fun i j p q hi hj e => h.1 i j p q (ap_l hi) (ap_l hj) e, fun k q hq => h.2 k q (ap_l hq)⟩
theorem va_D_r (h : va_D A (W1 ++ W2)) : va_D A W2 := ⟨fun i j p q hi hj e => by
  have := h.1 _ _ p q (ap_r hi) (ap_r hj) e
  omega, fun k q hq => h.2 _ q (ap_r hq)⟩
theorem va_D_x (h : va_D A (W1 ++ W2)) : ∀ q, q ∈ W2.map (·.1) → ¬ q ∈ W1.map (·.1) := by
  intro q h2 h1
  obtain ⟨p1, m1, e1⟩ := List.mem_map.mp h1
  obtain ⟨p2, m2, e2⟩ := List.mem_map.mp h2
  obtain ⟨i, hi⟩ := List.mem_iff_getElem?.mp m1
  obtain ⟨j, hj⟩ := List.mem_iff_getElem?.mp m2
  have h3 := h.1 i _ p1 p2 (ap_l hi) (ap_r hj) (e1.trans e2.symm)
  have h4 := (List.getElem?_eq_some_iff.mp hi).1
  omega
theorem va_D_A (h : va_D A W1) : ∀ q, q ∈ W1.map (·.1) → A q := by
  intro q h1
  obtain ⟨p1, m1, e1⟩ := List.mem_map.mp h1
  obtain ⟨i, hi⟩ := List.mem_iff_getElem?.mp m1
  rw [← e1]
  exact h.2 i p1 hi
theorem app_set {x y : Nat × va_E} {T : va_W} : (W1 ++ [x]).set W1.length y ++ T = W1 ++ y :: T := by
  induction W1 with
  | nil => rfl
  | cons a W ih =>
    show a :: ((W ++ [x]).set W.length y ++ T) = a :: (W ++ y :: T)
    rw [ih]
theorem app_at {x : Nat × va_E} : (W1 ++ [x])[W1.length]? = some x := by
  rw [List.getElem?_append_right (Nat.le_refl _), Nat.sub_self]
  rfl
end SPL
def mkD (c0 c1 c2 c3 c4 c5 c6 : ClassId) (i0 i1 i2 i3 i4 i5 i6 : Nat → Nat) : va_G := (fun j => match j with
  | 0 => c0
  | 1 => c1
  | 2 => c2
  | 3 => c3
  | 4 => c4
  | 5 => c5
  | _ => c6, fun j => match j with
  | 0 => i0
  | 1 => i1
  | 2 => i2
  | 3 => i3
  | 4 => i4
  | 5 => i5
  | _ => i6)
def mkk (k0 k1 k2 k3 k4 k5 : ClassId) : Nat → ClassId := fun j => match j with
  | 0 => k0
  | 1 => k1
  | 2 => k2
  | 3 => k3
  | 4 => k4
  | _ => k5
theorem mk_K {s : State} {b : Nat} (a6 : ∀ w ∈ lw_tbl, w.before #[Value.ref b] s = true) : ∃ (D : va_G) (k : Nat → ClassId), ∀ B, va_K D vCl (gG D k B).1.2 s := by
  have hgz : ∀ w ∈ gz, w.before #[Value.ref b] s = true := fun w hw => a6 w (List.mem_filter.mp hw).1
  obtain ⟨c0, i0, u0⟩ := u_known hgz uw_H (hgz _ kw_147)
  obtain ⟨c1, i1, u1⟩ := u_known hgz uw_F (hgz _ kw_37)
  obtain ⟨c2, i2, u2⟩ := u_known hgz uw_O (hgz _ kw_116)
  obtain ⟨c3, i3, u3⟩ := u_known hgz uw_N (hgz _ kw_31)
  obtain ⟨c4, i4, u4⟩ := u_known hgz uw_P (hgz _ kw_163)
  obtain ⟨c5, i5, u5⟩ := u_known hgz uw_S (hgz _ kw_11)
  obtain ⟨c6, i6, u6⟩ := u_known hgz uw_M (hgz _ kw_495)
  obtain ⟨z0, e0, p0, f0, g0, j0⟩ := Cond.arrayClass_spec (hgz _ kw_59)
  obtain ⟨z1, e1, p1, f1, g1, j1⟩ := Cond.arrayClass_spec (hgz _ kw_60)
  obtain ⟨z2, e2, p2, f2, g2, j2⟩ := Cond.arrayClass_spec (hgz _ kw_604)
  obtain ⟨p3, z3, e3, f3, -, g3, j3, n3⟩ := Cond.arrayOver_spec (a6 _ kx_28)
  obtain ⟨p4, z4, e4, f4, -, g4, j4, n4⟩ := Cond.arrayOver_spec (a6 _ kx_30)
  obtain ⟨p5, z5, e5, f5, -, g5, j5, n5⟩ := Cond.arrayOver_spec (a6 _ kx_146)
  refine ⟨mkD c0 c1 c2 c3 c4 c5 c6 i0 i1 i2 i3 i4 i5 i6, mkk z0 z1 z2 z3 z4 z5, fun B => ⟨fun j q hq => ?_, fun j q hq => ?_⟩⟩
  · rcases j with _ | _ | _ | _ | _ | _ | _ | j
    · have e := Option.some.inj hq; subst e; exact u0
    · have e := Option.some.inj hq; subst e; exact u1
    · have e := Option.some.inj hq; subst e; exact u2
    · have e := Option.some.inj hq; subst e; exact u3
    · have e := Option.some.inj hq; subst e; exact u4
    · have e := Option.some.inj hq; subst e; exact u5
    · have e := Option.some.inj hq; subst e; exact u6
    · exact absurd hq (by intro h; cases h)
  · rcases j with _ | _ | _ | _ | _ | _ | j
    · have e := Option.some.inj hq; subst e; exact ⟨fun n z => ⟨fun k h => (by cases h), e0, g0, p0, j0⟩, f0⟩
    · have e := Option.some.inj hq; subst e; exact ⟨fun n z => ⟨fun k h => (by cases h), e1, g1, p1, j1⟩, f1⟩
    · have e := Option.some.inj hq; subst e; exact ⟨fun n z => ⟨fun k h => (by cases h), e2, g2, p2, j2⟩, f2⟩
    · have e := Option.some.inj hq; subst e; exact ⟨fun n z => ⟨fun k h => (by cases h), e3, g3, p3, j3⟩, e3, p3, g3, j3, f3, n3⟩
    · have e := Option.some.inj hq; subst e; exact ⟨fun n z => ⟨fun k h => (by cases h), e4, g4, p4, j4⟩, e4, p4, g4, j4, f4, n4⟩
    · have e := Option.some.inj hq; subst e; exact ⟨fun n z => ⟨fun k h => (by cases h), e5, g5, p5, j5⟩, e5, p5, g5, j5, f5, n5⟩
    · exact absurd hq (by intro h; cases h)
set_option maxRecDepth 100000 in
set_option maxHeartbeats 4000000 in
theorem whole_start {p : Program} {e : Env} {s : State} {m : MethodId} {below : List Frame} {meth : Method} {c : Code} (l : Launch) {b L : Nat} {xs : Nat → Int32} (hL : L ≤ 3075) (C0 : lw_At p s m meth c b L xs) : W p l e room_1 s m #[Value.ref b] below meth c s.heap [] 0 0 (lw_Z below #[Value.ref b] s) (entryFrame m ([Value.ref b] : List Value).toArray 4) := by
  obtain ⟨a1, a2, a3, a4, a5, a6, a7, a8, a9, a10⟩ := C0
  have hgz : ∀ w ∈ gz, w.before #[Value.ref b] s = true := fun w hw => a6 w (List.mem_filter.mp hw).1
  obtain ⟨D, k, hDk⟩ := mk_K a6
  have hva := hDk s.heap.size
  have hK : gK (gG D k s.heap.size) s := ⟨⟨hva, ⟨va_Nw.of rfl (a6 _ kx_419), va_Nw.of rfl (a6 _ kx_38), va_Nw.of rfl (a6 _ kx_117), va_Nw.of rfl (a6 _ kx_148)⟩, va_AO.of (a6 _ kx_28), va_AO.of (a6 _ kx_30), va_AO.of (a6 _ kx_146)⟩, Nat.le_refl _⟩
  have hN1 : va_Nw (Cond.methodLinkNest "SlottedMesh$Loop" 29 ⟨"SlottedMesh", "nearest", "(III)I"⟩ "SlottedMesh") s := va_Nw.of rfl (a6 _ kx_419)
  obtain ⟨X, hXe⟩ : ∃ X : OX, X = ((p, l, e, room_1), (s, m, #[Value.ref b], below), (meth, c)) := ⟨_, rfl⟩
  have hX : jx X room_1 b_L_law 4 "SlottedMeshLaw" gz (some .boolean) := by
    subst hXe
    exact ⟨⟨a1, a2, a4, a5, hgz⟩, a9, a3, rfl⟩
  have hKX : gK (gG D k s.heap.size) X.2.1.1 := by subst hXe; exact hK
  have hx : va_X b L xs X.2.1.1 X.2.1.1.heap := by subst hXe; exact a7
  have hbA : ¬ gA (gG D k s.heap.size) b := by show ¬ s.heap.size ≤ b; omega
  have hend : ∀ (Φ : Heap → Prop) (ce sl : Nat) (loc : List (Nat × Value)), ce ≤ 600000 → sl ≤ 7302250 → jw X (gA (gG D k s.heap.size)) (lw_Z below #[Value.ref b] s) Φ ce sl loc 781 [] := by
    intro Φ ce sl loc hc hs
    refine jw_iconst (pc := 781) (v := 1) hX d_L_law_781 (by decide) ?_
    subst hXe
    intro H locs ls h hH hS
    exact va_forget (fun q hq => hS.2.2 q hq) (W.widen (k := 600000) (n := 7302250) hc hs (lw_ret a1 a2 a3 a9 d_L_law_782))
  have key : jw X (gA (gG D k s.heap.size)) (lw_Z below #[Value.ref b] s) (gH (gG D k s.heap.size) []) 0 0 [(0, .ref b)] 0 [] := by
    refine jw_new (pc := 0) (ci := 5) hX hKX [.int 0, .int 0, .null, .null, .null, .null, .null, .int 0, .int 0] tp_S uw_S tp_S_ok kw_10 kw_11 kw_1 rfl (dv_ok (by decide +kernel)) (by decide +kernel) (by decide +kernel) d_L_law_0 (fun a => ?_)
    refine jw_dup (pc := 3) hX d_L_law_3 rfl ?_
    refine jw_aload_n (pc := 4) hX d_L_law_4 rfl ?_
    refine jw_iconst (pc := 5) (v := nI 0) hX d_L_law_5 (by decide) ?_
    refine jw_xcell (pc := 6) hX hx hbA (by omega) (by omega) kw_491 (by decide +kernel) (by decide +kernel) (Nat.le_of_ble_eq_true rfl) d_L_law_6 (fun H H' q1 q2 => gH_kept q1 q2) ?_
    refine jw_aload_n (pc := 9) hX d_L_law_9 rfl ?_
    refine jw_iconst (pc := 10) (v := nI 1) hX d_L_law_10 (by decide) ?_
    refine jw_xcell (pc := 11) hX hx hbA (by omega) (by omega) kw_491 (by decide +kernel) (by decide +kernel) (Nat.le_of_ble_eq_true rfl) d_L_law_11 (fun H H' q1 q2 => gH_kept q1 q2) ?_
    refine jw_aload_n (pc := 14) hX d_L_law_14 rfl ?_
    refine jw_iconst (pc := 15) (v := nI 2) hX d_L_law_15 (by decide) ?_
    refine jw_xcell (pc := 16) hX hx hbA (by omega) (by omega) kw_491 (by decide +kernel) (by decide +kernel) (Nat.le_of_ble_eq_true rfl) d_L_law_16 (fun H H' q1 q2 => gH_kept q1 q2) ?_
    refine jw_callI (pc := 19) (n := 3) hX hKX (c_S_init _ D k s.heap.size [(a, .inr (5, [.int 0, .int 0, .null, .null, .null, .null, .null, .int 0, .int 0]))] 0 a (cel L xs 0) (cel L xs 1) (cel L xs 2) rfl) kw_12 kw_13 kw_1 kw_14 rfl (by decide +kernel) (by decide +kernel) rfl (Nat.le_of_ble_eq_true rfl) (by decide +kernel) (by decide +kernel) d_L_law_19 rfl (fun w1 hw1 => ?_)
    obtain ⟨qn, ql, qh, qa, qs, zs, hs, fa, fs, hz1, hz2, hw1⟩ := hw1
    rw [smW_eq] at hw1
    obtain ⟨n1, n2⟩ := kcp_in (v := cel L xs 0) (lo := 2) (hi := 6) (by decide) (by decide)
    obtain ⟨s1, s2⟩ := kcp_in (v := cel L xs 1) (lo := 8) (hi := 24) (by decide) (by decide)
    obtain ⟨r1, r2⟩ := kcp_in (v := cel L xs 2) (lo := 1) (hi := 4) (by decide) (by decide)
    generalize hgw : smV k a (kcp (cel L xs 0) 2 6) (kcp (cel L xs 1) 8 24) (kcp (cel L xs 2) 1 4) qn ql qh qa qs zs hs fa fs = W1 at hw1
    subst hw1
    refine jw_astore_n (pc := 22) (l2 := [(0, _), (1, _)]) hX d_L_law_22 (by decide) rfl rfl ?_
    refine jw_new (pc := 23) (ci := 6) hX hKX [.int 0, .int 0, .int 0, .int 0, .int 0, .null, .null, .null, .null, .null, .null, .null, .int 0, .null, .null, .null, .null, .null, .null, .null, .null, .null, .null, .null, .null, .null, .null, .null, .null, .null, .null, .null, .null, .null] tp_M uw_M tp_M_ok kw_494 kw_495 kw_8 rfl (dv_ok (by decide +kernel)) (by decide +kernel) (by decide +kernel) d_L_law_23 (fun a2 => ?_)
    refine jw_dup (pc := 26) hX d_L_law_26 rfl ?_
    refine jw_aload_n (pc := 27) hX d_L_law_27 rfl ?_
    refine jw_iconst (pc := 28) (v := nI 0) hX d_L_law_28 (by decide) ?_
    refine jw_xcell (pc := 29) hX hx hbA (by omega) (by omega) kw_491 (by decide +kernel) (by decide +kernel) (Nat.le_of_ble_eq_true rfl) d_L_law_29 (fun H H' q1 q2 => gH_kept q1 q2) ?_
    refine jw_aload_n (pc := 32) hX d_L_law_32 rfl ?_
    refine jw_iconst (pc := 33) (v := nI 1) hX d_L_law_33 (by decide) ?_
    refine jw_xcell (pc := 34) hX hx hbA (by omega) (by omega) kw_491 (by decide +kernel) (by decide +kernel) (Nat.le_of_ble_eq_true rfl) d_L_law_34 (fun H H' q1 q2 => gH_kept q1 q2) ?_
    refine jw_aload_n (pc := 37) hX d_L_law_37 rfl ?_
    refine jw_iconst (pc := 38) (v := nI 2) hX d_L_law_38 (by decide) ?_
    refine jw_xcell (pc := 39) hX hx hbA (by omega) (by omega) kw_491 (by decide +kernel) (by decide +kernel) (Nat.le_of_ble_eq_true rfl) d_L_law_39 (fun H H' q1 q2 => gH_kept q1 q2) ?_
    refine jw_callI (pc := 42) (n := 3) hX hKX (c_M_init _ D k s.heap.size _ w1.length a2 (cel L xs 0) (cel L xs 1) (cel L xs 2) app_at) kw_496 kw_497 kw_8 kw_498 rfl (by decide +kernel) (by decide +kernel) rfl (Nat.le_of_ble_eq_true rfl) (by decide +kernel) (by decide +kernel) d_L_law_42 rfl (fun w2 hw2 => ?_)
    obtain ⟨q, hw2⟩ := hw2
    rw [app_set] at hw2
    subst hw2
    subst hgw
    generalize kcp (cel L xs 0) 2 6 = N at n1 n2 hz1 ⊢
    generalize kcp (cel L xs 1) 8 24 = S at s1 s2 ⊢
    generalize kcp (cel L xs 2) 1 4 = C at r1 r2 hz2 ⊢
    have hSC : S * C ≤ 96 := Nat.mul_le_mul s2 r2
    intro H locs ls hl hH hS
    have hP1 := va_P_l hH.1
    have hP2 : va_P D vCl (mdW k q a2 N S C) H := va_P_r hH.1
    have hD1 := va_D_l hH.2
    have hD2 : va_D (gA (gG D k s.heap.size)) (mdW k q a2 N S C) := va_D_r hH.2
    have hLX : LX X (gA (gG D k s.heap.size)) b L xs (vC (yC D k s.heap.size a N S C qn ql qh qa qs zs hs fa fs) N S C) (vM (yM D k s.heap.size q a2 N S C) N S C) := by
      refine ⟨hX, hx, hbA, by omega, ⟨?_, ?_⟩, ⟨va_D_A hD1, va_D_A hD2⟩, va_D_x hH.2, picC_ok D k s.heap.size a N S C qn ql qh qa qs zs hs fa fs hz1 hz2 n2 r2 hSC hD1, picM_ok D k s.heap.size q a2 N S C hD2⟩
      · subst hXe; exact ⟨hva, hN1⟩
      · subst hXe; exact ⟨hva, hN1⟩
    have fin : jw X (gA (gG D k s.heap.size)) (lw_Z below #[Value.ref b] s) (P2 (vC (yC D k s.heap.size a N S C qn ql qh qa qs zs hs fa fs) N S C) (vM (yM D k s.heap.size q a2 N S C) N S C) uC0 uM0) (0 + 1 + 110 + 1 + 28) (0 + 9 + 800 + 34 + 596) [(0, .ref b), (1, .ref a)] 45 [.ref a2] := by
      refine jw_astore_n (pc := 45) (l2 := [(0, _), (1, _), (2, _)]) hX d_L_law_45 (by decide) rfl rfl ?_
      refine jw_iconst (pc := 46) (v := nI 3) hX d_L_law_46 (by decide) ?_
      refine jw_istore_n (pc := 47) (l2 := [(0, _), (1, _), (2, _), (3, _)]) hX d_L_law_47 (by decide) rfl rfl ?_
      exact la_loop hLX (by omega) n2 (by omega) r2 (by omega) s2 (by omega) (by decide +kernel) (fun u w i => hend _ _ _ _ (by decide) (by decide)) 512 3 0 uC0 uM0 (by omega) (by omega) (by omega) (by omega) (Sim_0 (by omega) r2)
    exact fin H locs ls hl ⟨picC D k s.heap.size a N S C qn ql qh qa qs zs hs fa fs hz1 hz2 hP1 hD1, picM D k s.heap.size q a2 N S C hP2 hD2⟩ hS
  have hl := lv_entry [Value.ref b] (n := 4) (Nat.le_of_ble_eq_true rfl)
  rw [lg_entry_eq]
  subst hXe
  exact key s.heap [] _ (by rw [a4]; exact hl) ⟨fun k q h => (by cases h), ⟨fun i j p q h => (by cases h), fun k q h => (by cases h)⟩⟩ va_S.rf
