/-! The maker of SlottedMeshModel (by program, wip/whole/gen/g3.py) -/
theorem jw_wid {X : OX} {A : Nat → Prop} {Q : State → Prop} {Φ : Heap → Prop} {ce sl ce2 sl2 : Nat} {loc : List (Nat × Value)} {pc : Nat} {st : List Value} (h1 : ce ≤ ce2) (h2 : sl ≤ sl2) (k : jw X A Q Φ ce2 sl2 loc pc st) : jw X A Q Φ ce sl loc pc st := fun H locs ls hl hH hS => W.widen h1 h2 (k H locs ls hl hH hS)
/-- the nearest of lo to hi -/
def kcp (v : Int32) (lo hi : Nat) : Nat := if v < nI lo then lo else if nI hi < v then hi else v.toNatClampNeg
theorem kcp_a {v : Int32} {lo hi : Nat} (h : v < nI lo) : kcp v lo hi = lo := by unfold kcp; rw [if_pos h]
theorem kcp_b {v : Int32} {lo hi : Nat} (h : ¬ v < nI lo) (h2 : nI hi < v) : kcp v lo hi = hi := by unfold kcp; rw [if_neg h, if_pos h2]
theorem kcp_c {v : Int32} {lo hi : Nat} (hlo : lo < 2 ^ 31) (h : ¬ v < nI lo) (h2 : ¬ nI hi < v) : v = nI (kcp v lo hi) := by
  unfold kcp
  rw [if_neg h, if_neg h2]
  have h0 : ¬ v < 0 := fun q => h (by
    rw [Int32.lt_iff_toInt_lt] at q ⊢
    rw [nI_toInt hlo]
    have e0 : (0 : Int32).toInt = 0 := by decide
    omega)
  obtain ⟨m, hm, rfl⟩ := nI_of h0
  rw [nI_clamp hm]
theorem kcp_in {v : Int32} {lo hi : Nat} (h : lo ≤ hi) (hh : hi < 2 ^ 31) : lo ≤ kcp v lo hi ∧ kcp v lo hi ≤ hi := by
  by_cases h1 : v < nI lo
  · rw [kcp_a h1]; omega
  · by_cases h2 : nI hi < v
    · rw [kcp_b h1 h2]; omega
    · have e := kcp_c (by omega) h1 h2
      have h0 : ¬ v < 0 := fun q => h1 (by
        rw [Int32.lt_iff_toInt_lt] at q ⊢
        rw [nI_toInt (by omega)]
        have e0 : (0 : Int32).toInt = 0 := by decide
        omega)
      obtain ⟨m, hm, rfl⟩ := nI_of h0
      have e2 : kcp (nI m) lo hi = m := by unfold kcp; rw [if_neg h1, if_neg h2, nI_clamp hm]
      rw [e2]
      rw [nI_ltI hm (by omega)] at h1
      rw [nI_ltI (by omega) hm] at h2
      omega
/-- the model's cells -/
abbrev mdE (q : Nat → Nat) (n s c : Nat) : va_E := .inr (6, [.int (nI n), .int (nI s), .int (nI c), .int 0, .int 0, .ref (q 0), .ref (q 1), .ref (q 2), .ref (q 3), .ref (q 4), .ref (q 5), .ref (q 6), .int 0, .ref (q 7), .ref (q 8), .ref (q 9), .ref (q 10), .ref (q 11), .ref (q 12), .ref (q 13), .ref (q 14), .ref (q 15), .ref (q 16), .ref (q 17), .ref (q 18), .ref (q 19), .ref (q 20), .ref (q 21), .ref (q 22), .ref (q 23), .ref (q 24), .ref (q 25), .ref (q 26), .ref (q 27)])
def hvL (m : Nat) : Nat → Int64 := fo (fun j f => vp_updL f j (-1)) (fun _ => 0) m
abbrev mdL (k : Nat → ClassId) (q : Nat → Nat) (m : Nat) : va_W := [(q 0, aZ k 36), (q 1, .inl (k 0, 6, .inl (upd (fun _ => 0) 0 (nI 1)))), (q 2, .inl (k 0, 6, .inl (upd (fun _ => 0) 0 (nI 1)))), (q 3, aI k 6), (q 4, aI k 6), (q 5, .inl (k 2, 4, .inr (.inl (hvL m)))), (q 6, .inl (k 2, 4, .inr (.inl (hvL m)))), (q 7, aI k 6), (q 8, aI k 12), (q 9, aI k 96), (q 10, aI k 6), (q 11, aI k 12), (q 12, aI k 96), (q 13, aI k 12), (q 14, aI k 48), (q 15, aI k 48), (q 16, aI k 48), (q 17, aI k 6), (q 18, aI k 6), (q 19, aI k 72), (q 20, aI k 6), (q 21, aI k 18), (q 22, aI k 6), (q 23, aI k 6), (q 24, aI k 6), (q 25, aI k 6), (q 26, aI k 6), (q 27, aI k 6)]
set_option maxRecDepth 100000 in
set_option maxHeartbeats 4000000 in
theorem w_M_ina {X : OX} {A : Nat → Prop} {Q : State → Prop} {Φ : Heap → Prop} {ce sl a : Nat} {loc : List (Nat × Value)} (hX : jx X { frames := 1, cells := 28, slots := 596, locals := 40 } b_M_init 5 "SlottedMeshModel" gz none) (x : Int32) (hl : lc_at loc 1 = some (.int x)) (K : jw X A Q Φ ce sl loc 248 [.int (nI (kcp x 2 6)), .ref a]) : jw X A Q Φ ce sl loc 227 [.ref a] := by
  refine jw_iload_n (pc := 227) hX d_M_init_227 hl ?_
  refine jw_iconst (pc := 228) (v := nI 2) hX d_M_init_228 (by decide) ?_
  refine jw_ic_ge (pc := 229) (tgt := 236) hX d_M_init_229 (by decide) (fun h1 => ?_) (fun h1 => ?_)
  · have h1 : ¬ x < nI 2 := fun q => absurd h1 (Int32.not_le.mpr q)
    refine jw_iload_n (pc := 236) hX d_M_init_236 hl ?_
    refine jw_bipush (pc := 237) (v := nI 6) hX d_M_init_237 (by decide) ?_
    refine jw_ic_le (pc := 239) (tgt := 247) hX d_M_init_239 (by decide) (fun h2 => ?_) (fun h2 => ?_)
    · have h2 : ¬ nI 6 < x := fun q => absurd h2 (Int32.not_le.mpr q)
      refine jw_iload_n (pc := 247) hX d_M_init_247 hl ?_
      refine jw_val (kcp_c (hi := 6) (by decide) h1 h2) ?_
      exact K
    · have h2 : nI 6 < x := Int32.not_le.mp h2
      refine jw_bipush (pc := 242) (v := nI 6) hX d_M_init_242 (by decide) ?_
      refine jw_goto (pc := 244) (tgt := 248) hX d_M_init_244 (by decide) ?_
      rw [kcp_b h1 h2] at K
      exact K
  · have h1 : x < nI 2 := Int32.not_le.mp h1
    refine jw_iconst (pc := 232) (v := nI 2) hX d_M_init_232 (by decide) ?_
    refine jw_goto (pc := 233) (tgt := 248) hX d_M_init_233 (by decide) ?_
    rw [kcp_a h1] at K
    exact K
set_option maxRecDepth 100000 in
set_option maxHeartbeats 4000000 in
theorem w_M_inb {X : OX} {A : Nat → Prop} {Q : State → Prop} {Φ : Heap → Prop} {ce sl a : Nat} {loc : List (Nat × Value)} (hX : jx X { frames := 1, cells := 28, slots := 596, locals := 40 } b_M_init 5 "SlottedMeshModel" gz none) (x : Int32) (hl : lc_at loc 2 = some (.int x)) (K : jw X A Q Φ ce sl loc 275 [.int (nI (kcp x 8 24)), .ref a]) : jw X A Q Φ ce sl loc 252 [.ref a] := by
  refine jw_iload_n (pc := 252) hX d_M_init_252 hl ?_
  refine jw_bipush (pc := 253) (v := nI 8) hX d_M_init_253 (by decide) ?_
  refine jw_ic_ge (pc := 255) (tgt := 263) hX d_M_init_255 (by decide) (fun h1 => ?_) (fun h1 => ?_)
  · have h1 : ¬ x < nI 8 := fun q => absurd h1 (Int32.not_le.mpr q)
    refine jw_iload_n (pc := 263) hX d_M_init_263 hl ?_
    refine jw_bipush (pc := 264) (v := nI 24) hX d_M_init_264 (by decide) ?_
    refine jw_ic_le (pc := 266) (tgt := 274) hX d_M_init_266 (by decide) (fun h2 => ?_) (fun h2 => ?_)
    · have h2 : ¬ nI 24 < x := fun q => absurd h2 (Int32.not_le.mpr q)
      refine jw_iload_n (pc := 274) hX d_M_init_274 hl ?_
      refine jw_val (kcp_c (hi := 24) (by decide) h1 h2) ?_
      exact K
    · have h2 : nI 24 < x := Int32.not_le.mp h2
      refine jw_bipush (pc := 269) (v := nI 24) hX d_M_init_269 (by decide) ?_
      refine jw_goto (pc := 271) (tgt := 275) hX d_M_init_271 (by decide) ?_
      rw [kcp_b h1 h2] at K
      exact K
  · have h1 : x < nI 8 := Int32.not_le.mp h1
    refine jw_bipush (pc := 258) (v := nI 8) hX d_M_init_258 (by decide) ?_
    refine jw_goto (pc := 260) (tgt := 275) hX d_M_init_260 (by decide) ?_
    rw [kcp_a h1] at K
    exact K
set_option maxRecDepth 100000 in
set_option maxHeartbeats 4000000 in
theorem w_M_inc {X : OX} {A : Nat → Prop} {Q : State → Prop} {Φ : Heap → Prop} {ce sl a : Nat} {loc : List (Nat × Value)} (hX : jx X { frames := 1, cells := 28, slots := 596, locals := 40 } b_M_init 5 "SlottedMeshModel" gz none) (x : Int32) (hl : lc_at loc 3 = some (.int x)) (K : jw X A Q Φ ce sl loc 298 [.int (nI (kcp x 1 4)), .ref a]) : jw X A Q Φ ce sl loc 279 [.ref a] := by
  refine jw_iload_n (pc := 279) hX d_M_init_279 hl ?_
  refine jw_iconst (pc := 280) (v := nI 1) hX d_M_init_280 (by decide) ?_
  refine jw_ic_ge (pc := 281) (tgt := 288) hX d_M_init_281 (by decide) (fun h1 => ?_) (fun h1 => ?_)
  · have h1 : ¬ x < nI 1 := fun q => absurd h1 (Int32.not_le.mpr q)
    refine jw_iload_n (pc := 288) hX d_M_init_288 hl ?_
    refine jw_iconst (pc := 289) (v := nI 4) hX d_M_init_289 (by decide) ?_
    refine jw_ic_le (pc := 290) (tgt := 297) hX d_M_init_290 (by decide) (fun h2 => ?_) (fun h2 => ?_)
    · have h2 : ¬ nI 4 < x := fun q => absurd h2 (Int32.not_le.mpr q)
      refine jw_iload_n (pc := 297) hX d_M_init_297 hl ?_
      refine jw_val (kcp_c (hi := 4) (by decide) h1 h2) ?_
      exact K
    · have h2 : nI 4 < x := Int32.not_le.mp h2
      refine jw_iconst (pc := 293) (v := nI 4) hX d_M_init_293 (by decide) ?_
      refine jw_goto (pc := 294) (tgt := 298) hX d_M_init_294 (by decide) ?_
      rw [kcp_b h1 h2] at K
      exact K
  · have h1 : x < nI 1 := Int32.not_le.mp h1
    refine jw_iconst (pc := 284) (v := nI 1) hX d_M_init_284 (by decide) ?_
    refine jw_goto (pc := 285) (tgt := 298) hX d_M_init_285 (by decide) ?_
    rw [kcp_a h1] at K
    exact K
set_option maxRecDepth 100000 in
set_option maxHeartbeats 4000000 in
theorem w_M_inL {X : OX} {P : va_W → Prop} (D : va_G) (k : Nat → ClassId) (B : Nat) (hX : jx X { frames := 1, cells := 28, slots := 596, locals := 40 } b_M_init 5 "SlottedMeshModel" gz none) (hK : gK (gG D k B) X.2.1.1) (w0 : va_W) (p a n s c : Nat) (q : Nat → Nat) (hp : p < w0.length) (x y z : Int32) (hP : P (w0.set p (a, mdE q n s c) ++ mdL k q 4)) : ∀ j m, m + j = 4 → jw X (gA (gG D k B)) (MQ X.2.1.2.2.2 (fun _ st oc t => (oc = .returned none ∧ ∃ ws', P ws' ∧ gH (gG D k B) ws' t.heap) ∧ va_F (gA (gG D k B)) st t) X.2.1.2.2.1 X.2.1.1 28 596 (gA (gG D k B))) (gH (gG D k B) (w0.set p (a, mdE q n s c) ++ mdL k q m)) 28 596 [(0, .ref a), (1, .int x), (2, .int y), (3, .int z), (4, .int (nI m))] 318 [] := by
  intro j
  induction j with
  | zero =>
    intro m hm
    have e4 : m = 4 := by omega
    subst e4
    refine jw_iload (pc := 318) hX d_M_init_318 rfl ?_
    refine jw_iconst (pc := 320) (v := nI 4) hX d_M_init_320 (by decide) ?_
    refine jw_nc_ge (pc := 321) (tgt := 350) hX d_M_init_321 (by decide) (by omega) (by omega) (fun _ => ?_) (fun h => absurd h (by omega))
    exact jw_vret (pc := 350) hX (Nat.le_refl _) (Nat.le_refl _) d_M_init_350 hP
  | succ j ih =>
    intro m hm
    refine jw_iload (pc := 318) hX d_M_init_318 rfl ?_
    refine jw_iconst (pc := 320) (v := nI 4) hX d_M_init_320 (by decide) ?_
    refine jw_nc_ge (pc := 321) (tgt := 350) hX d_M_init_321 (by decide) (by omega) (by omega) (fun h => absurd h (by omega)) (fun _ => ?_)
    refine jw_aload_n (pc := 324) hX d_M_init_324 rfl ?_
    refine jw_get (pc := 325) hX hK p uw_M tc_M (wt_get _ _ hp) rfl 10 (by decide) kw_511 rfl d_M_init_325 ?_
    refine jw_iload (pc := 328) hX d_M_init_328 rfl ?_
    refine jw_ldc2 (pc := 330) (v := -1) hX d_M_init_330 kw_500 ?_
    refine jw_sL (pc := 333) hX hK (w0.length + 5) 2 (wt_at _ _ _ _ _) rfl (by omega) (by omega) d_M_init_333 ?_
    refine jw_ws (by rw [wt_set]) ?_
    refine jw_aload_n (pc := 334) hX d_M_init_334 rfl ?_
    refine jw_get (pc := 335) hX hK p uw_M tc_M (wt_get _ _ hp) rfl 11 (by decide) kw_512 rfl d_M_init_335 ?_
    refine jw_iload (pc := 338) hX d_M_init_338 rfl ?_
    refine jw_ldc2 (pc := 340) (v := -1) hX d_M_init_340 kw_500 ?_
    refine jw_sL (pc := 343) hX hK (w0.length + 6) 2 (wt_at _ _ _ _ _) rfl (by omega) (by omega) d_M_init_343 ?_
    refine jw_ws (w2 := (w0.set p (a, mdE q n s c) ++ mdL k q (m + 1))) (by rw [wt_set]; rfl) ?_
    refine jw_iinc (pc := 344) (l2 := [(0, _), (1, _), (2, _), (3, _), (4, _)]) hX d_M_init_344 rfl (ii_1 _) (by decide) rfl rfl ?_
    refine jw_goto (pc := 347) (tgt := 318) hX d_M_init_347 (by decide) ?_
    exact ih (m + 1) (by omega)
set_option maxRecDepth 100000 in
set_option maxHeartbeats 4000000 in
theorem c_M_init (l : Launch) (D : va_G) (k : Nat → ClassId) (B : Nat) (w0 : va_W) (p a : Nat) (x y z : Int32) (h0 : w0[p]? = some (a, .inr (6, [.int 0, .int 0, .int 0, .int 0, .int 0, .null, .null, .null, .null, .null, .null, .null, .int 0, .null, .null, .null, .null, .null, .null, .null, .null, .null, .null, .null, .null, .null, .null, .null, .null, .null, .null, .null, .null, .null]))) : Kt l (gG D k B) ⟨"SlottedMeshModel", "<init>", "(III)V"⟩ b_M_init 5 { frames := 1, cells := 28, slots := 596, locals := 40 } [.ref a, .int x, .int y, .int z] w0 (fun w => ∃ q : Nat → Nat, w = w0.set p (a, mdE q (kcp x 2 6) (kcp y 8 24) (kcp z 1 4)) ++ mdL k q 4) := by
  refine kt_mk (by decide +kernel) (Nat.le_of_ble_eq_true rfl) (fun X hX hK hin2 => ?_)
  have hp := (List.getElem?_eq_some_iff.mp h0).1
  have hX : jx X { frames := 1, cells := 28, slots := 596, locals := 40 } b_M_init 5 "SlottedMeshModel" gz none := hX
  have hin2 : X.2.2.1.name = "<init>" := hin2
  show jw X _ _ _ 0 0 [(0, .ref a), (1, .int x), (2, .int y), (3, .int z)] 0 []
  refine jw_ws (w2 := (w0.set p (a, .inr (6, [.int 0, .int 0, .int 0, .int 0, .int 0, .null, .null, .null, .null, .null, .null, .null, .int 0, .null, .null, .null, .null, .null, .null, .null, .null, .null, .null, .null, .null, .null, .null, .null, .null, .null, .null, .null, .null, .null])) ++ [])) (wt_0 h0) ?_
  refine jw_aload_n (pc := 0) hX d_M_init_0 rfl ?_
  refine jw_objInit (pc := 1) hX d_M_init_1 kw_499 kw_16 kw_17 (by decide) (Nat.le_of_ble_eq_true rfl) ?_
  refine jw_aload_n (pc := 4) hX d_M_init_4 rfl ?_
  refine jw_bipush (pc := 5) (v := nI 36) hX d_M_init_5 (by decide) ?_
  refine jw_newa (pc := 7) (n := 36) (atype := .boolean) hX hK (36, .inl fun _ => 0) (t0 := 0) rfl rfl kw_59 (fun _ => rfl) (by (try dsimp only); omega) (by decide) (by show _ ≤ 28; (try dsimp only); omega) (by show _ ≤ 596; (try dsimp only); omega) d_M_init_7 (fun q7 => ?_)
  refine jw_ws (w2 := (w0.set p (a, .inr (6, [.int 0, .int 0, .int 0, .int 0, .int 0, .null, .null, .null, .null, .null, .null, .null, .int 0, .null, .null, .null, .null, .null, .null, .null, .null, .null, .null, .null, .null, .null, .null, .null, .null, .null, .null, .null, .null, .null])) ++ [(q7, aZ k 36)])) (by rw [List.append_assoc]; rfl) ?_
  refine jw_putF (pc := 9) (ty := (.array .boolean)) hX hK hin2 p tp_M uw_M tp_M_ok nm_M tc_M (wt_get _ _ hp) rfl 5 (by decide) kw_506 rfl (by decide +kernel) rfl rfl rfl d_M_init_9 ?_
  refine jw_ws (w2 := (w0.set p (a, .inr (6, [.int 0, .int 0, .int 0, .int 0, .int 0, .ref q7, .null, .null, .null, .null, .null, .null, .int 0, .null, .null, .null, .null, .null, .null, .null, .null, .null, .null, .null, .null, .null, .null, .null, .null, .null, .null, .null, .null, .null])) ++ [(q7, aZ k 36)])) (wt_put _ _ _ hp) ?_
  refine jw_aload_n (pc := 12) hX d_M_init_12 rfl ?_
  refine jw_bipush (pc := 13) (v := nI 6) hX d_M_init_13 (by decide) ?_
  refine jw_newa (pc := 15) (n := 6) (atype := .boolean) hX hK (6, .inl fun _ => 0) (t0 := 0) rfl rfl kw_59 (fun _ => rfl) (by (try dsimp only); omega) (by decide) (by show _ ≤ 28; (try dsimp only); omega) (by show _ ≤ 596; (try dsimp only); omega) d_M_init_15 (fun q15 => ?_)
  refine jw_ws (w2 := (w0.set p (a, .inr (6, [.int 0, .int 0, .int 0, .int 0, .int 0, .ref q7, .null, .null, .null, .null, .null, .null, .int 0, .null, .null, .null, .null, .null, .null, .null, .null, .null, .null, .null, .null, .null, .null, .null, .null, .null, .null, .null, .null, .null])) ++ [(q7, aZ k 36), (q15, aZ k 6)])) (by rw [List.append_assoc]; rfl) ?_
  refine jw_putF (pc := 17) (ty := (.array .boolean)) hX hK hin2 p tp_M uw_M tp_M_ok nm_M tc_M (wt_get _ _ hp) rfl 6 (by decide) kw_507 rfl (by decide +kernel) rfl rfl rfl d_M_init_17 ?_
  refine jw_ws (w2 := (w0.set p (a, .inr (6, [.int 0, .int 0, .int 0, .int 0, .int 0, .ref q7, .ref q15, .null, .null, .null, .null, .null, .int 0, .null, .null, .null, .null, .null, .null, .null, .null, .null, .null, .null, .null, .null, .null, .null, .null, .null, .null, .null, .null, .null])) ++ [(q7, aZ k 36), (q15, aZ k 6)])) (wt_put _ _ _ hp) ?_
  refine jw_aload_n (pc := 20) hX d_M_init_20 rfl ?_
  refine jw_bipush (pc := 21) (v := nI 6) hX d_M_init_21 (by decide) ?_
  refine jw_newa (pc := 23) (n := 6) (atype := .boolean) hX hK (6, .inl fun _ => 0) (t0 := 0) rfl rfl kw_59 (fun _ => rfl) (by (try dsimp only); omega) (by decide) (by show _ ≤ 28; (try dsimp only); omega) (by show _ ≤ 596; (try dsimp only); omega) d_M_init_23 (fun q23 => ?_)
  refine jw_ws (w2 := (w0.set p (a, .inr (6, [.int 0, .int 0, .int 0, .int 0, .int 0, .ref q7, .ref q15, .null, .null, .null, .null, .null, .int 0, .null, .null, .null, .null, .null, .null, .null, .null, .null, .null, .null, .null, .null, .null, .null, .null, .null, .null, .null, .null, .null])) ++ [(q7, aZ k 36), (q15, aZ k 6), (q23, aZ k 6)])) (by rw [List.append_assoc]; rfl) ?_
  refine jw_putF (pc := 25) (ty := (.array .boolean)) hX hK hin2 p tp_M uw_M tp_M_ok nm_M tc_M (wt_get _ _ hp) rfl 7 (by decide) kw_508 rfl (by decide +kernel) rfl rfl rfl d_M_init_25 ?_
  refine jw_ws (w2 := (w0.set p (a, .inr (6, [.int 0, .int 0, .int 0, .int 0, .int 0, .ref q7, .ref q15, .ref q23, .null, .null, .null, .null, .int 0, .null, .null, .null, .null, .null, .null, .null, .null, .null, .null, .null, .null, .null, .null, .null, .null, .null, .null, .null, .null, .null])) ++ [(q7, aZ k 36), (q15, aZ k 6), (q23, aZ k 6)])) (wt_put _ _ _ hp) ?_
  refine jw_aload_n (pc := 28) hX d_M_init_28 rfl ?_
  refine jw_bipush (pc := 29) (v := nI 6) hX d_M_init_29 (by decide) ?_
  refine jw_newa (pc := 31) (n := 6) (atype := .int) hX hK (6, .inl fun _ => 0) (t0 := 1) rfl rfl kw_60 (fun _ => rfl) (by (try dsimp only); omega) (by decide) (by show _ ≤ 28; (try dsimp only); omega) (by show _ ≤ 596; (try dsimp only); omega) d_M_init_31 (fun q31 => ?_)
  refine jw_ws (w2 := (w0.set p (a, .inr (6, [.int 0, .int 0, .int 0, .int 0, .int 0, .ref q7, .ref q15, .ref q23, .null, .null, .null, .null, .int 0, .null, .null, .null, .null, .null, .null, .null, .null, .null, .null, .null, .null, .null, .null, .null, .null, .null, .null, .null, .null, .null])) ++ [(q7, aZ k 36), (q15, aZ k 6), (q23, aZ k 6), (q31, aI k 6)])) (by rw [List.append_assoc]; rfl) ?_
  refine jw_putF (pc := 33) (ty := (.array .int)) hX hK hin2 p tp_M uw_M tp_M_ok nm_M tc_M (wt_get _ _ hp) rfl 8 (by decide) kw_509 rfl (by decide +kernel) rfl rfl rfl d_M_init_33 ?_
  refine jw_ws (w2 := (w0.set p (a, .inr (6, [.int 0, .int 0, .int 0, .int 0, .int 0, .ref q7, .ref q15, .ref q23, .ref q31, .null, .null, .null, .int 0, .null, .null, .null, .null, .null, .null, .null, .null, .null, .null, .null, .null, .null, .null, .null, .null, .null, .null, .null, .null, .null])) ++ [(q7, aZ k 36), (q15, aZ k 6), (q23, aZ k 6), (q31, aI k 6)])) (wt_put _ _ _ hp) ?_
  refine jw_aload_n (pc := 36) hX d_M_init_36 rfl ?_
  refine jw_bipush (pc := 37) (v := nI 6) hX d_M_init_37 (by decide) ?_
  refine jw_newa (pc := 39) (n := 6) (atype := .int) hX hK (6, .inl fun _ => 0) (t0 := 1) rfl rfl kw_60 (fun _ => rfl) (by (try dsimp only); omega) (by decide) (by show _ ≤ 28; (try dsimp only); omega) (by show _ ≤ 596; (try dsimp only); omega) d_M_init_39 (fun q39 => ?_)
  refine jw_ws (w2 := (w0.set p (a, .inr (6, [.int 0, .int 0, .int 0, .int 0, .int 0, .ref q7, .ref q15, .ref q23, .ref q31, .null, .null, .null, .int 0, .null, .null, .null, .null, .null, .null, .null, .null, .null, .null, .null, .null, .null, .null, .null, .null, .null, .null, .null, .null, .null])) ++ [(q7, aZ k 36), (q15, aZ k 6), (q23, aZ k 6), (q31, aI k 6), (q39, aI k 6)])) (by rw [List.append_assoc]; rfl) ?_
  refine jw_putF (pc := 41) (ty := (.array .int)) hX hK hin2 p tp_M uw_M tp_M_ok nm_M tc_M (wt_get _ _ hp) rfl 9 (by decide) kw_510 rfl (by decide +kernel) rfl rfl rfl d_M_init_41 ?_
  refine jw_ws (w2 := (w0.set p (a, .inr (6, [.int 0, .int 0, .int 0, .int 0, .int 0, .ref q7, .ref q15, .ref q23, .ref q31, .ref q39, .null, .null, .int 0, .null, .null, .null, .null, .null, .null, .null, .null, .null, .null, .null, .null, .null, .null, .null, .null, .null, .null, .null, .null, .null])) ++ [(q7, aZ k 36), (q15, aZ k 6), (q23, aZ k 6), (q31, aI k 6), (q39, aI k 6)])) (wt_put _ _ _ hp) ?_
  refine jw_aload_n (pc := 44) hX d_M_init_44 rfl ?_
  refine jw_iconst (pc := 45) (v := nI 4) hX d_M_init_45 (by decide) ?_
  refine jw_newa (pc := 46) (n := 4) (atype := .long) hX hK (4, .inr (.inl fun _ => 0)) (t0 := 2) rfl rfl kw_604 (fun _ => rfl) (by (try dsimp only); omega) (by decide) (by show _ ≤ 28; (try dsimp only); omega) (by show _ ≤ 596; (try dsimp only); omega) d_M_init_46 (fun q46 => ?_)
  refine jw_ws (w2 := (w0.set p (a, .inr (6, [.int 0, .int 0, .int 0, .int 0, .int 0, .ref q7, .ref q15, .ref q23, .ref q31, .ref q39, .null, .null, .int 0, .null, .null, .null, .null, .null, .null, .null, .null, .null, .null, .null, .null, .null, .null, .null, .null, .null, .null, .null, .null, .null])) ++ [(q7, aZ k 36), (q15, aZ k 6), (q23, aZ k 6), (q31, aI k 6), (q39, aI k 6), (q46, aJ k 4)])) (by rw [List.append_assoc]; rfl) ?_
  refine jw_putF (pc := 48) (ty := (.array .long)) hX hK hin2 p tp_M uw_M tp_M_ok nm_M tc_M (wt_get _ _ hp) rfl 10 (by decide) kw_511 rfl (by decide +kernel) rfl rfl rfl d_M_init_48 ?_
  refine jw_ws (w2 := (w0.set p (a, .inr (6, [.int 0, .int 0, .int 0, .int 0, .int 0, .ref q7, .ref q15, .ref q23, .ref q31, .ref q39, .ref q46, .null, .int 0, .null, .null, .null, .null, .null, .null, .null, .null, .null, .null, .null, .null, .null, .null, .null, .null, .null, .null, .null, .null, .null])) ++ [(q7, aZ k 36), (q15, aZ k 6), (q23, aZ k 6), (q31, aI k 6), (q39, aI k 6), (q46, aJ k 4)])) (wt_put _ _ _ hp) ?_
  refine jw_aload_n (pc := 51) hX d_M_init_51 rfl ?_
  refine jw_iconst (pc := 52) (v := nI 4) hX d_M_init_52 (by decide) ?_
  refine jw_newa (pc := 53) (n := 4) (atype := .long) hX hK (4, .inr (.inl fun _ => 0)) (t0 := 2) rfl rfl kw_604 (fun _ => rfl) (by (try dsimp only); omega) (by decide) (by show _ ≤ 28; (try dsimp only); omega) (by show _ ≤ 596; (try dsimp only); omega) d_M_init_53 (fun q53 => ?_)
  refine jw_ws (w2 := (w0.set p (a, .inr (6, [.int 0, .int 0, .int 0, .int 0, .int 0, .ref q7, .ref q15, .ref q23, .ref q31, .ref q39, .ref q46, .null, .int 0, .null, .null, .null, .null, .null, .null, .null, .null, .null, .null, .null, .null, .null, .null, .null, .null, .null, .null, .null, .null, .null])) ++ [(q7, aZ k 36), (q15, aZ k 6), (q23, aZ k 6), (q31, aI k 6), (q39, aI k 6), (q46, aJ k 4), (q53, aJ k 4)])) (by rw [List.append_assoc]; rfl) ?_
  refine jw_putF (pc := 55) (ty := (.array .long)) hX hK hin2 p tp_M uw_M tp_M_ok nm_M tc_M (wt_get _ _ hp) rfl 11 (by decide) kw_512 rfl (by decide +kernel) rfl rfl rfl d_M_init_55 ?_
  refine jw_ws (w2 := (w0.set p (a, .inr (6, [.int 0, .int 0, .int 0, .int 0, .int 0, .ref q7, .ref q15, .ref q23, .ref q31, .ref q39, .ref q46, .ref q53, .int 0, .null, .null, .null, .null, .null, .null, .null, .null, .null, .null, .null, .null, .null, .null, .null, .null, .null, .null, .null, .null, .null])) ++ [(q7, aZ k 36), (q15, aZ k 6), (q23, aZ k 6), (q31, aI k 6), (q39, aI k 6), (q46, aJ k 4), (q53, aJ k 4)])) (wt_put _ _ _ hp) ?_
  refine jw_aload_n (pc := 58) hX d_M_init_58 rfl ?_
  refine jw_bipush (pc := 59) (v := nI 6) hX d_M_init_59 (by decide) ?_
  refine jw_newa (pc := 61) (n := 6) (atype := .int) hX hK (6, .inl fun _ => 0) (t0 := 1) rfl rfl kw_60 (fun _ => rfl) (by (try dsimp only); omega) (by decide) (by show _ ≤ 28; (try dsimp only); omega) (by show _ ≤ 596; (try dsimp only); omega) d_M_init_61 (fun q61 => ?_)
  refine jw_ws (w2 := (w0.set p (a, .inr (6, [.int 0, .int 0, .int 0, .int 0, .int 0, .ref q7, .ref q15, .ref q23, .ref q31, .ref q39, .ref q46, .ref q53, .int 0, .null, .null, .null, .null, .null, .null, .null, .null, .null, .null, .null, .null, .null, .null, .null, .null, .null, .null, .null, .null, .null])) ++ [(q7, aZ k 36), (q15, aZ k 6), (q23, aZ k 6), (q31, aI k 6), (q39, aI k 6), (q46, aJ k 4), (q53, aJ k 4), (q61, aI k 6)])) (by rw [List.append_assoc]; rfl) ?_
  refine jw_putF (pc := 63) (ty := (.array .int)) hX hK hin2 p tp_M uw_M tp_M_ok nm_M tc_M (wt_get _ _ hp) rfl 13 (by decide) kw_514 rfl (by decide +kernel) rfl rfl rfl d_M_init_63 ?_
  refine jw_ws (w2 := (w0.set p (a, .inr (6, [.int 0, .int 0, .int 0, .int 0, .int 0, .ref q7, .ref q15, .ref q23, .ref q31, .ref q39, .ref q46, .ref q53, .int 0, .ref q61, .null, .null, .null, .null, .null, .null, .null, .null, .null, .null, .null, .null, .null, .null, .null, .null, .null, .null, .null, .null])) ++ [(q7, aZ k 36), (q15, aZ k 6), (q23, aZ k 6), (q31, aI k 6), (q39, aI k 6), (q46, aJ k 4), (q53, aJ k 4), (q61, aI k 6)])) (wt_put _ _ _ hp) ?_
  refine jw_aload_n (pc := 66) hX d_M_init_66 rfl ?_
  refine jw_bipush (pc := 67) (v := nI 12) hX d_M_init_67 (by decide) ?_
  refine jw_newa (pc := 69) (n := 12) (atype := .int) hX hK (12, .inl fun _ => 0) (t0 := 1) rfl rfl kw_60 (fun _ => rfl) (by (try dsimp only); omega) (by decide) (by show _ ≤ 28; (try dsimp only); omega) (by show _ ≤ 596; (try dsimp only); omega) d_M_init_69 (fun q69 => ?_)
  refine jw_ws (w2 := (w0.set p (a, .inr (6, [.int 0, .int 0, .int 0, .int 0, .int 0, .ref q7, .ref q15, .ref q23, .ref q31, .ref q39, .ref q46, .ref q53, .int 0, .ref q61, .null, .null, .null, .null, .null, .null, .null, .null, .null, .null, .null, .null, .null, .null, .null, .null, .null, .null, .null, .null])) ++ [(q7, aZ k 36), (q15, aZ k 6), (q23, aZ k 6), (q31, aI k 6), (q39, aI k 6), (q46, aJ k 4), (q53, aJ k 4), (q61, aI k 6), (q69, aI k 12)])) (by rw [List.append_assoc]; rfl) ?_
  refine jw_putF (pc := 71) (ty := (.array .int)) hX hK hin2 p tp_M uw_M tp_M_ok nm_M tc_M (wt_get _ _ hp) rfl 14 (by decide) kw_515 rfl (by decide +kernel) rfl rfl rfl d_M_init_71 ?_
  refine jw_ws (w2 := (w0.set p (a, .inr (6, [.int 0, .int 0, .int 0, .int 0, .int 0, .ref q7, .ref q15, .ref q23, .ref q31, .ref q39, .ref q46, .ref q53, .int 0, .ref q61, .ref q69, .null, .null, .null, .null, .null, .null, .null, .null, .null, .null, .null, .null, .null, .null, .null, .null, .null, .null, .null])) ++ [(q7, aZ k 36), (q15, aZ k 6), (q23, aZ k 6), (q31, aI k 6), (q39, aI k 6), (q46, aJ k 4), (q53, aJ k 4), (q61, aI k 6), (q69, aI k 12)])) (wt_put _ _ _ hp) ?_
  refine jw_aload_n (pc := 74) hX d_M_init_74 rfl ?_
  refine jw_bipush (pc := 75) (v := nI 96) hX d_M_init_75 (by decide) ?_
  refine jw_newa (pc := 77) (n := 96) (atype := .int) hX hK (96, .inl fun _ => 0) (t0 := 1) rfl rfl kw_60 (fun _ => rfl) (by (try dsimp only); omega) (by decide) (by show _ ≤ 28; (try dsimp only); omega) (by show _ ≤ 596; (try dsimp only); omega) d_M_init_77 (fun q77 => ?_)
  refine jw_ws (w2 := (w0.set p (a, .inr (6, [.int 0, .int 0, .int 0, .int 0, .int 0, .ref q7, .ref q15, .ref q23, .ref q31, .ref q39, .ref q46, .ref q53, .int 0, .ref q61, .ref q69, .null, .null, .null, .null, .null, .null, .null, .null, .null, .null, .null, .null, .null, .null, .null, .null, .null, .null, .null])) ++ [(q7, aZ k 36), (q15, aZ k 6), (q23, aZ k 6), (q31, aI k 6), (q39, aI k 6), (q46, aJ k 4), (q53, aJ k 4), (q61, aI k 6), (q69, aI k 12), (q77, aI k 96)])) (by rw [List.append_assoc]; rfl) ?_
  refine jw_putF (pc := 79) (ty := (.array .int)) hX hK hin2 p tp_M uw_M tp_M_ok nm_M tc_M (wt_get _ _ hp) rfl 15 (by decide) kw_516 rfl (by decide +kernel) rfl rfl rfl d_M_init_79 ?_
  refine jw_ws (w2 := (w0.set p (a, .inr (6, [.int 0, .int 0, .int 0, .int 0, .int 0, .ref q7, .ref q15, .ref q23, .ref q31, .ref q39, .ref q46, .ref q53, .int 0, .ref q61, .ref q69, .ref q77, .null, .null, .null, .null, .null, .null, .null, .null, .null, .null, .null, .null, .null, .null, .null, .null, .null, .null])) ++ [(q7, aZ k 36), (q15, aZ k 6), (q23, aZ k 6), (q31, aI k 6), (q39, aI k 6), (q46, aJ k 4), (q53, aJ k 4), (q61, aI k 6), (q69, aI k 12), (q77, aI k 96)])) (wt_put _ _ _ hp) ?_
  refine jw_aload_n (pc := 82) hX d_M_init_82 rfl ?_
  refine jw_bipush (pc := 83) (v := nI 6) hX d_M_init_83 (by decide) ?_
  refine jw_newa (pc := 85) (n := 6) (atype := .int) hX hK (6, .inl fun _ => 0) (t0 := 1) rfl rfl kw_60 (fun _ => rfl) (by (try dsimp only); omega) (by decide) (by show _ ≤ 28; (try dsimp only); omega) (by show _ ≤ 596; (try dsimp only); omega) d_M_init_85 (fun q85 => ?_)
  refine jw_ws (w2 := (w0.set p (a, .inr (6, [.int 0, .int 0, .int 0, .int 0, .int 0, .ref q7, .ref q15, .ref q23, .ref q31, .ref q39, .ref q46, .ref q53, .int 0, .ref q61, .ref q69, .ref q77, .null, .null, .null, .null, .null, .null, .null, .null, .null, .null, .null, .null, .null, .null, .null, .null, .null, .null])) ++ [(q7, aZ k 36), (q15, aZ k 6), (q23, aZ k 6), (q31, aI k 6), (q39, aI k 6), (q46, aJ k 4), (q53, aJ k 4), (q61, aI k 6), (q69, aI k 12), (q77, aI k 96), (q85, aI k 6)])) (by rw [List.append_assoc]; rfl) ?_
  refine jw_putF (pc := 87) (ty := (.array .int)) hX hK hin2 p tp_M uw_M tp_M_ok nm_M tc_M (wt_get _ _ hp) rfl 16 (by decide) kw_517 rfl (by decide +kernel) rfl rfl rfl d_M_init_87 ?_
  refine jw_ws (w2 := (w0.set p (a, .inr (6, [.int 0, .int 0, .int 0, .int 0, .int 0, .ref q7, .ref q15, .ref q23, .ref q31, .ref q39, .ref q46, .ref q53, .int 0, .ref q61, .ref q69, .ref q77, .ref q85, .null, .null, .null, .null, .null, .null, .null, .null, .null, .null, .null, .null, .null, .null, .null, .null, .null])) ++ [(q7, aZ k 36), (q15, aZ k 6), (q23, aZ k 6), (q31, aI k 6), (q39, aI k 6), (q46, aJ k 4), (q53, aJ k 4), (q61, aI k 6), (q69, aI k 12), (q77, aI k 96), (q85, aI k 6)])) (wt_put _ _ _ hp) ?_
  refine jw_aload_n (pc := 90) hX d_M_init_90 rfl ?_
  refine jw_bipush (pc := 91) (v := nI 12) hX d_M_init_91 (by decide) ?_
  refine jw_newa (pc := 93) (n := 12) (atype := .int) hX hK (12, .inl fun _ => 0) (t0 := 1) rfl rfl kw_60 (fun _ => rfl) (by (try dsimp only); omega) (by decide) (by show _ ≤ 28; (try dsimp only); omega) (by show _ ≤ 596; (try dsimp only); omega) d_M_init_93 (fun q93 => ?_)
  refine jw_ws (w2 := (w0.set p (a, .inr (6, [.int 0, .int 0, .int 0, .int 0, .int 0, .ref q7, .ref q15, .ref q23, .ref q31, .ref q39, .ref q46, .ref q53, .int 0, .ref q61, .ref q69, .ref q77, .ref q85, .null, .null, .null, .null, .null, .null, .null, .null, .null, .null, .null, .null, .null, .null, .null, .null, .null])) ++ [(q7, aZ k 36), (q15, aZ k 6), (q23, aZ k 6), (q31, aI k 6), (q39, aI k 6), (q46, aJ k 4), (q53, aJ k 4), (q61, aI k 6), (q69, aI k 12), (q77, aI k 96), (q85, aI k 6), (q93, aI k 12)])) (by rw [List.append_assoc]; rfl) ?_
  refine jw_putF (pc := 95) (ty := (.array .int)) hX hK hin2 p tp_M uw_M tp_M_ok nm_M tc_M (wt_get _ _ hp) rfl 17 (by decide) kw_518 rfl (by decide +kernel) rfl rfl rfl d_M_init_95 ?_
  refine jw_ws (w2 := (w0.set p (a, .inr (6, [.int 0, .int 0, .int 0, .int 0, .int 0, .ref q7, .ref q15, .ref q23, .ref q31, .ref q39, .ref q46, .ref q53, .int 0, .ref q61, .ref q69, .ref q77, .ref q85, .ref q93, .null, .null, .null, .null, .null, .null, .null, .null, .null, .null, .null, .null, .null, .null, .null, .null])) ++ [(q7, aZ k 36), (q15, aZ k 6), (q23, aZ k 6), (q31, aI k 6), (q39, aI k 6), (q46, aJ k 4), (q53, aJ k 4), (q61, aI k 6), (q69, aI k 12), (q77, aI k 96), (q85, aI k 6), (q93, aI k 12)])) (wt_put _ _ _ hp) ?_
  refine jw_aload_n (pc := 98) hX d_M_init_98 rfl ?_
  refine jw_bipush (pc := 99) (v := nI 96) hX d_M_init_99 (by decide) ?_
  refine jw_newa (pc := 101) (n := 96) (atype := .int) hX hK (96, .inl fun _ => 0) (t0 := 1) rfl rfl kw_60 (fun _ => rfl) (by (try dsimp only); omega) (by decide) (by show _ ≤ 28; (try dsimp only); omega) (by show _ ≤ 596; (try dsimp only); omega) d_M_init_101 (fun q101 => ?_)
  refine jw_ws (w2 := (w0.set p (a, .inr (6, [.int 0, .int 0, .int 0, .int 0, .int 0, .ref q7, .ref q15, .ref q23, .ref q31, .ref q39, .ref q46, .ref q53, .int 0, .ref q61, .ref q69, .ref q77, .ref q85, .ref q93, .null, .null, .null, .null, .null, .null, .null, .null, .null, .null, .null, .null, .null, .null, .null, .null])) ++ [(q7, aZ k 36), (q15, aZ k 6), (q23, aZ k 6), (q31, aI k 6), (q39, aI k 6), (q46, aJ k 4), (q53, aJ k 4), (q61, aI k 6), (q69, aI k 12), (q77, aI k 96), (q85, aI k 6), (q93, aI k 12), (q101, aI k 96)])) (by rw [List.append_assoc]; rfl) ?_
  refine jw_putF (pc := 103) (ty := (.array .int)) hX hK hin2 p tp_M uw_M tp_M_ok nm_M tc_M (wt_get _ _ hp) rfl 18 (by decide) kw_519 rfl (by decide +kernel) rfl rfl rfl d_M_init_103 ?_
  refine jw_ws (w2 := (w0.set p (a, .inr (6, [.int 0, .int 0, .int 0, .int 0, .int 0, .ref q7, .ref q15, .ref q23, .ref q31, .ref q39, .ref q46, .ref q53, .int 0, .ref q61, .ref q69, .ref q77, .ref q85, .ref q93, .ref q101, .null, .null, .null, .null, .null, .null, .null, .null, .null, .null, .null, .null, .null, .null, .null])) ++ [(q7, aZ k 36), (q15, aZ k 6), (q23, aZ k 6), (q31, aI k 6), (q39, aI k 6), (q46, aJ k 4), (q53, aJ k 4), (q61, aI k 6), (q69, aI k 12), (q77, aI k 96), (q85, aI k 6), (q93, aI k 12), (q101, aI k 96)])) (wt_put _ _ _ hp) ?_
  refine jw_aload_n (pc := 106) hX d_M_init_106 rfl ?_
  refine jw_bipush (pc := 107) (v := nI 12) hX d_M_init_107 (by decide) ?_
  refine jw_newa (pc := 109) (n := 12) (atype := .int) hX hK (12, .inl fun _ => 0) (t0 := 1) rfl rfl kw_60 (fun _ => rfl) (by (try dsimp only); omega) (by decide) (by show _ ≤ 28; (try dsimp only); omega) (by show _ ≤ 596; (try dsimp only); omega) d_M_init_109 (fun q109 => ?_)
  refine jw_ws (w2 := (w0.set p (a, .inr (6, [.int 0, .int 0, .int 0, .int 0, .int 0, .ref q7, .ref q15, .ref q23, .ref q31, .ref q39, .ref q46, .ref q53, .int 0, .ref q61, .ref q69, .ref q77, .ref q85, .ref q93, .ref q101, .null, .null, .null, .null, .null, .null, .null, .null, .null, .null, .null, .null, .null, .null, .null])) ++ [(q7, aZ k 36), (q15, aZ k 6), (q23, aZ k 6), (q31, aI k 6), (q39, aI k 6), (q46, aJ k 4), (q53, aJ k 4), (q61, aI k 6), (q69, aI k 12), (q77, aI k 96), (q85, aI k 6), (q93, aI k 12), (q101, aI k 96), (q109, aI k 12)])) (by rw [List.append_assoc]; rfl) ?_
  refine jw_putF (pc := 111) (ty := (.array .int)) hX hK hin2 p tp_M uw_M tp_M_ok nm_M tc_M (wt_get _ _ hp) rfl 19 (by decide) kw_520 rfl (by decide +kernel) rfl rfl rfl d_M_init_111 ?_
  refine jw_ws (w2 := (w0.set p (a, .inr (6, [.int 0, .int 0, .int 0, .int 0, .int 0, .ref q7, .ref q15, .ref q23, .ref q31, .ref q39, .ref q46, .ref q53, .int 0, .ref q61, .ref q69, .ref q77, .ref q85, .ref q93, .ref q101, .ref q109, .null, .null, .null, .null, .null, .null, .null, .null, .null, .null, .null, .null, .null, .null])) ++ [(q7, aZ k 36), (q15, aZ k 6), (q23, aZ k 6), (q31, aI k 6), (q39, aI k 6), (q46, aJ k 4), (q53, aJ k 4), (q61, aI k 6), (q69, aI k 12), (q77, aI k 96), (q85, aI k 6), (q93, aI k 12), (q101, aI k 96), (q109, aI k 12)])) (wt_put _ _ _ hp) ?_
  refine jw_aload_n (pc := 114) hX d_M_init_114 rfl ?_
  refine jw_bipush (pc := 115) (v := nI 48) hX d_M_init_115 (by decide) ?_
  refine jw_newa (pc := 117) (n := 48) (atype := .int) hX hK (48, .inl fun _ => 0) (t0 := 1) rfl rfl kw_60 (fun _ => rfl) (by (try dsimp only); omega) (by decide) (by show _ ≤ 28; (try dsimp only); omega) (by show _ ≤ 596; (try dsimp only); omega) d_M_init_117 (fun q117 => ?_)
  refine jw_ws (w2 := (w0.set p (a, .inr (6, [.int 0, .int 0, .int 0, .int 0, .int 0, .ref q7, .ref q15, .ref q23, .ref q31, .ref q39, .ref q46, .ref q53, .int 0, .ref q61, .ref q69, .ref q77, .ref q85, .ref q93, .ref q101, .ref q109, .null, .null, .null, .null, .null, .null, .null, .null, .null, .null, .null, .null, .null, .null])) ++ [(q7, aZ k 36), (q15, aZ k 6), (q23, aZ k 6), (q31, aI k 6), (q39, aI k 6), (q46, aJ k 4), (q53, aJ k 4), (q61, aI k 6), (q69, aI k 12), (q77, aI k 96), (q85, aI k 6), (q93, aI k 12), (q101, aI k 96), (q109, aI k 12), (q117, aI k 48)])) (by rw [List.append_assoc]; rfl) ?_
  refine jw_putF (pc := 119) (ty := (.array .int)) hX hK hin2 p tp_M uw_M tp_M_ok nm_M tc_M (wt_get _ _ hp) rfl 20 (by decide) kw_521 rfl (by decide +kernel) rfl rfl rfl d_M_init_119 ?_
  refine jw_ws (w2 := (w0.set p (a, .inr (6, [.int 0, .int 0, .int 0, .int 0, .int 0, .ref q7, .ref q15, .ref q23, .ref q31, .ref q39, .ref q46, .ref q53, .int 0, .ref q61, .ref q69, .ref q77, .ref q85, .ref q93, .ref q101, .ref q109, .ref q117, .null, .null, .null, .null, .null, .null, .null, .null, .null, .null, .null, .null, .null])) ++ [(q7, aZ k 36), (q15, aZ k 6), (q23, aZ k 6), (q31, aI k 6), (q39, aI k 6), (q46, aJ k 4), (q53, aJ k 4), (q61, aI k 6), (q69, aI k 12), (q77, aI k 96), (q85, aI k 6), (q93, aI k 12), (q101, aI k 96), (q109, aI k 12), (q117, aI k 48)])) (wt_put _ _ _ hp) ?_
  refine jw_aload_n (pc := 122) hX d_M_init_122 rfl ?_
  refine jw_bipush (pc := 123) (v := nI 48) hX d_M_init_123 (by decide) ?_
  refine jw_newa (pc := 125) (n := 48) (atype := .int) hX hK (48, .inl fun _ => 0) (t0 := 1) rfl rfl kw_60 (fun _ => rfl) (by (try dsimp only); omega) (by decide) (by show _ ≤ 28; (try dsimp only); omega) (by show _ ≤ 596; (try dsimp only); omega) d_M_init_125 (fun q125 => ?_)
  refine jw_ws (w2 := (w0.set p (a, .inr (6, [.int 0, .int 0, .int 0, .int 0, .int 0, .ref q7, .ref q15, .ref q23, .ref q31, .ref q39, .ref q46, .ref q53, .int 0, .ref q61, .ref q69, .ref q77, .ref q85, .ref q93, .ref q101, .ref q109, .ref q117, .null, .null, .null, .null, .null, .null, .null, .null, .null, .null, .null, .null, .null])) ++ [(q7, aZ k 36), (q15, aZ k 6), (q23, aZ k 6), (q31, aI k 6), (q39, aI k 6), (q46, aJ k 4), (q53, aJ k 4), (q61, aI k 6), (q69, aI k 12), (q77, aI k 96), (q85, aI k 6), (q93, aI k 12), (q101, aI k 96), (q109, aI k 12), (q117, aI k 48), (q125, aI k 48)])) (by rw [List.append_assoc]; rfl) ?_
  refine jw_putF (pc := 127) (ty := (.array .int)) hX hK hin2 p tp_M uw_M tp_M_ok nm_M tc_M (wt_get _ _ hp) rfl 21 (by decide) kw_522 rfl (by decide +kernel) rfl rfl rfl d_M_init_127 ?_
  refine jw_ws (w2 := (w0.set p (a, .inr (6, [.int 0, .int 0, .int 0, .int 0, .int 0, .ref q7, .ref q15, .ref q23, .ref q31, .ref q39, .ref q46, .ref q53, .int 0, .ref q61, .ref q69, .ref q77, .ref q85, .ref q93, .ref q101, .ref q109, .ref q117, .ref q125, .null, .null, .null, .null, .null, .null, .null, .null, .null, .null, .null, .null])) ++ [(q7, aZ k 36), (q15, aZ k 6), (q23, aZ k 6), (q31, aI k 6), (q39, aI k 6), (q46, aJ k 4), (q53, aJ k 4), (q61, aI k 6), (q69, aI k 12), (q77, aI k 96), (q85, aI k 6), (q93, aI k 12), (q101, aI k 96), (q109, aI k 12), (q117, aI k 48), (q125, aI k 48)])) (wt_put _ _ _ hp) ?_
  refine jw_aload_n (pc := 130) hX d_M_init_130 rfl ?_
  refine jw_bipush (pc := 131) (v := nI 48) hX d_M_init_131 (by decide) ?_
  refine jw_newa (pc := 133) (n := 48) (atype := .int) hX hK (48, .inl fun _ => 0) (t0 := 1) rfl rfl kw_60 (fun _ => rfl) (by (try dsimp only); omega) (by decide) (by show _ ≤ 28; (try dsimp only); omega) (by show _ ≤ 596; (try dsimp only); omega) d_M_init_133 (fun q133 => ?_)
  refine jw_ws (w2 := (w0.set p (a, .inr (6, [.int 0, .int 0, .int 0, .int 0, .int 0, .ref q7, .ref q15, .ref q23, .ref q31, .ref q39, .ref q46, .ref q53, .int 0, .ref q61, .ref q69, .ref q77, .ref q85, .ref q93, .ref q101, .ref q109, .ref q117, .ref q125, .null, .null, .null, .null, .null, .null, .null, .null, .null, .null, .null, .null])) ++ [(q7, aZ k 36), (q15, aZ k 6), (q23, aZ k 6), (q31, aI k 6), (q39, aI k 6), (q46, aJ k 4), (q53, aJ k 4), (q61, aI k 6), (q69, aI k 12), (q77, aI k 96), (q85, aI k 6), (q93, aI k 12), (q101, aI k 96), (q109, aI k 12), (q117, aI k 48), (q125, aI k 48), (q133, aI k 48)])) (by rw [List.append_assoc]; rfl) ?_
  refine jw_putF (pc := 135) (ty := (.array .int)) hX hK hin2 p tp_M uw_M tp_M_ok nm_M tc_M (wt_get _ _ hp) rfl 22 (by decide) kw_523 rfl (by decide +kernel) rfl rfl rfl d_M_init_135 ?_
  refine jw_ws (w2 := (w0.set p (a, .inr (6, [.int 0, .int 0, .int 0, .int 0, .int 0, .ref q7, .ref q15, .ref q23, .ref q31, .ref q39, .ref q46, .ref q53, .int 0, .ref q61, .ref q69, .ref q77, .ref q85, .ref q93, .ref q101, .ref q109, .ref q117, .ref q125, .ref q133, .null, .null, .null, .null, .null, .null, .null, .null, .null, .null, .null])) ++ [(q7, aZ k 36), (q15, aZ k 6), (q23, aZ k 6), (q31, aI k 6), (q39, aI k 6), (q46, aJ k 4), (q53, aJ k 4), (q61, aI k 6), (q69, aI k 12), (q77, aI k 96), (q85, aI k 6), (q93, aI k 12), (q101, aI k 96), (q109, aI k 12), (q117, aI k 48), (q125, aI k 48), (q133, aI k 48)])) (wt_put _ _ _ hp) ?_
  refine jw_aload_n (pc := 138) hX d_M_init_138 rfl ?_
  refine jw_bipush (pc := 139) (v := nI 6) hX d_M_init_139 (by decide) ?_
  refine jw_newa (pc := 141) (n := 6) (atype := .int) hX hK (6, .inl fun _ => 0) (t0 := 1) rfl rfl kw_60 (fun _ => rfl) (by (try dsimp only); omega) (by decide) (by show _ ≤ 28; (try dsimp only); omega) (by show _ ≤ 596; (try dsimp only); omega) d_M_init_141 (fun q141 => ?_)
  refine jw_ws (w2 := (w0.set p (a, .inr (6, [.int 0, .int 0, .int 0, .int 0, .int 0, .ref q7, .ref q15, .ref q23, .ref q31, .ref q39, .ref q46, .ref q53, .int 0, .ref q61, .ref q69, .ref q77, .ref q85, .ref q93, .ref q101, .ref q109, .ref q117, .ref q125, .ref q133, .null, .null, .null, .null, .null, .null, .null, .null, .null, .null, .null])) ++ [(q7, aZ k 36), (q15, aZ k 6), (q23, aZ k 6), (q31, aI k 6), (q39, aI k 6), (q46, aJ k 4), (q53, aJ k 4), (q61, aI k 6), (q69, aI k 12), (q77, aI k 96), (q85, aI k 6), (q93, aI k 12), (q101, aI k 96), (q109, aI k 12), (q117, aI k 48), (q125, aI k 48), (q133, aI k 48), (q141, aI k 6)])) (by rw [List.append_assoc]; rfl) ?_
  refine jw_putF (pc := 143) (ty := (.array .int)) hX hK hin2 p tp_M uw_M tp_M_ok nm_M tc_M (wt_get _ _ hp) rfl 23 (by decide) kw_524 rfl (by decide +kernel) rfl rfl rfl d_M_init_143 ?_
  refine jw_ws (w2 := (w0.set p (a, .inr (6, [.int 0, .int 0, .int 0, .int 0, .int 0, .ref q7, .ref q15, .ref q23, .ref q31, .ref q39, .ref q46, .ref q53, .int 0, .ref q61, .ref q69, .ref q77, .ref q85, .ref q93, .ref q101, .ref q109, .ref q117, .ref q125, .ref q133, .ref q141, .null, .null, .null, .null, .null, .null, .null, .null, .null, .null])) ++ [(q7, aZ k 36), (q15, aZ k 6), (q23, aZ k 6), (q31, aI k 6), (q39, aI k 6), (q46, aJ k 4), (q53, aJ k 4), (q61, aI k 6), (q69, aI k 12), (q77, aI k 96), (q85, aI k 6), (q93, aI k 12), (q101, aI k 96), (q109, aI k 12), (q117, aI k 48), (q125, aI k 48), (q133, aI k 48), (q141, aI k 6)])) (wt_put _ _ _ hp) ?_
  refine jw_aload_n (pc := 146) hX d_M_init_146 rfl ?_
  refine jw_bipush (pc := 147) (v := nI 6) hX d_M_init_147 (by decide) ?_
  refine jw_newa (pc := 149) (n := 6) (atype := .int) hX hK (6, .inl fun _ => 0) (t0 := 1) rfl rfl kw_60 (fun _ => rfl) (by (try dsimp only); omega) (by decide) (by show _ ≤ 28; (try dsimp only); omega) (by show _ ≤ 596; (try dsimp only); omega) d_M_init_149 (fun q149 => ?_)
  refine jw_ws (w2 := (w0.set p (a, .inr (6, [.int 0, .int 0, .int 0, .int 0, .int 0, .ref q7, .ref q15, .ref q23, .ref q31, .ref q39, .ref q46, .ref q53, .int 0, .ref q61, .ref q69, .ref q77, .ref q85, .ref q93, .ref q101, .ref q109, .ref q117, .ref q125, .ref q133, .ref q141, .null, .null, .null, .null, .null, .null, .null, .null, .null, .null])) ++ [(q7, aZ k 36), (q15, aZ k 6), (q23, aZ k 6), (q31, aI k 6), (q39, aI k 6), (q46, aJ k 4), (q53, aJ k 4), (q61, aI k 6), (q69, aI k 12), (q77, aI k 96), (q85, aI k 6), (q93, aI k 12), (q101, aI k 96), (q109, aI k 12), (q117, aI k 48), (q125, aI k 48), (q133, aI k 48), (q141, aI k 6), (q149, aI k 6)])) (by rw [List.append_assoc]; rfl) ?_
  refine jw_putF (pc := 151) (ty := (.array .int)) hX hK hin2 p tp_M uw_M tp_M_ok nm_M tc_M (wt_get _ _ hp) rfl 24 (by decide) kw_525 rfl (by decide +kernel) rfl rfl rfl d_M_init_151 ?_
  refine jw_ws (w2 := (w0.set p (a, .inr (6, [.int 0, .int 0, .int 0, .int 0, .int 0, .ref q7, .ref q15, .ref q23, .ref q31, .ref q39, .ref q46, .ref q53, .int 0, .ref q61, .ref q69, .ref q77, .ref q85, .ref q93, .ref q101, .ref q109, .ref q117, .ref q125, .ref q133, .ref q141, .ref q149, .null, .null, .null, .null, .null, .null, .null, .null, .null])) ++ [(q7, aZ k 36), (q15, aZ k 6), (q23, aZ k 6), (q31, aI k 6), (q39, aI k 6), (q46, aJ k 4), (q53, aJ k 4), (q61, aI k 6), (q69, aI k 12), (q77, aI k 96), (q85, aI k 6), (q93, aI k 12), (q101, aI k 96), (q109, aI k 12), (q117, aI k 48), (q125, aI k 48), (q133, aI k 48), (q141, aI k 6), (q149, aI k 6)])) (wt_put _ _ _ hp) ?_
  refine jw_aload_n (pc := 154) hX d_M_init_154 rfl ?_
  refine jw_bipush (pc := 155) (v := nI 72) hX d_M_init_155 (by decide) ?_
  refine jw_newa (pc := 157) (n := 72) (atype := .int) hX hK (72, .inl fun _ => 0) (t0 := 1) rfl rfl kw_60 (fun _ => rfl) (by (try dsimp only); omega) (by decide) (by show _ ≤ 28; (try dsimp only); omega) (by show _ ≤ 596; (try dsimp only); omega) d_M_init_157 (fun q157 => ?_)
  refine jw_ws (w2 := (w0.set p (a, .inr (6, [.int 0, .int 0, .int 0, .int 0, .int 0, .ref q7, .ref q15, .ref q23, .ref q31, .ref q39, .ref q46, .ref q53, .int 0, .ref q61, .ref q69, .ref q77, .ref q85, .ref q93, .ref q101, .ref q109, .ref q117, .ref q125, .ref q133, .ref q141, .ref q149, .null, .null, .null, .null, .null, .null, .null, .null, .null])) ++ [(q7, aZ k 36), (q15, aZ k 6), (q23, aZ k 6), (q31, aI k 6), (q39, aI k 6), (q46, aJ k 4), (q53, aJ k 4), (q61, aI k 6), (q69, aI k 12), (q77, aI k 96), (q85, aI k 6), (q93, aI k 12), (q101, aI k 96), (q109, aI k 12), (q117, aI k 48), (q125, aI k 48), (q133, aI k 48), (q141, aI k 6), (q149, aI k 6), (q157, aI k 72)])) (by rw [List.append_assoc]; rfl) ?_
  refine jw_putF (pc := 159) (ty := (.array .int)) hX hK hin2 p tp_M uw_M tp_M_ok nm_M tc_M (wt_get _ _ hp) rfl 25 (by decide) kw_526 rfl (by decide +kernel) rfl rfl rfl d_M_init_159 ?_
  refine jw_ws (w2 := (w0.set p (a, .inr (6, [.int 0, .int 0, .int 0, .int 0, .int 0, .ref q7, .ref q15, .ref q23, .ref q31, .ref q39, .ref q46, .ref q53, .int 0, .ref q61, .ref q69, .ref q77, .ref q85, .ref q93, .ref q101, .ref q109, .ref q117, .ref q125, .ref q133, .ref q141, .ref q149, .ref q157, .null, .null, .null, .null, .null, .null, .null, .null])) ++ [(q7, aZ k 36), (q15, aZ k 6), (q23, aZ k 6), (q31, aI k 6), (q39, aI k 6), (q46, aJ k 4), (q53, aJ k 4), (q61, aI k 6), (q69, aI k 12), (q77, aI k 96), (q85, aI k 6), (q93, aI k 12), (q101, aI k 96), (q109, aI k 12), (q117, aI k 48), (q125, aI k 48), (q133, aI k 48), (q141, aI k 6), (q149, aI k 6), (q157, aI k 72)])) (wt_put _ _ _ hp) ?_
  refine jw_aload_n (pc := 162) hX d_M_init_162 rfl ?_
  refine jw_bipush (pc := 163) (v := nI 6) hX d_M_init_163 (by decide) ?_
  refine jw_newa (pc := 165) (n := 6) (atype := .int) hX hK (6, .inl fun _ => 0) (t0 := 1) rfl rfl kw_60 (fun _ => rfl) (by (try dsimp only); omega) (by decide) (by show _ ≤ 28; (try dsimp only); omega) (by show _ ≤ 596; (try dsimp only); omega) d_M_init_165 (fun q165 => ?_)
  refine jw_ws (w2 := (w0.set p (a, .inr (6, [.int 0, .int 0, .int 0, .int 0, .int 0, .ref q7, .ref q15, .ref q23, .ref q31, .ref q39, .ref q46, .ref q53, .int 0, .ref q61, .ref q69, .ref q77, .ref q85, .ref q93, .ref q101, .ref q109, .ref q117, .ref q125, .ref q133, .ref q141, .ref q149, .ref q157, .null, .null, .null, .null, .null, .null, .null, .null])) ++ [(q7, aZ k 36), (q15, aZ k 6), (q23, aZ k 6), (q31, aI k 6), (q39, aI k 6), (q46, aJ k 4), (q53, aJ k 4), (q61, aI k 6), (q69, aI k 12), (q77, aI k 96), (q85, aI k 6), (q93, aI k 12), (q101, aI k 96), (q109, aI k 12), (q117, aI k 48), (q125, aI k 48), (q133, aI k 48), (q141, aI k 6), (q149, aI k 6), (q157, aI k 72), (q165, aI k 6)])) (by rw [List.append_assoc]; rfl) ?_
  refine jw_putF (pc := 167) (ty := (.array .int)) hX hK hin2 p tp_M uw_M tp_M_ok nm_M tc_M (wt_get _ _ hp) rfl 26 (by decide) kw_527 rfl (by decide +kernel) rfl rfl rfl d_M_init_167 ?_
  refine jw_ws (w2 := (w0.set p (a, .inr (6, [.int 0, .int 0, .int 0, .int 0, .int 0, .ref q7, .ref q15, .ref q23, .ref q31, .ref q39, .ref q46, .ref q53, .int 0, .ref q61, .ref q69, .ref q77, .ref q85, .ref q93, .ref q101, .ref q109, .ref q117, .ref q125, .ref q133, .ref q141, .ref q149, .ref q157, .ref q165, .null, .null, .null, .null, .null, .null, .null])) ++ [(q7, aZ k 36), (q15, aZ k 6), (q23, aZ k 6), (q31, aI k 6), (q39, aI k 6), (q46, aJ k 4), (q53, aJ k 4), (q61, aI k 6), (q69, aI k 12), (q77, aI k 96), (q85, aI k 6), (q93, aI k 12), (q101, aI k 96), (q109, aI k 12), (q117, aI k 48), (q125, aI k 48), (q133, aI k 48), (q141, aI k 6), (q149, aI k 6), (q157, aI k 72), (q165, aI k 6)])) (wt_put _ _ _ hp) ?_
  refine jw_aload_n (pc := 170) hX d_M_init_170 rfl ?_
  refine jw_bipush (pc := 171) (v := nI 18) hX d_M_init_171 (by decide) ?_
  refine jw_newa (pc := 173) (n := 18) (atype := .int) hX hK (18, .inl fun _ => 0) (t0 := 1) rfl rfl kw_60 (fun _ => rfl) (by (try dsimp only); omega) (by decide) (by show _ ≤ 28; (try dsimp only); omega) (by show _ ≤ 596; (try dsimp only); omega) d_M_init_173 (fun q173 => ?_)
  refine jw_ws (w2 := (w0.set p (a, .inr (6, [.int 0, .int 0, .int 0, .int 0, .int 0, .ref q7, .ref q15, .ref q23, .ref q31, .ref q39, .ref q46, .ref q53, .int 0, .ref q61, .ref q69, .ref q77, .ref q85, .ref q93, .ref q101, .ref q109, .ref q117, .ref q125, .ref q133, .ref q141, .ref q149, .ref q157, .ref q165, .null, .null, .null, .null, .null, .null, .null])) ++ [(q7, aZ k 36), (q15, aZ k 6), (q23, aZ k 6), (q31, aI k 6), (q39, aI k 6), (q46, aJ k 4), (q53, aJ k 4), (q61, aI k 6), (q69, aI k 12), (q77, aI k 96), (q85, aI k 6), (q93, aI k 12), (q101, aI k 96), (q109, aI k 12), (q117, aI k 48), (q125, aI k 48), (q133, aI k 48), (q141, aI k 6), (q149, aI k 6), (q157, aI k 72), (q165, aI k 6), (q173, aI k 18)])) (by rw [List.append_assoc]; rfl) ?_
  refine jw_putF (pc := 175) (ty := (.array .int)) hX hK hin2 p tp_M uw_M tp_M_ok nm_M tc_M (wt_get _ _ hp) rfl 27 (by decide) kw_528 rfl (by decide +kernel) rfl rfl rfl d_M_init_175 ?_
  refine jw_ws (w2 := (w0.set p (a, .inr (6, [.int 0, .int 0, .int 0, .int 0, .int 0, .ref q7, .ref q15, .ref q23, .ref q31, .ref q39, .ref q46, .ref q53, .int 0, .ref q61, .ref q69, .ref q77, .ref q85, .ref q93, .ref q101, .ref q109, .ref q117, .ref q125, .ref q133, .ref q141, .ref q149, .ref q157, .ref q165, .ref q173, .null, .null, .null, .null, .null, .null])) ++ [(q7, aZ k 36), (q15, aZ k 6), (q23, aZ k 6), (q31, aI k 6), (q39, aI k 6), (q46, aJ k 4), (q53, aJ k 4), (q61, aI k 6), (q69, aI k 12), (q77, aI k 96), (q85, aI k 6), (q93, aI k 12), (q101, aI k 96), (q109, aI k 12), (q117, aI k 48), (q125, aI k 48), (q133, aI k 48), (q141, aI k 6), (q149, aI k 6), (q157, aI k 72), (q165, aI k 6), (q173, aI k 18)])) (wt_put _ _ _ hp) ?_
  refine jw_aload_n (pc := 178) hX d_M_init_178 rfl ?_
  refine jw_bipush (pc := 179) (v := nI 6) hX d_M_init_179 (by decide) ?_
  refine jw_newa (pc := 181) (n := 6) (atype := .int) hX hK (6, .inl fun _ => 0) (t0 := 1) rfl rfl kw_60 (fun _ => rfl) (by (try dsimp only); omega) (by decide) (by show _ ≤ 28; (try dsimp only); omega) (by show _ ≤ 596; (try dsimp only); omega) d_M_init_181 (fun q181 => ?_)
  refine jw_ws (w2 := (w0.set p (a, .inr (6, [.int 0, .int 0, .int 0, .int 0, .int 0, .ref q7, .ref q15, .ref q23, .ref q31, .ref q39, .ref q46, .ref q53, .int 0, .ref q61, .ref q69, .ref q77, .ref q85, .ref q93, .ref q101, .ref q109, .ref q117, .ref q125, .ref q133, .ref q141, .ref q149, .ref q157, .ref q165, .ref q173, .null, .null, .null, .null, .null, .null])) ++ [(q7, aZ k 36), (q15, aZ k 6), (q23, aZ k 6), (q31, aI k 6), (q39, aI k 6), (q46, aJ k 4), (q53, aJ k 4), (q61, aI k 6), (q69, aI k 12), (q77, aI k 96), (q85, aI k 6), (q93, aI k 12), (q101, aI k 96), (q109, aI k 12), (q117, aI k 48), (q125, aI k 48), (q133, aI k 48), (q141, aI k 6), (q149, aI k 6), (q157, aI k 72), (q165, aI k 6), (q173, aI k 18), (q181, aI k 6)])) (by rw [List.append_assoc]; rfl) ?_
  refine jw_putF (pc := 183) (ty := (.array .int)) hX hK hin2 p tp_M uw_M tp_M_ok nm_M tc_M (wt_get _ _ hp) rfl 28 (by decide) kw_529 rfl (by decide +kernel) rfl rfl rfl d_M_init_183 ?_
  refine jw_ws (w2 := (w0.set p (a, .inr (6, [.int 0, .int 0, .int 0, .int 0, .int 0, .ref q7, .ref q15, .ref q23, .ref q31, .ref q39, .ref q46, .ref q53, .int 0, .ref q61, .ref q69, .ref q77, .ref q85, .ref q93, .ref q101, .ref q109, .ref q117, .ref q125, .ref q133, .ref q141, .ref q149, .ref q157, .ref q165, .ref q173, .ref q181, .null, .null, .null, .null, .null])) ++ [(q7, aZ k 36), (q15, aZ k 6), (q23, aZ k 6), (q31, aI k 6), (q39, aI k 6), (q46, aJ k 4), (q53, aJ k 4), (q61, aI k 6), (q69, aI k 12), (q77, aI k 96), (q85, aI k 6), (q93, aI k 12), (q101, aI k 96), (q109, aI k 12), (q117, aI k 48), (q125, aI k 48), (q133, aI k 48), (q141, aI k 6), (q149, aI k 6), (q157, aI k 72), (q165, aI k 6), (q173, aI k 18), (q181, aI k 6)])) (wt_put _ _ _ hp) ?_
  refine jw_aload_n (pc := 186) hX d_M_init_186 rfl ?_
  refine jw_bipush (pc := 187) (v := nI 6) hX d_M_init_187 (by decide) ?_
  refine jw_newa (pc := 189) (n := 6) (atype := .int) hX hK (6, .inl fun _ => 0) (t0 := 1) rfl rfl kw_60 (fun _ => rfl) (by (try dsimp only); omega) (by decide) (by show _ ≤ 28; (try dsimp only); omega) (by show _ ≤ 596; (try dsimp only); omega) d_M_init_189 (fun q189 => ?_)
  refine jw_ws (w2 := (w0.set p (a, .inr (6, [.int 0, .int 0, .int 0, .int 0, .int 0, .ref q7, .ref q15, .ref q23, .ref q31, .ref q39, .ref q46, .ref q53, .int 0, .ref q61, .ref q69, .ref q77, .ref q85, .ref q93, .ref q101, .ref q109, .ref q117, .ref q125, .ref q133, .ref q141, .ref q149, .ref q157, .ref q165, .ref q173, .ref q181, .null, .null, .null, .null, .null])) ++ [(q7, aZ k 36), (q15, aZ k 6), (q23, aZ k 6), (q31, aI k 6), (q39, aI k 6), (q46, aJ k 4), (q53, aJ k 4), (q61, aI k 6), (q69, aI k 12), (q77, aI k 96), (q85, aI k 6), (q93, aI k 12), (q101, aI k 96), (q109, aI k 12), (q117, aI k 48), (q125, aI k 48), (q133, aI k 48), (q141, aI k 6), (q149, aI k 6), (q157, aI k 72), (q165, aI k 6), (q173, aI k 18), (q181, aI k 6), (q189, aI k 6)])) (by rw [List.append_assoc]; rfl) ?_
  refine jw_putF (pc := 191) (ty := (.array .int)) hX hK hin2 p tp_M uw_M tp_M_ok nm_M tc_M (wt_get _ _ hp) rfl 29 (by decide) kw_530 rfl (by decide +kernel) rfl rfl rfl d_M_init_191 ?_
  refine jw_ws (w2 := (w0.set p (a, .inr (6, [.int 0, .int 0, .int 0, .int 0, .int 0, .ref q7, .ref q15, .ref q23, .ref q31, .ref q39, .ref q46, .ref q53, .int 0, .ref q61, .ref q69, .ref q77, .ref q85, .ref q93, .ref q101, .ref q109, .ref q117, .ref q125, .ref q133, .ref q141, .ref q149, .ref q157, .ref q165, .ref q173, .ref q181, .ref q189, .null, .null, .null, .null])) ++ [(q7, aZ k 36), (q15, aZ k 6), (q23, aZ k 6), (q31, aI k 6), (q39, aI k 6), (q46, aJ k 4), (q53, aJ k 4), (q61, aI k 6), (q69, aI k 12), (q77, aI k 96), (q85, aI k 6), (q93, aI k 12), (q101, aI k 96), (q109, aI k 12), (q117, aI k 48), (q125, aI k 48), (q133, aI k 48), (q141, aI k 6), (q149, aI k 6), (q157, aI k 72), (q165, aI k 6), (q173, aI k 18), (q181, aI k 6), (q189, aI k 6)])) (wt_put _ _ _ hp) ?_
  refine jw_aload_n (pc := 194) hX d_M_init_194 rfl ?_
  refine jw_bipush (pc := 195) (v := nI 6) hX d_M_init_195 (by decide) ?_
  refine jw_newa (pc := 197) (n := 6) (atype := .int) hX hK (6, .inl fun _ => 0) (t0 := 1) rfl rfl kw_60 (fun _ => rfl) (by (try dsimp only); omega) (by decide) (by show _ ≤ 28; (try dsimp only); omega) (by show _ ≤ 596; (try dsimp only); omega) d_M_init_197 (fun q197 => ?_)
  refine jw_ws (w2 := (w0.set p (a, .inr (6, [.int 0, .int 0, .int 0, .int 0, .int 0, .ref q7, .ref q15, .ref q23, .ref q31, .ref q39, .ref q46, .ref q53, .int 0, .ref q61, .ref q69, .ref q77, .ref q85, .ref q93, .ref q101, .ref q109, .ref q117, .ref q125, .ref q133, .ref q141, .ref q149, .ref q157, .ref q165, .ref q173, .ref q181, .ref q189, .null, .null, .null, .null])) ++ [(q7, aZ k 36), (q15, aZ k 6), (q23, aZ k 6), (q31, aI k 6), (q39, aI k 6), (q46, aJ k 4), (q53, aJ k 4), (q61, aI k 6), (q69, aI k 12), (q77, aI k 96), (q85, aI k 6), (q93, aI k 12), (q101, aI k 96), (q109, aI k 12), (q117, aI k 48), (q125, aI k 48), (q133, aI k 48), (q141, aI k 6), (q149, aI k 6), (q157, aI k 72), (q165, aI k 6), (q173, aI k 18), (q181, aI k 6), (q189, aI k 6), (q197, aI k 6)])) (by rw [List.append_assoc]; rfl) ?_
  refine jw_putF (pc := 199) (ty := (.array .int)) hX hK hin2 p tp_M uw_M tp_M_ok nm_M tc_M (wt_get _ _ hp) rfl 30 (by decide) kw_531 rfl (by decide +kernel) rfl rfl rfl d_M_init_199 ?_
  refine jw_ws (w2 := (w0.set p (a, .inr (6, [.int 0, .int 0, .int 0, .int 0, .int 0, .ref q7, .ref q15, .ref q23, .ref q31, .ref q39, .ref q46, .ref q53, .int 0, .ref q61, .ref q69, .ref q77, .ref q85, .ref q93, .ref q101, .ref q109, .ref q117, .ref q125, .ref q133, .ref q141, .ref q149, .ref q157, .ref q165, .ref q173, .ref q181, .ref q189, .ref q197, .null, .null, .null])) ++ [(q7, aZ k 36), (q15, aZ k 6), (q23, aZ k 6), (q31, aI k 6), (q39, aI k 6), (q46, aJ k 4), (q53, aJ k 4), (q61, aI k 6), (q69, aI k 12), (q77, aI k 96), (q85, aI k 6), (q93, aI k 12), (q101, aI k 96), (q109, aI k 12), (q117, aI k 48), (q125, aI k 48), (q133, aI k 48), (q141, aI k 6), (q149, aI k 6), (q157, aI k 72), (q165, aI k 6), (q173, aI k 18), (q181, aI k 6), (q189, aI k 6), (q197, aI k 6)])) (wt_put _ _ _ hp) ?_
  refine jw_aload_n (pc := 202) hX d_M_init_202 rfl ?_
  refine jw_bipush (pc := 203) (v := nI 6) hX d_M_init_203 (by decide) ?_
  refine jw_newa (pc := 205) (n := 6) (atype := .int) hX hK (6, .inl fun _ => 0) (t0 := 1) rfl rfl kw_60 (fun _ => rfl) (by (try dsimp only); omega) (by decide) (by show _ ≤ 28; (try dsimp only); omega) (by show _ ≤ 596; (try dsimp only); omega) d_M_init_205 (fun q205 => ?_)
  refine jw_ws (w2 := (w0.set p (a, .inr (6, [.int 0, .int 0, .int 0, .int 0, .int 0, .ref q7, .ref q15, .ref q23, .ref q31, .ref q39, .ref q46, .ref q53, .int 0, .ref q61, .ref q69, .ref q77, .ref q85, .ref q93, .ref q101, .ref q109, .ref q117, .ref q125, .ref q133, .ref q141, .ref q149, .ref q157, .ref q165, .ref q173, .ref q181, .ref q189, .ref q197, .null, .null, .null])) ++ [(q7, aZ k 36), (q15, aZ k 6), (q23, aZ k 6), (q31, aI k 6), (q39, aI k 6), (q46, aJ k 4), (q53, aJ k 4), (q61, aI k 6), (q69, aI k 12), (q77, aI k 96), (q85, aI k 6), (q93, aI k 12), (q101, aI k 96), (q109, aI k 12), (q117, aI k 48), (q125, aI k 48), (q133, aI k 48), (q141, aI k 6), (q149, aI k 6), (q157, aI k 72), (q165, aI k 6), (q173, aI k 18), (q181, aI k 6), (q189, aI k 6), (q197, aI k 6), (q205, aI k 6)])) (by rw [List.append_assoc]; rfl) ?_
  refine jw_putF (pc := 207) (ty := (.array .int)) hX hK hin2 p tp_M uw_M tp_M_ok nm_M tc_M (wt_get _ _ hp) rfl 31 (by decide) kw_532 rfl (by decide +kernel) rfl rfl rfl d_M_init_207 ?_
  refine jw_ws (w2 := (w0.set p (a, .inr (6, [.int 0, .int 0, .int 0, .int 0, .int 0, .ref q7, .ref q15, .ref q23, .ref q31, .ref q39, .ref q46, .ref q53, .int 0, .ref q61, .ref q69, .ref q77, .ref q85, .ref q93, .ref q101, .ref q109, .ref q117, .ref q125, .ref q133, .ref q141, .ref q149, .ref q157, .ref q165, .ref q173, .ref q181, .ref q189, .ref q197, .ref q205, .null, .null])) ++ [(q7, aZ k 36), (q15, aZ k 6), (q23, aZ k 6), (q31, aI k 6), (q39, aI k 6), (q46, aJ k 4), (q53, aJ k 4), (q61, aI k 6), (q69, aI k 12), (q77, aI k 96), (q85, aI k 6), (q93, aI k 12), (q101, aI k 96), (q109, aI k 12), (q117, aI k 48), (q125, aI k 48), (q133, aI k 48), (q141, aI k 6), (q149, aI k 6), (q157, aI k 72), (q165, aI k 6), (q173, aI k 18), (q181, aI k 6), (q189, aI k 6), (q197, aI k 6), (q205, aI k 6)])) (wt_put _ _ _ hp) ?_
  refine jw_aload_n (pc := 210) hX d_M_init_210 rfl ?_
  refine jw_bipush (pc := 211) (v := nI 6) hX d_M_init_211 (by decide) ?_
  refine jw_newa (pc := 213) (n := 6) (atype := .int) hX hK (6, .inl fun _ => 0) (t0 := 1) rfl rfl kw_60 (fun _ => rfl) (by (try dsimp only); omega) (by decide) (by show _ ≤ 28; (try dsimp only); omega) (by show _ ≤ 596; (try dsimp only); omega) d_M_init_213 (fun q213 => ?_)
  refine jw_ws (w2 := (w0.set p (a, .inr (6, [.int 0, .int 0, .int 0, .int 0, .int 0, .ref q7, .ref q15, .ref q23, .ref q31, .ref q39, .ref q46, .ref q53, .int 0, .ref q61, .ref q69, .ref q77, .ref q85, .ref q93, .ref q101, .ref q109, .ref q117, .ref q125, .ref q133, .ref q141, .ref q149, .ref q157, .ref q165, .ref q173, .ref q181, .ref q189, .ref q197, .ref q205, .null, .null])) ++ [(q7, aZ k 36), (q15, aZ k 6), (q23, aZ k 6), (q31, aI k 6), (q39, aI k 6), (q46, aJ k 4), (q53, aJ k 4), (q61, aI k 6), (q69, aI k 12), (q77, aI k 96), (q85, aI k 6), (q93, aI k 12), (q101, aI k 96), (q109, aI k 12), (q117, aI k 48), (q125, aI k 48), (q133, aI k 48), (q141, aI k 6), (q149, aI k 6), (q157, aI k 72), (q165, aI k 6), (q173, aI k 18), (q181, aI k 6), (q189, aI k 6), (q197, aI k 6), (q205, aI k 6), (q213, aI k 6)])) (by rw [List.append_assoc]; rfl) ?_
  refine jw_putF (pc := 215) (ty := (.array .int)) hX hK hin2 p tp_M uw_M tp_M_ok nm_M tc_M (wt_get _ _ hp) rfl 32 (by decide) kw_533 rfl (by decide +kernel) rfl rfl rfl d_M_init_215 ?_
  refine jw_ws (w2 := (w0.set p (a, .inr (6, [.int 0, .int 0, .int 0, .int 0, .int 0, .ref q7, .ref q15, .ref q23, .ref q31, .ref q39, .ref q46, .ref q53, .int 0, .ref q61, .ref q69, .ref q77, .ref q85, .ref q93, .ref q101, .ref q109, .ref q117, .ref q125, .ref q133, .ref q141, .ref q149, .ref q157, .ref q165, .ref q173, .ref q181, .ref q189, .ref q197, .ref q205, .ref q213, .null])) ++ [(q7, aZ k 36), (q15, aZ k 6), (q23, aZ k 6), (q31, aI k 6), (q39, aI k 6), (q46, aJ k 4), (q53, aJ k 4), (q61, aI k 6), (q69, aI k 12), (q77, aI k 96), (q85, aI k 6), (q93, aI k 12), (q101, aI k 96), (q109, aI k 12), (q117, aI k 48), (q125, aI k 48), (q133, aI k 48), (q141, aI k 6), (q149, aI k 6), (q157, aI k 72), (q165, aI k 6), (q173, aI k 18), (q181, aI k 6), (q189, aI k 6), (q197, aI k 6), (q205, aI k 6), (q213, aI k 6)])) (wt_put _ _ _ hp) ?_
  refine jw_aload_n (pc := 218) hX d_M_init_218 rfl ?_
  refine jw_bipush (pc := 219) (v := nI 6) hX d_M_init_219 (by decide) ?_
  refine jw_newa (pc := 221) (n := 6) (atype := .int) hX hK (6, .inl fun _ => 0) (t0 := 1) rfl rfl kw_60 (fun _ => rfl) (by (try dsimp only); omega) (by decide) (by show _ ≤ 28; (try dsimp only); omega) (by show _ ≤ 596; (try dsimp only); omega) d_M_init_221 (fun q221 => ?_)
  refine jw_ws (w2 := (w0.set p (a, .inr (6, [.int 0, .int 0, .int 0, .int 0, .int 0, .ref q7, .ref q15, .ref q23, .ref q31, .ref q39, .ref q46, .ref q53, .int 0, .ref q61, .ref q69, .ref q77, .ref q85, .ref q93, .ref q101, .ref q109, .ref q117, .ref q125, .ref q133, .ref q141, .ref q149, .ref q157, .ref q165, .ref q173, .ref q181, .ref q189, .ref q197, .ref q205, .ref q213, .null])) ++ [(q7, aZ k 36), (q15, aZ k 6), (q23, aZ k 6), (q31, aI k 6), (q39, aI k 6), (q46, aJ k 4), (q53, aJ k 4), (q61, aI k 6), (q69, aI k 12), (q77, aI k 96), (q85, aI k 6), (q93, aI k 12), (q101, aI k 96), (q109, aI k 12), (q117, aI k 48), (q125, aI k 48), (q133, aI k 48), (q141, aI k 6), (q149, aI k 6), (q157, aI k 72), (q165, aI k 6), (q173, aI k 18), (q181, aI k 6), (q189, aI k 6), (q197, aI k 6), (q205, aI k 6), (q213, aI k 6), (q221, aI k 6)])) (by rw [List.append_assoc]; rfl) ?_
  refine jw_putF (pc := 223) (ty := (.array .int)) hX hK hin2 p tp_M uw_M tp_M_ok nm_M tc_M (wt_get _ _ hp) rfl 33 (by decide) kw_534 rfl (by decide +kernel) rfl rfl rfl d_M_init_223 ?_
  refine jw_ws (w2 := (w0.set p (a, .inr (6, [.int 0, .int 0, .int 0, .int 0, .int 0, .ref q7, .ref q15, .ref q23, .ref q31, .ref q39, .ref q46, .ref q53, .int 0, .ref q61, .ref q69, .ref q77, .ref q85, .ref q93, .ref q101, .ref q109, .ref q117, .ref q125, .ref q133, .ref q141, .ref q149, .ref q157, .ref q165, .ref q173, .ref q181, .ref q189, .ref q197, .ref q205, .ref q213, .ref q221])) ++ [(q7, aZ k 36), (q15, aZ k 6), (q23, aZ k 6), (q31, aI k 6), (q39, aI k 6), (q46, aJ k 4), (q53, aJ k 4), (q61, aI k 6), (q69, aI k 12), (q77, aI k 96), (q85, aI k 6), (q93, aI k 12), (q101, aI k 96), (q109, aI k 12), (q117, aI k 48), (q125, aI k 48), (q133, aI k 48), (q141, aI k 6), (q149, aI k 6), (q157, aI k 72), (q165, aI k 6), (q173, aI k 18), (q181, aI k 6), (q189, aI k 6), (q197, aI k 6), (q205, aI k 6), (q213, aI k 6), (q221, aI k 6)])) (wt_put _ _ _ hp) ?_
  refine jw_aload_n (pc := 226) hX d_M_init_226 rfl ?_
  refine w_M_ina hX x rfl ?_
  refine jw_putF (pc := 248) (ty := .int) hX hK hin2 p tp_M uw_M tp_M_ok nm_M tc_M (wt_get _ _ hp) rfl 0 (by decide) kw_501 rfl (by decide +kernel) rfl rfl rfl d_M_init_248 ?_
  refine jw_ws (w2 := (w0.set p (a, .inr (6, [.int (nI (kcp x 2 6)), .int 0, .int 0, .int 0, .int 0, .ref q7, .ref q15, .ref q23, .ref q31, .ref q39, .ref q46, .ref q53, .int 0, .ref q61, .ref q69, .ref q77, .ref q85, .ref q93, .ref q101, .ref q109, .ref q117, .ref q125, .ref q133, .ref q141, .ref q149, .ref q157, .ref q165, .ref q173, .ref q181, .ref q189, .ref q197, .ref q205, .ref q213, .ref q221])) ++ [(q7, aZ k 36), (q15, aZ k 6), (q23, aZ k 6), (q31, aI k 6), (q39, aI k 6), (q46, aJ k 4), (q53, aJ k 4), (q61, aI k 6), (q69, aI k 12), (q77, aI k 96), (q85, aI k 6), (q93, aI k 12), (q101, aI k 96), (q109, aI k 12), (q117, aI k 48), (q125, aI k 48), (q133, aI k 48), (q141, aI k 6), (q149, aI k 6), (q157, aI k 72), (q165, aI k 6), (q173, aI k 18), (q181, aI k 6), (q189, aI k 6), (q197, aI k 6), (q205, aI k 6), (q213, aI k 6), (q221, aI k 6)])) (wt_put _ _ _ hp) ?_
  refine jw_aload_n (pc := 251) hX d_M_init_251 rfl ?_
  refine w_M_inb hX y rfl ?_
  refine jw_putF (pc := 275) (ty := .int) hX hK hin2 p tp_M uw_M tp_M_ok nm_M tc_M (wt_get _ _ hp) rfl 1 (by decide) kw_502 rfl (by decide +kernel) rfl rfl rfl d_M_init_275 ?_
  refine jw_ws (w2 := (w0.set p (a, .inr (6, [.int (nI (kcp x 2 6)), .int (nI (kcp y 8 24)), .int 0, .int 0, .int 0, .ref q7, .ref q15, .ref q23, .ref q31, .ref q39, .ref q46, .ref q53, .int 0, .ref q61, .ref q69, .ref q77, .ref q85, .ref q93, .ref q101, .ref q109, .ref q117, .ref q125, .ref q133, .ref q141, .ref q149, .ref q157, .ref q165, .ref q173, .ref q181, .ref q189, .ref q197, .ref q205, .ref q213, .ref q221])) ++ [(q7, aZ k 36), (q15, aZ k 6), (q23, aZ k 6), (q31, aI k 6), (q39, aI k 6), (q46, aJ k 4), (q53, aJ k 4), (q61, aI k 6), (q69, aI k 12), (q77, aI k 96), (q85, aI k 6), (q93, aI k 12), (q101, aI k 96), (q109, aI k 12), (q117, aI k 48), (q125, aI k 48), (q133, aI k 48), (q141, aI k 6), (q149, aI k 6), (q157, aI k 72), (q165, aI k 6), (q173, aI k 18), (q181, aI k 6), (q189, aI k 6), (q197, aI k 6), (q205, aI k 6), (q213, aI k 6), (q221, aI k 6)])) (wt_put _ _ _ hp) ?_
  refine jw_aload_n (pc := 278) hX d_M_init_278 rfl ?_
  refine w_M_inc hX z rfl ?_
  refine jw_putF (pc := 298) (ty := .int) hX hK hin2 p tp_M uw_M tp_M_ok nm_M tc_M (wt_get _ _ hp) rfl 2 (by decide) kw_503 rfl (by decide +kernel) rfl rfl rfl d_M_init_298 ?_
  refine jw_ws (w2 := (w0.set p (a, .inr (6, [.int (nI (kcp x 2 6)), .int (nI (kcp y 8 24)), .int (nI (kcp z 1 4)), .int 0, .int 0, .ref q7, .ref q15, .ref q23, .ref q31, .ref q39, .ref q46, .ref q53, .int 0, .ref q61, .ref q69, .ref q77, .ref q85, .ref q93, .ref q101, .ref q109, .ref q117, .ref q125, .ref q133, .ref q141, .ref q149, .ref q157, .ref q165, .ref q173, .ref q181, .ref q189, .ref q197, .ref q205, .ref q213, .ref q221])) ++ [(q7, aZ k 36), (q15, aZ k 6), (q23, aZ k 6), (q31, aI k 6), (q39, aI k 6), (q46, aJ k 4), (q53, aJ k 4), (q61, aI k 6), (q69, aI k 12), (q77, aI k 96), (q85, aI k 6), (q93, aI k 12), (q101, aI k 96), (q109, aI k 12), (q117, aI k 48), (q125, aI k 48), (q133, aI k 48), (q141, aI k 6), (q149, aI k 6), (q157, aI k 72), (q165, aI k 6), (q173, aI k 18), (q181, aI k 6), (q189, aI k 6), (q197, aI k 6), (q205, aI k 6), (q213, aI k 6), (q221, aI k 6)])) (wt_put _ _ _ hp) ?_
  refine jw_aload_n (pc := 301) hX d_M_init_301 rfl ?_
  refine jw_get (pc := 302) hX hK p uw_M tc_M (wt_get _ _ hp) rfl 6 (by decide) kw_507 rfl d_M_init_302 ?_
  refine jw_iconst (pc := 305) (v := nI 0) hX d_M_init_305 (by decide) ?_
  refine jw_iconst (pc := 306) (v := nI 1) hX d_M_init_306 (by decide) ?_
  refine jw_sZ (pc := 307) hX hK (w0.length + 1) 0 (wt_at _ _ _ _ _) rfl (by (try dsimp only); omega) (by (try dsimp only); omega) (by decide) d_M_init_307 ?_
  refine jw_ws (w2 := (w0.set p (a, .inr (6, [.int (nI (kcp x 2 6)), .int (nI (kcp y 8 24)), .int (nI (kcp z 1 4)), .int 0, .int 0, .ref q7, .ref q15, .ref q23, .ref q31, .ref q39, .ref q46, .ref q53, .int 0, .ref q61, .ref q69, .ref q77, .ref q85, .ref q93, .ref q101, .ref q109, .ref q117, .ref q125, .ref q133, .ref q141, .ref q149, .ref q157, .ref q165, .ref q173, .ref q181, .ref q189, .ref q197, .ref q205, .ref q213, .ref q221])) ++ [(q7, aZ k 36), (q15, .inl (k 0, 6, .inl (upd (fun _ => 0) 0 (nI 1)))), (q23, aZ k 6), (q31, aI k 6), (q39, aI k 6), (q46, aJ k 4), (q53, aJ k 4), (q61, aI k 6), (q69, aI k 12), (q77, aI k 96), (q85, aI k 6), (q93, aI k 12), (q101, aI k 96), (q109, aI k 12), (q117, aI k 48), (q125, aI k 48), (q133, aI k 48), (q141, aI k 6), (q149, aI k 6), (q157, aI k 72), (q165, aI k 6), (q173, aI k 18), (q181, aI k 6), (q189, aI k 6), (q197, aI k 6), (q205, aI k 6), (q213, aI k 6), (q221, aI k 6)])) (by rw [wt_set]; rfl) ?_
  refine jw_aload_n (pc := 308) hX d_M_init_308 rfl ?_
  refine jw_get (pc := 309) hX hK p uw_M tc_M (wt_get _ _ hp) rfl 7 (by decide) kw_508 rfl d_M_init_309 ?_
  refine jw_iconst (pc := 312) (v := nI 0) hX d_M_init_312 (by decide) ?_
  refine jw_iconst (pc := 313) (v := nI 1) hX d_M_init_313 (by decide) ?_
  refine jw_sZ (pc := 314) hX hK (w0.length + 2) 0 (wt_at _ _ _ _ _) rfl (by (try dsimp only); omega) (by (try dsimp only); omega) (by decide) d_M_init_314 ?_
  refine jw_ws (w2 := (w0.set p (a, .inr (6, [.int (nI (kcp x 2 6)), .int (nI (kcp y 8 24)), .int (nI (kcp z 1 4)), .int 0, .int 0, .ref q7, .ref q15, .ref q23, .ref q31, .ref q39, .ref q46, .ref q53, .int 0, .ref q61, .ref q69, .ref q77, .ref q85, .ref q93, .ref q101, .ref q109, .ref q117, .ref q125, .ref q133, .ref q141, .ref q149, .ref q157, .ref q165, .ref q173, .ref q181, .ref q189, .ref q197, .ref q205, .ref q213, .ref q221])) ++ [(q7, aZ k 36), (q15, .inl (k 0, 6, .inl (upd (fun _ => 0) 0 (nI 1)))), (q23, .inl (k 0, 6, .inl (upd (fun _ => 0) 0 (nI 1)))), (q31, aI k 6), (q39, aI k 6), (q46, aJ k 4), (q53, aJ k 4), (q61, aI k 6), (q69, aI k 12), (q77, aI k 96), (q85, aI k 6), (q93, aI k 12), (q101, aI k 96), (q109, aI k 12), (q117, aI k 48), (q125, aI k 48), (q133, aI k 48), (q141, aI k 6), (q149, aI k 6), (q157, aI k 72), (q165, aI k 6), (q173, aI k 18), (q181, aI k 6), (q189, aI k 6), (q197, aI k 6), (q205, aI k 6), (q213, aI k 6), (q221, aI k 6)])) (by rw [wt_set]; rfl) ?_
  refine jw_iconst (pc := 315) (v := nI 0) hX d_M_init_315 (by decide) ?_
  refine jw_istore (pc := 316) (l2 := [(0, _), (1, _), (2, _), (3, _), (4, _)]) hX d_M_init_316 (by decide) rfl rfl ?_
  refine jw_wid (ce2 := 28) (sl2 := 596) (by omega) (by omega) ?_
  refine jw_ws (w2 := (w0.set p (a, mdE (fun j => [q7, q15, q23, q31, q39, q46, q53, q61, q69, q77, q85, q93, q101, q109, q117, q125, q133, q141, q149, q157, q165, q173, q181, q189, q197, q205, q213, q221].getD j 0) (kcp x 2 6) (kcp y 8 24) (kcp z 1 4)) ++ mdL k (fun j => [q7, q15, q23, q31, q39, q46, q53, q61, q69, q77, q85, q93, q101, q109, q117, q125, q133, q141, q149, q157, q165, q173, q181, q189, q197, q205, q213, q221].getD j 0) 0)) rfl ?_
  exact w_M_inL D k B hX hK w0 p a _ _ _ _ hp x y z ⟨_, rfl⟩ 4 0 (by omega)
