/-! The law: rows for the script and for calls on two objects -/
def cel (L : Nat) (xs : Nat → Int32) (k : Nat) : Int32 := if k < L then xs k else 0
abbrev yy_L : MethodName := ⟨"SlottedMeshLaw", "cell", "([II)I"⟩
def Xt (l : Launch) (b L : Nat) (xs : Nat → Int32) (k : Nat) : Prop := Met l yy_L (wz yy_L b_L_cell 2 (some .int)) (rd 0) (va_Pc [.ref b, .int (nI k)] fun T => va_X b L xs T T.heap) (fun _ st oc t => oc = .returned (some (.int (cel L xs k))) ∧ va_F (fun _ => False) st t) 0 0 (fun _ => False)
theorem va_X_lt {b L : Nat} {xs : Nat → Int32} {U : State} {H : Heap} (h : va_X b L xs U H) : b < H.size := by
  obtain ⟨scr, h1, -⟩ := h
  exact (Array.getElem?_eq_some_iff.mp h1).1
theorem xt_blind {b L : Nat} {xs : Nat → Int32} (as : List Value) : FrameBlind (va_Pc as fun T => va_X b L xs T T.heap) :=
  fun a U g mk q => ⟨q.1, va_X.moved (u := U) (U := U.calling g mk a) (Vm.Alike.refl U.vm) q.2⟩
section LW
variable {X : OX} {A : Nat → Prop} {Q : State → Prop} {Φ : Heap → Prop} {ce sl : Nat} {rm : Room} {cc : ByteArray} {nL : Nat} {own : String} {ret0 : Option FieldType} {loc : List (Nat × Value)} {pc : Nat} {st : List Value} {b L : Nat} {xs : Nat → Int32}
theorem jw_sld (hX : jx X rm cc nL own gz ret0) (hx : va_X b L xs X.2.1.1 X.2.1.1.heap) (hbA : ¬ A b) {i : Nat} (hi : i < L) (hL : L < 2 ^ 31) (hd : decode cc pc = .ok (.iaload, 1)) (k : jw X A Q Φ ce sl loc (pc + 1) (.int (xs i) :: st)) : jw X A Q Φ ce sl loc pc (.int (nI i) :: .ref b :: st) :=
  fun H locs ls h hH hS => va_sld hX.1.1 hX.1.2.1 hx (va_X_lt hx) hbA hS (vp_in_nI hi hL) hd (by rw [nI_clamp (by omega)]; exact k H locs ls h hH hS)
theorem jw_slen (hX : jx X rm cc nL own gz ret0) (hx : va_X b L xs X.2.1.1 X.2.1.1.heap) (hbA : ¬ A b) (hd : decode cc pc = .ok (.arraylength, 1)) (k : jw X A Q Φ ce sl loc (pc + 1) (.int (nI L) :: st)) : jw X A Q Φ ce sl loc pc (.ref b :: st) :=
  fun H locs ls h hH hS => va_slen hX.1.1 hX.1.2.1 hx (va_X_lt hx) hbA hS hd (k H locs ls h hH hS)
theorem jw_i2l (hX : jx X rm cc nL own gz ret0) {x : Int32} (hd : decode cc pc = .ok (.i2l, 1)) (k : jw X A Q Φ ce sl loc (pc + 1) (.long x.toInt64 :: st)) : jw X A Q Φ ce sl loc pc (.int x :: st) :=
  fun H locs ls h hH hS => lv_i2l hX.1.1 hX.1.2.1 hd rfl (k H locs ls h hH hS)
theorem jw_lshl (hX : jx X rm cc nL own gz ret0) {x : Int64} {y : Int32} (hd : decode cc pc = .ok (.lshl, 1)) (k : jw X A Q Φ ce sl loc (pc + 1) (.long (x <<< (y.toInt64 &&& 63)) :: st)) : jw X A Q Φ ce sl loc pc (.int y :: .long x :: st) :=
  fun H locs ls h hH hS => lv_lshl hX.1.1 hX.1.2.1 hd rfl (k H locs ls h hH hS)
theorem jw_lor (hX : jx X rm cc nL own gz ret0) {x y : Int64} (hd : decode cc pc = .ok (.lor, 1)) (k : jw X A Q Φ ce sl loc (pc + 1) (.long (x ||| y) :: st)) : jw X A Q Φ ce sl loc pc (.long y :: .long x :: st) :=
  fun H locs ls h hH hS => lv_lor hX.1.1 hX.1.2.1 hd (k H locs ls h hH hS)
theorem jw_iretX (hX : jx X rm cc nL own gz (some .int)) {v : Int32} (hd : decode cc pc = .ok (.ireturn, 1)) : jw X (fun _ => False) (MQ X.2.1.2.2.2 (fun _ st oc t => oc = .returned (some (.int v)) ∧ va_F (fun _ => False) st t) X.2.1.2.2.1 X.2.1.1 0 0 (fun _ => False)) Φ 0 0 loc pc [.int v] :=
  fun H locs ls h hH hS => W.iret hX.1.1 hX.1.2.1 hX.2.2.1 (fun t ht hW => ⟨rfl, hS.F ht⟩) hS.2.2 hd hX.2.1
theorem c_L_cell (l : Launch) (b L : Nat) (xs : Nat → Int32) (k : Nat) (hL : L < 2 ^ 31) (hk : k < 2 ^ 31) : Xt l b L xs k := by
  refine met_of (cc := b_L_cell) (maxL := 2) (ret := some .int) (by decide +kernel) rfl ?_
  intro p e s m args below meth c s₁ B hml hv
  obtain ⟨rfl, hx⟩ := hv
  have hl := lv_entry [Value.ref b, .int (nI k)] (n := 2) (Nat.le_of_ble_eq_true rfl)
  rw [lg_entry_eq]
  have hown : s.vm.findClass "SlottedMeshLaw" = some m.cls := findClass_of_methodNamed B.named
  obtain ⟨X, hXe⟩ : ∃ X : OX, X = ((p, l, e, rd 0), (s, m, [Value.ref b, .int (nI k)].toArray, below), (meth, c)) := ⟨_, rfl⟩
  have hX : jx X (rd 0) b_L_cell 2 "SlottedMeshLaw" gz (some .int) := by
    subst hXe
    exact ⟨⟨B.exec, B.bytes, hml, hown, fun w hw => atoms_spec (ws := wz yy_L b_L_cell 2 (some .int)) B.pre w (List.mem_cons_of_mem _ hw)⟩, B.notSynchronized, B.returns, rfl⟩
  have hx2 : va_X b L xs X.2.1.1 X.2.1.1.heap := by subst hXe; exact hx
  have key : jw X (fun _ => False) (MQ X.2.1.2.2.2 (fun _ st oc t => oc = .returned (some (.int (cel L xs k))) ∧ va_F (fun _ => False) st t) X.2.1.2.2.1 X.2.1.1 0 0 (fun _ => False)) (fun _ => True) 0 0 [(0, .ref b), (1, .int (nI k))] 0 [] := by
    refine jw_iload_n (pc := 0) hX d_L_cell_0 rfl ?_
    refine jw_aload_n (pc := 1) hX d_L_cell_1 rfl ?_
    refine jw_slen (pc := 2) hX hx2 (fun h => h) d_L_cell_2 ?_
    refine jw_nc_ge (pc := 3) (tgt := 12) hX d_L_cell_3 (by decide) hk hL (fun h => ?_) (fun h => ?_)
    · refine jw_iconst (pc := 12) (v := cel L xs k) hX d_L_cell_12 (by unfold cel; rw [if_neg (by omega)]; decide) ?_
      exact jw_iretX (pc := 13) hX d_L_cell_13
    · refine jw_aload_n (pc := 6) hX d_L_cell_6 rfl ?_
      refine jw_iload_n (pc := 7) hX d_L_cell_7 rfl ?_
      refine jw_sld (pc := 8) hX hx2 (fun h => h) h hL d_L_cell_8 ?_
      refine jw_goto (pc := 9) (tgt := 13) hX d_L_cell_9 (by decide) ?_
      refine jw_val (y := cel L xs k) (by unfold cel; rw [if_pos h]) ?_
      exact jw_iretX (pc := 13) hX d_L_cell_13
  subst hXe
  exact key s.heap [] _ (by rw [hml]; exact hl) trivial va_S.rf
theorem jw_xcell (hX : jx X rm cc nL own gz ret0) (hx : va_X b L xs X.2.1.1 X.2.1.1.heap) (hbA : ¬ A b) {i index : Nat} (hL : L < 2 ^ 31) (hk : i < 2 ^ 31) (hl : Cond.methodLink own index yy_L ∈ gz) (hR : 0 + 1 ≤ rm.frames ∧ 8 + (2 + 11) + 0 ≤ rm.locals) (hc : ce ≤ rm.cells ∧ sl ≤ rm.slots) (hst : (st.map fun v => v.category).sum ≤ 8) (hd : decode cc pc = .ok (.invokestatic index, 3)) (hΦ : ∀ H H' : Heap, Φ H → (∀ q, q < H.size → H'[q]? = H[q]?) → Φ H')
    (k : jw X A Q Φ ce sl loc (pc + 3) (.int (cel L xs i) :: st)) : jw X A Q Φ ce sl loc pc (.int (nI i) :: .ref b :: st) := by
  intro H locs ls h hH hS
  have hr : va_Run X.1.1 X.1.2.1 X.1.2.2.1 X.1.2.2.2 X.2.1.1 X.2.1.2.1 X.2.1.2.2.1 X.2.1.2.2.2 X.2.2.1 X.2.2.2 H locs ce sl 0 0 (F0 X.2.1.2.1 pc ls (.int (nI i) :: .ref b :: st)) st ((fun _ st oc t => oc = .returned (some (.int (cel L xs i))) ∧ va_F (fun _ => False) st t : Array Value → State → Outcome → State → Prop) [Value.ref b, .int (nI i)].toArray) (fun _ => False) := va_runS hX.1 (c_L_cell X.1.2.1 b L xs i hL hk) ⟨callB_of 2 hX.1.2.2.2.2 (gw_code kw_493) rfl rfl rfl (hX.1.2.2.2.2 _ kw_0) (hX.1.2.2.2.2 _ hl) (by decide +kernel) (by rw [hX.2.2.2]; exact hR), hX.1.2.2.2.2 _ kw_492⟩ ⟨xt_blind _, fun U hU hW => ⟨rfl, by show va_X b L xs U U.heap; rw [hU]; exact va_X.moved hW.alike (va_X.kept hx (hS.2.1 b (va_X_lt hx) hbA))⟩⟩ rfl rfl (h.1.trans hX.1.2.2.1) rfl (lv_room hst) hd (by rw [hX.2.2.2]; exact hc)
  intro T hT X0
  obtain ⟨v, st₀, t, T', L2, h0, X', hL2, e1, e2, ⟨hv, hz, hkp⟩, hgo⟩ := hr T hT X0
  cases hv
  rw [h0] at hz hkp
  obtain ⟨t2, a1, b1⟩ := k T'.heap (locs ++ L2) ls h (by rw [e1]; exact hΦ H _ hH (fun q hq => hkp q hq (fun z => z))) ⟨Nat.le_trans hS.1 (by rw [e1]; exact hz), fun q h1 h2 => by rw [e1, hkp q (Nat.lt_of_lt_of_le h1 hS.1) (fun z => z)]; exact hS.2.1 q h1 h2, fun q hq => by
    rcases List.mem_append.mp hq with h | h
    · exact hS.2.2 q h
    · exact (hL2 q h).elim⟩ T' rfl X'
  exact ⟨t2, hgo t2 a1, b1⟩
theorem pv_kept {V : PV} {u : UU} {H H' : Heap} (h : pv_H V u H) (hk : ∀ q, q < H.size → pv_A V q → H'[q]? = H[q]?) : pv_H V u H' := by
  obtain ⟨σ, h1, hP, hD⟩ := h
  exact ⟨σ, h1, hP.kept (fun k q hq => hk q.1 (hP k q hq).lt (hD.2 k q hq)), hD⟩
abbrev P2 (V1 V2 : PV) (u w : UU) : Heap → Prop := fun H => pv_H V1 u H ∧ pv_H V2 w H
variable {V : PV} {Ψ : Heap → Prop} {y : MethodName} {bytes : ByteArray} {maxL n index : Nat} {ret1 : Option FieldType} {rm1 : Room} {As rest : List Value} {r1 : Option Value} {u u1 : UU}
theorem jw_cV (hX : jx X rm cc nL own gz ret0) (hK : pv_K V X.2.1.1) (hV : pv_ok V) (hA : ∀ q, pv_A V q → A q) {ci N : Nat} {C : String} {T : u_T} {ts : List (Nat × Nat)} (hk : kd V gz 0 ci N C T ts) (hi : 0 < pv_bd V 0) (hM : Ct X.1.2.1 V y (wz y bytes maxL ret1) rm1 (.ref (pv_ad V 0 0) :: As) u r1 u1) (hs : mv C y bytes maxL ret1 n) (hl : Cond.methodLink own index y ∈ gz) (hz : rm1.cells = 0 ∧ rm1.slots = 0) (hR : rm1.frames + 1 ≤ rm.frames ∧ 8 + (maxL + 11) + rm1.locals ≤ rm.locals) (hc : ce ≤ rm.cells ∧ sl ≤ rm.slots) (hn : As.length = n) (hst : (rest.map fun v => v.category).sum ≤ 8) (hd : decode cc pc = .ok (.invokevirtual index, 3)) (he : st = As.reverse ++ .ref (pv_ad V 0 0) :: rest) (hΦ : ∀ H, Φ H → pv_H V u H)
    (hΨ : ∀ H H', Φ H → pv_H V u1 H' → (∀ q, q < H.size → ¬ pv_A V q → H'[q]? = H[q]?) → Ψ H')
    (k : jw X A Q Ψ ce sl loc (pc + 3) (r1.toList ++ rest)) : jw X A Q Φ ce sl loc pc st := by
  intro H locs ls h hH hS
  subst he
  have hXo : ox X V rm cc nL own gz ret0 := ⟨hX.1, hK, hV, hX.2.1, hX.2.2.1, hX.2.2.2⟩
  exact jw_cback (av := (Value.ref (pv_ad V 0 0) :: As).toArray) h hS hA (va_runV hX.1 hM (cw_V hXo hs hl hz hR) ⟨ow_blind _, ow_recv hXo hk hi (hΦ H hH), fun U hU hW => ⟨rfl, by rw [hU]; exact hΦ H hH, hK.moved hW⟩⟩ rfl hn (h.1.trans hX.1.2.2.1) rfl (lv_room hst) hd (by rw [hX.2.2.2]; exact hc)) (fun H' h1 _ h3 => hΨ H H' hH h1 h3) k
end LW
/-- what holds all along the law's walk -/
def LX (X : OX) (A : Nat → Prop) (b L : Nat) (xs : Nat → Int32) (V1 V2 : PV) : Prop := jx X room_1 b_L_law 4 "SlottedMeshLaw" gz (some .boolean) ∧ va_X b L xs X.2.1.1 X.2.1.1.heap ∧ ¬ A b ∧ L < 2 ^ 31 ∧ (pv_K V1 X.2.1.1 ∧ pv_K V2 X.2.1.1) ∧ ((∀ q, pv_A V1 q → A q) ∧ ∀ q, pv_A V2 q → A q) ∧ (∀ q, pv_A V2 q → ¬ pv_A V1 q) ∧ pv_ok V1 ∧ pv_ok V2
section LC
variable {X : OX} {A : Nat → Prop} {Q : State → Prop} {ce sl : Nat} {loc : List (Nat × Value)} {pc : Nat} {st : List Value} {b L : Nat} {xs : Nat → Int32} {Y1 Y2 : YY} {m s c : Nat} {y : MethodName} {bytes : ByteArray} {maxL n index : Nat} {ret1 : Option FieldType} {d : Nat} {As rest : List Value} {r1 : Option Value} {u u1 w w1 : UU}
theorem jw_c1 (h : LX X A b L xs (vC Y1 m s c) (vM Y2 m s c)) (hM : Ct X.1.2.1 (vC Y1 m s c) y (wz y bytes maxL ret1) (rd d) (.ref (pv_ad (vC Y1 m s c) 0 0) :: As) u r1 u1) (hs : mv "SlottedMesh" y bytes maxL ret1 n) (hl : Cond.methodLink "SlottedMeshLaw" index y ∈ gz) (hR : d + 1 ≤ room_1.frames ∧ 8 + (maxL + 11) + 40 * d ≤ room_1.locals) (hc : ce ≤ room_1.cells ∧ sl ≤ room_1.slots) (hn : As.length = n) (hst : (rest.map fun v => v.category).sum ≤ 8) (hd : decode b_L_law pc = .ok (.invokevirtual index, 3)) (he : st = As.reverse ++ .ref (pv_ad (vC Y1 m s c) 0 0) :: rest)
    (k : jw X A Q (P2 (vC Y1 m s c) (vM Y2 m s c) u1 w) ce sl loc (pc + 3) (r1.toList ++ rest)) : jw X A Q (P2 (vC Y1 m s c) (vM Y2 m s c) u w) ce sl loc pc st :=
  jw_cV h.1 h.2.2.2.2.1.1 h.2.2.2.2.2.2.2.1 h.2.2.2.2.2.1.1 (kd_S Y1 m s c) Nat.zero_lt_one hM hs hl ⟨rfl, rfl⟩ hR hc hn hst hd he (fun H q => q.1) (fun H H' q1 q2 q3 => ⟨q2, pv_kept q1.2 (fun q hq hq2 => q3 q hq (h.2.2.2.2.2.2.1 q hq2))⟩) k
theorem jw_c2 (h : LX X A b L xs (vC Y1 m s c) (vM Y2 m s c)) (hM : Ct X.1.2.1 (vM Y2 m s c) y (wz y bytes maxL ret1) (rd d) (.ref (pv_ad (vM Y2 m s c) 0 0) :: As) w r1 w1) (hs : mv "SlottedMeshModel" y bytes maxL ret1 n) (hl : Cond.methodLink "SlottedMeshLaw" index y ∈ gz) (hR : d + 1 ≤ room_1.frames ∧ 8 + (maxL + 11) + 40 * d ≤ room_1.locals) (hc : ce ≤ room_1.cells ∧ sl ≤ room_1.slots) (hn : As.length = n) (hst : (rest.map fun v => v.category).sum ≤ 8) (hd : decode b_L_law pc = .ok (.invokevirtual index, 3)) (he : st = As.reverse ++ .ref (pv_ad (vM Y2 m s c) 0 0) :: rest)
    (k : jw X A Q (P2 (vC Y1 m s c) (vM Y2 m s c) u w1) ce sl loc (pc + 3) (r1.toList ++ rest)) : jw X A Q (P2 (vC Y1 m s c) (vM Y2 m s c) u w) ce sl loc pc st :=
  jw_cV h.1 h.2.2.2.2.1.2 h.2.2.2.2.2.2.2.2 h.2.2.2.2.2.1.2 (kd_M Y2 m s c) Nat.zero_lt_one hM hs hl ⟨rfl, rfl⟩ hR hc hn hst hd he (fun H q => q.2) (fun H H' q1 q2 q3 => ⟨pv_kept q1.1 (fun q hq hq2 => q3 q hq (fun z => h.2.2.2.2.2.2.1 q z hq2)), q2⟩) k
end LC
theorem sim_wf {n s c t : Nat} {u w : UU} (h : Sim n s c t u w) : wf n u := by
  obtain ⟨fa, p, h1, h2, h3, h4, h5, h6, h7⟩ := h
  exact h2
theorem sim_wm {n s c t : Nat} {u w : UU} (h : Sim n s c t u w) : wm n w := by
  obtain ⟨fa, p, h1, h2, h3, h4, h5, h6, h7⟩ := h
  exact h3
theorem sim_r99 {n s c t : Nat} {u w : UU} (h : Sim n s c t u w) : ∀ j, w.1 11 0 j ≤ 99 := by
  obtain ⟨fa, p, h1, h2, h3, h4, h5, h6, h7⟩ := h
  exact h4.1.2.2.2.2.2.2.2.2.1
theorem sim_tim {n s c t : Nat} {u w : UU} (h : Sim n s c t u w) : u.1 0 0 7 ≤ t ∧ w.1 0 0 3 ≤ t := by
  obtain ⟨fa, p, h1, h2, h3, h4, h5, h6, h7⟩ := h
  exact ⟨by rw [h1.tim]; exact h6, h6⟩
