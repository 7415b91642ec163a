/-! Makers: the world is a list of cells that grows at its end -/
abbrev GG : Type := (va_G × List (ClassId × FieldType)) × Nat
abbrev gA (G : GG) : Nat → Prop := fun q => G.2 ≤ q
def gH (G : GG) (ws : va_W) (H : Heap) : Prop := va_P G.1.1 vCl ws H ∧ va_D (gA G) ws
abbrev yy_F : MethodName := ⟨"SlottedMesh$FrameRow", "<init>", "()V"⟩
abbrev yy_O : MethodName := ⟨"SlottedMesh$Loop", "<init>", "()V"⟩
abbrev yy_H : MethodName := ⟨"SlottedMesh$Channel", "<init>", "()V"⟩
/-- what the tables say -/
def gT (G : GG) (T : State) : Prop := va_K G.1.1 vCl G.1.2 T ∧ (va_Nw (Cond.methodLinkNest "SlottedMesh$Loop" 29 ⟨"SlottedMesh", "nearest", "(III)I"⟩ "SlottedMesh") T ∧ va_Nw (Cond.methodLinkNest "SlottedMesh$Node" 21 yy_F "SlottedMesh") T ∧ va_Nw (Cond.methodLinkNest "SlottedMesh" 35 yy_O "SlottedMesh") T ∧ va_Nw (Cond.methodLinkNest "SlottedMesh" 42 yy_H "SlottedMesh") T) ∧ va_AO "SlottedMesh$Node" T ∧ va_AO "SlottedMesh$Loop" T ∧ va_AO "SlottedMesh$Channel" T
def gK (G : GG) (T : State) : Prop := gT G T ∧ G.2 ≤ T.heap.size
theorem gT.moved {G : GG} {s t : State} (hW : s.WarmedH t.vm) (h : gT G s) : gT G t := ⟨va_K.moved hW.alike h.1, ⟨va_Nw.warmM hW h.2.1.1, va_Nw.warmM hW h.2.1.2.1, va_Nw.warmM hW h.2.1.2.2.1, va_Nw.warmM hW h.2.1.2.2.2⟩, va_AO.moved hW.alike h.2.2.1, va_AO.moved hW.alike h.2.2.2.1, va_AO.moved hW.alike h.2.2.2.2⟩
theorem gT.calling {G : GG} {U : State} {g : JFrame} {mk : MethodId} {a : Array Value} (h : gT G U) : gT G (U.calling g mk a) := ⟨va_K.moved (u := U) (U := U.calling g mk a) (Vm.Alike.refl U.vm) h.1, ⟨va_Nw.same rfl rfl h.2.1.1, va_Nw.same rfl rfl h.2.1.2.1, va_Nw.same rfl rfl h.2.1.2.2.1, va_Nw.same rfl rfl h.2.1.2.2.2⟩, va_AO.moved (u := U) (U := U.calling g mk a) (Vm.Alike.refl U.vm) h.2.2.1, va_AO.moved (u := U) (U := U.calling g mk a) (Vm.Alike.refl U.vm) h.2.2.2.1, va_AO.moved (u := U) (U := U.calling g mk a) (Vm.Alike.refl U.vm) h.2.2.2.2⟩
theorem ra_un {U : State} {a b : ClassId} {ty : FieldType} (h1 : va_RA U a ty) (h2 : va_RA U b ty) : a = b := by
  cases ty with
  | object C =>
    obtain ⟨_, _, -, -, -, h1⟩ := h1
    obtain ⟨_, _, -, -, -, h2⟩ := h2
    exact Option.some.inj (h1.symm.trans h2)
  | _ => exact Option.some.inj ((show U.vm.findClass _ = some a from h1).symm.trans (show U.vm.findClass _ = some b from h2))
/-- a maker's contract: the world ws grows to one that P holds of; it returns nothing -/
def Kt (l : Launch) (G : GG) (y : MethodName) (cc : ByteArray) (nL : Nat) (rm : Room) (as : List Value) (ws : va_W) (P : va_W → Prop) : Prop :=
  Met l y (wz y cc nL none) rm (va_Pc as fun T => gH G ws T.heap ∧ gK G T) (fun _ st oc t => (oc = .returned none ∧ ∃ ws', P ws' ∧ gH G ws' t.heap) ∧ va_F (gA G) st t) rm.cells rm.slots (gA G)
theorem kt_mk {l : Launch} {G : GG} {y : MethodName} {cc : ByteArray} {nL : Nat} {rm : Room} {as : List Value} {ws : va_W} {P : va_W → Prop} (hy : plainFor y = true) (hn : (lg_sl as).length ≤ nL)
    (walk : ∀ X : OX, jx X rm cc nL y.cls gz none → gK G X.2.1.1 → X.2.2.1.name = y.name → jw X (gA G) (MQ X.2.1.2.2.2 (fun _ st oc t => (oc = .returned none ∧ ∃ ws', P ws' ∧ gH G ws' t.heap) ∧ va_F (gA G) st t) X.2.1.2.2.1 X.2.1.1 rm.cells rm.slots (gA G)) (gH G ws) 0 0 (lv_args 0 as) 0 []) : Kt l G y cc nL rm as ws P := by
  refine met_of (cc := cc) (maxL := nL) (ret := none) hy rfl ?_
  intro p e s m args below meth c s₁ B hml hv
  obtain ⟨rfl, hH, hK⟩ := hv
  have hl := lv_entry as (n := nL) hn
  rw [lg_entry_eq]
  have hown : s.vm.findClass y.cls = some m.cls := findClass_of_methodNamed B.named
  have hnm : meth.name = y.name := (name_of_methodNamed B.named B.method).1
  exact walk ((p, l, e, rm), (s, m, as.toArray, below), (meth, c)) ⟨⟨B.exec, B.bytes, hml, hown, fun w hw => atoms_spec (ws := wz y cc nL none) B.pre w (List.mem_cons_of_mem _ hw)⟩, B.notSynchronized, B.returns, rfl⟩ hK hnm s.heap [] _ (by rw [hml]; exact hl) hH va_S.rf
section JG
variable {X : OX} {G : GG} {Q : State → Prop} {ce sl : Nat} {rm : Room} {cc : ByteArray} {nL : Nat} {own : String} {ret : Option FieldType} {loc : List (Nat × Value)} {pc : Nat} {st : List Value} {ws : va_W}
theorem jw_ws {w2 : va_W} (h : ws = w2) (k : jw X (gA G) Q (gH G w2) ce sl loc pc st) : jw X (gA G) Q (gH G ws) ce sl loc pc st := h ▸ k
theorem jw_vret (hX : jx X rm cc nL own gz none) (hc : ce ≤ rm.cells) (hs : sl ≤ rm.slots) {P : va_W → Prop} (hd : decode cc pc = .ok (.return_, 1)) (hP : P ws) :
    jw X (gA G) (MQ X.2.1.2.2.2 (fun _ st oc t => (oc = .returned none ∧ ∃ ws', P ws' ∧ gH G ws' t.heap) ∧ va_F (gA G) st t) X.2.1.2.2.1 X.2.1.1 rm.cells rm.slots (gA G)) (gH G ws) ce sl loc pc [] := by
  intro H locs ls h hH hS
  refine W.widen (k := rm.cells) (n := rm.slots) hc hs ?_
  exact W.vret hX.1.1 hX.1.2.1 hX.2.2.1 (fun t ht hW => ⟨⟨rfl, ws, hP, by rw [ht]; exact hH⟩, hS.F ht⟩) hS.2.2 hd hX.2.1
theorem jw_newa (hX : jx X rm cc nL own gz ret) (hK : gK G X.2.1.1) {atype : ArrayType} {ty : FieldType} {t0 n : Nat} {cA : ClassId} (a0 : vp_A) (ht : G.1.2[t0]? = some (cA, ty)) (hty : newarray.typeOf atype = ty) (harr : Cond.arrayClass (newarray.typeOf atype) ∈ gz) (ha : ∀ cA : ClassId, vp_cell cA a0 = arrV cA n (fun _ => defaultValue ty)) (hn : n ≤ 1000) (hb : componentBytes ty ≤ 8) (hc : ce + 1 ≤ rm.cells) (hs : sl + n ≤ rm.slots) (hd : decode cc pc = .ok (.newarray atype, 2))
    (k : ∀ q : Nat, jw X (gA G) Q (gH G (ws ++ [(q, .inl (cA, a0))])) (ce + 1) (sl + n) loc (pc + 2) (.ref q :: st)) : jw X (gA G) Q (gH G ws) ce sl loc pc (.int (nI n) :: st) := by
  intro H locs ls h hH hS
  refine va_newa hX.1.1 hX.1.2.1 (hX.1.2.2.2.2 _ harr) hty hK.1.1 hH.1 hH.2 hS (fun q hq => Nat.le_trans hK.2 hq) ha (nI_pos (by omega)) (nI_clamp (by omega)) ?_ (by rw [hX.2.2.2]; exact hc) (by rw [hX.2.2.2]; exact hs) hd ?_
  · exact Nat.le_trans (Nat.mul_le_mul hn hb) (by decide)
  · intro q cB H1 hK1 hP1 hD1 hS1
    have e : cB = cA := by
      have h1 := (hK1.2 G.1.2.length (cB, ty) (by simp)).2
      exact ra_un h1 (hK.1.1.2 t0 _ ht).2
    subst e
    exact k q H1 locs ls h ⟨hP1, hD1⟩ hS1
theorem jw_newq (hX : jx X rm cc nL own gz ret) (hK : gK G X.2.1.1) {C : String} {t0 n index : Nat} {cA : ClassId} (ht : G.1.2[t0]? = some (cA, .object C)) (hl : Cond.classLink own index C ∈ gz) (ho : va_AO C X.2.1.1) (hn : n ≤ 1000) (hc : ce + 1 ≤ rm.cells) (hs : sl + n ≤ rm.slots) (hd : decode cc pc = .ok (.anewarray index, 3))
    (k : ∀ q : Nat, jw X (gA G) Q (gH G (ws ++ [(q, .inl (cA, n, .inr (.inr (.inr (.inr (fun _ => none))))))])) (ce + 1) (sl + n) loc (pc + 3) (.ref q :: st)) : jw X (gA G) Q (gH G ws) ce sl loc pc (.int (nI n) :: st) := by
  intro H locs ls h hH hS
  refine va_newq hX.1.1 hX.1.2.1 hX.1.2.2.2.1 (hX.1.2.2.2.2 _ hl) ho hK.1.1 hH.1 hH.2 hS (fun q hq => Nat.le_trans hK.2 hq) (nI_pos (by omega)) (nI_clamp (by omega)) (by omega) (by rw [hX.2.2.2]; exact hc) (by rw [hX.2.2.2]; exact hs) hd ?_
  intro q cB H1 hK1 hP1 hD1 hS1
  have e : cB = cA := by
    have h1 := (hK1.2 G.1.2.length (cB, .object C) (by simp)).2
    exact ra_un h1 (hK.1.1.2 t0 _ ht).2
  subst e
  exact k q H1 locs ls h ⟨hP1, hD1⟩ hS1
theorem jw_new (hX : jx X rm cc nL own gz ret) (hK : gK G X.2.1.1) {C : String} {T : u_T} {N ci index : Nat} (fs : List Value) (ty : Nat → FieldType) (hin : ∀ w ∈ u_ws C T N, w ∈ gz) (hty : ∀ k, k < N → parseFieldDescriptor (T k).2.2.1 = some (ty k)) (hl : Cond.classLink own index C ∈ gz) (hi : Cond.instantiable C N ∈ gz) (hini : Cond.initialized C ∈ gz) (hcl : vCl[ci]? = some (C, T, N)) (hfs : ∀ j, j < N → defaultValue (ty j) = vp_V fs j) (hc : ce + 1 ≤ rm.cells) (hs : sl + N ≤ rm.slots) (hd : decode cc pc = .ok (.new index, 3))
    (k : ∀ q : Nat, jw X (gA G) Q (gH G (ws ++ [(q, .inr (ci, fs))])) (ce + 1) (sl + N) loc (pc + 3) (.ref q :: st)) : jw X (gA G) Q (gH G ws) ce sl loc pc st := by
  intro H locs ls h hH hS
  refine va_new hX.1.1 hX.1.2.1 hX.1.2.2.2.2 hin ty hty hX.1.2.2.2.1 (hX.1.2.2.2.2 _ hl) (hX.1.2.2.2.2 _ hi) (hX.1.2.2.2.2 _ hini) hK.1.1 hH.1 hH.2 hS (fun q hq => Nat.le_trans hK.2 hq) hcl hfs (by rw [hX.2.2.2]; exact hc) (by rw [hX.2.2.2]; exact hs) hd ?_
  exact fun q H1 hP1 hD1 hS1 => k q H1 locs ls h ⟨hP1, hD1⟩ hS1
theorem jw_get (hX : jx X rm cc nL own gz ret) (hK : gK G X.2.1.1) {T : u_T} {N ci index a : Nat} {C : String} (q0 : Nat) {fs : List Value} (hin : ∀ w ∈ u_ws C T N, w ∈ gz) (htc : ∀ k, k < N → (T k).1 = C) (he : ws[q0]? = some (a, .inr (ci, fs))) (hcl : vCl[ci]? = some (C, T, N)) (j : Nat) (hj : j < N) (hl : Cond.fieldLink own index C (T j).2.1 (T j).2.2.1 ∈ gz) {v : Value} (hv : fs[j]? = some v) (hd : decode cc pc = .ok (.getfield index, 3))
    (k : jw X (gA G) Q (gH G ws) ce sl loc (pc + 3) (v :: st)) : jw X (gA G) Q (gH G ws) ce sl loc pc (.ref a :: st) := by
  intro H locs ls h hH hS
  exact va_get hX.1.1 hX.1.2.1 hX.1.2.2.2.2 hin hX.1.2.2.2.1 hK.1.1 hH.1 q0 he hcl j hj (hX.1.2.2.2.2 _ hl) (fun x hx => by rw [htc j hj] at hx; exact hx) hv hd (k H locs ls h hH hS)
theorem jw_put (hX : jx X rm cc nL own gz ret) (hK : gK G X.2.1.1) {T : u_T} {N ci index a : Nat} {C : String} (q0 : Nat) {fs : List Value} (ty0 : Nat → FieldType) (hin : ∀ w ∈ u_ws C T N, w ∈ gz) (hty : ∀ k, k < N → parseFieldDescriptor (T k).2.2.1 = some (ty0 k)) (hnm : ∀ a, a < N → ∀ b, b < N → a ≠ b → (T a).2.1 ≠ (T b).2.1) (htc : ∀ k, k < N → (T k).1 = C) (he : ws[q0]? = some (a, .inr (ci, fs))) (hcl : vCl[ci]? = some (C, T, N)) (j : Nat) (hj : j < N) (hl : Cond.fieldLink own index C (T j).2.1 (T j).2.2.1 ∈ gz) (hfin : (T j).2.2.2 = false) {ty : FieldType} {v : Value} (hp : parseFieldDescriptor (T j).2.2.1 = some ty) (hn : narrow ty v = v) (hfit : fits ty v = true) (hlen : fs.length = N) (hd : decode cc pc = .ok (.putfield index, 3))
    (k : jw X (gA G) Q (gH G (ws.set q0 (a, .inr (ci, fs.set j v)))) ce sl loc (pc + 3) st) : jw X (gA G) Q (gH G ws) ce sl loc pc (v :: .ref a :: st) := by
  intro H locs ls h hH hS
  exact va_put hX.1.1 hX.1.2.1 hX.1.2.2.2.2 hin ty0 hty hnm hX.1.2.2.2.1 hK.1.1 hH.1 hH.2 hS q0 he hcl j hj (hX.1.2.2.2.2 _ hl) (fun x hx => by rw [htc j hj] at hx; exact hx) hfin hp hn hfit (by omega) hd (fun H1 locs1 hP1 hD1 hS1 => k H1 locs1 ls h ⟨hP1, hD1⟩ hS1)
theorem jw_putF (hX : jx X rm cc nL own gz ret) (hK : gK G X.2.1.1) (hin2 : X.2.2.1.name = "<init>") {T : u_T} {N ci index a : Nat} (q0 : Nat) {fs : List Value} (ty0 : Nat → FieldType) (hin : ∀ w ∈ u_ws own T N, w ∈ gz) (hty : ∀ k, k < N → parseFieldDescriptor (T k).2.2.1 = some (ty0 k)) (hnm : ∀ a, a < N → ∀ b, b < N → a ≠ b → (T a).2.1 ≠ (T b).2.1) (htc : ∀ k, k < N → (T k).1 = own) (he : ws[q0]? = some (a, .inr (ci, fs))) (hcl : vCl[ci]? = some (own, T, N)) (j : Nat) (hj : j < N) (hl : Cond.fieldLink own index own (T j).2.1 (T j).2.2.1 ∈ gz) (hfin : (T j).2.2.2 = true) {ty : FieldType} {v : Value} (hp : parseFieldDescriptor (T j).2.2.1 = some ty) (hn : narrow ty v = v) (hfit : fits ty v = true) (hlen : fs.length = N) (hd : decode cc pc = .ok (.putfield index, 3))
    (k : jw X (gA G) Q (gH G (ws.set q0 (a, .inr (ci, fs.set j v)))) ce sl loc (pc + 3) st) : jw X (gA G) Q (gH G ws) ce sl loc pc (v :: .ref a :: st) := by
  intro H locs ls h hH hS
  exact va_putF hX.1.1 hX.1.2.1 hX.1.2.2.2.2 hin ty0 hty hnm hX.1.2.2.2.1 hK.1.1 hH.1 hH.2 hS q0 he hcl j hj (hX.1.2.2.2.2 _ hl) (fun x hx => by rw [htc j hj] at hx; exact hx) hfin hin2 (htc j hj) hp hn hfit (by omega) hd (fun H1 locs1 hP1 hD1 hS1 => k H1 locs1 ls h ⟨hP1, hD1⟩ hS1)
theorem jw_astq (hX : jx X rm cc nL own gz ret) (hK : gK G X.2.1.1) (q0 t0 qk ci : Nat) {a n v j : Nat} {cA : ClassId} {r : vw_C} {vs : List Value} {f : Nat → Option Nat} (ha : ws[q0]? = some (a, .inl (cA, n, .inr (.inr (.inr (.inr f)))))) (ht : G.1.2[t0]? = some (cA, .object r.1)) (hv : ws[qk]? = some (v, .inr (ci, vs))) (hcl : vCl[ci]? = some r) (hj : j < n) (hn : n < 2 ^ 31) (hd : decode cc pc = .ok (.aastore, 1))
    (k : jw X (gA G) Q (gH G (ws.set q0 (a, .inl (cA, n, .inr (.inr (.inr (.inr (va_up f j (some v))))))))) ce sl loc (pc + 1) st) : jw X (gA G) Q (gH G ws) ce sl loc pc (.ref v :: .int (nI j) :: .ref a :: st) := by
  intro H locs ls h hH hS
  refine va_astq hX.1.1 hX.1.2.1 hK.1.1 hH.1 hH.2 hS q0 t0 qk ci ha ht hv hcl (vp_in_nI hj hn) hd (fun H1 locs1 hP1 hD1 hS1 => k H1 locs1 ls h ⟨?_, ?_⟩ hS1)
  · rw [nI_clamp (by omega)] at hP1; exact hP1
  · rw [nI_clamp (by omega)] at hD1; exact hD1
theorem jw_sZ (hX : jx X rm cc nL own gz ret) (hK : gK G X.2.1.1) (q0 t0 : Nat) {a n j : Nat} {cA : ClassId} {x : Int32} {f : Nat → Int32} (ha : ws[q0]? = some (a, .inl (cA, n, .inl f))) (ht : G.1.2[t0]? = some (cA, .boolean)) (hj : j < n) (hn : n < 2 ^ 31) (hx : vp_nar .boolean x = x) (hd : decode cc pc = .ok (.bastore, 1))
    (k : jw X (gA G) Q (gH G (ws.set q0 (a, .inl (cA, n, .inl (upd f j x))))) ce sl loc (pc + 1) st) : jw X (gA G) Q (gH G ws) ce sl loc pc (.int x :: .int (nI j) :: .ref a :: st) := by
  intro H locs ls h hH hS
  refine va_zast hX.1.1 hX.1.2.1 hK.1.1 hH.1 hH.2 hS q0 t0 ha ht (vp_in_nI hj hn) hd (fun H1 locs1 hP1 hD1 hS1 => k H1 locs1 ls h ⟨?_, ?_⟩ hS1)
  · rw [nI_clamp (by omega), hx] at hP1; exact hP1
  · rw [nI_clamp (by omega), hx] at hD1; exact hD1
theorem jw_sL (hX : jx X rm cc nL own gz ret) (hK : gK G X.2.1.1) (q0 t0 : Nat) {a n j : Nat} {cA : ClassId} {x : Int64} {f : Nat → Int64} (ha : ws[q0]? = some (a, .inl (cA, n, .inr (.inl f)))) (ht : G.1.2[t0]? = some (cA, .long)) (hj : j < n) (hn : n < 2 ^ 31) (hd : decode cc pc = .ok (.lastore, 1))
    (k : jw X (gA G) Q (gH G (ws.set q0 (a, .inl (cA, n, .inr (.inl (vp_updL f j x)))))) ce sl loc (pc + 1) st) : jw X (gA G) Q (gH G ws) ce sl loc pc (.long x :: .int (nI j) :: .ref a :: st) := by
  intro H locs ls h hH hS
  refine va_last hX.1.1 hX.1.2.1 hK.1.1 hH.1 hH.2 hS q0 t0 ha ht (vp_in_nI hj hn) hd (fun H1 locs1 hP1 hD1 hS1 => k H1 locs1 ls h ⟨?_, ?_⟩ hS1)
  · rw [nI_clamp (by omega)] at hP1; exact hP1
  · rw [nI_clamp (by omega)] at hD1; exact hD1
/-! calls of makers -/
variable {y : MethodName} {bytes : ByteArray} {maxL n index a : Nat} {rm1 : Room} {As rest : List Value} {P : va_W → Prop}
theorem kt_blind (as : List Value) : FrameBlind (va_Pc as fun T => gH G ws T.heap ∧ gK G T) := fun a U g mk q => ⟨q.1, q.2.1, q.2.2.1.calling, q.2.2.2⟩
theorem jw_back {H : Heap} {locs : List Loc} {ls : Array Slot} {av : Array Value} {Ψ : va_W → Prop} (hK : gK G X.2.1.1) (h : lv_has ls X.2.2.2.maxLocals loc) (hS : va_S (gA G) X.2.1.1.heap H locs) {mc ms : Nat}
    (hr : va_Run X.1.1 X.1.2.1 X.1.2.2.1 X.1.2.2.2 X.2.1.1 X.2.1.2.1 X.2.1.2.2.1 X.2.1.2.2.2 X.2.2.1 X.2.2.2 H locs ce sl mc ms (F0 X.2.1.2.1 pc ls st) rest ((fun (_ : Array Value) st oc t => (oc = .returned none ∧ ∃ ws', Ψ ws' ∧ gH G ws' t.heap) ∧ va_F (gA G) st t) av) (gA G))
    (k : ∀ ws', Ψ ws' → jw X (gA G) Q (gH G ws') (ce + mc) (sl + ms) loc (pc + 3) rest) : W X.1.1 X.1.2.1 X.1.2.2.1 X.1.2.2.2 X.2.1.1 X.2.1.2.1 X.2.1.2.2.1 X.2.1.2.2.2 X.2.2.1 X.2.2.2 H locs ce sl Q (F0 X.2.1.2.1 pc ls st) := by
  intro T hT X0
  obtain ⟨v, st₀, t, T', L, h0, X', hL, e1, e2, ⟨⟨hv, ws', hw, hH1⟩, hz, hk⟩, hgo⟩ := hr T hT X0
  cases hv
  rw [h0] at hz hk
  obtain ⟨t2, a1, b1⟩ := k ws' hw T'.heap (locs ++ L) ls h (by rw [e1]; exact hH1) ⟨Nat.le_trans hS.1 (by rw [e1]; exact hz), fun q h1 h2 => by rw [e1, hk q (Nat.lt_of_lt_of_le h1 hS.1) h2]; exact hS.2.1 q h1 h2, fun q hq => by
    rcases List.mem_append.mp hq with h | h
    · exact hS.2.2 q h
    · exact hL q h⟩ T' rfl X'
  exact ⟨t2, hgo t2 a1, b1⟩
theorem jw_callI (hX : jx X rm cc nL own gz ret) (hK : gK G X.2.1.1) (hM : Kt X.1.2.1 G y bytes maxL rm1 (.ref a :: As) ws P) (hl : Cond.methodLink own index y ∈ gz) (hi : Cond.instanceMethod y ∈ gz) (hini : Cond.initialized y.cls ∈ gz) (hcode : Cond.code y bytes maxL none ∈ gz) (hy : y.name = "<init>") (hyd : y.cls ≠ "java/lang/invoke/MethodHandle" ∧ y.cls ≠ "java/lang/invoke/VarHandle" ∧ (parseMethodDescriptor y.desc).map (fun d => d.parameters.length) = some n) (hR : rm1.frames + 1 ≤ rm.frames ∧ 8 + (maxL + 11) + rm1.locals ≤ rm.locals) (hn : As.length = n) (hst : (rest.map fun v => v.category).sum ≤ 8) (hc : ce + rm1.cells ≤ rm.cells) (hs : sl + rm1.slots ≤ rm.slots) (hd : decode cc pc = .ok (.invokespecial index, 3)) (he : st = As.reverse ++ .ref a :: rest)
    (k : ∀ ws', P ws' → jw X (gA G) Q (gH G ws') (ce + rm1.cells) (sl + rm1.slots) loc (pc + 3) rest) : jw X (gA G) Q (gH G ws) ce sl loc pc st := by
  intro H locs ls h hH hS
  subst he
  have hZ : ∀ U : State, U.heap = H → X.2.1.1.WarmedH U.vm → gK G U := fun U hU hW => ⟨hK.1.moved hW, by rw [hU]; exact Nat.le_trans hK.2 hS.1⟩
  exact jw_back (av := #[]) hK h hS (va_runI hX.1 hM (cwI n hX.1.2.2.2.2 (gw_code hcode) rfl rfl rfl (hX.1.2.2.2.2 _ hini) (hX.1.2.2.2.2 _ hl) (hX.1.2.2.2.2 _ hi) hy hyd (by rw [hX.2.2.2]; exact hR)) ⟨kt_blind _, fun U hU hW => ⟨rfl, by rw [hU]; exact hH, hZ U hU hW⟩⟩ rfl hn (h.1.trans hX.1.2.2.1) rfl (lv_room hst) hd (by rw [hX.2.2.2]; exact ⟨hc, hs⟩)) k
theorem jw_callIN (hX : jx X rm cc nL own gz ret) (hK : gK G X.2.1.1) (hM : Kt X.1.2.1 G y bytes maxL rm1 (.ref a :: As) ws P) {host : String} (hl : va_Nw (.methodLinkNest own index y host) X.2.1.1) (hi : Cond.instanceMethod y ∈ gz) (hini : Cond.initialized y.cls ∈ gz) (hcode : Cond.code y bytes maxL none ∈ gz) (hy : y.name = "<init>") (hyd : y.cls ≠ "java/lang/invoke/MethodHandle" ∧ y.cls ≠ "java/lang/invoke/VarHandle" ∧ (parseMethodDescriptor y.desc).map (fun d => d.parameters.length) = some n) (hR : rm1.frames + 1 ≤ rm.frames ∧ 8 + (maxL + 11) + rm1.locals ≤ rm.locals) (hn : As.length = n) (hst : (rest.map fun v => v.category).sum ≤ 8) (hc : ce + rm1.cells ≤ rm.cells) (hs : sl + rm1.slots ≤ rm.slots) (hd : decode cc pc = .ok (.invokespecial index, 3)) (he : st = As.reverse ++ .ref a :: rest)
    (k : ∀ ws', P ws' → jw X (gA G) Q (gH G ws') (ce + rm1.cells) (sl + rm1.slots) loc (pc + 3) rest) : jw X (gA G) Q (gH G ws) ce sl loc pc st := by
  intro H locs ls h hH hS
  subst he
  have hZ : ∀ U : State, U.heap = H → X.2.1.1.WarmedH U.vm → gK G U := fun U hU hW => ⟨hK.1.moved hW, by rw [hU]; exact Nat.le_trans hK.2 hS.1⟩
  refine jw_back (av := #[]) hK h hS (va_runIN hX.1 hM ⟨va_cnB n hX.1.2.2.2.2 (gw_code hcode) rfl rfl rfl hl (hX.1.2.2.2.2 _ hini) hyd (by rw [hX.2.2.2]; exact hR), hy, hX.1.2.2.2.2 _ hi⟩ ⟨kt_blind _, fun U hU hW => ⟨rfl, by rw [hU]; exact hH, hZ U hU hW⟩⟩ rfl hn (h.1.trans hX.1.2.2.1) rfl (lv_room hst) hd (by rw [hX.2.2.2]; exact ⟨hc, hs⟩)) k
end JG
/-! lists -/
theorem ap_get {α : Type} (w l : List α) (i : Nat) : (w ++ l)[w.length + i]? = l[i]? := by rw [List.getElem?_append_right (by omega)]; congr 1; omega
theorem ap_get0 {α : Type} {w : List α} (l : List α) {p : Nat} {x : α} (h : w[p]? = some x) : (w ++ l)[p]? = some x := by rw [List.getElem?_append_left (List.getElem?_eq_some_iff.mp h).1]; exact h
theorem ap_set {α : Type} (w l : List α) (i : Nat) (x : α) : (w ++ l).set (w.length + i) x = w ++ l.set i x := by rw [List.set_append_right _ _ (by omega), Nat.add_sub_cancel_left]
theorem ap_set0 {α : Type} {w : List α} (l : List α) {p : Nat} (x : α) (h : p < w.length) : (w ++ l).set p x = w.set p x ++ l := List.set_append_left _ _ h
theorem st_get {α : Type} {w : List α} {p : Nat} (x : α) (h : p < w.length) : (w.set p x)[p]? = some x := by rw [List.getElem?_set_self h]
theorem st_st {α : Type} (w : List α) (p : Nat) (x y : α) : (w.set p x).set p y = w.set p y := List.set_set ..
theorem st_ne {α : Type} {w : List α} {p q : Nat} (x : α) (h : q ≠ p) : (w.set p x)[q]? = w[q]? := List.getElem?_set_ne (Ne.symm h)
/-- an object's fields before its maker -/
theorem dv_ok {N : Nat} {ty : Nat → FieldType} {fs : List Value} (h : (List.range N).all (fun j => decide (defaultValue (ty j) = vp_V fs j)) = true) : ∀ j, j < N → defaultValue (ty j) = vp_V fs j := fun j hj => of_decide_eq_true (List.all_eq_true.mp h j (List.mem_range.mpr hj))
theorem wt_0 {α : Type} {w : List α} {p : Nat} {x : α} (h : w[p]? = some x) : w = w.set p x ++ [] := by
  rw [List.append_nil]
  apply List.ext_getElem?
  intro i
  by_cases hi : i = p
  · subst hi; rw [st_get _ (List.getElem?_eq_some_iff.mp h).1]; exact h
  · rw [st_ne _ hi]
theorem wt_get {α : Type} {w : List α} {p : Nat} (x : α) (L : List α) (h : p < w.length) : (w.set p x ++ L)[p]? = some x := ap_get0 L (st_get x h)
theorem wt_put {α : Type} {w : List α} {p : Nat} (x y : α) (L : List α) (h : p < w.length) : (w.set p x ++ L).set p y = w.set p y ++ L := by rw [ap_set0 _ _ (by rw [List.length_set]; exact h), st_st]
theorem wt_at {α : Type} (w : List α) (p i : Nat) (x : α) (L : List α) : (w.set p x ++ L)[w.length + i]? = L[i]? := by
  have h := ap_get (w.set p x) L i
  rw [List.length_set] at h
  exact h
theorem wt_set {α : Type} (w : List α) (p i : Nat) (x y : α) (L : List α) : (w.set p x ++ L).set (w.length + i) y = w.set p x ++ L.set i y := by
  have h := ap_set (w.set p x) L i y
  rw [List.length_set] at h
  exact h
theorem wt_lt {α : Type} {w : List α} {p i : Nat} {x : α} {L : List α} (h : i < L.length) : w.length + i < (w.set p x ++ L).length := by rw [List.length_append, List.length_set]; omega
/-- the array classes by their numbers -/
abbrev gG (D : va_G) (k : Nat → ClassId) (B : Nat) : GG := ((D, [(k 0, .boolean), (k 1, .int), (k 2, .long), (k 3, .object "SlottedMesh$Node"), (k 4, .object "SlottedMesh$Loop"), (k 5, .object "SlottedMesh$Channel")]), B)
abbrev aZ (k : Nat → ClassId) (n : Nat) : va_E := .inl (k 0, n, .inl fun _ => 0)
abbrev aI (k : Nat → ClassId) (n : Nat) : va_E := .inl (k 1, n, .inl fun _ => 0)
abbrev aJ (k : Nat → ClassId) (n : Nat) : va_E := .inl (k 2, n, .inr (.inl fun _ => 0))
