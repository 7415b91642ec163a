/-! A heap by kinds: cell (k, i) is the i-th object or array of kind k; its places hold naturals, ints, longs or references that the kind's table names. -/
abbrev UU : Type := (Nat → Nat → Nat → Nat) × (Nat → Nat → Nat → Int32) × (Nat → Nat → Nat → Int64) × (Nat → Nat)
abbrev KS : Type := (Nat × List (Nat × Nat)) ⊕ (Nat × FieldType × Nat)
abbrev PV : Type := (va_G × List vw_C × List (ClassId × FieldType)) × ((Nat → KS) × (Nat → Nat → Nat) × (Nat → ClassId) × (Nat → Nat)) × ((Nat → Nat) × List Nat)
abbrev pv_D (V : PV) : va_G := V.1.1
abbrev pv_cl (V : PV) : List vw_C := V.1.2.1
abbrev pv_tys (V : PV) : List (ClassId × FieldType) := V.1.2.2
abbrev pv_sh (V : PV) : Nat → KS := V.2.1.1
abbrev pv_ad (V : PV) : Nat → Nat → Nat := V.2.1.2.1
abbrev pv_ca (V : PV) : Nat → ClassId := V.2.1.2.2.1
abbrev pv_ln (V : PV) : Nat → Nat := V.2.1.2.2.2
abbrev pv_bd (V : PV) : Nat → Nat := V.2.2.1
abbrev pv_L (V : PV) : List Nat := V.2.2.2
abbrev pv_A (V : PV) : Nat → Prop := fun q => q ∈ pv_L V
/-- a field's value: 0 a natural, 1 an int, 2 a long, 3 the cell of kind t.2 with the same number, 4 and 5 the cells 2i and 2i+1, 6 one that moves, 7 the cell's own number, 8 the number t.2 -/
def pv_f (V : PV) (u : UU) (k i j : Nat) (t : Nat × Nat) : Value := match t.1 with
  | 0 => .int (nI (u.1 k i j))
  | 1 => .int (u.2.1 k i j)
  | 2 => .long (u.2.2.1 k i j)
  | 3 => .ref (pv_ad V t.2 i)
  | 4 => .ref (pv_ad V t.2 (2 * i))
  | 5 => .ref (pv_ad V t.2 (2 * i + 1))
  | 6 => .ref (pv_ad V t.2 (u.2.2.2 j))
  | 7 => .int (nI i)
  | _ => .int (nI t.2)
def pv_o (V : PV) (u : UU) (k i : Nat) (ts : List (Nat × Nat)) : List Value := (List.range ts.length).map fun j => pv_f V u k i j (ts.getD j (0, 0))
def pv_c (V : PV) (u : UU) (k i : Nat) : va_E := match pv_sh V k with
  | .inl (ci, ts) => .inr (ci, pv_o V u k i ts)
  | .inr (0, _, _) => .inl (pv_ca V k, pv_ln V k, .inl fun j => nI (u.1 k i j))
  | .inr (1, _, _) => .inl (pv_ca V k, pv_ln V k, .inl fun j => u.2.1 k i j)
  | .inr (2, _, _) => .inl (pv_ca V k, pv_ln V k, .inr (.inl fun j => u.2.2.1 k i j))
  | .inr (_, _, k2) => .inl (pv_ca V k, pv_ln V k, .inr (.inr (.inr (.inr fun j => some (pv_ad V k2 j)))))
theorem pv_c_o {V : PV} {k ci : Nat} {ts : List (Nat × Nat)} (h : pv_sh V k = .inl (ci, ts)) (u : UU) (i : Nat) : pv_c V u k i = .inr (ci, pv_o V u k i ts) := by
  unfold pv_c; rw [h] <;> rfl
theorem pv_c_0 {V : PV} {k k2 : Nat} {ty : FieldType} (h : pv_sh V k = .inr (0, ty, k2)) (u : UU) (i : Nat) : pv_c V u k i = .inl (pv_ca V k, pv_ln V k, .inl fun j => nI (u.1 k i j)) := by
  unfold pv_c; rw [h] <;> rfl
theorem pv_c_1 {V : PV} {k k2 : Nat} {ty : FieldType} (h : pv_sh V k = .inr (1, ty, k2)) (u : UU) (i : Nat) : pv_c V u k i = .inl (pv_ca V k, pv_ln V k, .inl fun j => u.2.1 k i j) := by
  unfold pv_c; rw [h] <;> rfl
theorem pv_c_2 {V : PV} {k k2 : Nat} {ty : FieldType} (h : pv_sh V k = .inr (2, ty, k2)) (u : UU) (i : Nat) : pv_c V u k i = .inl (pv_ca V k, pv_ln V k, .inr (.inl fun j => u.2.2.1 k i j)) := by
  unfold pv_c; rw [h] <;> rfl
theorem pv_c_3 {V : PV} {k k2 : Nat} {ty : FieldType} (h : pv_sh V k = .inr (3, ty, k2)) (u : UU) (i : Nat) : pv_c V u k i = .inl (pv_ca V k, pv_ln V k, .inr (.inr (.inr (.inr fun j => some (pv_ad V k2 j))))) := by
  unfold pv_c; rw [h] <;> rfl
/-- the new states -/
def un (u : UU) (k i j : Nat) (v : Nat) : UU := (fun a b c => if a = k ∧ b = i ∧ c = j then v else u.1 a b c, u.2)
def ui (u : UU) (k i j : Nat) (v : Int32) : UU := (u.1, (fun a b c => if a = k ∧ b = i ∧ c = j then v else u.2.1 a b c), u.2.2)
def ul (u : UU) (k i j : Nat) (v : Int64) : UU := (u.1, u.2.1, (fun a b c => if a = k ∧ b = i ∧ c = j then v else u.2.2.1 a b c), u.2.2.2)
def ur (u : UU) (j v : Nat) : UU := (u.1, u.2.1, u.2.2.1, fun a => if a = j then v else u.2.2.2 a)
theorem un_1 (u : UU) (k i j v a b c : Nat) : (un u k i j v).1 a b c = if a = k ∧ b = i ∧ c = j then v else u.1 a b c := rfl
theorem un_2 (u : UU) (k i j v : Nat) : (un u k i j v).2 = u.2 := rfl
theorem ui_1 (u : UU) (k i j : Nat) (v : Int32) : (ui u k i j v).1 = u.1 := rfl
theorem ui_2 (u : UU) (k i j : Nat) (v : Int32) (a b c : Nat) : (ui u k i j v).2.1 a b c = if a = k ∧ b = i ∧ c = j then v else u.2.1 a b c := rfl
theorem ui_3 (u : UU) (k i j : Nat) (v : Int32) : (ui u k i j v).2.2 = u.2.2 := rfl
theorem ul_1 (u : UU) (k i j : Nat) (v : Int64) : (ul u k i j v).1 = u.1 := rfl
theorem ul_2 (u : UU) (k i j : Nat) (v : Int64) : (ul u k i j v).2.1 = u.2.1 := rfl
theorem ul_3 (u : UU) (k i j : Nat) (v : Int64) (a b c : Nat) : (ul u k i j v).2.2.1 a b c = if a = k ∧ b = i ∧ c = j then v else u.2.2.1 a b c := rfl
theorem ul_4 (u : UU) (k i j : Nat) (v : Int64) : (ul u k i j v).2.2.2 = u.2.2.2 := rfl
theorem ur_1 (u : UU) (j v : Nat) : (ur u j v).1 = u.1 := rfl
theorem ur_2 (u : UU) (j v : Nat) : (ur u j v).2.1 = u.2.1 := rfl
theorem ur_3 (u : UU) (j v : Nat) : (ur u j v).2.2.1 = u.2.2.1 := rfl
theorem ur_4 (u : UU) (j v a : Nat) : (ur u j v).2.2.2 a = if a = j then v else u.2.2.2 a := rfl
theorem pv_cong {V : PV} {u w : UU} {k i : Nat} (h1 : ∀ j, w.1 k i j = u.1 k i j) (h2 : ∀ j, w.2.1 k i j = u.2.1 k i j) (h3 : ∀ j, w.2.2.1 k i j = u.2.2.1 k i j) (h4 : w.2.2.2 = u.2.2.2) : pv_c V w k i = pv_c V u k i := by
  have ho : ∀ ts, pv_o V w k i ts = pv_o V u k i ts := by
    intro ts
    unfold pv_o
    apply List.map_congr_left
    intro j _
    unfold pv_f
    rw [h1, h2, h3, h4]
  unfold pv_c
  split
  · rw [ho]
  · simp only [h1]
  · simp only [h2]
  · simp only [h3]
  · rfl
theorem pv_un_ne {V : PV} {u : UU} {k i j v k2 i2 : Nat} (h : ¬ (k2 = k ∧ i2 = i)) : pv_c V (un u k i j v) k2 i2 = pv_c V u k2 i2 :=
  pv_cong (fun a => by rw [un_1, if_neg (fun q => h ⟨q.1, q.2.1⟩)]) (fun _ => rfl) (fun _ => rfl) rfl
theorem pv_ui_ne {V : PV} {u : UU} {k i j k2 i2 : Nat} {v : Int32} (h : ¬ (k2 = k ∧ i2 = i)) : pv_c V (ui u k i j v) k2 i2 = pv_c V u k2 i2 :=
  pv_cong (fun _ => rfl) (fun a => by rw [ui_2, if_neg (fun q => h ⟨q.1, q.2.1⟩)]) (fun _ => rfl) rfl
theorem pv_ul_ne {V : PV} {u : UU} {k i j k2 i2 : Nat} {v : Int64} (h : ¬ (k2 = k ∧ i2 = i)) : pv_c V (ul u k i j v) k2 i2 = pv_c V u k2 i2 :=
  pv_cong (fun _ => rfl) (fun _ => rfl) (fun a => by rw [ul_3, if_neg (fun q => h ⟨q.1, q.2.1⟩)]) rfl
theorem pv_set {α : Type} (f g : Nat → α) (n j : Nat) (v : α) (hv : g j = v) (ho : ∀ a, a ≠ j → g a = f a) : ((List.range n).map f).set j v = (List.range n).map g := by
  apply List.ext_getElem?
  intro a
  by_cases h : a = j
  · subst h
    by_cases hn : a < n
    · rw [List.getElem?_set_self (by simpa using hn)]
      simp [hn, hv]
    · rw [List.getElem?_eq_none (by simp; omega), List.getElem?_eq_none (by simp; omega)]
  · rw [List.getElem?_set_ne (Ne.symm h)]
    simp only [List.getElem?_map]
    by_cases hn : a < n
    · simp [hn, ho a h]
    · simp [hn]
theorem pv_o_at {V : PV} {u : UU} {k i j : Nat} {ts : List (Nat × Nat)} {t : Nat × Nat} (h : ts[j]? = some t) : (pv_o V u k i ts)[j]? = some (pv_f V u k i j t) := by
  have hl := (List.getElem?_eq_some_iff.mp h).1
  unfold pv_o
  have h2 := (List.getElem?_eq_some_iff.mp h).2
  simp [hl, List.getD, h2]
theorem pv_o_len {V : PV} {u : UU} {k i : Nat} {ts : List (Nat × Nat)} : (pv_o V u k i ts).length = ts.length := by
  simp [pv_o]
/-- what holds of a heap in state u -/
def pv_H (V : PV) (u : UU) (H : Heap) : Prop := ∃ σ : Nat → va_E, (∀ k i, i < pv_bd V k → σ (pv_ad V k i) = pv_c V u k i) ∧ va_P (pv_D V) (pv_cl V) (va_pl (pv_L V) σ) H ∧ va_D (pv_A V) (va_pl (pv_L V) σ)
/-- numbers and addresses go together -/
def pv_ok (V : PV) : Prop := (∀ k i k2 i2, i < pv_bd V k → i2 < pv_bd V k2 → pv_ad V k i = pv_ad V k2 i2 → k2 = k ∧ i2 = i) ∧ (∀ k i, i < pv_bd V k → pv_ad V k i ∈ pv_L V) ∧
  (∀ k c ty k2, pv_sh V k = .inr (c, ty, k2) → ∃ t : Nat, (pv_tys V)[t]? = some (pv_ca V k, ty)) ∧ (∀ k, pv_ln V k < 2 ^ 31)
theorem pv_new {V : PV} {u w : UU} {σ : Nat → va_E} {k i : Nat} {e : va_E} (hV : pv_ok V) (hi : i < pv_bd V k) (hσ : ∀ k i, i < pv_bd V k → σ (pv_ad V k i) = pv_c V u k i) (he : e = pv_c V w k i) (ho : ∀ k2 i2, i2 < pv_bd V k2 → ¬ (k2 = k ∧ i2 = i) → pv_c V w k2 i2 = pv_c V u k2 i2) :
    ∀ k2 i2, i2 < pv_bd V k2 → va_up σ (pv_ad V k i) e (pv_ad V k2 i2) = pv_c V w k2 i2 := by
  intro k2 i2 h2
  by_cases h : pv_ad V k2 i2 = pv_ad V k i
  · obtain ⟨rfl, rfl⟩ := hV.1 k i k2 i2 hi h2 h.symm
    rw [va_up_self, he]
  · rw [va_up_ne _ _ h, hσ k2 i2 h2, ho k2 i2 h2 (fun q => h (by rw [q.1, q.2]))]
/-- the tables' words on classes, arrays, and the one call between nest mates -/
def pv_K (V : PV) (T : State) : Prop := va_K (pv_D V) (pv_cl V) (pv_tys V) T ∧ va_Nw (Cond.methodLinkNest "SlottedMesh$Loop" 29 ⟨"SlottedMesh", "nearest", "(III)I"⟩ "SlottedMesh") T
theorem pv_K.moved {V : PV} {s t : State} (hW : s.WarmedH t.vm) (h : pv_K V s) : pv_K V t := ⟨va_K.moved hW.alike h.1, va_Nw.warmM hW h.2⟩
/-! the judgement -/
abbrev OX := (Program × Launch × Env × Room) × (State × MethodId × Array Value × List Frame) × (Method × Code)
def ow_Q (V : PV) (r : Option Value) (u' : UU) : Array Value → State → Outcome → State → Prop := fun _ st oc t => (oc = .returned r ∧ pv_H V u' t.heap ∧ pv_K V t) ∧ va_F (pv_A V) st t
def ow (X : OX) (V : PV) (r : Option Value) (u' u : UU) (loc : List (Nat × Value)) (pc : Nat) (st : List Value) : Prop :=
  ∀ (H : Heap) (locs : List Loc) (ls : Array Slot), lv_has ls X.2.2.2.maxLocals loc → pv_H V u H → va_S (pv_A V) X.2.1.1.heap H locs →
    W X.1.1 X.1.2.1 X.1.2.2.1 X.1.2.2.2 X.2.1.1 X.2.1.2.1 X.2.1.2.2.1 X.2.1.2.2.2 X.2.2.1 X.2.2.2 H locs 0 0 (MQ X.2.1.2.2.2 (ow_Q V r u') X.2.1.2.2.1 X.2.1.1 0 0 (pv_A V)) (F0 X.2.1.2.1 pc ls st)
def ox (X : OX) (V : PV) (rm : Room) (cc : ByteArray) (nL : Nat) (own : String) (Ts : List Cond) (ret : Option FieldType) : Prop :=
  CallFix X.1.1 X.2.1.2.1 X.2.2.2 cc nL X.2.1.1 X.2.1.2.2.1 Ts own ∧ pv_K V X.2.1.1 ∧ pv_ok V ∧ X.2.2.1.locks = false ∧ X.2.2.1.sig.returnType = ret ∧ X.1.2.2.2 = rm
/-- a method's contract: from state u, with the arguments as, it returns r, and the state is u' -/
def Ct (l : Launch) (V : PV) (y : MethodName) (ws : List Cond) (rm : Room) (as : List Value) (u : UU) (r : Option Value) (u' : UU) : Prop :=
  Met l y ws rm (va_Pc as fun T => pv_H V u T.heap ∧ pv_K V T) (ow_Q V r u') 0 0 (pv_A V)
/-- the kit's Met.ofW, for a method that no row of the natives' table replaces (java.lang.Math's) -/
theorem met_of {l : Launch} {y : MethodName} {ws ws' : List Cond} {rm : Room} {Pc : Array Value → State → Prop} {Qc : Array Value → State → Outcome → State → Prop} {mc ms : Nat} {free : Addr → Prop} {cc : ByteArray} {maxL : Nat} {ret : Option FieldType}
    (hy : plainFor y = true) (hw : ws = Cond.code y cc maxL ret :: ws')
    (body : ∀ p e s m args below meth c s₁, BodyLoose p l y (headSpec ws rm) cc maxL ret e s m args below meth c s₁ → c.maxLocals = maxL → Pc args s →
      W p l e (headSpec ws rm).room s m args below meth c s.heap [] 0 0 (MQ below Qc args s mc ms free) (entryFrame m args maxL)) : Met l y ws rm Pc Qc mc ms free := by
  refine MetFree.of_bodySF (code := cc) (maxLocals := maxL) (ret := ret) hy ?_ ?_
  · intro args s m h hn
    obtain ⟨meth, c, h1, h2, h3, h4, h5, h6, -, -⟩ := Cond.code_spec hn (atoms_spec (ws := ws) h _ (by rw [hw]; exact List.mem_cons_self))
    exact ⟨meth, c, h1, h2, h3, h4, h5, h6⟩
  · intro p e s m args below meth c s₁ B hml hP _
    have hh0 : s₁.heap = s.heap := by rw [B.state]; rfl
    obtain ⟨t, a1, o, b1, b2, b3⟩ := body p e s m args below meth c s₁ B hml hP s₁ hh0 (Stand.of_body B)
    exact ⟨t, o, a1, b1, b2, ⟨b3.1, b3.2⟩⟩
theorem ct_of {l : Launch} {V : PV} {y : MethodName} {ws ws' : List Cond} {rm : Room} {as : List Value} {u : UU} {r : Option Value} {u' : UU} {cc : ByteArray} {nL : Nat} {ret : Option FieldType} (hV : pv_ok V) (hy : plainFor y = true) (hw : ws = Cond.code y cc nL ret :: ws') (hn : (lg_sl as).length ≤ nL)
    (walk : ∀ X : OX, ox X V rm cc nL y.cls ws ret → ow X V r u' u (lv_args 0 as) 0 []) : Ct l V y ws rm as u r u' := by
  refine met_of (cc := cc) (maxL := nL) (ret := ret) hy hw ?_
  intro p e s m args below meth c s₁ B hml hv
  obtain ⟨rfl, hH, hK⟩ := hv
  have hl := lv_entry as (n := nL) hn
  rw [lg_entry_eq]
  have hown : s.vm.findClass y.cls = some m.cls := findClass_of_methodNamed B.named
  exact walk ((p, l, e, rm), (s, m, as.toArray, below), (meth, c)) ⟨⟨B.exec, B.bytes, hml, hown, atoms_spec (ws := ws) B.pre⟩, hK, hV, B.notSynchronized, B.returns, rfl⟩ s.heap [] _ (by rw [hml]; exact hl) hH va_S.rf
section OW
variable {X : OX} {V : PV} {rm : Room} {cc : ByteArray} {nL : Nat} {own : String} {Ts : List Cond} {ret : Option FieldType} {r : Option Value} {u' u : UU} {loc : List (Nat × Value)} {pc : Nat} {st : List Value}
/-- a local, by its number -/
def lc_at (l : List (Nat × Value)) (i : Nat) : Option Value := (l.find? (fun q => q.1 == i)).map (·.2)
theorem lc_has {ls : Array Slot} {n : Nat} {l : List (Nat × Value)} {i : Nat} {v : Value} (h : lv_has ls n l) (hi : lc_at l i = some v) : ls[i]? = some (.val v) := by
  unfold lc_at at hi
  cases hf : l.find? (fun q => q.1 == i) with
  | none => rw [hf] at hi; cases hi
  | some q =>
    rw [hf] at hi
    have h1 := List.find?_some hf
    have h2 := List.mem_of_find?_eq_some hf
    have h3 := h.2.2 q h2
    have e1 : q.1 = i := by simpa using h1
    have e2 : q.2 = v := by simpa using hi
    rw [e1, e2] at h3
    exact h3
/-- the locals behind a store: each place keeps its row -/
def lc_set : List (Nat × Value) → Nat → Value → List (Nat × Value)
  | [], i, v => [(i, v)]
  | q :: l, i, v => if q.1 = i then (i, v) :: l.filter (fun q => !(q.1 == i)) else q :: lc_set l i v
theorem lc_set_mem {l : List (Nat × Value)} {i : Nat} {v : Value} {q : Nat × Value} (h : q ∈ lc_set l i v) : q = (i, v) ∨ (q ∈ l ∧ q.1 ≠ i) := by
  induction l with
  | nil => simp [lc_set] at h; exact Or.inl h
  | cons a l ih =>
    unfold lc_set at h
    split at h
    next e =>
      rcases List.mem_cons.mp h with h | h
      · exact Or.inl h
      · obtain ⟨h1, h2⟩ := List.mem_filter.mp h
        exact Or.inr ⟨List.mem_cons_of_mem _ h1, by simpa using h2⟩
    next e =>
      rcases List.mem_cons.mp h with h | h
      · subst h; exact Or.inr ⟨List.mem_cons_self, e⟩
      · rcases ih h with h | h
        · exact Or.inl h
        · exact Or.inr ⟨List.mem_cons_of_mem _ h.1, h.2⟩
/-- no long lies just ahead of place i -/
def lc_free (l : List (Nat × Value)) (i : Nat) : Bool := l.all fun q => !(q.1 + 1 == i && q.2.category == 2)
theorem lc_store {ls : Array Slot} {n : Nat} {l : List (Nat × Value)} {i : Nat} {v : Value} (hf : lc_free l i = true) (h : lv_has ls n ((i, v) :: l.filter (fun q => !(q.1 == i) && !(q.1 + 1 == i && q.2.category == 2)))) : lv_has ls n (lc_set l i v) := by
  refine ⟨h.1, h.2.1, fun q hq => ?_⟩
  rcases lc_set_mem hq with rfl | ⟨h1, h2⟩
  · exact h.2.2 _ List.mem_cons_self
  · refine h.2.2 _ (List.mem_cons_of_mem _ (List.mem_filter.mpr ⟨h1, ?_⟩))
    have h3 := List.all_eq_true.mp hf q h1
    rw [h3, Bool.and_true]
    simpa using h2
/-- fewer locals, or in another order -/
theorem ow_loc {l2 : List (Nat × Value)} (h : ∀ q ∈ l2, q ∈ loc) (k : ow X V r u' u l2 pc st) : ow X V r u' u loc pc st :=
  fun H locs ls hl hH hS => k H locs ls ⟨hl.1, hl.2.1, fun q hq => hl.2.2 q (h q hq)⟩ hH hS
theorem ow_st {st2 : List Value} (h : st = st2) (k : ow X V r u' u loc pc st2) : ow X V r u' u loc pc st := h ▸ k
theorem ow_u {u2 : UU} (h : u = u2) (k : ow X V r u' u2 loc pc st) : ow X V r u' u loc pc st := h ▸ k
theorem ow_val {x y : Int32} (h : x = y) (k : ow X V r u' u loc pc (.int y :: st)) : ow X V r u' u loc pc (.int x :: st) := h ▸ k
theorem ow_val2 {x y : Int32} {a : Value} (h : x = y) (k : ow X V r u' u loc pc (a :: .int y :: st)) : ow X V r u' u loc pc (a :: .int x :: st) := h ▸ k
/-! constants, locals, stack -/
theorem ow_iconst (hX : ox X V rm cc nL own Ts ret) {n : Int} {v : Int32} (hd : decode cc pc = .ok (.iconst n, 1)) (hv : Int32.ofInt n = v) (k : ow X V r u' u loc (pc + 1) (.int v :: st)) : ow X V r u' u loc pc st :=
  fun H locs ls hl hH hS => lv_iconst hX.1.1 hX.1.2.1 hd hv (k H locs ls hl hH hS)
theorem ow_bipush (hX : ox X V rm cc nL own Ts ret) {n : Int} {v : Int32} (hd : decode cc pc = .ok (.bipush n, 2)) (hv : (Int8.ofInt n).toInt32 = v) (k : ow X V r u' u loc (pc + 2) (.int v :: st)) : ow X V r u' u loc pc st :=
  fun H locs ls hl hH hS => lv_bipush hX.1.1 hX.1.2.1 hd hv (k H locs ls hl hH hS)
theorem ow_sipush (hX : ox X V rm cc nL own Ts ret) {n : Int} {v : Int32} (hd : decode cc pc = .ok (.sipush n, 3)) (hv : (Int16.ofInt n).toInt32 = v) (k : ow X V r u' u loc (pc + 3) (.int v :: st)) : ow X V r u' u loc pc st :=
  fun H locs ls hl hH hS => lv_sipush hX.1.1 hX.1.2.1 hd hv (k H locs ls hl hH hS)
theorem ow_lconst (hX : ox X V rm cc nL own Ts ret) {n : Fin 2} {v : Int64} (hd : decode cc pc = .ok (.lconst n, 1)) (hv : Int64.ofNat (n : Nat) = v) (k : ow X V r u' u loc (pc + 1) (.long v :: st)) : ow X V r u' u loc pc st :=
  fun H locs ls hl hH hS => lv_lconst hX.1.1 hX.1.2.1 hd hv (k H locs ls hl hH hS)
theorem ow_iload_n (hX : ox X V rm cc nL own Ts ret) {n : Fin 4} {x : Int32} (hd : decode cc pc = .ok (.iload_n n, 1)) (hl : lc_at loc n = some (.int x)) (k : ow X V r u' u loc (pc + 1) (.int x :: st)) : ow X V r u' u loc pc st :=
  fun H locs ls h hH hS => lv_iload_n hX.1.1 hX.1.2.1 hd rfl (lc_has h hl) (k H locs ls h hH hS)
theorem ow_iload (hX : ox X V rm cc nL own Ts ret) {n : Nat} {x : Int32} (hd : decode cc pc = .ok (.iload n, 2)) (hl : lc_at loc n = some (.int x)) (k : ow X V r u' u loc (pc + 2) (.int x :: st)) : ow X V r u' u loc pc st :=
  fun H locs ls h hH hS => lv_iload hX.1.1 hX.1.2.1 hd (lc_has h hl) (k H locs ls h hH hS)
theorem ow_lload_n (hX : ox X V rm cc nL own Ts ret) {n : Fin 4} {x : Int64} (hd : decode cc pc = .ok (.lload_n n, 1)) (hl : lc_at loc n = some (.long x)) (k : ow X V r u' u loc (pc + 1) (.long x :: st)) : ow X V r u' u loc pc st :=
  fun H locs ls h hH hS => lv_lload_n hX.1.1 hX.1.2.1 hd rfl (lc_has h hl) (k H locs ls h hH hS)
theorem ow_lload (hX : ox X V rm cc nL own Ts ret) {n : Nat} {x : Int64} (hd : decode cc pc = .ok (.lload n, 2)) (hl : lc_at loc n = some (.long x)) (k : ow X V r u' u loc (pc + 2) (.long x :: st)) : ow X V r u' u loc pc st :=
  fun H locs ls h hH hS => lv_lload hX.1.1 hX.1.2.1 hd (lc_has h hl) (k H locs ls h hH hS)
theorem ow_aload_n (hX : ox X V rm cc nL own Ts ret) {n : Fin 4} {x : Nat} (hd : decode cc pc = .ok (.aload_n n, 1)) (hl : lc_at loc n = some (.ref x)) (k : ow X V r u' u loc (pc + 1) (.ref x :: st)) : ow X V r u' u loc pc st :=
  fun H locs ls h hH hS => lv_aload_n hX.1.1 hX.1.2.1 hd rfl (lc_has h hl) (k H locs ls h hH hS)
theorem ow_aload (hX : ox X V rm cc nL own Ts ret) {n : Nat} {x : Nat} (hd : decode cc pc = .ok (.aload n, 2)) (hl : lc_at loc n = some (.ref x)) (k : ow X V r u' u loc (pc + 2) (.ref x :: st)) : ow X V r u' u loc pc st :=
  fun H locs ls h hH hS => lv_aload hX.1.1 hX.1.2.1 hd (lc_has h hl) (k H locs ls h hH hS)
theorem ow_istore_n (hX : ox X V rm cc nL own Ts ret) {n : Fin 4} {x : Int32} {l2 : List (Nat × Value)} (hd : decode cc pc = .ok (.istore_n n, 1)) (hn : (n : Nat) < nL) (hf : lc_free loc n = true) (hl : lc_set loc n (.int x) = l2) (k : ow X V r u' u l2 (pc + 1) st) : ow X V r u' u loc pc (.int x :: st) :=
  fun H locs ls h hH hS => lv_istore_n hX.1.1 hX.1.2.1 hd rfl h (by rw [hX.1.2.2.1]; exact hn) rfl (fun ls2 h2 => k H locs ls2 (hl ▸ lc_store hf h2) hH hS)
theorem ow_istore (hX : ox X V rm cc nL own Ts ret) {n : Nat} {x : Int32} {l2 : List (Nat × Value)} (hd : decode cc pc = .ok (.istore n, 2)) (hn : n < nL) (hf : lc_free loc n = true) (hl : lc_set loc n (.int x) = l2) (k : ow X V r u' u l2 (pc + 2) st) : ow X V r u' u loc pc (.int x :: st) :=
  fun H locs ls h hH hS => lv_istore hX.1.1 hX.1.2.1 hd h (by rw [hX.1.2.2.1]; exact hn) rfl (fun ls2 h2 => k H locs ls2 (hl ▸ lc_store hf h2) hH hS)
theorem ow_astore_n (hX : ox X V rm cc nL own Ts ret) {n : Fin 4} {x : Nat} {l2 : List (Nat × Value)} (hd : decode cc pc = .ok (.astore_n n, 1)) (hn : (n : Nat) < nL) (hf : lc_free loc n = true) (hl : lc_set loc n (.ref x) = l2) (k : ow X V r u' u l2 (pc + 1) st) : ow X V r u' u loc pc (.ref x :: st) :=
  fun H locs ls h hH hS => lv_astore_n hX.1.1 hX.1.2.1 hd rfl h (by rw [hX.1.2.2.1]; exact hn) rfl (fun ls2 h2 => k H locs ls2 (hl ▸ lc_store hf h2) hH hS)
theorem ow_astore (hX : ox X V rm cc nL own Ts ret) {n : Nat} {x : Nat} {l2 : List (Nat × Value)} (hd : decode cc pc = .ok (.astore n, 2)) (hn : n < nL) (hf : lc_free loc n = true) (hl : lc_set loc n (.ref x) = l2) (k : ow X V r u' u l2 (pc + 2) st) : ow X V r u' u loc pc (.ref x :: st) :=
  fun H locs ls h hH hS => lv_astore hX.1.1 hX.1.2.1 hd h (by rw [hX.1.2.2.1]; exact hn) rfl (fun ls2 h2 => k H locs ls2 (hl ▸ lc_store hf h2) hH hS)
theorem ow_iinc (hX : ox X V rm cc nL own Ts ret) {n : Nat} {d : Int} {x v : Int32} {l2 : List (Nat × Value)} (hd : decode cc pc = .ok (.iinc n d, 3)) (hx : lc_at loc n = some (.int x)) (hv : x + Int32.ofInt d = v) (hn : n < nL) (hf : lc_free loc n = true) (hl : lc_set loc n (.int v) = l2) (k : ow X V r u' u l2 (pc + 3) st) : ow X V r u' u loc pc st := by
  intro H locs ls h hH hS
  have hx2 : lv_has ls X.2.2.2.maxLocals ((n, .int x) :: loc) := ⟨h.1, h.2.1, fun q hq => by
    rcases List.mem_cons.mp hq with rfl | hq
    · exact lc_has h hx
    · exact h.2.2 q hq⟩
  refine lv_iinc (k := 0) hX.1.1 hX.1.2.1 hd hx2 rfl hv (by rw [hX.1.2.2.1]; exact hn) rfl (fun ls2 h2 => k H locs ls2 (hl ▸ lc_store hf ?_) hH hS)
  refine ⟨h2.1, h2.2.1, fun q hq => h2.2.2 q ?_⟩
  rcases List.mem_cons.mp hq with rfl | hq
  · exact List.mem_cons_self
  · exact List.mem_cons_of_mem _ (List.mem_filter.mpr ⟨List.mem_cons_of_mem _ (List.mem_filter.mp hq).1, (List.mem_filter.mp hq).2⟩)
theorem ow_dup (hX : ox X V rm cc nL own Ts ret) {a : Value} (hd : decode cc pc = .ok (.dup, 1)) (ha : a.category = 1) (k : ow X V r u' u loc (pc + 1) (a :: a :: st)) : ow X V r u' u loc pc (a :: st) :=
  fun H locs ls h hH hS => lv_dup hX.1.1 hX.1.2.1 hd ha (k H locs ls h hH hS)
theorem ow_pop (hX : ox X V rm cc nL own Ts ret) {a : Value} (hd : decode cc pc = .ok (.pop, 1)) (ha : a.category = 1) (k : ow X V r u' u loc (pc + 1) st) : ow X V r u' u loc pc (a :: st) :=
  fun H locs ls h hH hS => lv_pop hX.1.1 hX.1.2.1 hd ha (k H locs ls h hH hS)
theorem ow_dup_x1 (hX : ox X V rm cc nL own Ts ret) {a b : Value} (hd : decode cc pc = .ok (.dup_x1, 1)) (ha : a.category = 1) (hb : b.category = 1) (k : ow X V r u' u loc (pc + 1) (a :: b :: a :: st)) : ow X V r u' u loc pc (a :: b :: st) :=
  fun H locs ls h hH hS => lv_dup_x1 hX.1.1 hX.1.2.1 hd ha hb (k H locs ls h hH hS)
theorem ow_dup2 (hX : ox X V rm cc nL own Ts ret) {a b : Value} (hd : decode cc pc = .ok (.dup2, 1)) (ha : a.category = 1) (hb : b.category = 1) (k : ow X V r u' u loc (pc + 1) (a :: b :: a :: b :: st)) : ow X V r u' u loc pc (a :: b :: st) :=
  fun H locs ls h hH hS => lv_dup2_11 hX.1.1 hX.1.2.1 hd ha hb (k H locs ls h hH hS)
/-! arithmetic -/
theorem ow_iadd (hX : ox X V rm cc nL own Ts ret) {x y : Int32} (hd : decode cc pc = .ok (.iadd, 1)) (k : ow X V r u' u loc (pc + 1) (.int (x + y) :: st)) : ow X V r u' u loc pc (.int y :: .int x :: st) :=
  fun H locs ls h hH hS => lv_iadd hX.1.1 hX.1.2.1 hd (k H locs ls h hH hS)
theorem ow_addn (hX : ox X V rm cc nL own Ts ret) {a b : Nat} (hd : decode cc pc = .ok (.iadd, 1)) (k : ow X V r u' u loc (pc + 1) (.int (nI (a + b)) :: st)) : ow X V r u' u loc pc (.int (nI b) :: .int (nI a) :: st) :=
  ow_iadd hX hd (by rw [nI_add]; exact k)
theorem ow_isub (hX : ox X V rm cc nL own Ts ret) {x y : Int32} (hd : decode cc pc = .ok (.isub, 1)) (k : ow X V r u' u loc (pc + 1) (.int (x - y) :: st)) : ow X V r u' u loc pc (.int y :: .int x :: st) :=
  fun H locs ls h hH hS => lv_isub hX.1.1 hX.1.2.1 hd (k H locs ls h hH hS)
theorem ow_subn (hX : ox X V rm cc nL own Ts ret) {a b : Nat} (hd : decode cc pc = .ok (.isub, 1)) (hab : b ≤ a) (k : ow X V r u' u loc (pc + 1) (.int (nI (a - b)) :: st)) : ow X V r u' u loc pc (.int (nI b) :: .int (nI a) :: st) :=
  ow_isub hX hd (by rw [pk_sub hab]; exact k)
theorem ow_imul (hX : ox X V rm cc nL own Ts ret) {x y : Int32} (hd : decode cc pc = .ok (.imul, 1)) (k : ow X V r u' u loc (pc + 1) (.int (x * y) :: st)) : ow X V r u' u loc pc (.int y :: .int x :: st) :=
  fun H locs ls h hH hS => lv_imul hX.1.1 hX.1.2.1 hd (k H locs ls h hH hS)
theorem ow_muln (hX : ox X V rm cc nL own Ts ret) {a b : Nat} (hd : decode cc pc = .ok (.imul, 1)) (k : ow X V r u' u loc (pc + 1) (.int (nI (a * b)) :: st)) : ow X V r u' u loc pc (.int (nI b) :: .int (nI a) :: st) :=
  ow_imul hX hd (by rw [pk_mul]; exact k)
theorem ow_ineg (hX : ox X V rm cc nL own Ts ret) {x : Int32} (hd : decode cc pc = .ok (.ineg, 1)) (k : ow X V r u' u loc (pc + 1) (.int (-x) :: st)) : ow X V r u' u loc pc (.int x :: st) :=
  fun H locs ls h hH hS => lv_ineg hX.1.1 hX.1.2.1 hd (k H locs ls h hH hS)
theorem ow_iand (hX : ox X V rm cc nL own Ts ret) {x y : Int32} (hd : decode cc pc = .ok (.iand, 1)) (k : ow X V r u' u loc (pc + 1) (.int (x &&& y) :: st)) : ow X V r u' u loc pc (.int y :: .int x :: st) :=
  fun H locs ls h hH hS => lv_iand hX.1.1 hX.1.2.1 hd (k H locs ls h hH hS)
theorem ow_ixor (hX : ox X V rm cc nL own Ts ret) {x y : Int32} (hd : decode cc pc = .ok (.ixor, 1)) (k : ow X V r u' u loc (pc + 1) (.int (x ^^^ y) :: st)) : ow X V r u' u loc pc (.int y :: .int x :: st) :=
  fun H locs ls h hH hS => lv_ixor hX.1.1 hX.1.2.1 hd (k H locs ls h hH hS)
theorem ow_ishr (hX : ox X V rm cc nL own Ts ret) {x y : Int32} (hd : decode cc pc = .ok (.ishr, 1)) (k : ow X V r u' u loc (pc + 1) (.int (x >>> (y &&& 31)) :: st)) : ow X V r u' u loc pc (.int y :: .int x :: st) :=
  fun H locs ls h hH hS => lv_ishr hX.1.1 hX.1.2.1 hd (k H locs ls h hH hS)
theorem ow_idiv (hX : ox X V rm cc nL own Ts ret) {x y : Int32} (hd : decode cc pc = .ok (.idiv, 1)) (hy : ¬ y = 0) (k : ow X V r u' u loc (pc + 1) (.int (x / y) :: st)) : ow X V r u' u loc pc (.int y :: .int x :: st) :=
  fun H locs ls h hH hS => lv_idiv hX.1.1 hX.1.2.1 hd hy (k H locs ls h hH hS)
theorem ow_divn (hX : ox X V rm cc nL own Ts ret) {a b : Nat} (hd : decode cc pc = .ok (.idiv, 1)) (ha : a < 2 ^ 31) (h0 : 0 < b) (hb : b < 2 ^ 31) (k : ow X V r u' u loc (pc + 1) (.int (nI (a / b)) :: st)) : ow X V r u' u loc pc (.int (nI b) :: .int (nI a) :: st) :=
  ow_idiv hX hd (nI_ne0 h0 hb) (by rw [pk_div ha h0 hb]; exact k)
theorem ow_irem (hX : ox X V rm cc nL own Ts ret) {x y : Int32} (hd : decode cc pc = .ok (.irem, 1)) (hy : ¬ y = 0) (k : ow X V r u' u loc (pc + 1) (.int (x - x / y * y) :: st)) : ow X V r u' u loc pc (.int y :: .int x :: st) :=
  fun H locs ls h hH hS => lv_irem hX.1.1 hX.1.2.1 hd hy (k H locs ls h hH hS)
theorem ow_remn (hX : ox X V rm cc nL own Ts ret) {a b : Nat} (hd : decode cc pc = .ok (.irem, 1)) (ha : a < 2 ^ 31) (h0 : 0 < b) (hb : b < 2 ^ 31) (k : ow X V r u' u loc (pc + 1) (.int (nI (a % b)) :: st)) : ow X V r u' u loc pc (.int (nI b) :: .int (nI a) :: st) :=
  ow_irem hX hd (nI_ne0 h0 hb) (by rw [pk_rem ha h0 hb]; exact k)
theorem ow_land (hX : ox X V rm cc nL own Ts ret) {x y : Int64} (hd : decode cc pc = .ok (.land, 1)) (k : ow X V r u' u loc (pc + 1) (.long (x &&& y) :: st)) : ow X V r u' u loc pc (.long y :: .long x :: st) :=
  fun H locs ls h hH hS => lv_land hX.1.1 hX.1.2.1 hd (k H locs ls h hH hS)
theorem ow_lshr (hX : ox X V rm cc nL own Ts ret) {x : Int64} {y : Int32} (hd : decode cc pc = .ok (.lshr, 1)) (k : ow X V r u' u loc (pc + 1) (.long (x >>> (y.toInt64 &&& 63)) :: st)) : ow X V r u' u loc pc (.int y :: .long x :: st) :=
  fun H locs ls h hH hS => lv_lshr hX.1.1 hX.1.2.1 hd rfl (k H locs ls h hH hS)
theorem ow_lushr (hX : ox X V rm cc nL own Ts ret) {x : Int64} {y : Int32} (hd : decode cc pc = .ok (.lushr, 1)) (k : ow X V r u' u loc (pc + 1) (.long ((x.toUInt64 >>> (y.toInt64.toUInt64 &&& Int64.toUInt64 63)).toInt64) :: st)) : ow X V r u' u loc pc (.int y :: .long x :: st) :=
  fun H locs ls h hH hS => lv_lushr hX.1.1 hX.1.2.1 hd rfl (k H locs ls h hH hS)
theorem ow_lcmp (hX : ox X V rm cc nL own Ts ret) {x y : Int64} (hd : decode cc pc = .ok (.lcmp, 1)) (k : ow X V r u' u loc (pc + 1) (.int (lg_cmp x y) :: st)) : ow X V r u' u loc pc (.long y :: .long x :: st) :=
  fun H locs ls h hH hS => W.lcmp hX.1.1 hX.1.2.1 hd (k H locs ls h hH hS)
/-! branches -/
theorem ow_goto (hX : ox X V rm cc nL own Ts ret) {off : Int} {tgt : Nat} (hd : decode cc pc = .ok (.goto off, 3)) (ht : (pc : Int) + off = (tgt : Int)) (k : ow X V r u' u loc tgt st) : ow X V r u' u loc pc st :=
  fun H locs ls h hH hS => lv_goto hX.1.1 hX.1.2.1 hd ht (k H locs ls h hH hS)
theorem ow_if_eq (hX : ox X V rm cc nL own Ts ret) {x : Int32} {off : Int} {tgt : Nat} (hd : decode cc pc = .ok (.ifCond .eq off, 3)) (ht : (pc : Int) + off = (tgt : Int)) (kt : x = 0 → ow X V r u' u loc tgt st) (kf : ¬ x = 0 → ow X V r u' u loc (pc + 3) st) : ow X V r u' u loc pc (.int x :: st) :=
  fun H locs ls h hH hS => lv_if_eq hX.1.1 hX.1.2.1 hd ht (fun q => kt q H locs ls h hH hS) (fun q => kf q H locs ls h hH hS)
theorem ow_ic_eq (hX : ox X V rm cc nL own Ts ret) {x y : Int32} {off : Int} {tgt : Nat} (hd : decode cc pc = .ok (.if_icmp .eq off, 3)) (ht : (pc : Int) + off = (tgt : Int)) (kt : x = y → ow X V r u' u loc tgt st) (kf : ¬ x = y → ow X V r u' u loc (pc + 3) st) : ow X V r u' u loc pc (.int y :: .int x :: st) :=
  fun H locs ls h hH hS => lv_icmp_eq hX.1.1 hX.1.2.1 hd ht (fun q => kt q H locs ls h hH hS) (fun q => kf q H locs ls h hH hS)
theorem ow_nc_eq (hX : ox X V rm cc nL own Ts ret) {a b : Nat} {off : Int} {tgt : Nat} (hd : decode cc pc = .ok (.if_icmp .eq off, 3)) (ht : (pc : Int) + off = (tgt : Int)) (ha : a < 2 ^ 31) (hb : b < 2 ^ 31) (kt : a = b → ow X V r u' u loc tgt st) (kf : ¬ a = b → ow X V r u' u loc (pc + 3) st) : ow X V r u' u loc pc (.int (nI b) :: .int (nI a) :: st) :=
  ow_ic_eq hX hd ht (fun q => kt (by simp only [nI_eq ha hb, nI_eq hb ha, nI_ltI ha hb, nI_ltI hb ha, nI_leI ha hb, nI_leI hb ha] at q; omega)) (fun q => kf (by simp only [nI_eq ha hb, nI_eq hb ha, nI_ltI ha hb, nI_ltI hb ha, nI_leI ha hb, nI_leI hb ha] at q; omega))
theorem ow_nz_eq (hX : ox X V rm cc nL own Ts ret) {a : Nat} {off : Int} {tgt : Nat} (hd : decode cc pc = .ok (.ifCond .eq off, 3)) (ht : (pc : Int) + off = (tgt : Int)) (ha : a < 2 ^ 31) (kt : a = 0 → ow X V r u' u loc tgt st) (kf : ¬ a = 0 → ow X V r u' u loc (pc + 3) st) : ow X V r u' u loc pc (.int (nI a) :: st) :=
  ow_if_eq hX hd ht (fun q => kt (by rw [← nI_0] at q; simp only [nI_eq ha (show 0 < 2 ^ 31 by decide), nI_ltI (show 0 < 2 ^ 31 by decide) ha, nI_leI ha (show 0 < 2 ^ 31 by decide)] at q; omega)) (fun q => kf (by rw [← nI_0] at q; simp only [nI_eq ha (show 0 < 2 ^ 31 by decide), nI_ltI (show 0 < 2 ^ 31 by decide) ha, nI_leI ha (show 0 < 2 ^ 31 by decide)] at q; omega))
theorem ow_if_ne (hX : ox X V rm cc nL own Ts ret) {x : Int32} {off : Int} {tgt : Nat} (hd : decode cc pc = .ok (.ifCond .ne off, 3)) (ht : (pc : Int) + off = (tgt : Int)) (kt : ¬ x = 0 → ow X V r u' u loc tgt st) (kf : x = 0 → ow X V r u' u loc (pc + 3) st) : ow X V r u' u loc pc (.int x :: st) :=
  fun H locs ls h hH hS => lv_if_ne hX.1.1 hX.1.2.1 hd ht (fun q => kt q H locs ls h hH hS) (fun q => kf q H locs ls h hH hS)
theorem ow_ic_ne (hX : ox X V rm cc nL own Ts ret) {x y : Int32} {off : Int} {tgt : Nat} (hd : decode cc pc = .ok (.if_icmp .ne off, 3)) (ht : (pc : Int) + off = (tgt : Int)) (kt : ¬ x = y → ow X V r u' u loc tgt st) (kf : x = y → ow X V r u' u loc (pc + 3) st) : ow X V r u' u loc pc (.int y :: .int x :: st) :=
  fun H locs ls h hH hS => lv_icmp_ne hX.1.1 hX.1.2.1 hd ht (fun q => kt q H locs ls h hH hS) (fun q => kf q H locs ls h hH hS)
theorem ow_nc_ne (hX : ox X V rm cc nL own Ts ret) {a b : Nat} {off : Int} {tgt : Nat} (hd : decode cc pc = .ok (.if_icmp .ne off, 3)) (ht : (pc : Int) + off = (tgt : Int)) (ha : a < 2 ^ 31) (hb : b < 2 ^ 31) (kt : ¬ a = b → ow X V r u' u loc tgt st) (kf : a = b → ow X V r u' u loc (pc + 3) st) : ow X V r u' u loc pc (.int (nI b) :: .int (nI a) :: st) :=
  ow_ic_ne hX hd ht (fun q => kt (by simp only [nI_eq ha hb, nI_eq hb ha, nI_ltI ha hb, nI_ltI hb ha, nI_leI ha hb, nI_leI hb ha] at q; omega)) (fun q => kf (by simp only [nI_eq ha hb, nI_eq hb ha, nI_ltI ha hb, nI_ltI hb ha, nI_leI ha hb, nI_leI hb ha] at q; omega))
theorem ow_nz_ne (hX : ox X V rm cc nL own Ts ret) {a : Nat} {off : Int} {tgt : Nat} (hd : decode cc pc = .ok (.ifCond .ne off, 3)) (ht : (pc : Int) + off = (tgt : Int)) (ha : a < 2 ^ 31) (kt : ¬ a = 0 → ow X V r u' u loc tgt st) (kf : a = 0 → ow X V r u' u loc (pc + 3) st) : ow X V r u' u loc pc (.int (nI a) :: st) :=
  ow_if_ne hX hd ht (fun q => kt (by rw [← nI_0] at q; simp only [nI_eq ha (show 0 < 2 ^ 31 by decide), nI_ltI (show 0 < 2 ^ 31 by decide) ha, nI_leI ha (show 0 < 2 ^ 31 by decide)] at q; omega)) (fun q => kf (by rw [← nI_0] at q; simp only [nI_eq ha (show 0 < 2 ^ 31 by decide), nI_ltI (show 0 < 2 ^ 31 by decide) ha, nI_leI ha (show 0 < 2 ^ 31 by decide)] at q; omega))
theorem ow_if_lt (hX : ox X V rm cc nL own Ts ret) {x : Int32} {off : Int} {tgt : Nat} (hd : decode cc pc = .ok (.ifCond .lt off, 3)) (ht : (pc : Int) + off = (tgt : Int)) (kt : x < 0 → ow X V r u' u loc tgt st) (kf : ¬ x < 0 → ow X V r u' u loc (pc + 3) st) : ow X V r u' u loc pc (.int x :: st) :=
  fun H locs ls h hH hS => lv_if_lt hX.1.1 hX.1.2.1 hd ht (fun q => kt q H locs ls h hH hS) (fun q => kf q H locs ls h hH hS)
theorem ow_ic_lt (hX : ox X V rm cc nL own Ts ret) {x y : Int32} {off : Int} {tgt : Nat} (hd : decode cc pc = .ok (.if_icmp .lt off, 3)) (ht : (pc : Int) + off = (tgt : Int)) (kt : x < y → ow X V r u' u loc tgt st) (kf : ¬ x < y → ow X V r u' u loc (pc + 3) st) : ow X V r u' u loc pc (.int y :: .int x :: st) :=
  fun H locs ls h hH hS => lv_icmp_lt hX.1.1 hX.1.2.1 hd ht (fun q => kt q H locs ls h hH hS) (fun q => kf q H locs ls h hH hS)
theorem ow_nc_lt (hX : ox X V rm cc nL own Ts ret) {a b : Nat} {off : Int} {tgt : Nat} (hd : decode cc pc = .ok (.if_icmp .lt off, 3)) (ht : (pc : Int) + off = (tgt : Int)) (ha : a < 2 ^ 31) (hb : b < 2 ^ 31) (kt : a < b → ow X V r u' u loc tgt st) (kf : b ≤ a → ow X V r u' u loc (pc + 3) st) : ow X V r u' u loc pc (.int (nI b) :: .int (nI a) :: st) :=
  ow_ic_lt hX hd ht (fun q => kt (by simp only [nI_eq ha hb, nI_eq hb ha, nI_ltI ha hb, nI_ltI hb ha, nI_leI ha hb, nI_leI hb ha] at q; omega)) (fun q => kf (by simp only [nI_eq ha hb, nI_eq hb ha, nI_ltI ha hb, nI_ltI hb ha, nI_leI ha hb, nI_leI hb ha] at q; omega))
theorem ow_nz_lt (hX : ox X V rm cc nL own Ts ret) {a : Nat} {off : Int} (hd : decode cc pc = .ok (.ifCond .lt off, 3)) {tgt : Nat} (ht : (pc : Int) + off = (tgt : Int)) (ha : a < 2 ^ 31) (kf : ow X V r u' u loc (pc + 3) st) : ow X V r u' u loc pc (.int (nI a) :: st) :=
  ow_if_lt hX hd ht (fun q => absurd q (nI_pos ha)) (fun _ => kf)
theorem ow_if_ge (hX : ox X V rm cc nL own Ts ret) {x : Int32} {off : Int} {tgt : Nat} (hd : decode cc pc = .ok (.ifCond .ge off, 3)) (ht : (pc : Int) + off = (tgt : Int)) (kt : 0 ≤ x → ow X V r u' u loc tgt st) (kf : ¬ 0 ≤ x → ow X V r u' u loc (pc + 3) st) : ow X V r u' u loc pc (.int x :: st) :=
  fun H locs ls h hH hS => lv_if_ge hX.1.1 hX.1.2.1 hd ht (fun q => kt q H locs ls h hH hS) (fun q => kf q H locs ls h hH hS)
theorem ow_ic_ge (hX : ox X V rm cc nL own Ts ret) {x y : Int32} {off : Int} {tgt : Nat} (hd : decode cc pc = .ok (.if_icmp .ge off, 3)) (ht : (pc : Int) + off = (tgt : Int)) (kt : y ≤ x → ow X V r u' u loc tgt st) (kf : ¬ y ≤ x → ow X V r u' u loc (pc + 3) st) : ow X V r u' u loc pc (.int y :: .int x :: st) :=
  fun H locs ls h hH hS => lv_icmp_ge hX.1.1 hX.1.2.1 hd ht (fun q => kt q H locs ls h hH hS) (fun q => kf q H locs ls h hH hS)
theorem ow_nc_ge (hX : ox X V rm cc nL own Ts ret) {a b : Nat} {off : Int} {tgt : Nat} (hd : decode cc pc = .ok (.if_icmp .ge off, 3)) (ht : (pc : Int) + off = (tgt : Int)) (ha : a < 2 ^ 31) (hb : b < 2 ^ 31) (kt : b ≤ a → ow X V r u' u loc tgt st) (kf : a < b → ow X V r u' u loc (pc + 3) st) : ow X V r u' u loc pc (.int (nI b) :: .int (nI a) :: st) :=
  ow_ic_ge hX hd ht (fun q => kt (by simp only [nI_eq ha hb, nI_eq hb ha, nI_ltI ha hb, nI_ltI hb ha, nI_leI ha hb, nI_leI hb ha] at q; omega)) (fun q => kf (by simp only [nI_eq ha hb, nI_eq hb ha, nI_ltI ha hb, nI_ltI hb ha, nI_leI ha hb, nI_leI hb ha] at q; omega))
theorem ow_nz_ge (hX : ox X V rm cc nL own Ts ret) {a : Nat} {off : Int} (hd : decode cc pc = .ok (.ifCond .ge off, 3)) {tgt : Nat} (ht : (pc : Int) + off = (tgt : Int)) (ha : a < 2 ^ 31) (kt : ow X V r u' u loc tgt st) : ow X V r u' u loc pc (.int (nI a) :: st) :=
  ow_if_ge hX hd ht (fun _ => kt) (fun q => absurd (nI_pos' ha) q)
theorem ow_if_gt (hX : ox X V rm cc nL own Ts ret) {x : Int32} {off : Int} {tgt : Nat} (hd : decode cc pc = .ok (.ifCond .gt off, 3)) (ht : (pc : Int) + off = (tgt : Int)) (kt : 0 < x → ow X V r u' u loc tgt st) (kf : ¬ 0 < x → ow X V r u' u loc (pc + 3) st) : ow X V r u' u loc pc (.int x :: st) :=
  fun H locs ls h hH hS => lv_if_gt hX.1.1 hX.1.2.1 hd ht (fun q => kt q H locs ls h hH hS) (fun q => kf q H locs ls h hH hS)
theorem ow_ic_gt (hX : ox X V rm cc nL own Ts ret) {x y : Int32} {off : Int} {tgt : Nat} (hd : decode cc pc = .ok (.if_icmp .gt off, 3)) (ht : (pc : Int) + off = (tgt : Int)) (kt : y < x → ow X V r u' u loc tgt st) (kf : ¬ y < x → ow X V r u' u loc (pc + 3) st) : ow X V r u' u loc pc (.int y :: .int x :: st) :=
  fun H locs ls h hH hS => lv_icmp_gt hX.1.1 hX.1.2.1 hd ht (fun q => kt q H locs ls h hH hS) (fun q => kf q H locs ls h hH hS)
theorem ow_nc_gt (hX : ox X V rm cc nL own Ts ret) {a b : Nat} {off : Int} {tgt : Nat} (hd : decode cc pc = .ok (.if_icmp .gt off, 3)) (ht : (pc : Int) + off = (tgt : Int)) (ha : a < 2 ^ 31) (hb : b < 2 ^ 31) (kt : b < a → ow X V r u' u loc tgt st) (kf : a ≤ b → ow X V r u' u loc (pc + 3) st) : ow X V r u' u loc pc (.int (nI b) :: .int (nI a) :: st) :=
  ow_ic_gt hX hd ht (fun q => kt (by simp only [nI_eq ha hb, nI_eq hb ha, nI_ltI ha hb, nI_ltI hb ha, nI_leI ha hb, nI_leI hb ha] at q; omega)) (fun q => kf (by simp only [nI_eq ha hb, nI_eq hb ha, nI_ltI ha hb, nI_ltI hb ha, nI_leI ha hb, nI_leI hb ha] at q; omega))
theorem ow_nz_gt (hX : ox X V rm cc nL own Ts ret) {a : Nat} {off : Int} {tgt : Nat} (hd : decode cc pc = .ok (.ifCond .gt off, 3)) (ht : (pc : Int) + off = (tgt : Int)) (ha : a < 2 ^ 31) (kt : 0 < a → ow X V r u' u loc tgt st) (kf : a = 0 → ow X V r u' u loc (pc + 3) st) : ow X V r u' u loc pc (.int (nI a) :: st) :=
  ow_if_gt hX hd ht (fun q => kt (by rw [← nI_0] at q; simp only [nI_eq ha (show 0 < 2 ^ 31 by decide), nI_ltI (show 0 < 2 ^ 31 by decide) ha, nI_leI ha (show 0 < 2 ^ 31 by decide)] at q; omega)) (fun q => kf (by rw [← nI_0] at q; simp only [nI_eq ha (show 0 < 2 ^ 31 by decide), nI_ltI (show 0 < 2 ^ 31 by decide) ha, nI_leI ha (show 0 < 2 ^ 31 by decide)] at q; omega))
theorem ow_if_le (hX : ox X V rm cc nL own Ts ret) {x : Int32} {off : Int} {tgt : Nat} (hd : decode cc pc = .ok (.ifCond .le off, 3)) (ht : (pc : Int) + off = (tgt : Int)) (kt : x ≤ 0 → ow X V r u' u loc tgt st) (kf : ¬ x ≤ 0 → ow X V r u' u loc (pc + 3) st) : ow X V r u' u loc pc (.int x :: st) :=
  fun H locs ls h hH hS => lv_if_le hX.1.1 hX.1.2.1 hd ht (fun q => kt q H locs ls h hH hS) (fun q => kf q H locs ls h hH hS)
theorem ow_ic_le (hX : ox X V rm cc nL own Ts ret) {x y : Int32} {off : Int} {tgt : Nat} (hd : decode cc pc = .ok (.if_icmp .le off, 3)) (ht : (pc : Int) + off = (tgt : Int)) (kt : x ≤ y → ow X V r u' u loc tgt st) (kf : ¬ x ≤ y → ow X V r u' u loc (pc + 3) st) : ow X V r u' u loc pc (.int y :: .int x :: st) :=
  fun H locs ls h hH hS => lv_icmp_le hX.1.1 hX.1.2.1 hd ht (fun q => kt q H locs ls h hH hS) (fun q => kf q H locs ls h hH hS)
theorem ow_nc_le (hX : ox X V rm cc nL own Ts ret) {a b : Nat} {off : Int} {tgt : Nat} (hd : decode cc pc = .ok (.if_icmp .le off, 3)) (ht : (pc : Int) + off = (tgt : Int)) (ha : a < 2 ^ 31) (hb : b < 2 ^ 31) (kt : a ≤ b → ow X V r u' u loc tgt st) (kf : b < a → ow X V r u' u loc (pc + 3) st) : ow X V r u' u loc pc (.int (nI b) :: .int (nI a) :: st) :=
  ow_ic_le hX hd ht (fun q => kt (by simp only [nI_eq ha hb, nI_eq hb ha, nI_ltI ha hb, nI_ltI hb ha, nI_leI ha hb, nI_leI hb ha] at q; omega)) (fun q => kf (by simp only [nI_eq ha hb, nI_eq hb ha, nI_ltI ha hb, nI_ltI hb ha, nI_leI ha hb, nI_leI hb ha] at q; omega))
theorem ow_nz_le (hX : ox X V rm cc nL own Ts ret) {a : Nat} {off : Int} {tgt : Nat} (hd : decode cc pc = .ok (.ifCond .le off, 3)) (ht : (pc : Int) + off = (tgt : Int)) (ha : a < 2 ^ 31) (kt : a ≤ 0 → ow X V r u' u loc tgt st) (kf : 0 < a → ow X V r u' u loc (pc + 3) st) : ow X V r u' u loc pc (.int (nI a) :: st) :=
  ow_if_le hX hd ht (fun q => kt (by rw [← nI_0] at q; simp only [nI_eq ha (show 0 < 2 ^ 31 by decide), nI_ltI (show 0 < 2 ^ 31 by decide) ha, nI_leI ha (show 0 < 2 ^ 31 by decide)] at q; omega)) (fun q => kf (by rw [← nI_0] at q; simp only [nI_eq ha (show 0 < 2 ^ 31 by decide), nI_ltI (show 0 < 2 ^ 31 by decide) ha, nI_leI ha (show 0 < 2 ^ 31 by decide)] at q; omega))
theorem ow_tableOut (hX : ox X V rm cc nL own Ts ret) {dflt lo hi : Int} {offs : Array Int} {len : Nat} {x : Int32} {tgt : Nat} (hd : decode cc pc = .ok (.tableswitch dflt lo hi offs, len)) (hx : x.toInt < lo ∨ hi < x.toInt) (ht : (pc : Int) + dflt = (tgt : Int)) (k : ow X V r u' u loc tgt st) : ow X V r u' u loc pc (.int x :: st) :=
  fun H locs ls h hH hS => lv_tableOut hX.1.1 hX.1.2.1 hd hx ht (k H locs ls h hH hS)
theorem ow_tableIn (hX : ox X V rm cc nL own Ts ret) {dflt lo hi : Int} {offs : Array Int} {len : Nat} {x : Int32} {off : Int} {tgt : Nat} (hd : decode cc pc = .ok (.tableswitch dflt lo hi offs, len)) (h1 : ¬ x.toInt < lo) (h2 : ¬ hi < x.toInt) (ho : offs[(x.toInt - lo).toNat]? = some off) (ht : (pc : Int) + off = (tgt : Int)) (k : ow X V r u' u loc tgt st) : ow X V r u' u loc pc (.int x :: st) :=
  fun H locs ls h hH hS => lv_tableIn hX.1.1 hX.1.2.1 hd h1 h2 ho ht (k H locs ls h hH hS)
theorem ow_lookup (hX : ox X V rm cc nL own Ts ret) {dflt : Int} {ps : Array (Int × Int)} {len : Nat} {x : Int32} {off : Int} {tgt : Nat} (hd : decode cc pc = .ok (.lookupswitch dflt ps, len)) (hp : (ps.toList.zip (ps.toList.drop 1)).all (fun (a, next) => a.1 < next.1) = true) (ho : Op.lookupswitch.offset ps.toList dflt x.toInt = off) (ht : (pc : Int) + off = (tgt : Int)) (k : ow X V r u' u loc tgt st) : ow X V r u' u loc pc (.int x :: st) :=
  fun H locs ls h hH hS => lv_lookup hX.1.1 hX.1.2.1 hd hp ho ht (k H locs ls h hH hS)
/-! returns -/
theorem ow_iret (hX : ox X V rm cc nL own Ts (some .int)) {v : Int32} (hd : decode cc pc = .ok (.ireturn, 1)) (e : r = some (.int v)) (eu : u' = u) : ow X V r u' u loc pc [.int v] := by
  intro H locs ls h hH hS
  subst e; subst eu
  exact W.iret hX.1.1 hX.1.2.1 hX.2.2.2.2.1 (fun t ht hW => ⟨⟨rfl, by rw [ht]; exact hH, hX.2.1.moved hW⟩, hS.F ht⟩) hS.2.2 hd hX.2.2.2.1
theorem ow_zret (hX : ox X V rm cc nL own Ts (some .boolean)) {v : Int32} (hd : decode cc pc = .ok (.ireturn, 1)) (hn : narrow .boolean (.int v) = .int v) (e : r = some (.int v)) (eu : u' = u) : ow X V r u' u loc pc [.int v] := by
  intro H locs ls h hH hS
  subst e; subst eu
  exact W.zret hX.1.1 hX.1.2.1 hX.2.2.2.2.1 hn (fun t ht hW => ⟨⟨rfl, by rw [ht]; exact hH, hX.2.1.moved hW⟩, hS.F ht⟩) hS.2.2 hd hX.2.2.2.1
theorem ow_vret (hX : ox X V rm cc nL own Ts none) (hd : decode cc pc = .ok (.return_, 1)) (e : r = none) (eu : u' = u) : ow X V r u' u loc pc [] := by
  intro H locs ls h hH hS
  subst e; subst eu
  exact W.vret hX.1.1 hX.1.2.1 hX.2.2.2.2.1 (fun t ht hW => ⟨⟨rfl, by rw [ht]; exact hH, hX.2.1.moved hW⟩, hS.F ht⟩) hS.2.2 hd hX.2.2.2.1
theorem nb_01 {b : Nat} (h : b ≤ 1) : narrow .boolean (.int (nI b)) = .int (nI b) := by
  rcases (by omega : b = 0 ∨ b = 1) with rfl | rfl <;> rfl
theorem vn_01 {b : Nat} (h : b ≤ 1) : vp_nar .boolean (nI b) = nI b := by
  unfold vp_nar; rw [nb_01 h]
/-! fields -/
/-- kind k is class C, number ci, with fields T of the kinds ts -/
def kd (V : PV) (Ts : List Cond) (k ci N : Nat) (C : String) (T : u_T) (ts : List (Nat × Nat)) : Prop :=
  pv_sh V k = .inl (ci, ts) ∧ (pv_cl V)[ci]? = some (C, T, N) ∧ ts.length = N ∧ (∀ w ∈ u_ws C T N, w ∈ Ts) ∧ (∀ j, j < N → (T j).1 = C) ∧ (∃ ty0 : Nat → FieldType, ∀ j, j < N → parseFieldDescriptor (T j).2.2.1 = some (ty0 j)) ∧ ∀ a, a < N → ∀ b, b < N → a ≠ b → (T a).2.1 ≠ (T b).2.1
theorem ow_get (hX : ox X V rm cc nL own Ts ret) {k i ci N index : Nat} {C : String} {T : u_T} {ts : List (Nat × Nat)} {t : Nat × Nat} {v : Value} (hk : kd V Ts k ci N C T ts) (j : Nat) (hd : decode cc pc = .ok (.getfield index, 3)) (hl : Cond.fieldLink own index C (T j).2.1 (T j).2.2.1 ∈ Ts) (ht : ts[j]? = some t) (hi : i < pv_bd V k) (hv : pv_f V u k i j t = v)
    (kk : ow X V r u' u loc (pc + 3) (v :: st)) : ow X V r u' u loc pc (.ref (pv_ad V k i) :: st) := by
  intro H locs ls h hH hS
  obtain ⟨hs, hc, hN, hin, hT, -, -⟩ := hk
  have hj : j < N := by rw [← hN]; exact (List.getElem?_eq_some_iff.mp ht).1
  have hH' := hH
  obtain ⟨σ, hσ, hP, hD⟩ := hH
  obtain ⟨q0, hq⟩ := va_pl_get (X := []) (f := σ) (hX.2.2.1.2.1 k i hi)
  rw [List.nil_append, hσ k i hi, pv_c_o hs] at hq
  exact va_get hX.1.1 hX.1.2.1 hX.1.2.2.2.2 hin hX.1.2.2.2.1 hX.2.1.1 hP q0 hq hc j hj (hX.1.2.2.2.2 _ hl) (fun x hx => by rw [hT j hj] at hx; exact hx) (by rw [pv_o_at ht, hv]) hd (kk H locs ls h hH' hS)
theorem ow_put (hX : ox X V rm cc nL own Ts ret) {k i ci N index : Nat} {C : String} {T : u_T} {ts : List (Nat × Nat)} {t : Nat × Nat} {v : Value} {w : UU} {ty : FieldType} (hk : kd V Ts k ci N C T ts) (j : Nat) (hd : decode cc pc = .ok (.putfield index, 3)) (hl : Cond.fieldLink own index C (T j).2.1 (T j).2.2.1 ∈ Ts) (ht : ts[j]? = some t) (hi : i < pv_bd V k)
    (hfin : (T j).2.2.2 = false) (hp : parseFieldDescriptor (T j).2.2.1 = some ty) (hn : narrow ty v = v) (hfit : fits ty v = true) (hw1 : pv_f V w k i j t = v) (hw2 : ∀ a, a ≠ j → ∀ t2, pv_f V w k i a t2 = pv_f V u k i a t2) (hw3 : ∀ k2 i2, i2 < pv_bd V k2 → ¬ (k2 = k ∧ i2 = i) → pv_c V w k2 i2 = pv_c V u k2 i2)
    (kk : ow X V r u' w loc (pc + 3) st) : ow X V r u' u loc pc (v :: .ref (pv_ad V k i) :: st) := by
  intro H locs ls h hH hS
  obtain ⟨hs, hc, hN, hin, hT, ⟨ty0, hty⟩, hnm⟩ := hk
  have hj : j < N := by rw [← hN]; exact (List.getElem?_eq_some_iff.mp ht).1
  obtain ⟨σ, hσ, hP, hD⟩ := hH
  obtain ⟨q0, hq0⟩ := va_pl_get (X := []) (f := σ) (hX.2.2.1.2.1 k i hi)
  have hq := hq0
  rw [List.nil_append, hσ k i hi, pv_c_o hs] at hq
  refine va_put hX.1.1 hX.1.2.1 hX.1.2.2.2.2 hin ty0 hty hnm hX.1.2.2.2.1 hX.2.1.1 hP hD hS q0 hq hc j hj (hX.1.2.2.2.2 _ hl) (fun x hx => by rw [hT j hj] at hx; exact hx) hfin hp hn hfit (by rw [pv_o_len, hN]; exact hj) hd (fun H1 locs1 hP1 hD1 hS1 => kk H1 locs1 ls h ?_ hS1)
  have e1 := va_pl_set (X := []) (e := .inr (ci, (pv_o V u k i ts).set j v)) hD (hX.2.2.1.2.1 k i hi) hq0
  simp only [List.nil_append] at e1
  rw [e1] at hP1 hD1
  refine ⟨_, pv_new hX.2.2.1 hi hσ ?_ hw3, hP1, hD1⟩
  rw [pv_c_o hs]
  congr 2
  unfold pv_o
  refine pv_set _ _ _ _ _ ?_ (fun a ha => hw2 a ha _)
  rw [List.getD, ht]
  exact hw1
theorem ow_gN (hX : ox X V rm cc nL own Ts ret) {k i ci N index z : Nat} {C : String} {T : u_T} {ts : List (Nat × Nat)} (hk : kd V Ts k ci N C T ts) (j : Nat) (hd : decode cc pc = .ok (.getfield index, 3)) (hl : Cond.fieldLink own index C (T j).2.1 (T j).2.2.1 ∈ Ts) (ht : ts[j]? = some (0, z)) (hi : i < pv_bd V k)
    (kk : ow X V r u' u loc (pc + 3) (.int (nI (u.1 k i j)) :: st)) : ow X V r u' u loc pc (.ref (pv_ad V k i) :: st) := ow_get hX hk j hd hl ht hi rfl kk
theorem ow_gI (hX : ox X V rm cc nL own Ts ret) {k i ci N index z : Nat} {C : String} {T : u_T} {ts : List (Nat × Nat)} (hk : kd V Ts k ci N C T ts) (j : Nat) (hd : decode cc pc = .ok (.getfield index, 3)) (hl : Cond.fieldLink own index C (T j).2.1 (T j).2.2.1 ∈ Ts) (ht : ts[j]? = some (1, z)) (hi : i < pv_bd V k)
    (kk : ow X V r u' u loc (pc + 3) (.int (u.2.1 k i j) :: st)) : ow X V r u' u loc pc (.ref (pv_ad V k i) :: st) := ow_get hX hk j hd hl ht hi rfl kk
theorem ow_gL (hX : ox X V rm cc nL own Ts ret) {k i ci N index z : Nat} {C : String} {T : u_T} {ts : List (Nat × Nat)} (hk : kd V Ts k ci N C T ts) (j : Nat) (hd : decode cc pc = .ok (.getfield index, 3)) (hl : Cond.fieldLink own index C (T j).2.1 (T j).2.2.1 ∈ Ts) (ht : ts[j]? = some (2, z)) (hi : i < pv_bd V k)
    (kk : ow X V r u' u loc (pc + 3) (.long (u.2.2.1 k i j) :: st)) : ow X V r u' u loc pc (.ref (pv_ad V k i) :: st) := ow_get hX hk j hd hl ht hi rfl kk
theorem ow_gR (hX : ox X V rm cc nL own Ts ret) {k i ci N index z : Nat} {C : String} {T : u_T} {ts : List (Nat × Nat)} (hk : kd V Ts k ci N C T ts) (j : Nat) (hd : decode cc pc = .ok (.getfield index, 3)) (hl : Cond.fieldLink own index C (T j).2.1 (T j).2.2.1 ∈ Ts) (ht : ts[j]? = some (3, z)) (hi : i < pv_bd V k)
    (kk : ow X V r u' u loc (pc + 3) (.ref (pv_ad V z i) :: st)) : ow X V r u' u loc pc (.ref (pv_ad V k i) :: st) := ow_get hX hk j hd hl ht hi rfl kk
theorem ow_gE (hX : ox X V rm cc nL own Ts ret) {k i ci N index z : Nat} {C : String} {T : u_T} {ts : List (Nat × Nat)} (hk : kd V Ts k ci N C T ts) (j : Nat) (hd : decode cc pc = .ok (.getfield index, 3)) (hl : Cond.fieldLink own index C (T j).2.1 (T j).2.2.1 ∈ Ts) (ht : ts[j]? = some (4, z)) (hi : i < pv_bd V k)
    (kk : ow X V r u' u loc (pc + 3) (.ref (pv_ad V z (2 * i)) :: st)) : ow X V r u' u loc pc (.ref (pv_ad V k i) :: st) := ow_get hX hk j hd hl ht hi rfl kk
theorem ow_gO (hX : ox X V rm cc nL own Ts ret) {k i ci N index z : Nat} {C : String} {T : u_T} {ts : List (Nat × Nat)} (hk : kd V Ts k ci N C T ts) (j : Nat) (hd : decode cc pc = .ok (.getfield index, 3)) (hl : Cond.fieldLink own index C (T j).2.1 (T j).2.2.1 ∈ Ts) (ht : ts[j]? = some (5, z)) (hi : i < pv_bd V k)
    (kk : ow X V r u' u loc (pc + 3) (.ref (pv_ad V z (2 * i + 1)) :: st)) : ow X V r u' u loc pc (.ref (pv_ad V k i) :: st) := ow_get hX hk j hd hl ht hi rfl kk
theorem ow_gM (hX : ox X V rm cc nL own Ts ret) {k i ci N index z : Nat} {C : String} {T : u_T} {ts : List (Nat × Nat)} (hk : kd V Ts k ci N C T ts) (j : Nat) (hd : decode cc pc = .ok (.getfield index, 3)) (hl : Cond.fieldLink own index C (T j).2.1 (T j).2.2.1 ∈ Ts) (ht : ts[j]? = some (6, z)) (hi : i < pv_bd V k)
    (kk : ow X V r u' u loc (pc + 3) (.ref (pv_ad V z (u.2.2.2 j)) :: st)) : ow X V r u' u loc pc (.ref (pv_ad V k i) :: st) := ow_get hX hk j hd hl ht hi rfl kk
theorem ow_gS (hX : ox X V rm cc nL own Ts ret) {k i ci N index z : Nat} {C : String} {T : u_T} {ts : List (Nat × Nat)} (hk : kd V Ts k ci N C T ts) (j : Nat) (hd : decode cc pc = .ok (.getfield index, 3)) (hl : Cond.fieldLink own index C (T j).2.1 (T j).2.2.1 ∈ Ts) (ht : ts[j]? = some (7, z)) (hi : i < pv_bd V k)
    (kk : ow X V r u' u loc (pc + 3) (.int (nI i) :: st)) : ow X V r u' u loc pc (.ref (pv_ad V k i) :: st) := ow_get hX hk j hd hl ht hi rfl kk
theorem ow_gK (hX : ox X V rm cc nL own Ts ret) {k i ci N index z : Nat} {C : String} {T : u_T} {ts : List (Nat × Nat)} (hk : kd V Ts k ci N C T ts) (j : Nat) (hd : decode cc pc = .ok (.getfield index, 3)) (hl : Cond.fieldLink own index C (T j).2.1 (T j).2.2.1 ∈ Ts) (ht : ts[j]? = some (8, z)) (hi : i < pv_bd V k)
    (kk : ow X V r u' u loc (pc + 3) (.int (nI z) :: st)) : ow X V r u' u loc pc (.ref (pv_ad V k i) :: st) := ow_get hX hk j hd hl ht hi rfl kk
theorem pf_un_ne {V : PV} {u : UU} {k i j v a : Nat} (h : a ≠ j) (t : Nat × Nat) : pv_f V (un u k i j v) k i a t = pv_f V u k i a t := by
  unfold pv_f
  rw [un_1, un_2, if_neg (fun q => h q.2.2)]
theorem pf_ui_ne {V : PV} {u : UU} {k i j a : Nat} {v : Int32} (h : a ≠ j) (t : Nat × Nat) : pv_f V (ui u k i j v) k i a t = pv_f V u k i a t := by
  unfold pv_f
  rw [ui_1, ui_2, ui_3, if_neg (fun q => h q.2.2)]
theorem pf_ul_ne {V : PV} {u : UU} {k i j a : Nat} {v : Int64} (h : a ≠ j) (t : Nat × Nat) : pv_f V (ul u k i j v) k i a t = pv_f V u k i a t := by
  unfold pv_f
  rw [ul_1, ul_2, ul_3, ul_4, if_neg (fun q => h q.2.2)]
theorem ow_pN (hX : ox X V rm cc nL own Ts ret) {k i ci N index z v : Nat} {C : String} {T : u_T} {ts : List (Nat × Nat)} (hk : kd V Ts k ci N C T ts) (j : Nat) (hd : decode cc pc = .ok (.putfield index, 3)) (hl : Cond.fieldLink own index C (T j).2.1 (T j).2.2.1 ∈ Ts) (ht : ts[j]? = some (0, z)) (hi : i < pv_bd V k) (hfin : (T j).2.2.2 = false) (hp : parseFieldDescriptor (T j).2.2.1 = some .int)
    (kk : ow X V r u' (un u k i j v) loc (pc + 3) st) : ow X V r u' u loc pc (.int (nI v) :: .ref (pv_ad V k i) :: st) :=
  ow_put hX hk j hd hl ht hi hfin hp rfl rfl (by show Value.int (nI ((un u k i j v).1 k i j)) = _; rw [un_1, if_pos ⟨rfl, rfl, rfl⟩]) (fun a ha t => pf_un_ne ha t) (fun _ _ _ h => pv_un_ne h) kk
theorem ow_pZ (hX : ox X V rm cc nL own Ts ret) {k i ci N index z v : Nat} {C : String} {T : u_T} {ts : List (Nat × Nat)} (hk : kd V Ts k ci N C T ts) (j : Nat) (hd : decode cc pc = .ok (.putfield index, 3)) (hl : Cond.fieldLink own index C (T j).2.1 (T j).2.2.1 ∈ Ts) (ht : ts[j]? = some (0, z)) (hi : i < pv_bd V k) (hfin : (T j).2.2.2 = false) (hp : parseFieldDescriptor (T j).2.2.1 = some .boolean) (hv : v ≤ 1)
    (kk : ow X V r u' (un u k i j v) loc (pc + 3) st) : ow X V r u' u loc pc (.int (nI v) :: .ref (pv_ad V k i) :: st) :=
  ow_put hX hk j hd hl ht hi hfin hp (nb_01 hv) (by rcases (by omega : v = 0 ∨ v = 1) with rfl | rfl <;> rfl) (by show Value.int (nI ((un u k i j v).1 k i j)) = _; rw [un_1, if_pos ⟨rfl, rfl, rfl⟩]) (fun a ha t => pf_un_ne ha t) (fun _ _ _ h => pv_un_ne h) kk
theorem ow_pI (hX : ox X V rm cc nL own Ts ret) {k i ci N index z : Nat} {v : Int32} {C : String} {T : u_T} {ts : List (Nat × Nat)} (hk : kd V Ts k ci N C T ts) (j : Nat) (hd : decode cc pc = .ok (.putfield index, 3)) (hl : Cond.fieldLink own index C (T j).2.1 (T j).2.2.1 ∈ Ts) (ht : ts[j]? = some (1, z)) (hi : i < pv_bd V k) (hfin : (T j).2.2.2 = false) (hp : parseFieldDescriptor (T j).2.2.1 = some .int)
    (kk : ow X V r u' (ui u k i j v) loc (pc + 3) st) : ow X V r u' u loc pc (.int v :: .ref (pv_ad V k i) :: st) :=
  ow_put hX hk j hd hl ht hi hfin hp rfl rfl (by show Value.int ((ui u k i j v).2.1 k i j) = _; rw [ui_2, if_pos ⟨rfl, rfl, rfl⟩]) (fun a ha t => pf_ui_ne ha t) (fun _ _ _ h => pv_ui_ne h) kk
theorem ow_pL (hX : ox X V rm cc nL own Ts ret) {k i ci N index z : Nat} {v : Int64} {C : String} {T : u_T} {ts : List (Nat × Nat)} (hk : kd V Ts k ci N C T ts) (j : Nat) (hd : decode cc pc = .ok (.putfield index, 3)) (hl : Cond.fieldLink own index C (T j).2.1 (T j).2.2.1 ∈ Ts) (ht : ts[j]? = some (2, z)) (hi : i < pv_bd V k) (hfin : (T j).2.2.2 = false) (hp : parseFieldDescriptor (T j).2.2.1 = some .long)
    (kk : ow X V r u' (ul u k i j v) loc (pc + 3) st) : ow X V r u' u loc pc (.long v :: .ref (pv_ad V k i) :: st) :=
  ow_put hX hk j hd hl ht hi hfin hp rfl rfl (by show Value.long ((ul u k i j v).2.2.1 k i j) = _; rw [ul_3, if_pos ⟨rfl, rfl, rfl⟩]) (fun a ha t => pf_ul_ne ha t) (fun _ _ _ h => pv_ul_ne h) kk
/-- a reference that moves: the one cell of its kind holds such -/
theorem ow_pM (hX : ox X V rm cc nL own Ts ret) {k i ci N index z v : Nat} {C C2 : String} {T : u_T} {ts : List (Nat × Nat)} (hk : kd V Ts k ci N C T ts) (j : Nat) (hd : decode cc pc = .ok (.putfield index, 3)) (hl : Cond.fieldLink own index C (T j).2.1 (T j).2.2.1 ∈ Ts) (ht : ts[j]? = some (6, z)) (hi : i < pv_bd V k) (hfin : (T j).2.2.2 = false) (hp : parseFieldDescriptor (T j).2.2.1 = some (.object C2))
    (hone : ∀ i2, i2 < pv_bd V k → i2 = i) (hno : ∀ k2 ci2 ts2, pv_sh V k2 = .inl (ci2, ts2) → k2 ≠ k → ∀ t ∈ ts2, t.1 ≠ 6)
    (kk : ow X V r u' (ur u j v) loc (pc + 3) st) : ow X V r u' u loc pc (.ref (pv_ad V z v) :: .ref (pv_ad V k i) :: st) := by
  refine ow_put (w := ur u j v) hX hk j hd hl ht hi hfin hp rfl rfl ?_ (fun a ha t => ?_) (fun k2 i2 hb hne => ?_) kk
  · show Value.ref (pv_ad V z ((ur u j v).2.2.2 j)) = _
    rw [ur_4, if_pos rfl]
  · unfold pv_f
    rw [ur_1, ur_2, ur_3, ur_4, if_neg ha]
  · have hkk : k2 ≠ k := fun e => by subst e; exact hne ⟨rfl, hone i2 hb⟩
    cases hsh : pv_sh V k2 with
    | inl q =>
      obtain ⟨ci2, ts2⟩ := q
      rw [pv_c_o hsh, pv_c_o hsh]
      congr 2
      unfold pv_o
      apply List.map_congr_left
      intro a ha
      have hal : a < ts2.length := List.mem_range.mp ha
      have e : ts2.getD a (0, 0) = ts2[a] := by simp [List.getD, hal]
      have h6 : (ts2.getD a (0, 0)).1 ≠ 6 := by rw [e]; exact hno k2 ci2 ts2 hsh hkk _ (List.getElem_mem hal)
      clear e
      generalize ts2.getD a (0, 0) = t at h6
      obtain ⟨t1, t2⟩ := t
      unfold pv_f
      dsimp only at h6 ⊢
      split <;> first | rfl | (exfalso; exact h6 rfl)
    | inr q =>
      obtain ⟨c0, ty, k3⟩ := q
      unfold pv_c
      rw [hsh]
      split <;> first | rfl | (rename_i h9; cases h9)
/-! arrays -/
theorem ow_cell (hX : ox X V rm cc nL own Ts ret) {H : Heap} {k i : Nat} (hi : i < pv_bd V k) (hH : pv_H V u H) : ∃ (σ : Nat → va_E) (q0 : Nat), (∀ k i, i < pv_bd V k → σ (pv_ad V k i) = pv_c V u k i) ∧ va_P (pv_D V) (pv_cl V) (va_pl (pv_L V) σ) H ∧ va_D (pv_A V) (va_pl (pv_L V) σ) ∧ (va_pl (pv_L V) σ)[q0]? = some (pv_ad V k i, pv_c V u k i) ∧ ∀ e, (va_pl (pv_L V) σ).set q0 (pv_ad V k i, e) = va_pl (pv_L V) (va_up σ (pv_ad V k i) e) := by
  obtain ⟨σ, hσ, hP, hD⟩ := hH
  obtain ⟨q0, hq0⟩ := va_pl_get (X := []) (f := σ) (hX.2.2.1.2.1 k i hi)
  refine ⟨σ, q0, hσ, hP, hD, by rw [← hσ k i hi]; exact hq0, fun e => ?_⟩
  have e1 := va_pl_set (X := []) (e := e) hD (hX.2.2.1.2.1 k i hi) hq0
  simpa only [List.nil_append] using e1
theorem ow_len (hX : ox X V rm cc nL own Ts ret) {k i z c : Nat} {ty : FieldType} (hs : pv_sh V k = .inr (c, ty, z)) (hc : c < 4) (hd : decode cc pc = .ok (.arraylength, 1)) (hi : i < pv_bd V k) (kk : ow X V r u' u loc (pc + 1) (.int (nI (pv_ln V k)) :: st)) : ow X V r u' u loc pc (.ref (pv_ad V k i) :: st) := by
  intro H locs ls h hH hS
  obtain ⟨σ, q0, hσ, hP, hD, hq, -⟩ := ow_cell hX hi hH
  obtain ⟨t0, ht0⟩ := hX.2.2.1.2.2.1 k c ty z hs
  rcases (by omega : c = 0 ∨ c = 1 ∨ c = 2 ∨ c = 3) with rfl | rfl | rfl | rfl
  · rw [pv_c_0 hs] at hq
    exact va_alen hX.1.1 hX.1.2.1 hX.2.1.1 hP q0 t0 hq ht0 rfl hd (kk H locs ls h hH hS)
  · rw [pv_c_1 hs] at hq
    exact va_alen hX.1.1 hX.1.2.1 hX.2.1.1 hP q0 t0 hq ht0 rfl hd (kk H locs ls h hH hS)
  · rw [pv_c_2 hs] at hq
    exact va_alen hX.1.1 hX.1.2.1 hX.2.1.1 hP q0 t0 hq ht0 rfl hd (kk H locs ls h hH hS)
  · rw [pv_c_3 hs] at hq
    exact va_alen hX.1.1 hX.1.2.1 hX.2.1.1 hP q0 t0 hq ht0 rfl hd (kk H locs ls h hH hS)
theorem ow_aN (hX : ox X V rm cc nL own Ts ret) {k i z j : Nat} (hs : pv_sh V k = .inr (0, .int, z)) (hd : decode cc pc = .ok (.iaload, 1)) (hi : i < pv_bd V k) (hj : j < pv_ln V k) (kk : ow X V r u' u loc (pc + 1) (.int (nI (u.1 k i j)) :: st)) : ow X V r u' u loc pc (.int (nI j) :: .ref (pv_ad V k i) :: st) := by
  intro H locs ls h hH hS
  obtain ⟨σ, q0, hσ, hP, hD, hq, -⟩ := ow_cell hX hi hH
  obtain ⟨t0, ht0⟩ := hX.2.2.1.2.2.1 k _ _ z hs
  have hln := hX.2.2.1.2.2.2 k
  rw [pv_c_0 hs] at hq
  refine va_iald hX.1.1 hX.1.2.1 hX.2.1.1 hP q0 t0 hq ht0 (vp_in_nI hj hln) hd ?_
  rw [nI_clamp (by omega)]
  exact kk H locs ls h hH hS
theorem ow_aZ (hX : ox X V rm cc nL own Ts ret) {k i z j : Nat} (hs : pv_sh V k = .inr (0, .boolean, z)) (hd : decode cc pc = .ok (.baload, 1)) (hi : i < pv_bd V k) (hj : j < pv_ln V k) (kk : ow X V r u' u loc (pc + 1) (.int (nI (u.1 k i j)) :: st)) : ow X V r u' u loc pc (.int (nI j) :: .ref (pv_ad V k i) :: st) := by
  intro H locs ls h hH hS
  obtain ⟨σ, q0, hσ, hP, hD, hq, -⟩ := ow_cell hX hi hH
  obtain ⟨t0, ht0⟩ := hX.2.2.1.2.2.1 k _ _ z hs
  have hln := hX.2.2.1.2.2.2 k
  rw [pv_c_0 hs] at hq
  refine va_zald hX.1.1 hX.1.2.1 hX.2.1.1 hP q0 t0 hq ht0 (vp_in_nI hj hln) hd ?_
  rw [nI_clamp (by omega)]
  exact kk H locs ls h hH hS
theorem ow_aI (hX : ox X V rm cc nL own Ts ret) {k i z j : Nat} (hs : pv_sh V k = .inr (1, .int, z)) (hd : decode cc pc = .ok (.iaload, 1)) (hi : i < pv_bd V k) (hj : j < pv_ln V k) (kk : ow X V r u' u loc (pc + 1) (.int (u.2.1 k i j) :: st)) : ow X V r u' u loc pc (.int (nI j) :: .ref (pv_ad V k i) :: st) := by
  intro H locs ls h hH hS
  obtain ⟨σ, q0, hσ, hP, hD, hq, -⟩ := ow_cell hX hi hH
  obtain ⟨t0, ht0⟩ := hX.2.2.1.2.2.1 k _ _ z hs
  have hln := hX.2.2.1.2.2.2 k
  rw [pv_c_1 hs] at hq
  refine va_iald hX.1.1 hX.1.2.1 hX.2.1.1 hP q0 t0 hq ht0 (vp_in_nI hj hln) hd ?_
  rw [nI_clamp (by omega)]
  exact kk H locs ls h hH hS
theorem ow_aL (hX : ox X V rm cc nL own Ts ret) {k i z j : Nat} (hs : pv_sh V k = .inr (2, .long, z)) (hd : decode cc pc = .ok (.laload, 1)) (hi : i < pv_bd V k) (hj : j < pv_ln V k) (kk : ow X V r u' u loc (pc + 1) (.long (u.2.2.1 k i j) :: st)) : ow X V r u' u loc pc (.int (nI j) :: .ref (pv_ad V k i) :: st) := by
  intro H locs ls h hH hS
  obtain ⟨σ, q0, hσ, hP, hD, hq, -⟩ := ow_cell hX hi hH
  obtain ⟨t0, ht0⟩ := hX.2.2.1.2.2.1 k _ _ z hs
  have hln := hX.2.2.1.2.2.2 k
  rw [pv_c_2 hs] at hq
  refine va_lald hX.1.1 hX.1.2.1 hX.2.1.1 hP q0 t0 hq ht0 (vp_in_nI hj hln) hd ?_
  rw [nI_clamp (by omega)]
  exact kk H locs ls h hH hS
theorem ow_aR (hX : ox X V rm cc nL own Ts ret) {k i z j : Nat} {C : String} (hs : pv_sh V k = .inr (3, .object C, z)) (hd : decode cc pc = .ok (.aaload, 1)) (hi : i < pv_bd V k) (hj : j < pv_ln V k) (kk : ow X V r u' u loc (pc + 1) (.ref (pv_ad V z j) :: st)) : ow X V r u' u loc pc (.int (nI j) :: .ref (pv_ad V k i) :: st) := by
  intro H locs ls h hH hS
  obtain ⟨σ, q0, hσ, hP, hD, hq, -⟩ := ow_cell hX hi hH
  obtain ⟨t0, ht0⟩ := hX.2.2.1.2.2.1 k _ _ z hs
  have hln := hX.2.2.1.2.2.2 k
  rw [pv_c_3 hs] at hq
  refine va_aldq hX.1.1 hX.1.2.1 hX.2.1.1 hP q0 t0 hq ht0 (vp_in_nI hj hln) hd ?_
  rw [nI_clamp (by omega)]
  exact kk H locs ls h hH hS
theorem ow_sN (hX : ox X V rm cc nL own Ts ret) {k i z j v : Nat} (hs : pv_sh V k = .inr (0, .int, z)) (hd : decode cc pc = .ok (.iastore, 1)) (hi : i < pv_bd V k) (hj : j < pv_ln V k) (kk : ow X V r u' (un u k i j v) loc (pc + 1) st) : ow X V r u' u loc pc (.int (nI v) :: .int (nI j) :: .ref (pv_ad V k i) :: st) := by
  intro H locs ls h hH hS
  obtain ⟨σ, q0, hσ, hP, hD, hq, hset⟩ := ow_cell hX hi hH
  obtain ⟨t0, ht0⟩ := hX.2.2.1.2.2.1 k _ _ z hs
  have hln := hX.2.2.1.2.2.2 k
  rw [pv_c_0 hs] at hq
  refine va_iast hX.1.1 hX.1.2.1 hX.2.1.1 hP hD hS q0 t0 hq ht0 (vp_in_nI hj hln) hd (fun H1 locs1 hP1 hD1 hS1 => kk H1 locs1 ls h ?_ hS1)
  rw [hset] at hP1 hD1
  refine ⟨_, pv_new hX.2.2.1 hi hσ ?_ (fun _ _ _ q => pv_un_ne q), hP1, hD1⟩
  rw [pv_c_0 hs, nI_clamp (by omega)]
  congr 4
  funext a
  by_cases ha : a = j
  · subst ha; simp [upd, un_1]
  · simp [upd, un_1, ha]
theorem ow_sZ (hX : ox X V rm cc nL own Ts ret) {k i z j v : Nat} (hs : pv_sh V k = .inr (0, .boolean, z)) (hd : decode cc pc = .ok (.bastore, 1)) (hi : i < pv_bd V k) (hj : j < pv_ln V k) (hv : v ≤ 1) (kk : ow X V r u' (un u k i j v) loc (pc + 1) st) : ow X V r u' u loc pc (.int (nI v) :: .int (nI j) :: .ref (pv_ad V k i) :: st) := by
  intro H locs ls h hH hS
  obtain ⟨σ, q0, hσ, hP, hD, hq, hset⟩ := ow_cell hX hi hH
  obtain ⟨t0, ht0⟩ := hX.2.2.1.2.2.1 k _ _ z hs
  have hln := hX.2.2.1.2.2.2 k
  rw [pv_c_0 hs] at hq
  refine va_zast hX.1.1 hX.1.2.1 hX.2.1.1 hP hD hS q0 t0 hq ht0 (vp_in_nI hj hln) hd (fun H1 locs1 hP1 hD1 hS1 => kk H1 locs1 ls h ?_ hS1)
  rw [hset] at hP1 hD1
  refine ⟨_, pv_new hX.2.2.1 hi hσ ?_ (fun _ _ _ q => pv_un_ne q), hP1, hD1⟩
  rw [pv_c_0 hs, nI_clamp (by omega), vn_01 hv]
  congr 4
  funext a
  by_cases ha : a = j
  · subst ha; simp [upd, un_1]
  · simp [upd, un_1, ha]
theorem ow_sI (hX : ox X V rm cc nL own Ts ret) {k i z j : Nat} {v : Int32} (hs : pv_sh V k = .inr (1, .int, z)) (hd : decode cc pc = .ok (.iastore, 1)) (hi : i < pv_bd V k) (hj : j < pv_ln V k) (kk : ow X V r u' (ui u k i j v) loc (pc + 1) st) : ow X V r u' u loc pc (.int v :: .int (nI j) :: .ref (pv_ad V k i) :: st) := by
  intro H locs ls h hH hS
  obtain ⟨σ, q0, hσ, hP, hD, hq, hset⟩ := ow_cell hX hi hH
  obtain ⟨t0, ht0⟩ := hX.2.2.1.2.2.1 k _ _ z hs
  have hln := hX.2.2.1.2.2.2 k
  rw [pv_c_1 hs] at hq
  refine va_iast hX.1.1 hX.1.2.1 hX.2.1.1 hP hD hS q0 t0 hq ht0 (vp_in_nI hj hln) hd (fun H1 locs1 hP1 hD1 hS1 => kk H1 locs1 ls h ?_ hS1)
  rw [hset] at hP1 hD1
  refine ⟨_, pv_new hX.2.2.1 hi hσ ?_ (fun _ _ _ q => pv_ui_ne q), hP1, hD1⟩
  rw [pv_c_1 hs, nI_clamp (by omega)]
  congr 4
  funext a
  by_cases ha : a = j
  · subst ha; simp [upd, ui_2]
  · simp [upd, ui_2, ha]
theorem ow_sL (hX : ox X V rm cc nL own Ts ret) {k i z j : Nat} {v : Int64} (hs : pv_sh V k = .inr (2, .long, z)) (hd : decode cc pc = .ok (.lastore, 1)) (hi : i < pv_bd V k) (hj : j < pv_ln V k) (kk : ow X V r u' (ul u k i j v) loc (pc + 1) st) : ow X V r u' u loc pc (.long v :: .int (nI j) :: .ref (pv_ad V k i) :: st) := by
  intro H locs ls h hH hS
  obtain ⟨σ, q0, hσ, hP, hD, hq, hset⟩ := ow_cell hX hi hH
  obtain ⟨t0, ht0⟩ := hX.2.2.1.2.2.1 k _ _ z hs
  have hln := hX.2.2.1.2.2.2 k
  rw [pv_c_2 hs] at hq
  refine va_last hX.1.1 hX.1.2.1 hX.2.1.1 hP hD hS q0 t0 hq ht0 (vp_in_nI hj hln) hd (fun H1 locs1 hP1 hD1 hS1 => kk H1 locs1 ls h ?_ hS1)
  rw [hset] at hP1 hD1
  refine ⟨_, pv_new hX.2.2.1 hi hσ ?_ (fun _ _ _ q => pv_ul_ne q), hP1, hD1⟩
  rw [pv_c_2 hs, nI_clamp (by omega)]
  congr 5
  funext a
  by_cases ha : a = j
  · subst ha; simp [vp_updL, ul_3]
  · simp [vp_updL, ul_3, ha]
/-! calls -/
theorem ow_blind (as : List Value) : FrameBlind (va_Pc as fun T => pv_H V u T.heap ∧ pv_K V T) :=
  fun a U g mk q => ⟨q.1, q.2.1, va_K.moved (u := U) (U := U.calling g mk a) (Vm.Alike.refl U.vm) q.2.2.1, va_Nw.same rfl rfl q.2.2.2⟩
theorem ow_back {r1 : Option Value} {u1 : UU} {H : Heap} {locs : List Loc} {ls : Array Slot} {rest : List Value} {a : Array Value} (h : lv_has ls X.2.2.2.maxLocals loc) (hS : va_S (pv_A V) X.2.1.1.heap H locs)
    (hr : va_Run X.1.1 X.1.2.1 X.1.2.2.1 X.1.2.2.2 X.2.1.1 X.2.1.2.1 X.2.1.2.2.1 X.2.1.2.2.2 X.2.2.1 X.2.2.2 H locs 0 0 0 0 (F0 X.2.1.2.1 pc ls st) rest (ow_Q V r1 u1 a) (pv_A V))
    (kk : ow X V r u' u1 loc (pc + 3) (r1.toList ++ rest)) : W X.1.1 X.1.2.1 X.1.2.2.1 X.1.2.2.2 X.2.1.1 X.2.1.2.1 X.2.1.2.2.1 X.2.1.2.2.2 X.2.2.1 X.2.2.2 H locs 0 0 (MQ X.2.1.2.2.2 (ow_Q V r u') X.2.1.2.2.1 X.2.1.1 0 0 (pv_A V)) (F0 X.2.1.2.1 pc ls st) := by
  intro T hT X0
  obtain ⟨v, st₀, t, T', L, h0, X', hL, e1, e2, ⟨⟨hv, hH1, hK1⟩, hz, hk⟩, hgo⟩ := hr T hT X0
  cases hv
  rw [h0] at hz hk
  obtain ⟨t2, a1, b1⟩ := kk T'.heap (locs ++ L) ls h (by rw [e1]; exact hH1) ⟨Nat.le_trans hS.1 (by rw [e1]; exact hz), fun q h1 h2 => by rw [e1, hk q (Nat.lt_of_lt_of_le h1 hS.1) h2]; exact hS.2.1 q h1 h2, fun q hq => by
    rcases List.mem_append.mp hq with h | h
    · exact hS.2.2 q h
    · exact hL q h⟩ T' rfl X'
  exact ⟨t2, hgo t2 a1, b1⟩
theorem ow_recv (hX : ox X V rm cc nL own Ts ret) {H : Heap} {k i ci N : Nat} {C : String} {T : u_T} {ts : List (Nat × Nat)} (hk : kd V Ts k ci N C T ts) (hi : i < pv_bd V k) (hH : pv_H V u H) : ∃ cellB : Cell, H[pv_ad V k i]? = some cellB ∧ cellB.vm.isStatics = false ∧ X.2.1.1.vm.findClass C = some cellB.cls := by
  obtain ⟨σ, q0, hσ, hP, hD, hq, -⟩ := ow_cell hX hi hH
  rw [pv_c_o hk.1] at hq
  obtain ⟨rr, h1, cell, q1, q2, q3, -⟩ := hP q0 _ hq
  exact ⟨cell, q1, by rw [q3]; rfl, by rw [q2]; exact (hX.2.1.1.1 ci _ hk.2.1).2.1⟩
variable {y : MethodName} {bytes : ByteArray} {maxL n index : Nat} {ret1 : Option FieldType} {ws1 : List Cond} {rm1 : Room} {As rest : List Value} {r1 : Option Value} {u1 : UU}
theorem ow_callV (hX : ox X V rm cc nL own Ts ret) {k i ci N : Nat} {C : String} {T : u_T} {ts : List (Nat × Nat)} (hk : kd V Ts k ci N C T ts) (hi : i < pv_bd V k) (hM : Ct X.1.2.1 V y ws1 rm1 (.ref (pv_ad V k i) :: As) u r1 u1) (cw : CallW X.1.2.2.2 X.2.1.1 X.2.1.2.2.1 own C index y bytes maxL ret1 ws1 rm1 0 0 n) (hn : As.length = n) (hst : (rest.map fun v => v.category).sum ≤ 8) (hd : decode cc pc = .ok (.invokevirtual index, 3)) (he : st = As.reverse ++ .ref (pv_ad V k i) :: rest)
    (kk : ow X V r u' u1 loc (pc + 3) (r1.toList ++ rest)) : ow X V r u' u loc pc st := by
  intro H locs ls h hH hS
  subst he
  exact ow_back h hS (va_runV hX.1 hM cw ⟨ow_blind _, ow_recv hX hk hi hH, fun U hU hW => ⟨rfl, by rw [hU]; exact hH, hX.2.1.moved hW⟩⟩ rfl hn (h.1.trans hX.1.2.2.1) rfl (lv_room hst) hd ⟨Nat.zero_le _, Nat.zero_le _⟩) kk
theorem ow_callS (hX : ox X V rm cc nL own Ts ret) (hM : Ct X.1.2.1 V y ws1 rm1 As u r1 u1) (cw : CallB X.1.2.2.2 X.2.1.1 X.2.1.2.2.1 own index y bytes maxL ret1 ws1 rm1 0 0 n ∧ (Cond.static y).before X.2.1.2.2.1 X.2.1.1 = true) (hn : As.length = n) (hst : (rest.map fun v => v.category).sum ≤ 8) (hd : decode cc pc = .ok (.invokestatic index, 3)) (he : st = As.reverse ++ rest)
    (kk : ow X V r u' u1 loc (pc + 3) (r1.toList ++ rest)) : ow X V r u' u loc pc st := by
  intro H locs ls h hH hS
  subst he
  exact ow_back h hS (va_runS hX.1 hM cw ⟨ow_blind _, fun U hU hW => ⟨rfl, by rw [hU]; exact hH, hX.2.1.moved hW⟩⟩ rfl hn (h.1.trans hX.1.2.2.1) rfl (lv_room hst) hd ⟨Nat.zero_le _, Nat.zero_le _⟩) kk
theorem ow_callSN (hX : ox X V rm cc nL own Ts ret) {host : String} (hM : Ct X.1.2.1 V y ws1 rm1 As u r1 u1) (cw : va_CN X.1.2.2.2 X.2.1.1 X.2.1.2.2.1 own index y host bytes maxL ret1 ws1 rm1 0 0 n ∧ (Cond.static y).before X.2.1.2.2.1 X.2.1.1 = true ∧ True) (hn : As.length = n) (hst : (rest.map fun v => v.category).sum ≤ 8) (hd : decode cc pc = .ok (.invokestatic index, 3)) (he : st = As.reverse ++ rest)
    (kk : ow X V r u' u1 loc (pc + 3) (r1.toList ++ rest)) : ow X V r u' u loc pc st := by
  intro H locs ls h hH hS
  subst he
  exact ow_back h hS (va_runSN hX.1 hM cw ⟨ow_blind _, fun U hU hW => ⟨rfl, by rw [hU]; exact hH, hX.2.1.moved hW⟩⟩ rfl hn (h.1.trans hX.1.2.2.1) rfl (lv_room hst) hd ⟨Nat.zero_le _, Nat.zero_le _⟩) kk
/-! Math -/
theorem ow_max (hX : ox X V rm cc nL own Ts ret) {x z : Int32} (hd : decode cc pc = .ok (.invokestatic index, 3)) (h1 : Cond.methodLink own index Lib.Math.max.name ∈ Ts) (h2 : Cond.static Lib.Math.max.name ∈ Ts) (h3 : Cond.initialized "java/lang/Math" ∈ Ts) (h4 : Cond.code Lib.Math.max.name Lib.Math.max.code 2 (some .int) ∈ Ts) (hf : 1 ≤ rm.frames) (hlo : (st.map fun v => v.category).sum + 13 ≤ rm.locals)
    (kk : ow X V r u' u loc (pc + 3) (.int (if x < z then z else x) :: st)) : ow X V r u' u loc pc (.int z :: .int x :: st) :=
  fun H locs ls h hH hS => va_mmax hX.1.1 hX.1.2.1 h.1.symm hX.1.2.2.2.1 (hX.1.2.2.2.2 _ h1) (hX.1.2.2.2.2 _ h2) (hX.1.2.2.2.2 _ h3) (hX.1.2.2.2.2 _ h4) (by rw [hX.2.2.2.2.2]; exact hf) (by rw [hX.2.2.2.2.2]; exact hlo) (Nat.zero_le _) (Nat.zero_le _) hd (kk H locs ls h hH hS)
theorem ow_min (hX : ox X V rm cc nL own Ts ret) {x z : Int32} (hd : decode cc pc = .ok (.invokestatic index, 3)) (h1 : Cond.methodLink own index Lib.Math.min.name ∈ Ts) (h2 : Cond.static Lib.Math.min.name ∈ Ts) (h3 : Cond.initialized "java/lang/Math" ∈ Ts) (h4 : Cond.code Lib.Math.min.name Lib.Math.min.code 2 (some .int) ∈ Ts) (hf : 1 ≤ rm.frames) (hlo : (st.map fun v => v.category).sum + 13 ≤ rm.locals)
    (kk : ow X V r u' u loc (pc + 3) (.int (if z < x then z else x) :: st)) : ow X V r u' u loc pc (.int z :: .int x :: st) :=
  fun H locs ls h hH hS => va_mmin hX.1.1 hX.1.2.1 h.1.symm hX.1.2.2.2.1 (hX.1.2.2.2.2 _ h1) (hX.1.2.2.2.2 _ h2) (hX.1.2.2.2.2 _ h3) (hX.1.2.2.2.2 _ h4) (by rw [hX.2.2.2.2.2]; exact hf) (by rw [hX.2.2.2.2.2]; exact hlo) (Nat.zero_le _) (Nat.zero_le _) hd (kk H locs ls h hH hS)
theorem ow_abs (hX : ox X V rm cc nL own Ts ret) {x : Int32} (hd : decode cc pc = .ok (.invokestatic index, 3)) (h1 : Cond.methodLink own index Lib.Math.abs.name ∈ Ts) (h2 : Cond.static Lib.Math.abs.name ∈ Ts) (h3 : Cond.initialized "java/lang/Math" ∈ Ts) (h4 : Cond.code Lib.Math.abs.name Lib.Math.abs.code 1 (some .int) ∈ Ts) (hf : 1 ≤ rm.frames) (hlo : (st.map fun v => v.category).sum + 13 ≤ rm.locals)
    (kk : ow X V r u' u loc (pc + 3) (.int (if 0 ≤ x then x else 0 - x) :: st)) : ow X V r u' u loc pc (.int x :: st) :=
  fun H locs ls h hH hS => va_mabs hX.1.1 hX.1.2.1 h.1.symm hX.1.2.2.2.1 (hX.1.2.2.2.2 _ h1) (hX.1.2.2.2.2 _ h2) (hX.1.2.2.2.2 _ h3) (hX.1.2.2.2.2 _ h4) (by rw [hX.2.2.2.2.2]; exact hf) (by rw [hX.2.2.2.2.2]; exact hlo) (Nat.zero_le _) (Nat.zero_le _) hd (kk H locs ls h hH hS)
end OW
/-! words and rooms -/
abbrev wz (y : MethodName) (cc : ByteArray) (nL : Nat) (ret : Option FieldType) : List Cond := Cond.code y cc nL ret :: gz
abbrev rd (d : Nat) : Room := { frames := d, cells := 0, slots := 0, locals := 40 * d }
theorem gw_in {w : Cond} (h : w ∈ gz) : w ∈ gz ∧ ((w.onTables && w.keeps) = true ∨ ∃ ty, w = .arrayClass ty) := ⟨h, good_of_word (List.mem_filter.mp h).2⟩
theorem gw_code {y : MethodName} {cc : ByteArray} {nL : Nat} {ret : Option FieldType} (h : Cond.code y cc nL ret ∈ gz) : GoodIn gz (wz y cc nL ret) := fun w hw => by
  rcases List.mem_cons.mp hw with rfl | hw
  · exact gw_in h
  · exact gw_in hw
theorem ct_mk {l : Launch} {V : PV} {y : MethodName} {rm : Room} {as : List Value} {u : UU} {r : Option Value} {u' : UU} {cc : ByteArray} {nL : Nat} {ret : Option FieldType} (hV : pv_ok V) (hy : plainFor y = true) (hn : (lg_sl as).length ≤ nL)
    (walk : ∀ X : OX, ox X V rm cc nL y.cls gz ret → ow X V r u' u (lv_args 0 as) 0 []) : Ct l V y (wz y cc nL ret) rm as u r u' :=
  ct_of hV hy rfl hn (fun X hX => walk X ⟨⟨hX.1.1, hX.1.2.1, hX.1.2.2.1, hX.1.2.2.2.1, fun w hw => hX.1.2.2.2.2 w (List.mem_cons_of_mem _ hw)⟩, hX.2⟩)
/-- what a call of an instance method, of a static one, needs of the tables -/
def mv (C : String) (y : MethodName) (bytes : ByteArray) (maxL : Nat) (ret : Option FieldType) (n : Nat) : Prop := Cond.instanceMethod y ∈ gz ∧ Cond.selects C y y ∈ gz ∧ Cond.initialized C ∈ gz ∧ Cond.code y bytes maxL ret ∈ gz ∧ (y.cls = C ∧ y.cls ≠ "java/lang/invoke/MethodHandle" ∧ y.cls ≠ "java/lang/invoke/VarHandle" ∧ (parseMethodDescriptor y.desc).map (fun d => d.parameters.length) = some n)
def ms (y : MethodName) (bytes : ByteArray) (maxL : Nat) (ret : Option FieldType) (n : Nat) : Prop := Cond.static y ∈ gz ∧ Cond.initialized y.cls ∈ gz ∧ Cond.code y bytes maxL ret ∈ gz ∧ (y.cls ≠ "java/lang/invoke/MethodHandle" ∧ y.cls ≠ "java/lang/invoke/VarHandle" ∧ (parseMethodDescriptor y.desc).map (fun d => d.parameters.length) = some n)
section CW
variable {X : OX} {V : PV} {rm rm1 : Room} {cc bytes : ByteArray} {nL maxL index n : Nat} {own C : String} {ret ret1 : Option FieldType} {y : MethodName} {r r1 : Option Value} {u' u u1 : UU} {loc : List (Nat × Value)} {pc : Nat} {st As rest : List Value}
theorem cw_V (hX : ox X V rm cc nL own gz ret) (h : mv C y bytes maxL ret1 n) (hl : Cond.methodLink own index y ∈ gz) (hz : rm1.cells = 0 ∧ rm1.slots = 0) (hR : rm1.frames + 1 ≤ rm.frames ∧ 8 + (maxL + 11) + rm1.locals ≤ rm.locals) :
    CallW X.1.2.2.2 X.2.1.1 X.2.1.2.2.1 own C index y bytes maxL ret1 (wz y bytes maxL ret1) rm1 0 0 n := by
  rw [hX.2.2.2.2.2]
  refine cwV n hX.1.2.2.2.2 (fun w hw => ?_) rfl hz.1 hz.2 h.2.2.2.2 hR
  unfold wsV at hw
  rcases List.mem_append.mp hw with hw | hw
  · simp only [List.mem_cons, List.not_mem_nil, or_false] at hw
    rcases hw with rfl | rfl | rfl | rfl
    · exact gw_in hl
    · exact gw_in h.1
    · exact gw_in h.2.1
    · exact gw_in h.2.2.1
  · exact gw_code h.2.2.2.1 w hw
theorem cw_S (hX : ox X V rm cc nL own gz ret) (h : ms y bytes maxL ret1 n) (hl : Cond.methodLink own index y ∈ gz) (hz : rm1.cells = 0 ∧ rm1.slots = 0) (hR : rm1.frames + 1 ≤ rm.frames ∧ 8 + (maxL + 11) + rm1.locals ≤ rm.locals) :
    CallB X.1.2.2.2 X.2.1.1 X.2.1.2.2.1 own index y bytes maxL ret1 (wz y bytes maxL ret1) rm1 0 0 n ∧ (Cond.static y).before X.2.1.2.2.1 X.2.1.1 = true := by
  rw [hX.2.2.2.2.2]
  exact ⟨callB_of n hX.1.2.2.2.2 (gw_code h.2.2.1) rfl hz.1 hz.2 (hX.1.2.2.2.2 _ h.2.1) (hX.1.2.2.2.2 _ hl) h.2.2.2 hR, hX.1.2.2.2.2 _ h.1⟩
theorem cw_N (hX : ox X V rm cc nL "SlottedMesh$Loop" gz ret) (h : ms ⟨"SlottedMesh", "nearest", "(III)I"⟩ bytes maxL ret1 n) (hz : rm1.cells = 0 ∧ rm1.slots = 0) (hR : rm1.frames + 1 ≤ rm.frames ∧ 8 + (maxL + 11) + rm1.locals ≤ rm.locals) :
    va_CN X.1.2.2.2 X.2.1.1 X.2.1.2.2.1 "SlottedMesh$Loop" 29 ⟨"SlottedMesh", "nearest", "(III)I"⟩ "SlottedMesh" bytes maxL ret1 (wz ⟨"SlottedMesh", "nearest", "(III)I"⟩ bytes maxL ret1) rm1 0 0 n ∧ (Cond.static ⟨"SlottedMesh", "nearest", "(III)I"⟩).before X.2.1.2.2.1 X.2.1.1 = true ∧ True := by
  rw [hX.2.2.2.2.2]
  exact ⟨va_cnB n hX.1.2.2.2.2 (gw_code h.2.2.1) rfl hz.1 hz.2 hX.2.1.2 (hX.1.2.2.2.2 _ h.2.1) h.2.2.2 hR, hX.1.2.2.2.2 _ h.1, trivial⟩
end CW
