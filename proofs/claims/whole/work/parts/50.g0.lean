/-! A second judgement, for makers and for the law: what holds of the heap is any predicate (rows by program, wip/whole/gen/g0.py, out of part 10) -/
def jw (X : OX) (A : Nat → Prop) (Q : State → Prop) (Φ : Heap → Prop) (ce sl : Nat) (loc : List (Nat × Value)) (pc : Nat) (st : List Value) : Prop :=
  ∀ (H : Heap) (locs : List Loc) (ls : Array Slot), lv_has ls X.2.2.2.maxLocals loc → Φ H → va_S A X.2.1.1.heap H locs →
    W X.1.1 X.1.2.1 X.1.2.2.1 X.1.2.2.2 X.2.1.1 X.2.1.2.1 X.2.1.2.2.1 X.2.1.2.2.2 X.2.2.1 X.2.2.2 H locs ce sl Q (F0 X.2.1.2.1 pc ls st)
def jx (X : OX) (rm : Room) (cc : ByteArray) (nL : Nat) (own : String) (Ts : List Cond) (ret : Option FieldType) : Prop :=
  CallFix X.1.1 X.2.1.2.1 X.2.2.2 cc nL X.2.1.1 X.2.1.2.2.1 Ts own ∧ X.2.2.1.locks = false ∧ X.2.2.1.sig.returnType = ret ∧ X.1.2.2.2 = rm
section JW
variable {X : OX} {A : Nat → Prop} {Q : State → Prop} {Φ : Heap → Prop} {ce sl : Nat} {rm : Room} {cc : ByteArray} {nL : Nat} {own : String} {Ts : List Cond} {ret : Option FieldType} {loc : List (Nat × Value)} {pc : Nat} {st : List Value}
theorem jw_loc {l2 : List (Nat × Value)} (h : ∀ q ∈ l2, q ∈ loc) (k : jw X A Q Φ ce sl l2 pc st) : jw X A Q Φ ce sl loc pc st :=
  fun H locs ls hl hH hS => k H locs ls ⟨hl.1, hl.2.1, fun q hq => hl.2.2 q (h q hq)⟩ hH hS
theorem jw_st {st2 : List Value} (h : st = st2) (k : jw X A Q Φ ce sl loc pc st2) : jw X A Q Φ ce sl loc pc st := h ▸ k
theorem jw_val {x y : Int32} (h : x = y) (k : jw X A Q Φ ce sl loc pc (.int y :: st)) : jw X A Q Φ ce sl loc pc (.int x :: st) := h ▸ k
theorem jw_val2 {x y : Int32} {a : Value} (h : x = y) (k : jw X A Q Φ ce sl loc pc (a :: .int y :: st)) : jw X A Q Φ ce sl loc pc (a :: .int x :: st) := h ▸ k
/-! constants, locals, stack -/
theorem jw_iconst (hX : jx X rm cc nL own Ts ret) {n : Int} {v : Int32} (hd : decode cc pc = .ok (.iconst n, 1)) (hv : Int32.ofInt n = v) (k : jw X A Q Φ ce sl loc (pc + 1) (.int v :: st)) : jw X A Q Φ ce sl loc pc st :=
  fun H locs ls hl hH hS => lv_iconst hX.1.1 hX.1.2.1 hd hv (k H locs ls hl hH hS)
theorem jw_bipush (hX : jx X rm cc nL own Ts ret) {n : Int} {v : Int32} (hd : decode cc pc = .ok (.bipush n, 2)) (hv : (Int8.ofInt n).toInt32 = v) (k : jw X A Q Φ ce sl loc (pc + 2) (.int v :: st)) : jw X A Q Φ ce sl loc pc st :=
  fun H locs ls hl hH hS => lv_bipush hX.1.1 hX.1.2.1 hd hv (k H locs ls hl hH hS)
theorem jw_sipush (hX : jx X rm cc nL own Ts ret) {n : Int} {v : Int32} (hd : decode cc pc = .ok (.sipush n, 3)) (hv : (Int16.ofInt n).toInt32 = v) (k : jw X A Q Φ ce sl loc (pc + 3) (.int v :: st)) : jw X A Q Φ ce sl loc pc st :=
  fun H locs ls hl hH hS => lv_sipush hX.1.1 hX.1.2.1 hd hv (k H locs ls hl hH hS)
theorem jw_lconst (hX : jx X rm cc nL own Ts ret) {n : Fin 2} {v : Int64} (hd : decode cc pc = .ok (.lconst n, 1)) (hv : Int64.ofNat (n : Nat) = v) (k : jw X A Q Φ ce sl loc (pc + 1) (.long v :: st)) : jw X A Q Φ ce sl loc pc st :=
  fun H locs ls hl hH hS => lv_lconst hX.1.1 hX.1.2.1 hd hv (k H locs ls hl hH hS)
theorem jw_iload_n (hX : jx X rm cc nL own Ts ret) {n : Fin 4} {x : Int32} (hd : decode cc pc = .ok (.iload_n n, 1)) (hl : lc_at loc n = some (.int x)) (k : jw X A Q Φ ce sl loc (pc + 1) (.int x :: st)) : jw X A Q Φ ce sl loc pc st :=
  fun H locs ls h hH hS => lv_iload_n hX.1.1 hX.1.2.1 hd rfl (lc_has h hl) (k H locs ls h hH hS)
theorem jw_iload (hX : jx X rm cc nL own Ts ret) {n : Nat} {x : Int32} (hd : decode cc pc = .ok (.iload n, 2)) (hl : lc_at loc n = some (.int x)) (k : jw X A Q Φ ce sl loc (pc + 2) (.int x :: st)) : jw X A Q Φ ce sl loc pc st :=
  fun H locs ls h hH hS => lv_iload hX.1.1 hX.1.2.1 hd (lc_has h hl) (k H locs ls h hH hS)
theorem jw_lload_n (hX : jx X rm cc nL own Ts ret) {n : Fin 4} {x : Int64} (hd : decode cc pc = .ok (.lload_n n, 1)) (hl : lc_at loc n = some (.long x)) (k : jw X A Q Φ ce sl loc (pc + 1) (.long x :: st)) : jw X A Q Φ ce sl loc pc st :=
  fun H locs ls h hH hS => lv_lload_n hX.1.1 hX.1.2.1 hd rfl (lc_has h hl) (k H locs ls h hH hS)
theorem jw_lload (hX : jx X rm cc nL own Ts ret) {n : Nat} {x : Int64} (hd : decode cc pc = .ok (.lload n, 2)) (hl : lc_at loc n = some (.long x)) (k : jw X A Q Φ ce sl loc (pc + 2) (.long x :: st)) : jw X A Q Φ ce sl loc pc st :=
  fun H locs ls h hH hS => lv_lload hX.1.1 hX.1.2.1 hd (lc_has h hl) (k H locs ls h hH hS)
theorem jw_aload_n (hX : jx X rm cc nL own Ts ret) {n : Fin 4} {x : Nat} (hd : decode cc pc = .ok (.aload_n n, 1)) (hl : lc_at loc n = some (.ref x)) (k : jw X A Q Φ ce sl loc (pc + 1) (.ref x :: st)) : jw X A Q Φ ce sl loc pc st :=
  fun H locs ls h hH hS => lv_aload_n hX.1.1 hX.1.2.1 hd rfl (lc_has h hl) (k H locs ls h hH hS)
theorem jw_aload (hX : jx X rm cc nL own Ts ret) {n : Nat} {x : Nat} (hd : decode cc pc = .ok (.aload n, 2)) (hl : lc_at loc n = some (.ref x)) (k : jw X A Q Φ ce sl loc (pc + 2) (.ref x :: st)) : jw X A Q Φ ce sl loc pc st :=
  fun H locs ls h hH hS => lv_aload hX.1.1 hX.1.2.1 hd (lc_has h hl) (k H locs ls h hH hS)
theorem jw_istore_n (hX : jx X rm cc nL own Ts ret) {n : Fin 4} {x : Int32} {l2 : List (Nat × Value)} (hd : decode cc pc = .ok (.istore_n n, 1)) (hn : (n : Nat) < nL) (hf : lc_free loc n = true) (hl : lc_set loc n (.int x) = l2) (k : jw X A Q Φ ce sl l2 (pc + 1) st) : jw X A Q Φ ce sl loc pc (.int x :: st) :=
  fun H locs ls h hH hS => lv_istore_n hX.1.1 hX.1.2.1 hd rfl h (by rw [hX.1.2.2.1]; exact hn) rfl (fun ls2 h2 => k H locs ls2 (hl ▸ lc_store hf h2) hH hS)
theorem jw_istore (hX : jx X rm cc nL own Ts ret) {n : Nat} {x : Int32} {l2 : List (Nat × Value)} (hd : decode cc pc = .ok (.istore n, 2)) (hn : n < nL) (hf : lc_free loc n = true) (hl : lc_set loc n (.int x) = l2) (k : jw X A Q Φ ce sl l2 (pc + 2) st) : jw X A Q Φ ce sl loc pc (.int x :: st) :=
  fun H locs ls h hH hS => lv_istore hX.1.1 hX.1.2.1 hd h (by rw [hX.1.2.2.1]; exact hn) rfl (fun ls2 h2 => k H locs ls2 (hl ▸ lc_store hf h2) hH hS)
theorem jw_astore_n (hX : jx X rm cc nL own Ts ret) {n : Fin 4} {x : Nat} {l2 : List (Nat × Value)} (hd : decode cc pc = .ok (.astore_n n, 1)) (hn : (n : Nat) < nL) (hf : lc_free loc n = true) (hl : lc_set loc n (.ref x) = l2) (k : jw X A Q Φ ce sl l2 (pc + 1) st) : jw X A Q Φ ce sl loc pc (.ref x :: st) :=
  fun H locs ls h hH hS => lv_astore_n hX.1.1 hX.1.2.1 hd rfl h (by rw [hX.1.2.2.1]; exact hn) rfl (fun ls2 h2 => k H locs ls2 (hl ▸ lc_store hf h2) hH hS)
theorem jw_astore (hX : jx X rm cc nL own Ts ret) {n : Nat} {x : Nat} {l2 : List (Nat × Value)} (hd : decode cc pc = .ok (.astore n, 2)) (hn : n < nL) (hf : lc_free loc n = true) (hl : lc_set loc n (.ref x) = l2) (k : jw X A Q Φ ce sl l2 (pc + 2) st) : jw X A Q Φ ce sl loc pc (.ref x :: st) :=
  fun H locs ls h hH hS => lv_astore hX.1.1 hX.1.2.1 hd h (by rw [hX.1.2.2.1]; exact hn) rfl (fun ls2 h2 => k H locs ls2 (hl ▸ lc_store hf h2) hH hS)
theorem jw_iinc (hX : jx X rm cc nL own Ts ret) {n : Nat} {d : Int} {x v : Int32} {l2 : List (Nat × Value)} (hd : decode cc pc = .ok (.iinc n d, 3)) (hx : lc_at loc n = some (.int x)) (hv : x + Int32.ofInt d = v) (hn : n < nL) (hf : lc_free loc n = true) (hl : lc_set loc n (.int v) = l2) (k : jw X A Q Φ ce sl l2 (pc + 3) st) : jw X A Q Φ ce sl loc pc st := by
  intro H locs ls h hH hS
  have hx2 : lv_has ls X.2.2.2.maxLocals ((n, .int x) :: loc) := ⟨h.1, h.2.1, fun q hq => by
    rcases List.mem_cons.mp hq with rfl | hq
    · exact lc_has h hx
    · exact h.2.2 q hq⟩
  refine lv_iinc (k := 0) hX.1.1 hX.1.2.1 hd hx2 rfl hv (by rw [hX.1.2.2.1]; exact hn) rfl (fun ls2 h2 => k H locs ls2 (hl ▸ lc_store hf ?_) hH hS)
  refine ⟨h2.1, h2.2.1, fun q hq => h2.2.2 q ?_⟩
  rcases List.mem_cons.mp hq with rfl | hq
  · exact List.mem_cons_self
  · exact List.mem_cons_of_mem _ (List.mem_filter.mpr ⟨List.mem_cons_of_mem _ (List.mem_filter.mp hq).1, (List.mem_filter.mp hq).2⟩)
theorem jw_dup (hX : jx X rm cc nL own Ts ret) {a : Value} (hd : decode cc pc = .ok (.dup, 1)) (ha : a.category = 1) (k : jw X A Q Φ ce sl loc (pc + 1) (a :: a :: st)) : jw X A Q Φ ce sl loc pc (a :: st) :=
  fun H locs ls h hH hS => lv_dup hX.1.1 hX.1.2.1 hd ha (k H locs ls h hH hS)
theorem jw_pop (hX : jx X rm cc nL own Ts ret) {a : Value} (hd : decode cc pc = .ok (.pop, 1)) (ha : a.category = 1) (k : jw X A Q Φ ce sl loc (pc + 1) st) : jw X A Q Φ ce sl loc pc (a :: st) :=
  fun H locs ls h hH hS => lv_pop hX.1.1 hX.1.2.1 hd ha (k H locs ls h hH hS)
theorem jw_dup_x1 (hX : jx X rm cc nL own Ts ret) {a b : Value} (hd : decode cc pc = .ok (.dup_x1, 1)) (ha : a.category = 1) (hb : b.category = 1) (k : jw X A Q Φ ce sl loc (pc + 1) (a :: b :: a :: st)) : jw X A Q Φ ce sl loc pc (a :: b :: st) :=
  fun H locs ls h hH hS => lv_dup_x1 hX.1.1 hX.1.2.1 hd ha hb (k H locs ls h hH hS)
theorem jw_dup2 (hX : jx X rm cc nL own Ts ret) {a b : Value} (hd : decode cc pc = .ok (.dup2, 1)) (ha : a.category = 1) (hb : b.category = 1) (k : jw X A Q Φ ce sl loc (pc + 1) (a :: b :: a :: b :: st)) : jw X A Q Φ ce sl loc pc (a :: b :: st) :=
  fun H locs ls h hH hS => lv_dup2_11 hX.1.1 hX.1.2.1 hd ha hb (k H locs ls h hH hS)
/-! arithmetic -/
theorem jw_iadd (hX : jx X rm cc nL own Ts ret) {x y : Int32} (hd : decode cc pc = .ok (.iadd, 1)) (k : jw X A Q Φ ce sl loc (pc + 1) (.int (x + y) :: st)) : jw X A Q Φ ce sl loc pc (.int y :: .int x :: st) :=
  fun H locs ls h hH hS => lv_iadd hX.1.1 hX.1.2.1 hd (k H locs ls h hH hS)
theorem jw_addn (hX : jx X rm cc nL own Ts ret) {a b : Nat} (hd : decode cc pc = .ok (.iadd, 1)) (k : jw X A Q Φ ce sl loc (pc + 1) (.int (nI (a + b)) :: st)) : jw X A Q Φ ce sl loc pc (.int (nI b) :: .int (nI a) :: st) :=
  jw_iadd hX hd (by rw [nI_add]; exact k)
theorem jw_isub (hX : jx X rm cc nL own Ts ret) {x y : Int32} (hd : decode cc pc = .ok (.isub, 1)) (k : jw X A Q Φ ce sl loc (pc + 1) (.int (x - y) :: st)) : jw X A Q Φ ce sl loc pc (.int y :: .int x :: st) :=
  fun H locs ls h hH hS => lv_isub hX.1.1 hX.1.2.1 hd (k H locs ls h hH hS)
theorem jw_subn (hX : jx X rm cc nL own Ts ret) {a b : Nat} (hd : decode cc pc = .ok (.isub, 1)) (hab : b ≤ a) (k : jw X A Q Φ ce sl loc (pc + 1) (.int (nI (a - b)) :: st)) : jw X A Q Φ ce sl loc pc (.int (nI b) :: .int (nI a) :: st) :=
  jw_isub hX hd (by rw [pk_sub hab]; exact k)
theorem jw_imul (hX : jx X rm cc nL own Ts ret) {x y : Int32} (hd : decode cc pc = .ok (.imul, 1)) (k : jw X A Q Φ ce sl loc (pc + 1) (.int (x * y) :: st)) : jw X A Q Φ ce sl loc pc (.int y :: .int x :: st) :=
  fun H locs ls h hH hS => lv_imul hX.1.1 hX.1.2.1 hd (k H locs ls h hH hS)
theorem jw_muln (hX : jx X rm cc nL own Ts ret) {a b : Nat} (hd : decode cc pc = .ok (.imul, 1)) (k : jw X A Q Φ ce sl loc (pc + 1) (.int (nI (a * b)) :: st)) : jw X A Q Φ ce sl loc pc (.int (nI b) :: .int (nI a) :: st) :=
  jw_imul hX hd (by rw [pk_mul]; exact k)
theorem jw_ineg (hX : jx X rm cc nL own Ts ret) {x : Int32} (hd : decode cc pc = .ok (.ineg, 1)) (k : jw X A Q Φ ce sl loc (pc + 1) (.int (-x) :: st)) : jw X A Q Φ ce sl loc pc (.int x :: st) :=
  fun H locs ls h hH hS => lv_ineg hX.1.1 hX.1.2.1 hd (k H locs ls h hH hS)
theorem jw_iand (hX : jx X rm cc nL own Ts ret) {x y : Int32} (hd : decode cc pc = .ok (.iand, 1)) (k : jw X A Q Φ ce sl loc (pc + 1) (.int (x &&& y) :: st)) : jw X A Q Φ ce sl loc pc (.int y :: .int x :: st) :=
  fun H locs ls h hH hS => lv_iand hX.1.1 hX.1.2.1 hd (k H locs ls h hH hS)
theorem jw_ixor (hX : jx X rm cc nL own Ts ret) {x y : Int32} (hd : decode cc pc = .ok (.ixor, 1)) (k : jw X A Q Φ ce sl loc (pc + 1) (.int (x ^^^ y) :: st)) : jw X A Q Φ ce sl loc pc (.int y :: .int x :: st) :=
  fun H locs ls h hH hS => lv_ixor hX.1.1 hX.1.2.1 hd (k H locs ls h hH hS)
theorem jw_ishr (hX : jx X rm cc nL own Ts ret) {x y : Int32} (hd : decode cc pc = .ok (.ishr, 1)) (k : jw X A Q Φ ce sl loc (pc + 1) (.int (x >>> (y &&& 31)) :: st)) : jw X A Q Φ ce sl loc pc (.int y :: .int x :: st) :=
  fun H locs ls h hH hS => lv_ishr hX.1.1 hX.1.2.1 hd (k H locs ls h hH hS)
theorem jw_idiv (hX : jx X rm cc nL own Ts ret) {x y : Int32} (hd : decode cc pc = .ok (.idiv, 1)) (hy : ¬ y = 0) (k : jw X A Q Φ ce sl loc (pc + 1) (.int (x / y) :: st)) : jw X A Q Φ ce sl loc pc (.int y :: .int x :: st) :=
  fun H locs ls h hH hS => lv_idiv hX.1.1 hX.1.2.1 hd hy (k H locs ls h hH hS)
theorem jw_divn (hX : jx X rm cc nL own Ts ret) {a b : Nat} (hd : decode cc pc = .ok (.idiv, 1)) (ha : a < 2 ^ 31) (h0 : 0 < b) (hb : b < 2 ^ 31) (k : jw X A Q Φ ce sl loc (pc + 1) (.int (nI (a / b)) :: st)) : jw X A Q Φ ce sl loc pc (.int (nI b) :: .int (nI a) :: st) :=
  jw_idiv hX hd (nI_ne0 h0 hb) (by rw [pk_div ha h0 hb]; exact k)
theorem jw_irem (hX : jx X rm cc nL own Ts ret) {x y : Int32} (hd : decode cc pc = .ok (.irem, 1)) (hy : ¬ y = 0) (k : jw X A Q Φ ce sl loc (pc + 1) (.int (x - x / y * y) :: st)) : jw X A Q Φ ce sl loc pc (.int y :: .int x :: st) :=
  fun H locs ls h hH hS => lv_irem hX.1.1 hX.1.2.1 hd hy (k H locs ls h hH hS)
theorem jw_remn (hX : jx X rm cc nL own Ts ret) {a b : Nat} (hd : decode cc pc = .ok (.irem, 1)) (ha : a < 2 ^ 31) (h0 : 0 < b) (hb : b < 2 ^ 31) (k : jw X A Q Φ ce sl loc (pc + 1) (.int (nI (a % b)) :: st)) : jw X A Q Φ ce sl loc pc (.int (nI b) :: .int (nI a) :: st) :=
  jw_irem hX hd (nI_ne0 h0 hb) (by rw [pk_rem ha h0 hb]; exact k)
theorem jw_land (hX : jx X rm cc nL own Ts ret) {x y : Int64} (hd : decode cc pc = .ok (.land, 1)) (k : jw X A Q Φ ce sl loc (pc + 1) (.long (x &&& y) :: st)) : jw X A Q Φ ce sl loc pc (.long y :: .long x :: st) :=
  fun H locs ls h hH hS => lv_land hX.1.1 hX.1.2.1 hd (k H locs ls h hH hS)
theorem jw_lshr (hX : jx X rm cc nL own Ts ret) {x : Int64} {y : Int32} (hd : decode cc pc = .ok (.lshr, 1)) (k : jw X A Q Φ ce sl loc (pc + 1) (.long (x >>> (y.toInt64 &&& 63)) :: st)) : jw X A Q Φ ce sl loc pc (.int y :: .long x :: st) :=
  fun H locs ls h hH hS => lv_lshr hX.1.1 hX.1.2.1 hd rfl (k H locs ls h hH hS)
theorem jw_lushr (hX : jx X rm cc nL own Ts ret) {x : Int64} {y : Int32} (hd : decode cc pc = .ok (.lushr, 1)) (k : jw X A Q Φ ce sl loc (pc + 1) (.long ((x.toUInt64 >>> (y.toInt64.toUInt64 &&& Int64.toUInt64 63)).toInt64) :: st)) : jw X A Q Φ ce sl loc pc (.int y :: .long x :: st) :=
  fun H locs ls h hH hS => lv_lushr hX.1.1 hX.1.2.1 hd rfl (k H locs ls h hH hS)
theorem jw_lcmp (hX : jx X rm cc nL own Ts ret) {x y : Int64} (hd : decode cc pc = .ok (.lcmp, 1)) (k : jw X A Q Φ ce sl loc (pc + 1) (.int (lg_cmp x y) :: st)) : jw X A Q Φ ce sl loc pc (.long y :: .long x :: st) :=
  fun H locs ls h hH hS => W.lcmp hX.1.1 hX.1.2.1 hd (k H locs ls h hH hS)
/-! branches -/
theorem jw_goto (hX : jx X rm cc nL own Ts ret) {off : Int} {tgt : Nat} (hd : decode cc pc = .ok (.goto off, 3)) (ht : (pc : Int) + off = (tgt : Int)) (k : jw X A Q Φ ce sl loc tgt st) : jw X A Q Φ ce sl loc pc st :=
  fun H locs ls h hH hS => lv_goto hX.1.1 hX.1.2.1 hd ht (k H locs ls h hH hS)
theorem jw_if_eq (hX : jx X rm cc nL own Ts ret) {x : Int32} {off : Int} {tgt : Nat} (hd : decode cc pc = .ok (.ifCond .eq off, 3)) (ht : (pc : Int) + off = (tgt : Int)) (kt : x = 0 → jw X A Q Φ ce sl loc tgt st) (kf : ¬ x = 0 → jw X A Q Φ ce sl loc (pc + 3) st) : jw X A Q Φ ce sl loc pc (.int x :: st) :=
  fun H locs ls h hH hS => lv_if_eq hX.1.1 hX.1.2.1 hd ht (fun q => kt q H locs ls h hH hS) (fun q => kf q H locs ls h hH hS)
theorem jw_ic_eq (hX : jx X rm cc nL own Ts ret) {x y : Int32} {off : Int} {tgt : Nat} (hd : decode cc pc = .ok (.if_icmp .eq off, 3)) (ht : (pc : Int) + off = (tgt : Int)) (kt : x = y → jw X A Q Φ ce sl loc tgt st) (kf : ¬ x = y → jw X A Q Φ ce sl loc (pc + 3) st) : jw X A Q Φ ce sl loc pc (.int y :: .int x :: st) :=
  fun H locs ls h hH hS => lv_icmp_eq hX.1.1 hX.1.2.1 hd ht (fun q => kt q H locs ls h hH hS) (fun q => kf q H locs ls h hH hS)
theorem jw_nc_eq (hX : jx X rm cc nL own Ts ret) {a b : Nat} {off : Int} {tgt : Nat} (hd : decode cc pc = .ok (.if_icmp .eq off, 3)) (ht : (pc : Int) + off = (tgt : Int)) (ha : a < 2 ^ 31) (hb : b < 2 ^ 31) (kt : a = b → jw X A Q Φ ce sl loc tgt st) (kf : ¬ a = b → jw X A Q Φ ce sl loc (pc + 3) st) : jw X A Q Φ ce sl loc pc (.int (nI b) :: .int (nI a) :: st) :=
  jw_ic_eq hX hd ht (fun q => kt (by simp only [nI_eq ha hb, nI_eq hb ha, nI_ltI ha hb, nI_ltI hb ha, nI_leI ha hb, nI_leI hb ha] at q; omega)) (fun q => kf (by simp only [nI_eq ha hb, nI_eq hb ha, nI_ltI ha hb, nI_ltI hb ha, nI_leI ha hb, nI_leI hb ha] at q; omega))
theorem jw_nz_eq (hX : jx X rm cc nL own Ts ret) {a : Nat} {off : Int} {tgt : Nat} (hd : decode cc pc = .ok (.ifCond .eq off, 3)) (ht : (pc : Int) + off = (tgt : Int)) (ha : a < 2 ^ 31) (kt : a = 0 → jw X A Q Φ ce sl loc tgt st) (kf : ¬ a = 0 → jw X A Q Φ ce sl loc (pc + 3) st) : jw X A Q Φ ce sl loc pc (.int (nI a) :: st) :=
  jw_if_eq hX hd ht (fun q => kt (by rw [← nI_0] at q; simp only [nI_eq ha (show 0 < 2 ^ 31 by decide), nI_ltI (show 0 < 2 ^ 31 by decide) ha, nI_leI ha (show 0 < 2 ^ 31 by decide)] at q; omega)) (fun q => kf (by rw [← nI_0] at q; simp only [nI_eq ha (show 0 < 2 ^ 31 by decide), nI_ltI (show 0 < 2 ^ 31 by decide) ha, nI_leI ha (show 0 < 2 ^ 31 by decide)] at q; omega))
theorem jw_if_ne (hX : jx X rm cc nL own Ts ret) {x : Int32} {off : Int} {tgt : Nat} (hd : decode cc pc = .ok (.ifCond .ne off, 3)) (ht : (pc : Int) + off = (tgt : Int)) (kt : ¬ x = 0 → jw X A Q Φ ce sl loc tgt st) (kf : x = 0 → jw X A Q Φ ce sl loc (pc + 3) st) : jw X A Q Φ ce sl loc pc (.int x :: st) :=
  fun H locs ls h hH hS => lv_if_ne hX.1.1 hX.1.2.1 hd ht (fun q => kt q H locs ls h hH hS) (fun q => kf q H locs ls h hH hS)
theorem jw_ic_ne (hX : jx X rm cc nL own Ts ret) {x y : Int32} {off : Int} {tgt : Nat} (hd : decode cc pc = .ok (.if_icmp .ne off, 3)) (ht : (pc : Int) + off = (tgt : Int)) (kt : ¬ x = y → jw X A Q Φ ce sl loc tgt st) (kf : x = y → jw X A Q Φ ce sl loc (pc + 3) st) : jw X A Q Φ ce sl loc pc (.int y :: .int x :: st) :=
  fun H locs ls h hH hS => lv_icmp_ne hX.1.1 hX.1.2.1 hd ht (fun q => kt q H locs ls h hH hS) (fun q => kf q H locs ls h hH hS)
theorem jw_nc_ne (hX : jx X rm cc nL own Ts ret) {a b : Nat} {off : Int} {tgt : Nat} (hd : decode cc pc = .ok (.if_icmp .ne off, 3)) (ht : (pc : Int) + off = (tgt : Int)) (ha : a < 2 ^ 31) (hb : b < 2 ^ 31) (kt : ¬ a = b → jw X A Q Φ ce sl loc tgt st) (kf : a = b → jw X A Q Φ ce sl loc (pc + 3) st) : jw X A Q Φ ce sl loc pc (.int (nI b) :: .int (nI a) :: st) :=
  jw_ic_ne hX hd ht (fun q => kt (by simp only [nI_eq ha hb, nI_eq hb ha, nI_ltI ha hb, nI_ltI hb ha, nI_leI ha hb, nI_leI hb ha] at q; omega)) (fun q => kf (by simp only [nI_eq ha hb, nI_eq hb ha, nI_ltI ha hb, nI_ltI hb ha, nI_leI ha hb, nI_leI hb ha] at q; omega))
theorem jw_nz_ne (hX : jx X rm cc nL own Ts ret) {a : Nat} {off : Int} {tgt : Nat} (hd : decode cc pc = .ok (.ifCond .ne off, 3)) (ht : (pc : Int) + off = (tgt : Int)) (ha : a < 2 ^ 31) (kt : ¬ a = 0 → jw X A Q Φ ce sl loc tgt st) (kf : a = 0 → jw X A Q Φ ce sl loc (pc + 3) st) : jw X A Q Φ ce sl loc pc (.int (nI a) :: st) :=
  jw_if_ne hX hd ht (fun q => kt (by rw [← nI_0] at q; simp only [nI_eq ha (show 0 < 2 ^ 31 by decide), nI_ltI (show 0 < 2 ^ 31 by decide) ha, nI_leI ha (show 0 < 2 ^ 31 by decide)] at q; omega)) (fun q => kf (by rw [← nI_0] at q; simp only [nI_eq ha (show 0 < 2 ^ 31 by decide), nI_ltI (show 0 < 2 ^ 31 by decide) ha, nI_leI ha (show 0 < 2 ^ 31 by decide)] at q; omega))
theorem jw_if_lt (hX : jx X rm cc nL own Ts ret) {x : Int32} {off : Int} {tgt : Nat} (hd : decode cc pc = .ok (.ifCond .lt off, 3)) (ht : (pc : Int) + off = (tgt : Int)) (kt : x < 0 → jw X A Q Φ ce sl loc tgt st) (kf : ¬ x < 0 → jw X A Q Φ ce sl loc (pc + 3) st) : jw X A Q Φ ce sl loc pc (.int x :: st) :=
  fun H locs ls h hH hS => lv_if_lt hX.1.1 hX.1.2.1 hd ht (fun q => kt q H locs ls h hH hS) (fun q => kf q H locs ls h hH hS)
theorem jw_ic_lt (hX : jx X rm cc nL own Ts ret) {x y : Int32} {off : Int} {tgt : Nat} (hd : decode cc pc = .ok (.if_icmp .lt off, 3)) (ht : (pc : Int) + off = (tgt : Int)) (kt : x < y → jw X A Q Φ ce sl loc tgt st) (kf : ¬ x < y → jw X A Q Φ ce sl loc (pc + 3) st) : jw X A Q Φ ce sl loc pc (.int y :: .int x :: st) :=
  fun H locs ls h hH hS => lv_icmp_lt hX.1.1 hX.1.2.1 hd ht (fun q => kt q H locs ls h hH hS) (fun q => kf q H locs ls h hH hS)
theorem jw_nc_lt (hX : jx X rm cc nL own Ts ret) {a b : Nat} {off : Int} {tgt : Nat} (hd : decode cc pc = .ok (.if_icmp .lt off, 3)) (ht : (pc : Int) + off = (tgt : Int)) (ha : a < 2 ^ 31) (hb : b < 2 ^ 31) (kt : a < b → jw X A Q Φ ce sl loc tgt st) (kf : b ≤ a → jw X A Q Φ ce sl loc (pc + 3) st) : jw X A Q Φ ce sl loc pc (.int (nI b) :: .int (nI a) :: st) :=
  jw_ic_lt hX hd ht (fun q => kt (by simp only [nI_eq ha hb, nI_eq hb ha, nI_ltI ha hb, nI_ltI hb ha, nI_leI ha hb, nI_leI hb ha] at q; omega)) (fun q => kf (by simp only [nI_eq ha hb, nI_eq hb ha, nI_ltI ha hb, nI_ltI hb ha, nI_leI ha hb, nI_leI hb ha] at q; omega))
theorem jw_nz_lt (hX : jx X rm cc nL own Ts ret) {a : Nat} {off : Int} (hd : decode cc pc = .ok (.ifCond .lt off, 3)) {tgt : Nat} (ht : (pc : Int) + off = (tgt : Int)) (ha : a < 2 ^ 31) (kf : jw X A Q Φ ce sl loc (pc + 3) st) : jw X A Q Φ ce sl loc pc (.int (nI a) :: st) :=
  jw_if_lt hX hd ht (fun q => absurd q (nI_pos ha)) (fun _ => kf)
theorem jw_if_ge (hX : jx X rm cc nL own Ts ret) {x : Int32} {off : Int} {tgt : Nat} (hd : decode cc pc = .ok (.ifCond .ge off, 3)) (ht : (pc : Int) + off = (tgt : Int)) (kt : 0 ≤ x → jw X A Q Φ ce sl loc tgt st) (kf : ¬ 0 ≤ x → jw X A Q Φ ce sl loc (pc + 3) st) : jw X A Q Φ ce sl loc pc (.int x :: st) :=
  fun H locs ls h hH hS => lv_if_ge hX.1.1 hX.1.2.1 hd ht (fun q => kt q H locs ls h hH hS) (fun q => kf q H locs ls h hH hS)
theorem jw_ic_ge (hX : jx X rm cc nL own Ts ret) {x y : Int32} {off : Int} {tgt : Nat} (hd : decode cc pc = .ok (.if_icmp .ge off, 3)) (ht : (pc : Int) + off = (tgt : Int)) (kt : y ≤ x → jw X A Q Φ ce sl loc tgt st) (kf : ¬ y ≤ x → jw X A Q Φ ce sl loc (pc + 3) st) : jw X A Q Φ ce sl loc pc (.int y :: .int x :: st) :=
  fun H locs ls h hH hS => lv_icmp_ge hX.1.1 hX.1.2.1 hd ht (fun q => kt q H locs ls h hH hS) (fun q => kf q H locs ls h hH hS)
theorem jw_nc_ge (hX : jx X rm cc nL own Ts ret) {a b : Nat} {off : Int} {tgt : Nat} (hd : decode cc pc = .ok (.if_icmp .ge off, 3)) (ht : (pc : Int) + off = (tgt : Int)) (ha : a < 2 ^ 31) (hb : b < 2 ^ 31) (kt : b ≤ a → jw X A Q Φ ce sl loc tgt st) (kf : a < b → jw X A Q Φ ce sl loc (pc + 3) st) : jw X A Q Φ ce sl loc pc (.int (nI b) :: .int (nI a) :: st) :=
  jw_ic_ge hX hd ht (fun q => kt (by simp only [nI_eq ha hb, nI_eq hb ha, nI_ltI ha hb, nI_ltI hb ha, nI_leI ha hb, nI_leI hb ha] at q; omega)) (fun q => kf (by simp only [nI_eq ha hb, nI_eq hb ha, nI_ltI ha hb, nI_ltI hb ha, nI_leI ha hb, nI_leI hb ha] at q; omega))
theorem jw_nz_ge (hX : jx X rm cc nL own Ts ret) {a : Nat} {off : Int} (hd : decode cc pc = .ok (.ifCond .ge off, 3)) {tgt : Nat} (ht : (pc : Int) + off = (tgt : Int)) (ha : a < 2 ^ 31) (kt : jw X A Q Φ ce sl loc tgt st) : jw X A Q Φ ce sl loc pc (.int (nI a) :: st) :=
  jw_if_ge hX hd ht (fun _ => kt) (fun q => absurd (nI_pos' ha) q)
theorem jw_if_gt (hX : jx X rm cc nL own Ts ret) {x : Int32} {off : Int} {tgt : Nat} (hd : decode cc pc = .ok (.ifCond .gt off, 3)) (ht : (pc : Int) + off = (tgt : Int)) (kt : 0 < x → jw X A Q Φ ce sl loc tgt st) (kf : ¬ 0 < x → jw X A Q Φ ce sl loc (pc + 3) st) : jw X A Q Φ ce sl loc pc (.int x :: st) :=
  fun H locs ls h hH hS => lv_if_gt hX.1.1 hX.1.2.1 hd ht (fun q => kt q H locs ls h hH hS) (fun q => kf q H locs ls h hH hS)
theorem jw_ic_gt (hX : jx X rm cc nL own Ts ret) {x y : Int32} {off : Int} {tgt : Nat} (hd : decode cc pc = .ok (.if_icmp .gt off, 3)) (ht : (pc : Int) + off = (tgt : Int)) (kt : y < x → jw X A Q Φ ce sl loc tgt st) (kf : ¬ y < x → jw X A Q Φ ce sl loc (pc + 3) st) : jw X A Q Φ ce sl loc pc (.int y :: .int x :: st) :=
  fun H locs ls h hH hS => lv_icmp_gt hX.1.1 hX.1.2.1 hd ht (fun q => kt q H locs ls h hH hS) (fun q => kf q H locs ls h hH hS)
theorem jw_nc_gt (hX : jx X rm cc nL own Ts ret) {a b : Nat} {off : Int} {tgt : Nat} (hd : decode cc pc = .ok (.if_icmp .gt off, 3)) (ht : (pc : Int) + off = (tgt : Int)) (ha : a < 2 ^ 31) (hb : b < 2 ^ 31) (kt : b < a → jw X A Q Φ ce sl loc tgt st) (kf : a ≤ b → jw X A Q Φ ce sl loc (pc + 3) st) : jw X A Q Φ ce sl loc pc (.int (nI b) :: .int (nI a) :: st) :=
  jw_ic_gt hX hd ht (fun q => kt (by simp only [nI_eq ha hb, nI_eq hb ha, nI_ltI ha hb, nI_ltI hb ha, nI_leI ha hb, nI_leI hb ha] at q; omega)) (fun q => kf (by simp only [nI_eq ha hb, nI_eq hb ha, nI_ltI ha hb, nI_ltI hb ha, nI_leI ha hb, nI_leI hb ha] at q; omega))
theorem jw_nz_gt (hX : jx X rm cc nL own Ts ret) {a : Nat} {off : Int} {tgt : Nat} (hd : decode cc pc = .ok (.ifCond .gt off, 3)) (ht : (pc : Int) + off = (tgt : Int)) (ha : a < 2 ^ 31) (kt : 0 < a → jw X A Q Φ ce sl loc tgt st) (kf : a = 0 → jw X A Q Φ ce sl loc (pc + 3) st) : jw X A Q Φ ce sl loc pc (.int (nI a) :: st) :=
  jw_if_gt hX hd ht (fun q => kt (by rw [← nI_0] at q; simp only [nI_eq ha (show 0 < 2 ^ 31 by decide), nI_ltI (show 0 < 2 ^ 31 by decide) ha, nI_leI ha (show 0 < 2 ^ 31 by decide)] at q; omega)) (fun q => kf (by rw [← nI_0] at q; simp only [nI_eq ha (show 0 < 2 ^ 31 by decide), nI_ltI (show 0 < 2 ^ 31 by decide) ha, nI_leI ha (show 0 < 2 ^ 31 by decide)] at q; omega))
theorem jw_if_le (hX : jx X rm cc nL own Ts ret) {x : Int32} {off : Int} {tgt : Nat} (hd : decode cc pc = .ok (.ifCond .le off, 3)) (ht : (pc : Int) + off = (tgt : Int)) (kt : x ≤ 0 → jw X A Q Φ ce sl loc tgt st) (kf : ¬ x ≤ 0 → jw X A Q Φ ce sl loc (pc + 3) st) : jw X A Q Φ ce sl loc pc (.int x :: st) :=
  fun H locs ls h hH hS => lv_if_le hX.1.1 hX.1.2.1 hd ht (fun q => kt q H locs ls h hH hS) (fun q => kf q H locs ls h hH hS)
theorem jw_ic_le (hX : jx X rm cc nL own Ts ret) {x y : Int32} {off : Int} {tgt : Nat} (hd : decode cc pc = .ok (.if_icmp .le off, 3)) (ht : (pc : Int) + off = (tgt : Int)) (kt : x ≤ y → jw X A Q Φ ce sl loc tgt st) (kf : ¬ x ≤ y → jw X A Q Φ ce sl loc (pc + 3) st) : jw X A Q Φ ce sl loc pc (.int y :: .int x :: st) :=
  fun H locs ls h hH hS => lv_icmp_le hX.1.1 hX.1.2.1 hd ht (fun q => kt q H locs ls h hH hS) (fun q => kf q H locs ls h hH hS)
theorem jw_nc_le (hX : jx X rm cc nL own Ts ret) {a b : Nat} {off : Int} {tgt : Nat} (hd : decode cc pc = .ok (.if_icmp .le off, 3)) (ht : (pc : Int) + off = (tgt : Int)) (ha : a < 2 ^ 31) (hb : b < 2 ^ 31) (kt : a ≤ b → jw X A Q Φ ce sl loc tgt st) (kf : b < a → jw X A Q Φ ce sl loc (pc + 3) st) : jw X A Q Φ ce sl loc pc (.int (nI b) :: .int (nI a) :: st) :=
  jw_ic_le hX hd ht (fun q => kt (by simp only [nI_eq ha hb, nI_eq hb ha, nI_ltI ha hb, nI_ltI hb ha, nI_leI ha hb, nI_leI hb ha] at q; omega)) (fun q => kf (by simp only [nI_eq ha hb, nI_eq hb ha, nI_ltI ha hb, nI_ltI hb ha, nI_leI ha hb, nI_leI hb ha] at q; omega))
theorem jw_nz_le (hX : jx X rm cc nL own Ts ret) {a : Nat} {off : Int} {tgt : Nat} (hd : decode cc pc = .ok (.ifCond .le off, 3)) (ht : (pc : Int) + off = (tgt : Int)) (ha : a < 2 ^ 31) (kt : a ≤ 0 → jw X A Q Φ ce sl loc tgt st) (kf : 0 < a → jw X A Q Φ ce sl loc (pc + 3) st) : jw X A Q Φ ce sl loc pc (.int (nI a) :: st) :=
  jw_if_le hX hd ht (fun q => kt (by rw [← nI_0] at q; simp only [nI_eq ha (show 0 < 2 ^ 31 by decide), nI_ltI (show 0 < 2 ^ 31 by decide) ha, nI_leI ha (show 0 < 2 ^ 31 by decide)] at q; omega)) (fun q => kf (by rw [← nI_0] at q; simp only [nI_eq ha (show 0 < 2 ^ 31 by decide), nI_ltI (show 0 < 2 ^ 31 by decide) ha, nI_leI ha (show 0 < 2 ^ 31 by decide)] at q; omega))
theorem jw_tableOut (hX : jx X rm cc nL own Ts ret) {dflt lo hi : Int} {offs : Array Int} {len : Nat} {x : Int32} {tgt : Nat} (hd : decode cc pc = .ok (.tableswitch dflt lo hi offs, len)) (hx : x.toInt < lo ∨ hi < x.toInt) (ht : (pc : Int) + dflt = (tgt : Int)) (k : jw X A Q Φ ce sl loc tgt st) : jw X A Q Φ ce sl loc pc (.int x :: st) :=
  fun H locs ls h hH hS => lv_tableOut hX.1.1 hX.1.2.1 hd hx ht (k H locs ls h hH hS)
theorem jw_tableIn (hX : jx X rm cc nL own Ts ret) {dflt lo hi : Int} {offs : Array Int} {len : Nat} {x : Int32} {off : Int} {tgt : Nat} (hd : decode cc pc = .ok (.tableswitch dflt lo hi offs, len)) (h1 : ¬ x.toInt < lo) (h2 : ¬ hi < x.toInt) (ho : offs[(x.toInt - lo).toNat]? = some off) (ht : (pc : Int) + off = (tgt : Int)) (k : jw X A Q Φ ce sl loc tgt st) : jw X A Q Φ ce sl loc pc (.int x :: st) :=
  fun H locs ls h hH hS => lv_tableIn hX.1.1 hX.1.2.1 hd h1 h2 ho ht (k H locs ls h hH hS)
theorem jw_lookup (hX : jx X rm cc nL own Ts ret) {dflt : Int} {ps : Array (Int × Int)} {len : Nat} {x : Int32} {off : Int} {tgt : Nat} (hd : decode cc pc = .ok (.lookupswitch dflt ps, len)) (hp : (ps.toList.zip (ps.toList.drop 1)).all (fun (a, next) => a.1 < next.1) = true) (ho : Op.lookupswitch.offset ps.toList dflt x.toInt = off) (ht : (pc : Int) + off = (tgt : Int)) (k : jw X A Q Φ ce sl loc tgt st) : jw X A Q Φ ce sl loc pc (.int x :: st) :=
  fun H locs ls h hH hS => lv_lookup hX.1.1 hX.1.2.1 hd hp ho ht (k H locs ls h hH hS)
theorem jw_h {Ψ : Heap → Prop} (h : ∀ H, Φ H → Ψ H) (k : jw X A Q Ψ ce sl loc pc st) : jw X A Q Φ ce sl loc pc st := fun H locs ls hl hH hS => k H locs ls hl (h H hH) hS
theorem jw_ldc2 (hX : jx X rm cc nL own Ts ret) {index : Nat} {v : Int64} (hd : decode cc pc = .ok (.ldc2_w index, 3)) (hc : Cond.constantLong own index v ∈ Ts) (k : jw X A Q Φ ce sl loc (pc + 3) (.long v :: st)) : jw X A Q Φ ce sl loc pc st :=
  fun H locs ls h hH hS => lv_ldc2 hX.1.1 hX.1.2.1 hX.1.2.2.2.1 (hX.1.2.2.2.2 _ hc) hd (k H locs ls h hH hS)
theorem jw_objInit (hX : jx X rm cc nL own Ts ret) {index a : Nat} (hd : decode cc pc = .ok (.invokespecial index, 3)) (h1 : Cond.methodLink own index Lib.objectInit ∈ Ts) (h2 : Cond.instanceMethod Lib.objectInit ∈ Ts) (h3 : Cond.code Lib.objectInit ⟨#[0xb1]⟩ 1 none ∈ Ts) (hf : 1 ≤ rm.frames) (hlo : (st.map fun v => v.category).sum + 12 ≤ rm.locals)
    (k : jw X A Q Φ ce sl loc (pc + 3) st) : jw X A Q Φ ce sl loc pc (.ref a :: st) := by
  intro H locs ls h hH hS
  refine W.objInit hX.1.1 hX.1.2.1 hX.1.2.2.2.1 (hX.1.2.2.2.2 _ h1) (hX.1.2.2.2.2 _ h2) (hX.1.2.2.2.2 _ h3) rfl h.1 rfl hd (by rw [hX.2.2.2]; exact hf) ?_ ?_
  · rw [hX.2.2.2]
    have e : (F0 X.2.1.2.1 pc ls (.ref a :: st)).monitorRoom = 0 := rfl
    rw [e]
    omega
  · exact k H locs ls h hH hS
end JW
