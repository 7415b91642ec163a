/-! The maker of SlottedMesh (by program, wip/whole/gen/g4.py) -/
/-- a picture of nothing -/
abbrev vE (Y : YY) (_ _ _ : Nat) : PV := ((Y.1, vCl, Y.2.1), (fun _ => .inl (0, []), Y.2.2.1, Y.2.2.2.1, fun _ => 0), (fun _ => 0, []))
theorem vE_ok (Y : YY) (n s c : Nat) : pv_ok (vE Y n s c) := ⟨fun _ _ _ _ h => absurd h (Nat.not_lt_zero _), fun _ _ h => absurd h (Nat.not_lt_zero _), fun _ _ _ _ h => (by cases h), fun _ => (by decide : 0 < 2 ^ 31)⟩
set_option maxRecDepth 100000 in
set_option maxHeartbeats 4000000 in
theorem c_E_nearest (l : Launch) (Y : YY) (n s c : Nat) (hV : pv_ok (vE Y n s c)) (u : UU) (v lo hi : Int32) : Ct l (vE Y n s c) ⟨"SlottedMesh", "nearest", "(III)I"⟩ (wz ⟨"SlottedMesh", "nearest", "(III)I"⟩ b_S_nearest 3 (some .int)) (rd 1) [.int v, .int lo, .int hi] u (some (.int (knear v lo hi))) (u) := by
  refine ct_mk hV (by decide +kernel) (Nat.le_of_ble_eq_true rfl) (fun X hX => ?_)
  have hX : ox X (vE Y n s c) (rd 1) b_S_nearest 3 "SlottedMesh" gz (some .int) := hX
  show ow X (vE Y n s c) (some (.int (knear v lo hi))) (u) u [(0, .int v), (1, .int lo), (2, .int hi)] 0 []
  refine ow_iload_n (pc := 0) hX d_S_nearest_0 rfl ?_
  refine ow_iload_n (pc := 1) hX d_S_nearest_1 rfl ?_
  refine ow_iload_n (pc := 2) hX d_S_nearest_2 rfl ?_
  refine ow_min (pc := 3) hX d_S_nearest_3 kw_21 kw_22 kw_2 kw_23 (by decide) (Nat.le_of_ble_eq_true rfl) ?_
  refine ow_max (pc := 6) hX d_S_nearest_6 kw_24 kw_25 kw_2 kw_26 (by decide) (Nat.le_of_ble_eq_true rfl) ?_
  exact ow_iret (pc := 9) hX d_S_nearest_9 (by rfl) (by rfl)
theorem knear_n (v : Int32) {lo hi : Nat} (h : lo ≤ hi) (hh : hi < 2 ^ 31) : knear v (nI lo) (nI hi) = nI (kcp v lo hi) := by
  unfold knear
  by_cases h1 : v < nI lo
  · rw [kcp_a h1]
    have h2 : v < nI hi := by
      rw [Int32.lt_iff_toInt_lt] at h1 ⊢
      rw [nI_toInt (by omega)] at h1 ⊢
      omega
    rw [if_pos h2, if_neg]
    intro q
    rw [Int32.lt_iff_toInt_lt] at h1 q
    omega
  · by_cases h2 : nI hi < v
    · rw [kcp_b h1 h2]
      have h3 : ¬ v < nI hi := fun q => by rw [Int32.lt_iff_toInt_lt] at h2 q; omega
      rw [if_neg h3]
      by_cases h4 : nI lo < nI hi
      · rw [if_pos h4]
      · rw [if_neg h4]
        rw [nI_ltI (by omega) hh] at h4
        rw [show lo = hi by omega]
    · have e := kcp_c (by omega) h1 h2
      have e2 : (if v < nI hi then v else nI hi) = v := by
        split
        · rfl
        · rename_i q
          apply Int32.toInt_inj.mp
          rw [Int32.lt_iff_toInt_lt] at h2 q
          omega
      rw [e2]
      split
      · exact e
      · rename_i q
        rw [← e]
        apply Int32.toInt_inj.mp
        rw [Int32.lt_iff_toInt_lt] at h1 q
        omega
/-! a call of a contract from the second judgement -/
section JC
variable {X : OX} {A : Nat → Prop} {Q : State → Prop} {Φ Ψ : Heap → Prop} {ce sl : Nat} {rm rm1 : Room} {cc bytes : ByteArray} {nL maxL n index : Nat} {own C : String} {ret ret1 : Option FieldType} {loc : List (Nat × Value)} {pc : Nat} {st As rest : List Value} {V : PV} {y : MethodName} {u u1 : UU} {r1 : Option Value}
theorem jw_cback {H : Heap} {locs : List Loc} {ls : Array Slot} {av : Array Value} (h : lv_has ls X.2.2.2.maxLocals loc) (hS : va_S A X.2.1.1.heap H locs) (hA : ∀ q, pv_A V q → A q)
    (hr : va_Run X.1.1 X.1.2.1 X.1.2.2.1 X.1.2.2.2 X.2.1.1 X.2.1.2.1 X.2.1.2.2.1 X.2.1.2.2.2 X.2.2.1 X.2.2.2 H locs ce sl 0 0 (F0 X.2.1.2.1 pc ls st) rest (ow_Q V r1 u1 av) (pv_A V))
    (hΨ : ∀ H', pv_H V u1 H' → H.size ≤ H'.size → (∀ q, q < H.size → ¬ pv_A V q → H'[q]? = H[q]?) → Ψ H')
    (k : jw X A Q Ψ ce sl loc (pc + 3) (r1.toList ++ rest)) : W X.1.1 X.1.2.1 X.1.2.2.1 X.1.2.2.2 X.2.1.1 X.2.1.2.1 X.2.1.2.2.1 X.2.1.2.2.2 X.2.2.1 X.2.2.2 H locs ce sl Q (F0 X.2.1.2.1 pc ls st) := by
  intro T hT X0
  obtain ⟨v, st₀, t, T', L, h0, X', hL, e1, e2, ⟨⟨hv, hH1, hK1⟩, hz, hk⟩, hgo⟩ := hr T hT X0
  cases hv
  rw [h0] at hz hk
  obtain ⟨t2, a1, b1⟩ := k T'.heap (locs ++ L) ls h (by rw [e1]; exact hΨ _ hH1 hz hk) ⟨Nat.le_trans hS.1 (by rw [e1]; exact hz), fun q h1 h2 => by rw [e1, hk q (Nat.lt_of_lt_of_le h1 hS.1) (fun z => h2 (hA q z))]; exact hS.2.1 q h1 h2, fun q hq => by
    rcases List.mem_append.mp hq with h | h
    · exact hS.2.2 q h
    · exact hA _ (hL q h)⟩ T' rfl X'
  exact ⟨t2, hgo t2 a1, b1⟩
theorem jw_cS (hX : jx X rm cc nL own gz ret) (hK : pv_K V X.2.1.1) (hA : ∀ q, pv_A V q → A q) (hM : Ct X.1.2.1 V y (wz y bytes maxL ret1) rm1 As u r1 u1) (hs : ms y bytes maxL ret1 n) (hl : Cond.methodLink own index y ∈ gz) (hz : rm1.cells = 0 ∧ rm1.slots = 0) (hR : rm1.frames + 1 ≤ rm.frames ∧ 8 + (maxL + 11) + rm1.locals ≤ rm.locals) (hc : ce ≤ rm.cells ∧ sl ≤ rm.slots) (hn : As.length = n) (hst : (rest.map fun v => v.category).sum ≤ 8) (hd : decode cc pc = .ok (.invokestatic index, 3)) (he : st = As.reverse ++ rest) (hΦ : ∀ H, Φ H → pv_H V u H)
    (hΨ : ∀ H H', Φ H → pv_H V u1 H' → H.size ≤ H'.size → (∀ q, q < H.size → ¬ pv_A V q → H'[q]? = H[q]?) → Ψ H')
    (k : jw X A Q Ψ ce sl loc (pc + 3) (r1.toList ++ rest)) : jw X A Q Φ ce sl loc pc st := by
  intro H locs ls h hH hS
  subst he
  refine jw_cback (av := As.toArray) h hS hA (va_runS hX.1 hM ⟨callB_of n hX.1.2.2.2.2 (gw_code hs.2.2.1) rfl hz.1 hz.2 (hX.1.2.2.2.2 _ hs.2.1) (hX.1.2.2.2.2 _ hl) hs.2.2.2 (by rw [hX.2.2.2]; exact hR), hX.1.2.2.2.2 _ hs.1⟩ ⟨ow_blind _, fun U hU hW => ⟨rfl, by rw [hU]; exact hΦ H hH, hK.moved hW⟩⟩ rfl hn (h.1.trans hX.1.2.2.1) rfl (lv_room hst) hd (by rw [hX.2.2.2]; exact hc)) (fun H' h1 h2 h3 => hΨ H H' hH h1 h2 h3) k
end JC
theorem gH_kept {G : GG} {ws : va_W} {H H' : Heap} (h : gH G ws H) (hk : ∀ q, q < H.size → H'[q]? = H[q]?) : gH G ws H' := ⟨h.1.kept (fun k q hq => hk q.1 ((h.1 k q hq).lt)), h.2⟩
theorem pv_E {Y : YY} {n s c : Nat} {u : UU} {H : Heap} : pv_H (vE Y n s c) u H := ⟨fun _ => .inr (0, []), fun _ _ h => absurd h (Nat.not_lt_zero _), fun k q h => (by cases h), ⟨fun i j p q h => (by cases h), fun k q h => (by cases h)⟩⟩
/-! the world of SlottedMesh while it is made -/
abbrev loE (q : Nat) : va_E := .inr (2, [.ref q, .int 0, .int 0, .int 0, .int 0, .int 0])
abbrev blk (k : Nat → ClassId) (n : Nat) (z : Nat → Nat) (i : Nat) : va_W := (z 0, ndE (fun j => z (j + 1)) i (b0 i)) :: (ndL k (fun j => z (j + 1)) n ++ [(z 12, loE (z 13)), (z 13, aI k 3)])
def bks (k : Nat → ClassId) (n : Nat) : Nat → List (Nat → Nat) → va_W
  | _, [] => []
  | i, z :: zs => blk k n z i ++ bks k n (i + 1) zs
theorem bks_app (k : Nat → ClassId) (n : Nat) (z : Nat → Nat) : ∀ zs i, bks k n i (zs ++ [z]) = bks k n i zs ++ blk k n z (i + zs.length) := by
  intro zs
  induction zs with
  | nil => intro i; show blk k n z i ++ [] = [] ++ blk k n z (i + 0); rw [List.append_nil]; rfl
  | cons y zs ih =>
    intro i
    show blk k n y i ++ bks k n (i + 1) (zs ++ [z]) = (blk k n y i ++ bks k n (i + 1) zs) ++ _
    rw [ih, List.append_assoc]
    congr 3
    show i + 1 + zs.length = i + (zs.length + 1)
    omega
theorem bks_len (k : Nat → ClassId) (n : Nat) : ∀ zs i, (bks k n i zs).length = 14 * zs.length := by
  intro zs
  induction zs with
  | nil => intro i; rfl
  | cons y zs ih =>
    intro i
    show (blk k n y i ++ bks k n (i + 1) zs).length = 14 * (zs.length + 1)
    rw [List.length_append, ih]
    show 14 + _ = _
    omega
def arF (zs : List (Nat → Nat)) (t : Nat) : Nat → Option Nat := fun j => (zs[j]?).map (fun z => z t)
theorem arF_app (zs : List (Nat → Nat)) (z : Nat → Nat) (t v : Nat) (hv : v = z t) : va_up (arF zs t) zs.length (some v) = arF (zs ++ [z]) t := by
  subst hv
  funext j
  unfold va_up arF
  split
  · rename_i h; subst h; rw [List.getElem?_append_right (Nat.le_refl _), Nat.sub_self]; rfl
  · rename_i h
    by_cases hj : j < zs.length
    · rw [List.getElem?_append_left hj]
    · rw [List.getElem?_append_right (by omega), List.getElem?_eq_none (by omega), List.getElem?_eq_none (by simp; omega)]
theorem arF_nil (t : Nat) : arF [] t = fun _ => none := rfl
abbrev smE (s c : Nat) (vn vh vl va vs : Value) (t f : Int32) : va_E := .inr (5, [.int (nI s), .int (nI c), vn, vh, vl, va, vs, .int t, .int f])
abbrev chE : va_E := .inr (0, [.long (-1), .long (-1)])
def chF (hs : List Nat) : Nat → Option Nat := fun j => hs[j]?
theorem chF_app (hs : List Nat) (q : Nat) : va_up (chF hs) hs.length (some q) = chF (hs ++ [q]) := by
  funext j
  unfold va_up chF
  split
  · rename_i h; subst h; rw [List.getElem?_append_right (Nat.le_refl _), Nat.sub_self]; rfl
  · rename_i h
    by_cases hj : j < hs.length
    · rw [List.getElem?_append_left hj]
    · rw [List.getElem?_append_right (by omega), List.getElem?_eq_none (by omega), List.getElem?_eq_none (by simp; omega)]
def chL (hs : List Nat) : va_W := hs.map (fun q => (q, chE))
theorem chL_app (hs : List Nat) (q : Nat) : chL (hs ++ [q]) = chL hs ++ [(q, chE)] := by unfold chL; rw [List.map_append]; rfl
theorem chL_len (hs : List Nat) : (chL hs).length = hs.length := by unfold chL; rw [List.length_map]
abbrev oA (c : ClassId) (n : Nat) (f : Nat → Option Nat) : va_E := .inl (c, n, .inr (.inr (.inr (.inr f))))
section WB
variable {α : Type} (w : List α) (p : Nat) (x u v : α) (R T : List α)
theorem wb_at (i : Nat) : (w.set p x ++ (u :: v :: (R ++ T)))[w.length + (2 + R.length + i)]? = T[i]? := by
  rw [wt_at, show 2 + R.length + i = (R.length + i) + 1 + 1 by omega, List.getElem?_cons_succ, List.getElem?_cons_succ, ap_get]
theorem wb_set (i : Nat) (y : α) : (w.set p x ++ (u :: v :: (R ++ T))).set (w.length + (2 + R.length + i)) y = w.set p x ++ (u :: v :: (R ++ T.set i y)) := by
  rw [wt_set, show 2 + R.length + i = (R.length + i) + 1 + 1 by omega, List.set_cons_succ, List.set_cons_succ, ap_set]
theorem wb_app (M : List α) : (w.set p x ++ (u :: v :: (R ++ T))) ++ M = w.set p x ++ (u :: v :: (R ++ (T ++ M))) := by
  rw [List.append_assoc]
  congr 1
  show u :: v :: ((R ++ T) ++ M) = _
  rw [List.append_assoc]
theorem wb_0 (y : α) : (w.set p x ++ (u :: v :: (R ++ T))).set (w.length + 0) y = w.set p x ++ (y :: v :: (R ++ T)) := by rw [wt_set]; rfl
theorem wb_1 (y : α) : (w.set p x ++ (u :: v :: (R ++ T))).set (w.length + 1) y = w.set p x ++ (u :: y :: (R ++ T)) := by rw [wt_set]; rfl
end WB
set_option maxRecDepth 100000 in
set_option maxHeartbeats 4000000 in
theorem w_S_in1 {X : OX} {P : va_W → Prop} (D : va_G) (k : Nat → ClassId) (B : Nat) (hX : jx X { frames := 3, cells := 110, slots := 800, locals := 120 } b_S_init 6 "SlottedMesh" gz none) (hK : gK (gG D k B) X.2.1.1) (hin2 : X.2.2.1.name = "<init>") (w0 : va_W) (p a : Nat) (hp : p < w0.length) (x1 x2 x3 : Int32) (n s c : Nat) (h2 : 2 ≤ n) (hn : n ≤ 6) (hs : s ≤ 24) (hc1 : 1 ≤ c) (hc : c ≤ 4) (qn ql : Nat) (K : ∀ zs, zs.length = n → jw X (gA (gG D k B)) (MQ X.2.1.2.2.2 (fun _ st oc t => (oc = .returned none ∧ ∃ ws', P ws' ∧ gH (gG D k B) ws' t.heap) ∧ va_F (gA (gG D k B)) st t) X.2.1.2.2.1 X.2.1.1 110 800 (gA (gG D k B))) (gH (gG D k B) (w0.set p (a, smE s c (.ref qn) .null (.ref ql) .null .null 0 0) ++ ((qn, oA (k 3) n (arF zs 0)) :: (ql, oA (k 4) n (arF zs 12)) :: (bks k n 0 zs ++ [])))) (2 + 14 * n) (2 * n + 83 * n) [(0, .ref a), (1, .int x1), (2, .int x2), (3, .int x3), (4, .int (nI n)), (5, .int (nI n))] 101 []) : ∀ j zs, zs.length + j = n → jw X (gA (gG D k B)) (MQ X.2.1.2.2.2 (fun _ st oc t => (oc = .returned none ∧ ∃ ws', P ws' ∧ gH (gG D k B) ws' t.heap) ∧ va_F (gA (gG D k B)) st t) X.2.1.2.2.1 X.2.1.1 110 800 (gA (gG D k B))) (gH (gG D k B) (w0.set p (a, smE s c (.ref qn) .null (.ref ql) .null .null 0 0) ++ ((qn, oA (k 3) n (arF zs 0)) :: (ql, oA (k 4) n (arF zs 12)) :: (bks k n 0 zs ++ [])))) (2 + 14 * zs.length) (2 * n + 83 * zs.length) [(0, .ref a), (1, .int x1), (2, .int x2), (3, .int x3), (4, .int (nI n)), (5, .int (nI zs.length))] 56 [] := by
  intro j
  induction j with
  | zero =>
    intro zs hz
    have e : zs.length = n := by omega
    refine jw_iload (pc := 56) hX d_S_init_56 rfl ?_
    refine jw_iload (pc := 58) hX d_S_init_58 rfl ?_
    refine jw_nc_ge (pc := 60) (tgt := 101) hX d_S_init_60 (by decide) (by omega) (by omega) (fun _ => ?_) (fun h => absurd h (by omega))
    have K := K zs e
    rw [e]
    exact K
  | succ j ih =>
    intro zs hz
    obtain ⟨m, hm⟩ : ∃ m, m = zs.length := ⟨_, rfl⟩
    have hR : (bks k n 0 zs).length = 14 * m := by rw [bks_len, hm]
    rw [← hm]
    refine jw_iload (pc := 56) hX d_S_init_56 rfl ?_
    refine jw_iload (pc := 58) hX d_S_init_58 rfl ?_
    refine jw_nc_ge (pc := 60) (tgt := 101) hX d_S_init_60 (by decide) (by omega) (by omega) (fun h => absurd h (by omega)) (fun _ => ?_)
    refine jw_aload_n (pc := 63) hX d_S_init_63 rfl ?_
    refine jw_get (pc := 64) hX hK p uw_S tc_S (wt_get _ _ hp) rfl 2 (by decide) kw_203 rfl d_S_init_64 ?_
    refine jw_iload (pc := 67) hX d_S_init_67 rfl ?_
    refine jw_new (pc := 69) (ci := 3) hX hK [.int 0, .null, .null, .null, .null, .null, .int 0, .int 0, .int 0, .int 0, .int 0, .int 0, .int 0, .int 0] tp_N uw_N tp_N_ok kw_27 kw_31 kw_3 rfl (dv_ok (by decide +kernel)) (by show _ ≤ 110; (try dsimp only); omega) (by show _ ≤ 800; (try dsimp only); omega) d_S_init_69 (fun q => ?_)
    refine jw_ws (w2 := (w0.set p (a, smE s c (.ref qn) .null (.ref ql) .null .null 0 0) ++ ((qn, oA (k 3) n (arF zs 0)) :: (ql, oA (k 4) n (arF zs 12)) :: (bks k n 0 zs ++ [(q, .inr (3, [.int 0, .null, .null, .null, .null, .null, .int 0, .int 0, .int 0, .int 0, .int 0, .int 0, .int 0, .int 0]))])))) (wb_app _ _ _ _ _ _ _ _) ?_
    refine jw_dup (pc := 72) hX d_S_init_72 rfl ?_
    refine jw_iload (pc := 73) hX d_S_init_73 rfl ?_
    refine jw_iload (pc := 75) hX d_S_init_75 rfl ?_
    refine jw_callI (pc := 77) (n := 2) hX hK (c_N_init _ D k B _ (w0.length + (2 + (bks k n 0 zs).length + 0)) q m n (by omega) hn (wb_at _ _ _ _ _ _ _ _)) kw_32 kw_33 kw_3 kw_34 rfl (by decide +kernel) ⟨Nat.le_of_ble_eq_true rfl, Nat.le_of_ble_eq_true rfl⟩ rfl (Nat.le_of_ble_eq_true rfl) (by show _ ≤ 110; (try dsimp only); omega) (by show _ ≤ 800; (try dsimp only); omega) d_S_init_77 rfl (fun ws2 hw2 => ?_)
    obtain ⟨f, rfl⟩ := hw2
    refine jw_ws (w2 := (w0.set p (a, smE s c (.ref qn) .null (.ref ql) .null .null 0 0) ++ ((qn, oA (k 3) n (arF zs 0)) :: (ql, oA (k 4) n (arF zs 12)) :: (bks k n 0 zs ++ ((q, ndE f m (b0 m)) :: ndL k f n))))) (by rw [wb_set, wb_app]; rfl) ?_
    refine jw_astq (pc := 80) hX hK (w0.length + 0) 3 (w0.length + (2 + (bks k n 0 zs).length + 0)) 3 (r := (R_N, T_N, 14)) (wt_at _ _ _ _ _) rfl (wb_at _ _ _ _ _ _ _ _) rfl (by omega) (by omega) d_S_init_80 ?_
    refine jw_ws (wb_0 _ _ _ _ _ _ _ _) ?_
    refine jw_aload_n (pc := 81) hX d_S_init_81 rfl ?_
    refine jw_get (pc := 82) hX hK p uw_S tc_S (wt_get _ _ hp) rfl 4 (by decide) kw_205 rfl d_S_init_82 ?_
    refine jw_iload (pc := 85) hX d_S_init_85 rfl ?_
    refine jw_new (pc := 87) (ci := 2) hX hK [.null, .int 0, .int 0, .int 0, .int 0, .int 0] tp_O uw_O tp_O_ok kw_29 kw_116 kw_5 rfl (dv_ok (by decide +kernel)) (by show _ ≤ 110; (try dsimp only); omega) (by show _ ≤ 800; (try dsimp only); omega) d_S_init_87 (fun q2 => ?_)
    refine jw_ws (wb_app _ _ _ _ _ _ _ _) ?_
    refine jw_dup (pc := 90) hX d_S_init_90 rfl ?_
    refine jw_callIN (pc := 91) hX hK (c_O_init _ D k B _ (w0.length + (2 + (bks k n 0 zs).length + 12)) q2 (wb_at _ _ _ _ _ _ _ _)) hK.1.2.1.2.2.1 kw_118 kw_5 kw_119 rfl (by decide +kernel) ⟨Nat.le_of_ble_eq_true rfl, Nat.le_of_ble_eq_true rfl⟩ rfl (Nat.le_of_ble_eq_true rfl) (by show _ ≤ 110; (try dsimp only); omega) (by show _ ≤ 800; (try dsimp only); omega) d_S_init_91 rfl (fun ws3 hw3 => ?_)
    obtain ⟨q3, rfl⟩ := hw3
    refine jw_ws (by rw [wb_set, wb_app]) ?_
    refine jw_astq (pc := 94) hX hK (w0.length + 1) 4 (w0.length + (2 + (bks k n 0 zs).length + 12)) 2 (r := (R_O, T_O, 6)) (wt_at _ _ _ _ _) rfl (wb_at _ _ _ _ _ _ _ _) rfl (by omega) (by omega) d_S_init_94 ?_
    obtain ⟨z, hz0⟩ : ∃ z : Nat → Nat, z = fun j => (q :: f 0 :: f 1 :: f 2 :: f 3 :: f 4 :: f 5 :: f 6 :: f 7 :: f 8 :: f 9 :: f 10 :: q2 :: q3 :: []).getD j 0 := ⟨_, rfl⟩
    refine jw_ws (w2 := (w0.set p (a, smE s c (.ref qn) .null (.ref ql) .null .null 0 0) ++ ((qn, oA (k 3) n (arF (zs ++ [z]) 0)) :: (ql, oA (k 4) n (arF (zs ++ [z]) 12)) :: (bks k n 0 (zs ++ [z]) ++ [])))) ?_ ?_
    · rw [wb_1, bks_app, List.append_nil, Nat.zero_add, ← hm, ← arF_app zs z 0 q (by rw [hz0]; rfl), ← arF_app zs z 12 q2 (by rw [hz0]; rfl), ← hm, hz0]
      rfl
    refine jw_iinc (pc := 95) (l2 := [(0, _), (1, _), (2, _), (3, _), (4, _), (5, _)]) hX d_S_init_95 rfl (ii_1 _) (by decide) rfl rfl ?_
    refine jw_goto (pc := 98) (tgt := 56) hX d_S_init_98 (by decide) ?_
    have ih := ih (zs ++ [z]) (by rw [List.length_append]; show zs.length + 1 + j = n; omega)
    have el : (zs ++ [z]).length = m + 1 := by rw [List.length_append, hm]; rfl
    rw [el] at ih
    exact jw_wid (by (try dsimp only); omega) (by (try dsimp only); omega) ih
set_option maxRecDepth 100000 in
set_option maxHeartbeats 4000000 in
theorem w_S_in2 {X : OX} {P : va_W → Prop} (D : va_G) (k : Nat → ClassId) (B : Nat) (hX : jx X { frames := 3, cells := 110, slots := 800, locals := 120 } b_S_init 6 "SlottedMesh" gz none) (hK : gK (gG D k B) X.2.1.1) (hin2 : X.2.2.1.name = "<init>") (w0 : va_W) (p a : Nat) (hp : p < w0.length) (x1 x2 x3 : Int32) (n s c : Nat) (h2 : 2 ≤ n) (hn : n ≤ 6) (hs : s ≤ 24) (hc1 : 1 ≤ c) (hc : c ≤ 4) (qn ql : Nat) (qh : Nat) (uu vv : Nat × va_E) (R : va_W) (K : ∀ hs : List Nat, hs.length = c → jw X (gA (gG D k B)) (MQ X.2.1.2.2.2 (fun _ st oc t => (oc = .returned none ∧ ∃ ws', P ws' ∧ gH (gG D k B) ws' t.heap) ∧ va_F (gA (gG D k B)) st t) X.2.1.2.2.1 X.2.1.1 110 800 (gA (gG D k B))) (gH (gG D k B) (w0.set p (a, smE s c (.ref qn) (.ref qh) (.ref ql) .null .null 0 0) ++ (uu :: vv :: (R ++ ((qh, oA (k 5) c (chF hs)) :: (chL hs)))))) (3 + 14 * n + c) (85 * n + 3 * c) [(0, .ref a), (1, .int x1), (2, .int x2), (3, .int x3), (4, .int (nI n)), (5, .int (nI c))] 144 []) : ∀ j (hs : List Nat), hs.length + j = c → jw X (gA (gG D k B)) (MQ X.2.1.2.2.2 (fun _ st oc t => (oc = .returned none ∧ ∃ ws', P ws' ∧ gH (gG D k B) ws' t.heap) ∧ va_F (gA (gG D k B)) st t) X.2.1.2.2.1 X.2.1.1 110 800 (gA (gG D k B))) (gH (gG D k B) (w0.set p (a, smE s c (.ref qn) (.ref qh) (.ref ql) .null .null 0 0) ++ (uu :: vv :: (R ++ ((qh, oA (k 5) c (chF hs)) :: (chL hs)))))) (3 + 14 * n + hs.length) (85 * n + c + 2 * hs.length) [(0, .ref a), (1, .int x1), (2, .int x2), (3, .int x3), (4, .int (nI n)), (5, .int (nI hs.length))] 115 [] := by
  intro j
  induction j with
  | zero =>
    intro hs hz
    have e : hs.length = c := by omega
    refine jw_iload (pc := 115) hX d_S_init_115 rfl ?_
    refine jw_aload_n (pc := 117) hX d_S_init_117 rfl ?_
    refine jw_get (pc := 118) hX hK p uw_S tc_S (wt_get _ _ hp) rfl 1 (by decide) kw_202 rfl d_S_init_118 ?_
    refine jw_nc_ge (pc := 121) (tgt := 144) hX d_S_init_121 (by decide) (by omega) (by omega) (fun _ => ?_) (fun h => absurd h (by omega))
    have K := K hs e
    rw [e]
    exact jw_wid (by omega) (by omega) K
  | succ j ih =>
    intro hs hz
    obtain ⟨m, hm⟩ : ∃ m, m = hs.length := ⟨_, rfl⟩
    have hl : (chL hs).length = m := by rw [chL_len, hm]
    rw [← hm]
    refine jw_iload (pc := 115) hX d_S_init_115 rfl ?_
    refine jw_aload_n (pc := 117) hX d_S_init_117 rfl ?_
    refine jw_get (pc := 118) hX hK p uw_S tc_S (wt_get _ _ hp) rfl 1 (by decide) kw_202 rfl d_S_init_118 ?_
    refine jw_nc_ge (pc := 121) (tgt := 144) hX d_S_init_121 (by decide) (by omega) (by omega) (fun h => absurd h (by omega)) (fun _ => ?_)
    refine jw_aload_n (pc := 124) hX d_S_init_124 rfl ?_
    refine jw_get (pc := 125) hX hK p uw_S tc_S (wt_get _ _ hp) rfl 3 (by decide) kw_204 rfl d_S_init_125 ?_
    refine jw_iload (pc := 128) hX d_S_init_128 rfl ?_
    refine jw_new (pc := 130) (ci := 0) hX hK [.long 0, .long 0] tp_H uw_H tp_H_ok kw_145 kw_147 kw_6 rfl (dv_ok (by decide +kernel)) (by show _ ≤ 110; (try dsimp only); omega) (by show _ ≤ 800; (try dsimp only); omega) d_S_init_130 (fun q => ?_)
    refine jw_ws (wb_app _ _ _ _ _ _ _ _) ?_
    refine jw_dup (pc := 133) hX d_S_init_133 rfl ?_
    have hg : ∀ e : Nat × va_E, (((qh, oA (k 5) c (chF hs)) :: chL hs) ++ [e])[1 + m]? = some e := fun e => by
      have h := ap_get ((qh, oA (k 5) c (chF hs)) :: chL hs) [e] 0
      rw [show ((qh, oA (k 5) c (chF hs)) :: chL hs).length + 0 = 1 + m by show (chL hs).length + 1 + 0 = 1 + m; omega] at h
      exact h
    have hst : ∀ e e2 : Nat × va_E, (((qh, oA (k 5) c (chF hs)) :: chL hs) ++ [e]).set (1 + m) e2 = ((qh, oA (k 5) c (chF hs)) :: chL hs) ++ [e2] := fun e e2 => by
      have h := ap_set ((qh, oA (k 5) c (chF hs)) :: chL hs) [e] 0 e2
      rw [show ((qh, oA (k 5) c (chF hs)) :: chL hs).length + 0 = 1 + m by show (chL hs).length + 1 + 0 = 1 + m; omega] at h
      exact h
    refine jw_callIN (pc := 134) hX hK (c_H_init _ D k B _ (w0.length + (2 + R.length + (1 + m))) q ((wb_at _ _ _ _ _ _ _ _).trans (hg _))) hK.1.2.1.2.2.2 kw_149 kw_6 kw_150 rfl (by decide +kernel) ⟨Nat.le_of_ble_eq_true rfl, Nat.le_of_ble_eq_true rfl⟩ rfl (Nat.le_of_ble_eq_true rfl) (by show _ ≤ 110; (try dsimp only); omega) (by show _ ≤ 800; (try dsimp only); omega) d_S_init_134 rfl (fun ws2 hw2 => ?_)
    subst hw2
    refine jw_ws (by rw [List.append_nil, wb_set, hst]) ?_
    refine jw_astq (pc := 137) hX hK (w0.length + (2 + R.length + 0)) 5 (w0.length + (2 + R.length + (1 + m))) 0 (r := (R_H, T_H, 2)) (wb_at _ _ _ _ _ _ _ _) rfl ((wb_at _ _ _ _ _ _ _ _).trans (hg _)) rfl (by omega) (by omega) d_S_init_137 ?_
    refine jw_ws (w2 := (w0.set p (a, smE s c (.ref qn) (.ref qh) (.ref ql) .null .null 0 0) ++ (uu :: vv :: (R ++ ((qh, oA (k 5) c (chF (hs ++ [q]))) :: (chL (hs ++ [q]))))))) ?_ ?_
    · rw [wb_set, chL_app, ← chF_app, ← hm]
      rfl
    refine jw_iinc (pc := 138) (l2 := [(0, _), (1, _), (2, _), (3, _), (4, _), (5, _)]) hX d_S_init_138 rfl (ii_1 _) (by decide) rfl rfl ?_
    refine jw_goto (pc := 141) (tgt := 115) hX d_S_init_141 (by decide) ?_
    have ih := ih (hs ++ [q]) (by rw [List.length_append]; show hs.length + 1 + j = c; omega)
    have el : (hs ++ [q]).length = m + 1 := by rw [List.length_append, hm]; rfl
    rw [el] at ih
    exact jw_wid (by (try dsimp only); omega) (by (try dsimp only); omega) ih
set_option maxRecDepth 100000 in
set_option maxHeartbeats 4000000 in
theorem w_S_in3 {X : OX} {P : va_W → Prop} (D : va_G) (k : Nat → ClassId) (B : Nat) (hX : jx X { frames := 3, cells := 110, slots := 800, locals := 120 } b_S_init 6 "SlottedMesh" gz none) (hK : gK (gG D k B) X.2.1.1) (hin2 : X.2.2.1.name = "<init>") (w0 : va_W) (p a : Nat) (hp : p < w0.length) (x1 x2 x3 : Int32) (n s c : Nat) (h2 : 2 ≤ n) (hn : n ≤ 6) (hs : s ≤ 24) (hc1 : 1 ≤ c) (hc : c ≤ 4) (qn ql : Nat) (qh : Nat) (uu vv : Nat × va_E) (R : va_W) (hsc : s * c ≤ 96) (hP : ∀ qa fa qs fs, P (w0.set p (a, smE s c (.ref qn) (.ref qh) (.ref ql) (.ref qa) (.ref qs) (nI 0) (nI 0)) ++ (uu :: vv :: (R ++ (((qa, plE fa s c) :: plL k fa n s c) ++ ((qs, plE fs s c) :: plL k fs n s c)))))) : jw X (gA (gG D k B)) (MQ X.2.1.2.2.2 (fun _ st oc t => (oc = .returned none ∧ ∃ ws', P ws' ∧ gH (gG D k B) ws' t.heap) ∧ va_F (gA (gG D k B)) st t) X.2.1.2.2.1 X.2.1.1 110 800 (gA (gG D k B))) (gH (gG D k B) (w0.set p (a, smE s c (.ref qn) (.ref qh) (.ref ql) .null .null 0 0) ++ (uu :: vv :: (R ++ [])))) (3 + 14 * n + c) (85 * n + 3 * c) [(0, .ref a), (1, .int x1), (2, .int x2), (3, .int x3), (4, .int (nI n)), (5, .int (nI c))] 144 [] := by
  refine jw_aload_n (pc := 144) hX d_S_init_144 rfl ?_
  refine jw_new (pc := 145) (ci := 4) hX hK [.int 0, .int 0, .null, .null, .null, .null, .null, .int 0, .int 0] tp_P uw_P tp_P_ok kw_162 kw_163 kw_7 rfl (dv_ok (by decide +kernel)) (by show _ ≤ 110; (try dsimp only); omega) (by show _ ≤ 800; (try dsimp only); omega) d_S_init_145 (fun qa => ?_)
  refine jw_ws (wb_app _ _ _ _ _ _ _ _) ?_
  refine jw_dup (pc := 148) hX d_S_init_148 rfl ?_
  refine jw_iload (pc := 149) hX d_S_init_149 rfl ?_
  refine jw_aload_n (pc := 151) hX d_S_init_151 rfl ?_
  refine jw_get (pc := 152) hX hK p uw_S tc_S (wt_get _ _ hp) rfl 0 (by decide) kw_201 rfl d_S_init_152 ?_
  refine jw_aload_n (pc := 155) hX d_S_init_155 rfl ?_
  refine jw_get (pc := 156) hX hK p uw_S tc_S (wt_get _ _ hp) rfl 1 (by decide) kw_202 rfl d_S_init_156 ?_
  refine jw_callI (pc := 159) (n := 3) hX hK (c_P_init _ D k B _ (w0.length + (2 + R.length + 0)) qa n s c hn hsc (wb_at _ _ _ _ _ _ _ _)) kw_164 kw_165 kw_7 kw_166 rfl (by decide +kernel) ⟨Nat.le_of_ble_eq_true rfl, Nat.le_of_ble_eq_true rfl⟩ rfl (Nat.le_of_ble_eq_true rfl) (by show _ ≤ 110; (try dsimp only); omega) (by show _ ≤ 800; (try dsimp only); omega) d_S_init_159 rfl (fun ws144 hw144 => ?_)
  obtain ⟨fa, rfl⟩ := hw144
  refine jw_ws (by rw [wb_set, wb_app]) ?_
  refine jw_put (pc := 162) (ty := .object "SlottedMesh$Plan") hX hK p tp_S uw_S tp_S_ok nm_S tc_S (wt_get _ _ hp) rfl 5 (by decide) kw_206 rfl (by decide +kernel) rfl rfl rfl d_S_init_162 ?_
  refine jw_ws (wt_put _ _ _ hp) ?_
  refine jw_aload_n (pc := 165) hX d_S_init_165 rfl ?_
  refine jw_new (pc := 166) (ci := 4) hX hK [.int 0, .int 0, .null, .null, .null, .null, .null, .int 0, .int 0] tp_P uw_P tp_P_ok kw_162 kw_163 kw_7 rfl (dv_ok (by decide +kernel)) (by show _ ≤ 110; (try dsimp only); omega) (by show _ ≤ 800; (try dsimp only); omega) d_S_init_166 (fun qs => ?_)
  refine jw_ws (wb_app _ _ _ _ _ _ _ _) ?_
  refine jw_dup (pc := 169) hX d_S_init_169 rfl ?_
  refine jw_iload (pc := 170) hX d_S_init_170 rfl ?_
  refine jw_aload_n (pc := 172) hX d_S_init_172 rfl ?_
  refine jw_get (pc := 173) hX hK p uw_S tc_S (wt_get _ _ hp) rfl 0 (by decide) kw_201 rfl d_S_init_173 ?_
  refine jw_aload_n (pc := 176) hX d_S_init_176 rfl ?_
  refine jw_get (pc := 177) hX hK p uw_S tc_S (wt_get _ _ hp) rfl 1 (by decide) kw_202 rfl d_S_init_177 ?_
  refine jw_callI (pc := 180) (n := 3) hX hK (c_P_init _ D k B _ (w0.length + (2 + R.length + 6)) qs n s c hn hsc (wb_at _ _ _ _ _ _ _ _)) kw_164 kw_165 kw_7 kw_166 rfl (by decide +kernel) ⟨Nat.le_of_ble_eq_true rfl, Nat.le_of_ble_eq_true rfl⟩ rfl (Nat.le_of_ble_eq_true rfl) (by show _ ≤ 110; (try dsimp only); omega) (by show _ ≤ 800; (try dsimp only); omega) d_S_init_180 rfl (fun ws165 hw165 => ?_)
  obtain ⟨fs, rfl⟩ := hw165
  refine jw_ws (by rw [wb_set, wb_app]) ?_
  refine jw_put (pc := 183) (ty := .object "SlottedMesh$Plan") hX hK p tp_S uw_S tp_S_ok nm_S tc_S (wt_get _ _ hp) rfl 6 (by decide) kw_207 rfl (by decide +kernel) rfl rfl rfl d_S_init_183 ?_
  refine jw_ws (wt_put _ _ _ hp) ?_
  refine jw_aload_n (pc := 186) hX d_S_init_186 rfl ?_
  refine jw_iconst (pc := 187) (v := nI 0) hX d_S_init_187 (by decide) ?_
  refine jw_put (pc := 188) (ty := .int) hX hK p tp_S uw_S tp_S_ok nm_S tc_S (wt_get _ _ hp) rfl 7 (by decide) kw_208 rfl (by decide +kernel) rfl rfl rfl d_S_init_188 ?_
  refine jw_ws (wt_put _ _ _ hp) ?_
  refine jw_aload_n (pc := 191) hX d_S_init_191 rfl ?_
  refine jw_iconst (pc := 192) (v := nI 0) hX d_S_init_192 (by decide) ?_
  refine jw_put (pc := 193) (ty := .int) hX hK p tp_S uw_S tp_S_ok nm_S tc_S (wt_get _ _ hp) rfl 8 (by decide) kw_209 rfl (by decide +kernel) rfl rfl rfl d_S_init_193 ?_
  refine jw_ws (wt_put _ _ _ hp) ?_
  exact jw_vret (pc := 196) hX (by show _ ≤ 110; (try dsimp only); omega) (by show _ ≤ 800; (try dsimp only); omega) d_S_init_196 (hP qa fa qs fs)
/-- all cells of a new SlottedMesh -/
def smW (k : Nat → ClassId) (w0 : va_W) (p a n s c qn ql qh qa qs : Nat) (zs : List (Nat → Nat)) (hs : List Nat) (fa fs : Nat → Nat) : va_W := w0.set p (a, smE s c (.ref qn) (.ref qh) (.ref ql) (.ref qa) (.ref qs) (nI 0) (nI 0)) ++ ((qn, oA (k 3) n (arF zs 0)) :: (ql, oA (k 4) n (arF zs 12)) :: ((bks k n 0 zs ++ ((qh, oA (k 5) c (chF hs)) :: chL hs)) ++ (((qa, plE fa s c) :: plL k fa n s c) ++ ((qs, plE fs s c) :: plL k fs n s c))))
set_option maxRecDepth 100000 in
set_option maxHeartbeats 4000000 in
theorem c_S_init (l : Launch) (D : va_G) (k : Nat → ClassId) (B : Nat) (w0 : va_W) (p a : Nat) (x1 x2 x3 : Int32) (h0 : w0[p]? = some (a, .inr (5, [.int 0, .int 0, .null, .null, .null, .null, .null, .int 0, .int 0]))) : Kt l (gG D k B) ⟨"SlottedMesh", "<init>", "(III)V"⟩ b_S_init 6 { frames := 3, cells := 110, slots := 800, locals := 120 } [.ref a, .int x1, .int x2, .int x3] w0 (fun w => ∃ (qn ql qh qa qs : Nat) (zs : List (Nat → Nat)) (hs : List Nat) (fa fs : Nat → Nat), zs.length = (kcp x1 2 6) ∧ hs.length = (kcp x3 1 4) ∧ w = smW k w0 p a (kcp x1 2 6) (kcp x2 8 24) (kcp x3 1 4) qn ql qh qa qs zs hs fa fs) := by
  refine kt_mk (by decide +kernel) (Nat.le_of_ble_eq_true rfl) (fun X hX hK hin2 => ?_)
  have hp := (List.getElem?_eq_some_iff.mp h0).1
  have hX : jx X { frames := 3, cells := 110, slots := 800, locals := 120 } b_S_init 6 "SlottedMesh" gz none := hX
  have hin2 : X.2.2.1.name = "<init>" := hin2
  show jw X _ _ _ 0 0 [(0, .ref a), (1, .int x1), (2, .int x2), (3, .int x3)] 0 []
  have hn := kcp_in (v := x1) (lo := 2) (hi := 6) (by decide) (by decide)
  have hs := kcp_in (v := x2) (lo := 8) (hi := 24) (by decide) (by decide)
  have hc := kcp_in (v := x3) (lo := 1) (hi := 4) (by decide) (by decide)
  have hsc : (kcp x2 8 24) * (kcp x3 1 4) ≤ 96 := Nat.mul_le_mul hs.2 hc.2
  refine jw_ws (w2 := (w0.set p (a, .inr (5, [.int 0, .int 0, .null, .null, .null, .null, .null, .int 0, .int 0])) ++ [])) (wt_0 h0) ?_
  refine jw_aload_n (pc := 0) hX d_S_init_0 rfl ?_
  refine jw_objInit (pc := 1) hX d_S_init_1 kw_15 kw_16 kw_17 (by decide) (Nat.le_of_ble_eq_true rfl) ?_
  refine jw_iload_n (pc := 4) hX d_S_init_4 rfl ?_
  refine jw_iconst (pc := 5) (v := nI 2) hX d_S_init_5 (by decide) ?_
  refine jw_bipush (pc := 6) (v := nI 6) hX d_S_init_6 (by decide) ?_
  refine jw_cS (pc := 8) (V := vE ((D, (gG D k B).1.2, (fun _ _ => 0), k, []) : YY) 0 0 0) (u := (fun _ _ _ => 0, fun _ _ _ => 0, fun _ _ _ => 0, fun _ => 0)) hX ⟨hK.1.1, hK.1.2.1.1⟩ (fun q hq => by cases hq) (c_E_nearest _ _ 0 0 0 (vE_ok _ 0 0 0) _ x1 (nI 2) (nI 6)) mz_S_nearest kw_18 ⟨rfl, rfl⟩ ⟨Nat.le_of_ble_eq_true rfl, Nat.le_of_ble_eq_true rfl⟩ (by constructor <;> (show _ ≤ _; (try dsimp only); omega)) rfl (Nat.le_of_ble_eq_true rfl) d_S_init_8 rfl (fun H _ => pv_E) (fun H H' h _ _ h3 => gH_kept h (fun q hq => h3 q hq (fun z => by cases z))) ?_
  refine jw_st (st2 := .int (nI (kcp x1 2 6)) :: []) (by rw [knear_n x1 (by decide) (by decide)]; rfl) ?_
  refine jw_istore (pc := 11) (l2 := [(0, _), (1, _), (2, _), (3, _), (4, _)]) hX d_S_init_11 (by decide) rfl rfl ?_
  refine jw_aload_n (pc := 13) hX d_S_init_13 rfl ?_
  refine jw_iload_n (pc := 14) hX d_S_init_14 rfl ?_
  refine jw_bipush (pc := 15) (v := nI 8) hX d_S_init_15 (by decide) ?_
  refine jw_bipush (pc := 17) (v := nI 24) hX d_S_init_17 (by decide) ?_
  refine jw_cS (pc := 19) (V := vE ((D, (gG D k B).1.2, (fun _ _ => 0), k, []) : YY) 0 0 0) (u := (fun _ _ _ => 0, fun _ _ _ => 0, fun _ _ _ => 0, fun _ => 0)) hX ⟨hK.1.1, hK.1.2.1.1⟩ (fun q hq => by cases hq) (c_E_nearest _ _ 0 0 0 (vE_ok _ 0 0 0) _ x2 (nI 8) (nI 24)) mz_S_nearest kw_18 ⟨rfl, rfl⟩ ⟨Nat.le_of_ble_eq_true rfl, Nat.le_of_ble_eq_true rfl⟩ (by constructor <;> (show _ ≤ _; (try dsimp only); omega)) rfl (Nat.le_of_ble_eq_true rfl) d_S_init_19 rfl (fun H _ => pv_E) (fun H H' h _ _ h3 => gH_kept h (fun q hq => h3 q hq (fun z => by cases z))) ?_
  refine jw_st (st2 := .int (nI (kcp x2 8 24)) :: [.ref a]) (by rw [knear_n x2 (by decide) (by decide)]; rfl) ?_
  refine jw_putF (pc := 22) (ty := .int) hX hK hin2 p tp_S uw_S tp_S_ok nm_S tc_S (wt_get _ _ hp) rfl 0 (by decide) kw_201 rfl (by decide +kernel) rfl rfl rfl d_S_init_22 ?_
  refine jw_ws (wt_put _ _ _ hp) ?_
  refine jw_aload_n (pc := 25) hX d_S_init_25 rfl ?_
  refine jw_iload_n (pc := 26) hX d_S_init_26 rfl ?_
  refine jw_iconst (pc := 27) (v := nI 1) hX d_S_init_27 (by decide) ?_
  refine jw_iconst (pc := 28) (v := nI 4) hX d_S_init_28 (by decide) ?_
  refine jw_cS (pc := 29) (V := vE ((D, (gG D k B).1.2, (fun _ _ => 0), k, []) : YY) 0 0 0) (u := (fun _ _ _ => 0, fun _ _ _ => 0, fun _ _ _ => 0, fun _ => 0)) hX ⟨hK.1.1, hK.1.2.1.1⟩ (fun q hq => by cases hq) (c_E_nearest _ _ 0 0 0 (vE_ok _ 0 0 0) _ x3 (nI 1) (nI 4)) mz_S_nearest kw_18 ⟨rfl, rfl⟩ ⟨Nat.le_of_ble_eq_true rfl, Nat.le_of_ble_eq_true rfl⟩ (by constructor <;> (show _ ≤ _; (try dsimp only); omega)) rfl (Nat.le_of_ble_eq_true rfl) d_S_init_29 rfl (fun H _ => pv_E) (fun H H' h _ _ h3 => gH_kept h (fun q hq => h3 q hq (fun z => by cases z))) ?_
  refine jw_st (st2 := .int (nI (kcp x3 1 4)) :: [.ref a]) (by rw [knear_n x3 (by decide) (by decide)]; rfl) ?_
  refine jw_putF (pc := 32) (ty := .int) hX hK hin2 p tp_S uw_S tp_S_ok nm_S tc_S (wt_get _ _ hp) rfl 1 (by decide) kw_202 rfl (by decide +kernel) rfl rfl rfl d_S_init_32 ?_
  refine jw_ws (wt_put _ _ _ hp) ?_
  generalize hen : (kcp x1 2 6) = n at hn ⊢
  generalize hes : (kcp x2 8 24) = s at hs hsc ⊢
  generalize hec : (kcp x3 1 4) = c at hc hsc ⊢
  refine jw_aload_n (pc := 35) hX d_S_init_35 rfl ?_
  refine jw_iload (pc := 36) hX d_S_init_36 rfl ?_
  refine jw_newq (pc := 38) (C := "SlottedMesh$Node") (t0 := 3) hX hK rfl kw_27 hK.1.2.2.1 (by omega) (by show _ ≤ 110; (try dsimp only); omega) (by show _ ≤ 800; (try dsimp only); omega) d_S_init_38 (fun qn => ?_)
  refine jw_ws (by rw [List.append_assoc]) ?_
  refine jw_putF (pc := 41) (ty := .array (.object "SlottedMesh$Node")) hX hK hin2 p tp_S uw_S tp_S_ok nm_S tc_S (wt_get _ _ hp) rfl 2 (by decide) kw_203 rfl (by decide +kernel) rfl rfl rfl d_S_init_41 ?_
  refine jw_ws (wt_put _ _ _ hp) ?_
  refine jw_aload_n (pc := 44) hX d_S_init_44 rfl ?_
  refine jw_iload (pc := 45) hX d_S_init_45 rfl ?_
  refine jw_newq (pc := 47) (C := "SlottedMesh$Loop") (t0 := 4) hX hK rfl kw_29 hK.1.2.2.2.1 (by omega) (by show _ ≤ 110; (try dsimp only); omega) (by show _ ≤ 800; (try dsimp only); omega) d_S_init_47 (fun ql => ?_)
  refine jw_ws (by rw [List.append_assoc]) ?_
  refine jw_putF (pc := 50) (ty := .array (.object "SlottedMesh$Loop")) hX hK hin2 p tp_S uw_S tp_S_ok nm_S tc_S (wt_get _ _ hp) rfl 4 (by decide) kw_205 rfl (by decide +kernel) rfl rfl rfl d_S_init_50 ?_
  refine jw_ws (w2 := (w0.set p (a, smE s c (.ref qn) .null (.ref ql) .null .null 0 0) ++ ((qn, oA (k 3) n (arF [] 0)) :: (ql, oA (k 4) n (arF [] 12)) :: (bks k n 0 [] ++ [])))) (wt_put _ _ _ hp) ?_
  refine jw_iconst (pc := 53) (v := nI 0) hX d_S_init_53 (by decide) ?_
  refine jw_istore (pc := 54) (l2 := [(0, _), (1, _), (2, _), (3, _), (4, _), (5, _)]) hX d_S_init_54 (by decide) rfl rfl ?_
  refine jw_wid (ce2 := 2 + 14 * ([] : List (Nat → Nat)).length) (sl2 := 2 * n + 83 * ([] : List (Nat → Nat)).length) (by (try dsimp only); omega) (by (try dsimp only); omega) ?_
  refine w_S_in1 D k B hX hK hin2 w0 p a hp x1 x2 x3 n s c hn.1 hn.2 hs.2 hc.1 hc.2 qn ql (fun zs hz => ?_) n [] (by show 0 + n = n; omega)
  refine jw_aload_n (pc := 101) hX d_S_init_101 rfl ?_
  refine jw_aload_n (pc := 102) hX d_S_init_102 rfl ?_
  refine jw_get (pc := 103) hX hK p uw_S tc_S (wt_get _ _ hp) rfl 1 (by decide) kw_202 rfl d_S_init_103 ?_
  refine jw_newq (pc := 106) (C := "SlottedMesh$Channel") (t0 := 5) hX hK rfl kw_145 hK.1.2.2.2.2 (by omega) (by show _ ≤ 110; (try dsimp only); omega) (by show _ ≤ 800; (try dsimp only); omega) d_S_init_106 (fun qh => ?_)
  refine jw_ws (wb_app _ _ _ _ _ _ _ _) ?_
  refine jw_putF (pc := 109) (ty := .array (.object "SlottedMesh$Channel")) hX hK hin2 p tp_S uw_S tp_S_ok nm_S tc_S (wt_get _ _ hp) rfl 3 (by decide) kw_204 rfl (by decide +kernel) rfl rfl rfl d_S_init_109 ?_
  refine jw_ws (wt_put _ _ _ hp) ?_
  refine jw_iconst (pc := 112) (v := nI 0) hX d_S_init_112 (by decide) ?_
  refine jw_istore (pc := 113) (l2 := [(0, _), (1, _), (2, _), (3, _), (4, _), (5, _)]) hX d_S_init_113 (by decide) rfl rfl ?_
  refine jw_wid (ce2 := 3 + 14 * n + ([] : List Nat).length) (sl2 := 85 * n + c + 2 * ([] : List Nat).length) (by (try dsimp only); omega) (by (try dsimp only); omega) ?_
  refine w_S_in2 D k B hX hK hin2 w0 p a hp x1 x2 x3 n s c hn.1 hn.2 hs.2 hc.1 hc.2 qn ql qh (qn, oA (k 3) n (arF zs 0)) (ql, oA (k 4) n (arF zs 12)) (bks k n 0 zs) (fun hs' hh => ?_) c [] (by show 0 + c = c; omega)
  refine jw_ws (w2 := (w0.set p (a, smE s c (.ref qn) (.ref qh) (.ref ql) .null .null 0 0) ++ ((qn, oA (k 3) n (arF zs 0)) :: (ql, oA (k 4) n (arF zs 12)) :: ((bks k n 0 zs ++ ((qh, oA (k 5) c (chF hs')) :: chL hs')) ++ [])))) (by rw [List.append_nil]) ?_
  refine w_S_in3 D k B hX hK hin2 w0 p a hp x1 x2 x3 n s c hn.1 hn.2 hs.2 hc.1 hc.2 qn ql qh _ _ _ hsc (fun qa fa qs fs => ?_)
  exact ⟨qn, ql, qh, qa, qs, zs, hs', fa, fs, hz, hh, rfl⟩
