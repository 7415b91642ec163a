/-! Pictures: the made worlds as heaps by kinds (by program, wip/whole/gen/g5.py) -/
theorem va_at_s {D : va_G} {cl : List vw_C} {a : Nat} {e e' : va_E} {H : Heap} (h : e = e') (g : va_at D cl (a, e) H) : va_at D cl (a, e') H := h ▸ g
theorem va_at_q {D : va_G} {cl : List vw_C} {a n : Nat} {c : ClassId} {f g : Nat → Option Nat} {H : Heap} (h : ∀ j, j < n → f j = g j) (q : va_at D cl (a, oA c n f) H) : va_at D cl (a, oA c n g) H := by
  show H[a]? = some (vp_cell c (n, .inr (.inr (.inr (.inr g)))))
  have q : H[a]? = some (vp_cell c (n, .inr (.inr (.inr (.inr f))))) := q
  rw [q, vp_cell_q, vp_cell_q]
  congr 1
  unfold arrV
  congr 2
  funext j
  dsimp only
  rw [h j.val j.isLt]
theorem pic {V : PV} {A : Nat → Prop} {u : UU} {W : va_W} {H : Heap} (pos : Nat → Nat → Nat) (hP : va_P (pv_D V) (pv_cl V) W H) (hD : va_D A W) (hL : pv_L V = W.map (·.1))
    (hpos : ∀ k i, i < pv_bd V k → ∃ e, W[pos k i]? = some (pv_ad V k i, e) ∧ ∀ a, va_at (pv_D V) (pv_cl V) (a, e) H → va_at (pv_D V) (pv_cl V) (a, pv_c V u k i) H)
    (hinj : ∀ k i k2 i2, i < pv_bd V k → i2 < pv_bd V k2 → pos k i = pos k2 i2 → k2 = k ∧ i2 = i) : pv_H V u H := by
  have inj : ∀ k i k2 i2, i < pv_bd V k → i2 < pv_bd V k2 → pv_ad V k i = pv_ad V k2 i2 → k2 = k ∧ i2 = i := by
    intro k i k2 i2 h1 h2 h3
    obtain ⟨e, q1, -⟩ := hpos k i h1
    obtain ⟨e2, q2, -⟩ := hpos k2 i2 h2
    exact hinj k i k2 i2 h1 h2 (hD.1 _ _ _ _ q1 q2 h3)
  haveI dec : ∀ a : Nat, Decidable (∃ ki : Nat × Nat, ki.2 < pv_bd V ki.1 ∧ pv_ad V ki.1 ki.2 = a) := fun _ => Classical.propDecidable _
  refine ⟨fun a => if h : ∃ ki : Nat × Nat, ki.2 < pv_bd V ki.1 ∧ pv_ad V ki.1 ki.2 = a then pv_c V u (Classical.choose h).1 (Classical.choose h).2 else ((W.find? (fun x => x.1 == a)).map (·.2)).getD (.inr (0, [])), ?_, ?_, ?_⟩
  · intro k i hi
    have h : ∃ ki : Nat × Nat, ki.2 < pv_bd V ki.1 ∧ pv_ad V ki.1 ki.2 = pv_ad V k i := ⟨(k, i), hi, rfl⟩
    have hs := Classical.choose_spec h
    have e := inj _ _ _ _ hi hs.1 hs.2.symm
    dsimp only
    rw [dif_pos h, e.1, e.2]
  · intro j q hq
    rw [hL] at hq
    unfold va_pl at hq
    rw [List.map_map, List.getElem?_map] at hq
    cases hw : W[j]? with
    | none => rw [hw] at hq; cases hq
    | some x =>
      rw [hw] at hq
      have hq := (Option.some.inj hq).symm
      subst hq
      have hx := hP j x hw
      show va_at _ _ (x.1, _) H
      dsimp only
      by_cases h : ∃ ki : Nat × Nat, ki.2 < pv_bd V ki.1 ∧ pv_ad V ki.1 ki.2 = x.1
      · have hs := Classical.choose_spec h
        obtain ⟨e, q1, q2⟩ := hpos _ _ hs.1
        have ej := hD.1 _ _ _ _ q1 hw hs.2
        rw [ej, hw] at q1
        have q1 := Option.some.inj q1
        rw [dif_pos h]
        refine q2 x.1 ?_
        rw [q1] at hx ⊢
        exact hx
      · rw [dif_neg h]
        have hf : W.find? (fun y => y.1 == x.1) = some x := by
          cases hff : W.find? (fun y => y.1 == x.1) with
          | none =>
            have := List.find?_eq_none.mp hff x (List.mem_of_getElem? hw)
            simp at this
          | some y =>
            have h1 := List.find?_some hff
            obtain ⟨j2, hj2⟩ := List.getElem?_of_mem (List.mem_of_find?_eq_some hff)
            have e1 : y.1 = x.1 := by simpa using h1
            have e2 := hD.1 _ _ _ _ hj2 hw e1
            rw [e2, hw] at hj2
            exact hj2.symm
        rw [hf]
        exact hx
  · refine ⟨fun i j p q hp hq hpq => ?_, fun j q hq => ?_⟩
    · rw [hL] at hp hq
      unfold va_pl at hp hq
      rw [List.map_map, List.getElem?_map] at hp hq
      cases hw : W[i]? with
      | none => rw [hw] at hp; cases hp
      | some x =>
        cases hw2 : W[j]? with
        | none => rw [hw2] at hq; cases hq
        | some y =>
          rw [hw] at hp
          rw [hw2] at hq
          have hp := (Option.some.inj hp).symm
          have hq := (Option.some.inj hq).symm
          subst hp; subst hq
          exact hD.1 i j x y hw hw2 hpq
    · unfold va_pl at hq
      have h := List.mem_of_getElem? hq
      obtain ⟨a, ha, rfl⟩ := List.mem_map.mp h
      exact ha
theorem pic_ok {V : PV} {A : Nat → Prop} {W : va_W} (pos : Nat → Nat → Nat) (hD : va_D A W) (hL : pv_L V = W.map (·.1))
    (hpos : ∀ k i, i < pv_bd V k → ∃ e, W[pos k i]? = some (pv_ad V k i, e))
    (hinj : ∀ k i k2 i2, i < pv_bd V k → i2 < pv_bd V k2 → pos k i = pos k2 i2 → k2 = k ∧ i2 = i)
    (ht : ∀ k c ty k2, pv_sh V k = .inr (c, ty, k2) → ∃ t : Nat, (pv_tys V)[t]? = some (pv_ca V k, ty)) (hl : ∀ k, pv_ln V k < 2 ^ 31) : pv_ok V := by
  refine ⟨fun k i k2 i2 h1 h2 h3 => ?_, fun k i h => ?_, ht, hl⟩
  · obtain ⟨e, q1⟩ := hpos k i h1
    obtain ⟨e2, q2⟩ := hpos k2 i2 h2
    exact hinj k i k2 i2 h1 h2 (hD.1 _ _ _ _ q1 q2 h3)
  · obtain ⟨e, q1⟩ := hpos k i h
    rw [hL]
    exact List.mem_map.mpr ⟨_, List.mem_of_getElem? q1, rfl⟩
/-! the model -/
abbrev mdW (k : Nat → ClassId) (q : Nat → Nat) (b n s c : Nat) : va_W := (b, mdE q n s c) :: mdL k q 4
def adM (b : Nat) (q : Nat → Nat) : Nat → Nat → Nat := fun k _ => match k with
  | 0 => b
  | k + 1 => q k
def caM (k : Nat → ClassId) : Nat → ClassId := fun j => match j with
  | 1 => k 0
  | 2 => k 0
  | 3 => k 0
  | 6 => k 2
  | 7 => k 2
  | _ => k 1
abbrev yM (D : va_G) (k : Nat → ClassId) (B : Nat) (q : Nat → Nat) (b n s c : Nat) : YY := (D, (gG D k B).1.2, adM b q, caM k, (mdW k q b n s c).map (·.1))
def uM0 : UU := (fun k _ j => match k with
  | 2 => if j = 0 then 1 else 0
  | 3 => if j = 0 then 1 else 0
  | _ => 0, fun _ _ _ => 0, fun _ _ j => hvL 4 j, fun _ => 0)
theorem bdM_lt {k i : Nat} (h : i < bdM k) : k ≤ 28 ∧ i = 0 := by
  unfold bdM at h
  split at h
  · rename_i h2; exact ⟨h2, by omega⟩
  · omega
theorem upd_01 : (fun j => nI (if j = 0 then 1 else 0)) = upd (fun _ => 0) 0 (nI 1) := by
  funext j
  unfold upd
  by_cases h : j = 0
  · simp [h]
  · simp [h]; rfl
set_option maxRecDepth 100000 in
set_option maxHeartbeats 4000000 in
theorem picM_at (D : va_G) (k : Nat → ClassId) (B : Nat) (q : Nat → Nat) (b n s c : Nat) : ∀ j i, i < bdM j → (mdW k q b n s c)[j]? = some (adM b q j i, pv_c (vM (yM D k B q b n s c) n s c) uM0 j i) := by
  intro k_ i hi
  obtain ⟨hk, rfl⟩ := bdM_lt hi
  rcases (by omega : k_ = 0 ∨ k_ = 1 ∨ k_ = 2 ∨ k_ = 3 ∨ k_ = 4 ∨ k_ = 5 ∨ k_ = 6 ∨ k_ = 7 ∨ k_ = 8 ∨ k_ = 9 ∨ k_ = 10 ∨ k_ = 11 ∨ k_ = 12 ∨ k_ = 13 ∨ k_ = 14 ∨ k_ = 15 ∨ k_ = 16 ∨ k_ = 17 ∨ k_ = 18 ∨ k_ = 19 ∨ k_ = 20 ∨ k_ = 21 ∨ k_ = 22 ∨ k_ = 23 ∨ k_ = 24 ∨ k_ = 25 ∨ k_ = 26 ∨ k_ = 27 ∨ k_ = 28) with rfl | rfl | rfl | rfl | rfl | rfl | rfl | rfl | rfl | rfl | rfl | rfl | rfl | rfl | rfl | rfl | rfl | rfl | rfl | rfl | rfl | rfl | rfl | rfl | rfl | rfl | rfl | rfl | rfl
  · rfl
  · rfl
  · show some (q 1, (.inl (k 0, 6, .inl (upd (fun _ => 0) 0 (nI 1))) : va_E)) = some (q 1, .inl (k 0, 6, .inl fun j => nI (if j = 0 then 1 else 0)))
    rw [upd_01]
  · show some (q 2, (.inl (k 0, 6, .inl (upd (fun _ => 0) 0 (nI 1))) : va_E)) = some (q 2, .inl (k 0, 6, .inl fun j => nI (if j = 0 then 1 else 0)))
    rw [upd_01]
  · rfl
  · rfl
  · rfl
  · rfl
  · rfl
  · rfl
  · rfl
  · rfl
  · rfl
  · rfl
  · rfl
  · rfl
  · rfl
  · rfl
  · rfl
  · rfl
  · rfl
  · rfl
  · rfl
  · rfl
  · rfl
  · rfl
  · rfl
  · rfl
  · rfl
theorem vM_tys (D : va_G) (k : Nat → ClassId) (B : Nat) (q : Nat → Nat) (b n s c : Nat) : ∀ j c2 ty k2, shM n s c j = .inr (c2, ty, k2) → ∃ t : Nat, (gG D k B).1.2[t]? = some (caM k j, ty) := by
  intro j c2 ty k2 h
  unfold shM at h
  split at h
  all_goals first | (cases h; done) | (cases h; exact ⟨0, rfl⟩) | (cases h; exact ⟨1, rfl⟩) | (cases h; exact ⟨2, rfl⟩) | skip
  obtain ⟨rfl, rfl, rfl⟩ : c2 = 1 ∧ ty = .int ∧ k2 = 0 := by cases h; exact ⟨rfl, rfl, rfl⟩
  refine ⟨1, ?_⟩
  unfold caM
  split
  all_goals first | (exfalso; simp_all; done) | rfl
theorem lnM_lt (j : Nat) : lnM j < 2 ^ 31 := by unfold lnM; split <;> decide
theorem picM_ok (D : va_G) (k : Nat → ClassId) (B : Nat) (q : Nat → Nat) (b n s c : Nat) {A : Nat → Prop} (hD : va_D A (mdW k q b n s c)) : pv_ok (vM (yM D k B q b n s c) n s c) :=
  pic_ok (V := vM (yM D k B q b n s c) n s c) (fun k _ => k) hD rfl (fun j i h => ⟨_, picM_at D k B q b n s c j i h⟩) (fun k i k2 i2 h1 h2 h => ⟨h.symm, by rw [(bdM_lt h1).2, (bdM_lt h2).2]⟩) (vM_tys D k B q b n s c) lnM_lt
theorem picM (D : va_G) (k : Nat → ClassId) (B : Nat) (q : Nat → Nat) (b n s c : Nat) {A : Nat → Prop} {H : Heap} (hP : va_P D vCl (mdW k q b n s c) H) (hD : va_D A (mdW k q b n s c)) : pv_H (vM (yM D k B q b n s c) n s c) uM0 H :=
  pic (V := vM (yM D k B q b n s c) n s c) (fun k _ => k) hP hD rfl (fun j i h => ⟨_, picM_at D k B q b n s c j i h, fun _ g => g⟩) (fun k i k2 i2 h1 h2 h => ⟨h.symm, by rw [(bdM_lt h1).2, (bdM_lt h2).2]⟩)
/-! the class -/
abbrev smV (k : Nat → ClassId) (a n s c qn ql qh qa qs : Nat) (zs : List (Nat → Nat)) (hs : List Nat) (fa fs : Nat → Nat) : va_W := (a, smE s c (.ref qn) (.ref qh) (.ref ql) (.ref qa) (.ref qs) (nI 0) (nI 0)) :: (qn, oA (k 3) n (arF zs 0)) :: (ql, oA (k 4) n (arF zs 12)) :: ((bks k n 0 zs ++ ((qh, oA (k 5) c (chF hs)) :: chL hs)) ++ (((qa, plE fa s c) :: plL k fa n s c) ++ ((qs, plE fs s c) :: plL k fs n s c)))
theorem smW_eq (k : Nat → ClassId) (a n s c qn ql qh qa qs : Nat) (zs : List (Nat → Nat)) (hs : List Nat) (fa fs : Nat → Nat) (e : va_E) : smW k [(a, e)] 0 a n s c qn ql qh qa qs zs hs fa fs = smV k a n s c qn ql qh qa qs zs hs fa fs := rfl
def zf (zs : List (Nat → Nat)) (i j : Nat) : Nat := (zs.getD i (fun _ => 0)) j
def adC (a qn ql qh qa qs : Nat) (zs : List (Nat → Nat)) (hs : List Nat) (fa fs : Nat → Nat) : Nat → Nat → Nat := fun k i => match k with
  | 0 => a
  | 1 => qn
  | 2 => qh
  | 3 => ql
  | 4 => zf zs i 0
  | 5 => hs.getD i 0
  | 6 => zf zs i 12
  | 7 => zf zs i 1
  | 8 => zf zs (i / 2) (2 + 4 * (i % 2))
  | 9 => zf zs i 10
  | 10 => zf zs i 11
  | 11 => zf zs i 13
  | 12 => zf zs (i / 2) (3 + 4 * (i % 2))
  | 13 => zf zs (i / 2) (4 + 4 * (i % 2))
  | 14 => zf zs (i / 2) (5 + 4 * (i % 2))
  | 15 => if i = 0 then qa else qs
  | 16 => (if i = 0 then fa else fs) 0
  | 17 => (if i = 0 then fa else fs) 1
  | 18 => (if i = 0 then fa else fs) 2
  | 19 => (if i = 0 then fa else fs) 3
  | _ => (if i = 0 then fa else fs) 4
def caC (k : Nat → ClassId) : Nat → ClassId := fun j => match j with
  | 1 => k 3
  | 2 => k 5
  | 3 => k 4
  | 7 => k 0
  | _ => k 1
def uC0 : UU := (fun k i j => match k with
  | 4 => (match j with
    | 6 => b0 i
    | 7 => b0 i
    | _ => 0)
  | _ => 0, fun _ _ _ => 0, fun _ _ _ => -1, fun j => if j = 6 then 1 else 0)
def posC (n c : Nat) : Nat → Nat → Nat := fun k i => match k with
  | 0 => 0
  | 1 => 1
  | 2 => 3 + 14 * n + 0
  | 3 => 2
  | 4 => 3 + (14 * i + 0)
  | 5 => 3 + 14 * n + (1 + i)
  | 6 => 3 + (14 * i + 12)
  | 7 => 3 + (14 * i + 1)
  | 8 => 3 + (14 * (i / 2) + (2 + 4 * (i % 2)))
  | 9 => 3 + (14 * i + 10)
  | 10 => 3 + (14 * i + 11)
  | 11 => 3 + (14 * i + 13)
  | 12 => 3 + (14 * (i / 2) + (3 + 4 * (i % 2)))
  | 13 => 3 + (14 * (i / 2) + (4 + 4 * (i % 2)))
  | 14 => 3 + (14 * (i / 2) + (5 + 4 * (i % 2)))
  | 15 => 3 + 14 * n + (1 + c + (6 * i + 0))
  | 16 => 3 + 14 * n + (1 + c + (6 * i + 1))
  | 17 => 3 + 14 * n + (1 + c + (6 * i + 2))
  | 18 => 3 + 14 * n + (1 + c + (6 * i + 3))
  | 19 => 3 + 14 * n + (1 + c + (6 * i + 4))
  | _ => 3 + 14 * n + (1 + c + (6 * i + 5))
theorem bks_at (k : Nat → ClassId) (n j : Nat) (hj : j < 14) : ∀ zs i0 i, i < zs.length → (bks k n i0 zs)[14 * i + j]? = (blk k n (zs.getD i (fun _ => 0)) (i0 + i))[j]? := by
  intro zs
  induction zs with
  | nil => intro i0 i h; exact absurd h (Nat.not_lt_zero _)
  | cons z zs ih =>
    intro i0 i h
    show (blk k n z i0 ++ bks k n (i0 + 1) zs)[14 * i + j]? = _
    have hl : (blk k n z i0).length = 14 := rfl
    cases i with
    | zero =>
      rw [List.getElem?_append_left (by rw [hl]; omega)]
      show _ = (blk k n z (i0 + 0))[j]?
      rw [show 14 * 0 + j = j by omega]
      rfl
    | succ i =>
      have e := ap_get (blk k n z i0) (bks k n (i0 + 1) zs) (14 * i + j)
      rw [hl] at e
      rw [show 14 * (i + 1) + j = 14 + (14 * i + j) by omega, e, ih (i0 + 1) i (by have : i + 1 < zs.length + 1 := h; omega)]
      show _ = (blk k n (zs.getD i _) (i0 + (i + 1)))[j]?
      rw [show i0 + (i + 1) = i0 + 1 + i by omega]
section PC
variable (k : Nat → ClassId) (a n s c qn ql qh qa qs : Nat) (zs : List (Nat → Nat)) (hs : List Nat) (fa fs : Nat → Nat)
theorem smV_nd (hz : zs.length = n) {i j : Nat} (hi : i < n) (hj : j < 14) : (smV k a n s c qn ql qh qa qs zs hs fa fs)[3 + (14 * i + j)]? = (blk k n (zs.getD i (fun _ => 0)) i)[j]? := by
  have hb := bks_len k n zs 0
  rw [show 3 + (14 * i + j) = (14 * i + j) + 1 + 1 + 1 by omega, List.getElem?_cons_succ, List.getElem?_cons_succ, List.getElem?_cons_succ, List.getElem?_append_left (by rw [List.length_append, hb]; omega), List.getElem?_append_left (by rw [hb]; omega), bks_at k n j hj zs 0 i (by omega), Nat.zero_add]
theorem smV_t (hz : zs.length = n) (t : Nat) : (smV k a n s c qn ql qh qa qs zs hs fa fs)[3 + 14 * n + t]? = (((qh, oA (k 5) c (chF hs)) :: chL hs) ++ (((qa, plE fa s c) :: plL k fa n s c) ++ ((qs, plE fs s c) :: plL k fs n s c)))[t]? := by
  have hb := bks_len k n zs 0
  have e := ap_get (bks k n 0 zs) (((qh, oA (k 5) c (chF hs)) :: chL hs) ++ (((qa, plE fa s c) :: plL k fa n s c) ++ ((qs, plE fs s c) :: plL k fs n s c))) t
  rw [hb, hz] at e
  rw [show 3 + 14 * n + t = (14 * n + t) + 1 + 1 + 1 by omega, List.getElem?_cons_succ, List.getElem?_cons_succ, List.getElem?_cons_succ, List.append_assoc, e]
theorem smV_h (hz : zs.length = n) (hh : hs.length = c) {i : Nat} (hi : i < c) : (smV k a n s c qn ql qh qa qs zs hs fa fs)[3 + 14 * n + (1 + i)]? = some (hs.getD i 0, chE) := by
  have hl := chL_len hs
  rw [smV_t k a n s c qn ql qh qa qs zs hs fa fs hz, List.getElem?_append_left (by show _ < (chL hs).length + 1; omega), show 1 + i = i + 1 by omega, List.getElem?_cons_succ]
  unfold chL
  rw [List.getElem?_map, List.getElem?_eq_getElem (by omega)]
  show some (hs[i], chE) = _
  rw [List.getD, List.getElem?_eq_getElem (by omega)]
  rfl
theorem smV_p (hz : zs.length = n) (hh : hs.length = c) (t : Nat) : (smV k a n s c qn ql qh qa qs zs hs fa fs)[3 + 14 * n + (1 + c + t)]? = (((qa, plE fa s c) :: plL k fa n s c) ++ ((qs, plE fs s c) :: plL k fs n s c))[t]? := by
  have hl := chL_len hs
  have e := ap_get ((qh, oA (k 5) c (chF hs)) :: chL hs) (((qa, plE fa s c) :: plL k fa n s c) ++ ((qs, plE fs s c) :: plL k fs n s c)) t
  rw [smV_t k a n s c qn ql qh qa qs zs hs fa fs hz, ← e]
  congr 1
  show 1 + c + t = (chL hs).length + 1 + t
  omega
end PC
abbrev yC (D : va_G) (k : Nat → ClassId) (B : Nat) (a n s c qn ql qh qa qs : Nat) (zs : List (Nat → Nat)) (hs : List Nat) (fa fs : Nat → Nat) : YY := (D, (gG D k B).1.2, adC a qn ql qh qa qs zs hs fa fs, caC k, (smV k a n s c qn ql qh qa qs zs hs fa fs).map (·.1))
theorem bdC_k {n c k i : Nat} (h : i < bdC n c k) : k ≤ 20 := by
  unfold bdC at h
  split at h
  all_goals first | omega | skip
set_option maxRecDepth 100000 in
set_option maxHeartbeats 4000000 in
theorem picC_at (D : va_G) (k : Nat → ClassId) (B : Nat) (a n s c qn ql qh qa qs : Nat) (zs : List (Nat → Nat)) (hs : List Nat) (fa fs : Nat → Nat) (hz : zs.length = n) (hh : hs.length = c) (H : Heap) : ∀ j i, i < bdC n c j → ∃ e, (smV k a n s c qn ql qh qa qs zs hs fa fs)[posC n c j i]? = some (adC a qn ql qh qa qs zs hs fa fs j i, e) ∧ ∀ x, va_at D vCl (x, e) H → va_at D vCl (x, pv_c (vC (yC D k B a n s c qn ql qh qa qs zs hs fa fs) n s c) uC0 j i) H := by
  intro j_ i hi
  have hk := bdC_k hi
  rcases (by omega : j_ = 0 ∨ j_ = 1 ∨ j_ = 2 ∨ j_ = 3 ∨ j_ = 4 ∨ j_ = 5 ∨ j_ = 6 ∨ j_ = 7 ∨ j_ = 8 ∨ j_ = 9 ∨ j_ = 10 ∨ j_ = 11 ∨ j_ = 12 ∨ j_ = 13 ∨ j_ = 14 ∨ j_ = 15 ∨ j_ = 16 ∨ j_ = 17 ∨ j_ = 18 ∨ j_ = 19 ∨ j_ = 20) with rfl | rfl | rfl | rfl | rfl | rfl | rfl | rfl | rfl | rfl | rfl | rfl | rfl | rfl | rfl | rfl | rfl | rfl | rfl | rfl | rfl
  · have e0 : i = 0 := by have : i < 1 := hi; omega
    subst e0
    exact ⟨_, rfl, fun _ h => h⟩
  · have e0 : i = 0 := by have : i < 1 := hi; omega
    subst e0
    refine ⟨_, rfl, fun _ h => ?_⟩
    refine va_at_q (g := fun j => some (zf zs j 0)) (fun j hj => ?_) h
    have hj : j < n := hj
    unfold arF zf
    rw [List.getD, List.getElem?_eq_getElem (by omega)]
    rfl
  · have e0 : i = 0 := by have : i < 1 := hi; omega
    subst e0
    refine ⟨_, smV_t k a n s c qn ql qh qa qs zs hs fa fs hz 0, fun _ h => ?_⟩
    refine va_at_q (g := fun j => some (hs.getD j 0)) (fun j hj => ?_) h
    have hj : j < c := hj
    unfold chF
    rw [List.getD, List.getElem?_eq_getElem (by omega)]
    rfl
  · have e0 : i = 0 := by have : i < 1 := hi; omega
    subst e0
    refine ⟨_, rfl, fun _ h => ?_⟩
    refine va_at_q (g := fun j => some (zf zs j 12)) (fun j hj => ?_) h
    have hj : j < n := hj
    unfold arF zf
    rw [List.getD, List.getElem?_eq_getElem (by omega)]
    rfl
  · have hi : i < n := hi
    refine ⟨_, smV_nd k a n s c qn ql qh qa qs zs hs fa fs hz hi (by omega), fun _ h => ?_⟩
    refine va_at_s ?_ h
    show (.inr (3, [.int (nI i), .ref (zf zs i 1), .ref (zf zs i 2), .ref (zf zs i 6), .ref (zf zs i 10), .ref (zf zs i 11), .int (nI (b0 i)), .int (nI (b0 i)), .int 0, .int 0, .int 0, .int 0, .int 0, .int 0]) : va_E) = .inr (3, [.int (nI i), .ref (zf zs i 1), .ref (zf zs (2 * i / 2) (2 + 4 * (2 * i % 2))), .ref (zf zs ((2 * i + 1) / 2) (2 + 4 * ((2 * i + 1) % 2))), .ref (zf zs i 10), .ref (zf zs i 11), .int (nI (b0 i)), .int (nI (b0 i)), .int 0, .int 0, .int 0, .int 0, .int 0, .int 0])
    rw [show 2 * i / 2 = i by omega, show 2 * i % 2 = 0 by omega, show (2 * i + 1) / 2 = i by omega, show (2 * i + 1) % 2 = 1 by omega]
  · have hi : i < c := hi
    exact ⟨_, smV_h k a n s c qn ql qh qa qs zs hs fa fs hz hh hi, fun _ h => h⟩
  · have hi : i < n := hi
    exact ⟨_, smV_nd k a n s c qn ql qh qa qs zs hs fa fs hz hi (by omega), fun _ h => h⟩
  · have hi : i < n := hi
    exact ⟨_, smV_nd k a n s c qn ql qh qa qs zs hs fa fs hz hi (by omega), fun _ h => h⟩
  · have hi : i < 2 * n := hi
    refine ⟨.inr (1, [.ref (zf zs (i / 2) (3 + 4 * (i % 2))), .ref (zf zs (i / 2) (4 + 4 * (i % 2))), .ref (zf zs (i / 2) (5 + 4 * (i % 2))), .int 0]), (smV_nd k a n s c qn ql qh qa qs zs hs fa fs hz (i := i / 2) (j := 2 + 4 * (i % 2)) (by omega) (by omega)).trans ?_, fun _ h => h⟩
    show _ = some (zf zs (i / 2) (2 + 4 * (i % 2)), _)
    rcases (by omega : i % 2 = 0 ∨ i % 2 = 1) with hb | hb
    · rw [hb]; rfl
    · rw [hb]; rfl
  · have hi : i < n := hi
    exact ⟨_, smV_nd k a n s c qn ql qh qa qs zs hs fa fs hz hi (by omega), fun _ h => h⟩
  · have hi : i < n := hi
    exact ⟨_, smV_nd k a n s c qn ql qh qa qs zs hs fa fs hz hi (by omega), fun _ h => h⟩
  · have hi : i < n := hi
    exact ⟨_, smV_nd k a n s c qn ql qh qa qs zs hs fa fs hz hi (by omega), fun _ h => h⟩
  · have hi : i < 2 * n := hi
    refine ⟨aI k 4, (smV_nd k a n s c qn ql qh qa qs zs hs fa fs hz (i := i / 2) (j := 3 + 4 * (i % 2)) (by omega) (by omega)).trans ?_, fun _ h => h⟩
    show _ = some (zf zs (i / 2) (3 + 4 * (i % 2)), _)
    rcases (by omega : i % 2 = 0 ∨ i % 2 = 1) with hb | hb
    · rw [hb]; rfl
    · rw [hb]; rfl
  · have hi : i < 2 * n := hi
    refine ⟨aI k 4, (smV_nd k a n s c qn ql qh qa qs zs hs fa fs hz (i := i / 2) (j := 4 + 4 * (i % 2)) (by omega) (by omega)).trans ?_, fun _ h => h⟩
    show _ = some (zf zs (i / 2) (4 + 4 * (i % 2)), _)
    rcases (by omega : i % 2 = 0 ∨ i % 2 = 1) with hb | hb
    · rw [hb]; rfl
    · rw [hb]; rfl
  · have hi : i < 2 * n := hi
    refine ⟨aI k 4, (smV_nd k a n s c qn ql qh qa qs zs hs fa fs hz (i := i / 2) (j := 5 + 4 * (i % 2)) (by omega) (by omega)).trans ?_, fun _ h => h⟩
    show _ = some (zf zs (i / 2) (5 + 4 * (i % 2)), _)
    rcases (by omega : i % 2 = 0 ∨ i % 2 = 1) with hb | hb
    · rw [hb]; rfl
    · rw [hb]; rfl
  · have hi : i < 2 := hi
    rcases (by omega : i = 0 ∨ i = 1) with rfl | rfl
    · exact ⟨_, smV_p k a n s c qn ql qh qa qs zs hs fa fs hz hh 0, fun _ h => h⟩
    · exact ⟨_, smV_p k a n s c qn ql qh qa qs zs hs fa fs hz hh 6, fun _ h => h⟩
  · have hi : i < 2 := hi
    rcases (by omega : i = 0 ∨ i = 1) with rfl | rfl
    · exact ⟨_, smV_p k a n s c qn ql qh qa qs zs hs fa fs hz hh 1, fun _ h => h⟩
    · exact ⟨_, smV_p k a n s c qn ql qh qa qs zs hs fa fs hz hh 7, fun _ h => h⟩
  · have hi : i < 2 := hi
    rcases (by omega : i = 0 ∨ i = 1) with rfl | rfl
    · exact ⟨_, smV_p k a n s c qn ql qh qa qs zs hs fa fs hz hh 2, fun _ h => h⟩
    · exact ⟨_, smV_p k a n s c qn ql qh qa qs zs hs fa fs hz hh 8, fun _ h => h⟩
  · have hi : i < 2 := hi
    rcases (by omega : i = 0 ∨ i = 1) with rfl | rfl
    · exact ⟨_, smV_p k a n s c qn ql qh qa qs zs hs fa fs hz hh 3, fun _ h => h⟩
    · exact ⟨_, smV_p k a n s c qn ql qh qa qs zs hs fa fs hz hh 9, fun _ h => h⟩
  · have hi : i < 2 := hi
    rcases (by omega : i = 0 ∨ i = 1) with rfl | rfl
    · exact ⟨_, smV_p k a n s c qn ql qh qa qs zs hs fa fs hz hh 4, fun _ h => h⟩
    · exact ⟨_, smV_p k a n s c qn ql qh qa qs zs hs fa fs hz hh 10, fun _ h => h⟩
  · have hi : i < 2 := hi
    rcases (by omega : i = 0 ∨ i = 1) with rfl | rfl
    · exact ⟨_, smV_p k a n s c qn ql qh qa qs zs hs fa fs hz hh 5, fun _ h => h⟩
    · exact ⟨_, smV_p k a n s c qn ql qh qa qs zs hs fa fs hz hh 11, fun _ h => h⟩
set_option maxRecDepth 100000 in
set_option maxHeartbeats 40000000 in
theorem posC_inj (n c : Nat) : ∀ j i j2 i2, i < bdC n c j → i2 < bdC n c j2 → posC n c j i = posC n c j2 i2 → j2 = j ∧ i2 = i := by
  intro j_ i j2 i2 h1 h2 h
  have hk := bdC_k h1
  have hk2 := bdC_k h2
  rcases (by omega : j_ = 0 ∨ j_ = 1 ∨ j_ = 2 ∨ j_ = 3 ∨ j_ = 4 ∨ j_ = 5 ∨ j_ = 6 ∨ j_ = 7 ∨ j_ = 8 ∨ j_ = 9 ∨ j_ = 10 ∨ j_ = 11 ∨ j_ = 12 ∨ j_ = 13 ∨ j_ = 14 ∨ j_ = 15 ∨ j_ = 16 ∨ j_ = 17 ∨ j_ = 18 ∨ j_ = 19 ∨ j_ = 20) with rfl | rfl | rfl | rfl | rfl | rfl | rfl | rfl | rfl | rfl | rfl | rfl | rfl | rfl | rfl | rfl | rfl | rfl | rfl | rfl | rfl <;> rcases (by omega : j2 = 0 ∨ j2 = 1 ∨ j2 = 2 ∨ j2 = 3 ∨ j2 = 4 ∨ j2 = 5 ∨ j2 = 6 ∨ j2 = 7 ∨ j2 = 8 ∨ j2 = 9 ∨ j2 = 10 ∨ j2 = 11 ∨ j2 = 12 ∨ j2 = 13 ∨ j2 = 14 ∨ j2 = 15 ∨ j2 = 16 ∨ j2 = 17 ∨ j2 = 18 ∨ j2 = 19 ∨ j2 = 20) with rfl | rfl | rfl | rfl | rfl | rfl | rfl | rfl | rfl | rfl | rfl | rfl | rfl | rfl | rfl | rfl | rfl | rfl | rfl | rfl | rfl <;> simp only [posC, bdC] at h h1 h2 <;> omega
theorem vC_tys (D : va_G) (k : Nat → ClassId) (B n s c : Nat) : ∀ j c2 ty k2, shC s c j = .inr (c2, ty, k2) → ∃ t : Nat, (gG D k B).1.2[t]? = some (caC k j, ty) := by
  intro j c2 ty k2 h
  unfold shC at h
  split at h
  all_goals first | (cases h; done) | (cases h; exact ⟨0, rfl⟩) | (cases h; exact ⟨1, rfl⟩) | (cases h; exact ⟨3, rfl⟩) | (cases h; exact ⟨4, rfl⟩) | (cases h; exact ⟨5, rfl⟩) | skip
  obtain ⟨rfl, rfl, rfl⟩ : c2 = 0 ∧ ty = .int ∧ k2 = 0 := by cases h; exact ⟨rfl, rfl, rfl⟩
  refine ⟨1, ?_⟩
  unfold caC
  split
  all_goals first | (exfalso; simp_all; done) | rfl
theorem lnC_lt {n s c : Nat} (hn : n ≤ 6) (hc : c ≤ 4) (hsc : s * c ≤ 96) (j : Nat) : lnC n s c j < 2 ^ 31 := by unfold lnC; split <;> omega
theorem picC_ok (D : va_G) (k : Nat → ClassId) (B : Nat) (a n s c qn ql qh qa qs : Nat) (zs : List (Nat → Nat)) (hs : List Nat) (fa fs : Nat → Nat) (hz : zs.length = n) (hh : hs.length = c) (hn : n ≤ 6) (hc : c ≤ 4) (hsc : s * c ≤ 96) {A : Nat → Prop} (hD : va_D A (smV k a n s c qn ql qh qa qs zs hs fa fs)) : pv_ok (vC (yC D k B a n s c qn ql qh qa qs zs hs fa fs) n s c) :=
  pic_ok (V := vC (yC D k B a n s c qn ql qh qa qs zs hs fa fs) n s c) (posC n c) hD rfl (fun j i h => by obtain ⟨e, h1, -⟩ := picC_at D k B a n s c qn ql qh qa qs zs hs fa fs hz hh #[] j i h; exact ⟨e, h1⟩) (posC_inj n c) (vC_tys D k B n s c) (lnC_lt hn hc hsc)
theorem picC (D : va_G) (k : Nat → ClassId) (B : Nat) (a n s c qn ql qh qa qs : Nat) (zs : List (Nat → Nat)) (hs : List Nat) (fa fs : Nat → Nat) (hz : zs.length = n) (hh : hs.length = c) {A : Nat → Prop} {H : Heap} (hP : va_P D vCl (smV k a n s c qn ql qh qa qs zs hs fa fs) H) (hD : va_D A (smV k a n s c qn ql qh qa qs zs hs fa fs)) : pv_H (vC (yC D k B a n s c qn ql qh qa qs zs hs fa fs) n s c) uC0 H :=
  pic (V := vC (yC D k B a n s c qn ql qh qa qs zs hs fa fs) n s c) (posC n c) hP hD rfl (picC_at D k B a n s c qn ql qh qa qs zs hs fa fs hz hh H) (posC_inj n c)
