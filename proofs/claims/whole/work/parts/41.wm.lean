/-! The model: bounds that every call keeps, and what run's steps do (pure rows) -/
theorem wm_un {n : Nat} {u : UU} (h : wm n u) {k j v : Nat} (hv : (k = 1 → v ≤ 1) ∧ (k = 2 → v ≤ 1) ∧ (k = 3 → v ≤ 1) ∧ (k = 10 → v < 400) ∧ (k = 14 → v ≤ 4) ∧ (k = 15 → v < n) ∧ (k = 18 → v ≤ 3) ∧ (k = 19 → v ≤ 5) ∧ (k = 23 → v ≤ 3) ∧ (k = 0 → j = 12 → v ≤ 1) ∧ (k = 0 → j = 3 → v < 2 ^ 30)) : wm n (un u k 0 j v) := by
  obtain ⟨h1, h2, h3, h4, h5, h6, h7, h8, h9, h10, h11⟩ := h
  obtain ⟨v1, v2, v3, v4, v5, v6, v7, v8, v9, v10, v11⟩ := hv
  refine ⟨fun a => ?_, fun a => ?_, fun a => ?_, fun a => ?_, fun a => ?_, fun a => ?_, fun a => ?_, fun a => ?_, fun a => ?_, ?_, ?_⟩
  all_goals (rw [un_1]; split)
  · rename_i q; exact v1 q.1.symm
  · exact h1 a
  · rename_i q; exact v2 q.1.symm
  · exact h2 a
  · rename_i q; exact v3 q.1.symm
  · exact h3 a
  · rename_i q; exact v4 q.1.symm
  · exact h4 a
  · rename_i q; exact v5 q.1.symm
  · exact h5 a
  · rename_i q; exact v6 q.1.symm
  · exact h6 a
  · rename_i q; exact v7 q.1.symm
  · exact h7 a
  · rename_i q; exact v8 q.1.symm
  · exact h8 a
  · rename_i q; exact v9 q.1.symm
  · exact h9 a
  · rename_i q; exact v10 q.1.symm q.2.2.symm
  · exact h10
  · rename_i q; exact v11 q.1.symm q.2.2.symm
  · exact h11
theorem wm_ui {n : Nat} {u : UU} (h : wm n u) {k i j : Nat} {v : Int32} : wm n (ui u k i j v) := h
/-- the plan stays, and the time -/
def sm (u w : UU) : Prop := (∀ j, w.1 10 0 j = u.1 10 0 j) ∧ (∀ j, w.2.1 9 0 j = u.2.1 9 0 j) ∧ w.1 0 0 12 = u.1 0 0 12 ∧ w.1 0 0 3 = u.1 0 0 3
theorem sm_rf (u : UU) : sm u u := ⟨fun _ => rfl, fun _ => rfl, rfl, rfl⟩
theorem sm_tr {u v w : UU} (h : sm u v) (g : sm v w) : sm u w := ⟨fun j => (g.1 j).trans (h.1 j), fun j => (g.2.1 j).trans (h.2.1 j), g.2.2.1.trans h.2.2.1, g.2.2.2.trans h.2.2.2⟩
theorem sm_un (u : UU) {k : Nat} (hk : k ≠ 0 ∧ k ≠ 10) (i j v : Nat) : sm u (un u k i j v) := ⟨fun a => by rw [un_1, if_neg (by omega)], fun _ => rfl, by rw [un_1, if_neg (by omega)], by rw [un_1, if_neg (by omega)]⟩
theorem sm_ui (u : UU) {k : Nat} (hk : k ≠ 9) (i j : Nat) (v : Int32) : sm u (ui u k i j v) := ⟨fun _ => rfl, fun a => by rw [ui_2, if_neg (by omega)], rfl, rfl⟩
def em (n : Nat) (u w : UU) : Prop := (wm n u → wm n w) ∧ sm u w
theorem em_rf (n : Nat) (u : UU) : em n u u := ⟨id, sm_rf u⟩
theorem em_tr {n : Nat} {u v w : UU} (h : em n u v) (g : em n v w) : em n u w := ⟨fun q => g.1 (h.1 q), sm_tr h.2 g.2⟩
theorem em_ui (n : Nat) (u : UU) {k : Nat} (hk : k ≠ 9) (i j : Nat) (v : Int32) : em n u (ui u k i j v) := ⟨fun h => h, sm_ui u hk i j v⟩
theorem em_un {n : Nat} {u : UU} {k j v : Nat} (hk : k ≠ 0 ∧ k ≠ 10) (hv : (k = 1 → v ≤ 1) ∧ (k = 2 → v ≤ 1) ∧ (k = 3 → v ≤ 1) ∧ (k = 10 → v < 400) ∧ (k = 14 → v ≤ 4) ∧ (k = 15 → v < n) ∧ (k = 18 → v ≤ 3) ∧ (k = 19 → v ≤ 5) ∧ (k = 23 → v ≤ 3) ∧ (k = 0 → j = 12 → v ≤ 1) ∧ (k = 0 → j = 3 → v < 2 ^ 30)) : em n u (un u k 0 j v) := ⟨fun h => wm_un h hv, sm_un u hk 0 j v⟩
theorem em_fo {n : Nat} {f : Nat → UU → UU} (h : ∀ k w, wm n w → em n w (f k w)) : ∀ m u, wm n u → em n u (fo f u m) := by
  intro m u hu
  induction m with
  | zero => exact em_rf n u
  | succ m ih => exact em_tr ih (h m _ (ih.1 hu))
theorem em_add {n : Nat} {u : UU} {r e : Nat} {x v : Int32} (he : e < n) (hm : u.1 14 0 r < 4) : em n u (km_add u r e x v) := by
  unfold km_add
  exact em_tr (em_tr (em_tr (em_un (by omega) (by omega)) (em_ui n _ (by omega) _ _ _)) (em_ui n _ (by omega) _ _ _)) (em_un (by omega) (by omega))
theorem em_leave {n : Nat} {u : UU} {r : Nat} (hu : wm n u) : em n u (km_leave u r) := by
  unfold km_leave
  have h1 : em n u (un u 14 0 r (u.1 14 0 r - 1)) := em_un (by omega) (by have := hu.2.2.2.2.1 r; omega)
  refine em_tr h1 (em_fo (fun k w hw => ?_) _ _ (h1.1 hu))
  unfold km_lv1
  exact em_tr (em_tr (em_un (by omega) (by have := hw.2.2.2.2.2.1 (4 * r + k + 1); omega)) (em_ui n _ (by omega) _ _ _)) (em_ui n _ (by omega) _ _ _)
def km_ca1 (u : UU) (a : Nat) (v : Int32) : UU := ui (ui (ui u 22 0 (3 * a + 2) (u.2.1 22 0 (3 * a + 1))) 22 0 (3 * a + 1) (u.2.1 22 0 (3 * a))) 22 0 (3 * a) v
def km_sum (u : UU) (a : Nat) (v : Int32) : Int32 := kwin (u.2.1 27 0 a + (u.2.1 24 0 a - v)) (nI 2000)
def km_cmd (u : UU) (a : Nat) (v : Int32) : Int32 := kwin ((u.2.1 25 0 a * (u.2.1 24 0 a - v) + u.2.1 26 0 a * km_sum u a v) >>> (nI 4 &&& 31)) (nI 500)
def km_ca2 (u : UU) (a z : Nat) (v : Int32) : UU := ui (un (km_ca1 u a v) 23 0 a z) 27 0 a (km_sum u a v)
def km_cache (u : UU) (a : Nat) (x v : Int32) : UU := if u.1 14 0 6 < 4 then km_add (km_ca2 u a (if u.1 23 0 a < 3 then u.1 23 0 a + 1 else 3) v) 6 a x (km_cmd u a v) else km_ca2 u a (if u.1 23 0 a < 3 then u.1 23 0 a + 1 else 3) v
theorem em_ca2 {n : Nat} {u : UU} {a z : Nat} {v : Int32} (hz : z ≤ 3) : em n u (km_ca2 u a z v) := by
  unfold km_ca2 km_ca1
  exact em_tr (em_tr (em_tr (em_tr (em_ui n u (by omega) _ _ _) (em_ui n _ (by omega) _ _ _)) (em_ui n _ (by omega) _ _ _)) (em_un (by omega) (by omega))) (em_ui n _ (by omega) _ _ _)
theorem km_ca2_m {u : UU} {a z : Nat} {v : Int32} (j : Nat) : (km_ca2 u a z v).1 14 0 j = u.1 14 0 j := by
  unfold km_ca2 km_ca1
  rw [ui_1, un_1, if_neg (by omega)]
  rfl
theorem em_cache {n : Nat} {u : UU} {a : Nat} {x v : Int32} (ha : a < n) : em n u (km_cache u a x v) := by
  unfold km_cache
  have hz : (if u.1 23 0 a < 3 then u.1 23 0 a + 1 else 3) ≤ 3 := by split <;> omega
  split
  · rename_i h
    exact em_tr (em_ca2 hz) (em_add ha (by rw [km_ca2_m]; exact h))
  · exact em_ca2 hz
def km_hears (u : UU) (a b ch : Nat) : Nat := if u.1 3 0 b = 0 then 0 else if u.1 1 0 (6 * a + b) = 0 then 0 else if kclm (u.2.1 4 0 a) (u.2.1 4 0 b) = 0 then 0 else if kbitm (u.2.2.1 6 0 ch) (u.1 0 0 3) = 0 then 0 else 1
theorem km_hears_01 (u : UU) (a b ch : Nat) : km_hears u a b ch = 0 ∨ km_hears u a b ch = 1 := by
  unfold km_hears
  repeat' split
  all_goals simp
/-- taking an up frame that stands at place q -/
def km_setUp (u : UU) (q b : Nat) : Nat × UU := if u.2.1 20 0 (6 * b + u.1 15 0 q) < u.2.1 16 0 q then
    if b = 0 then (1, km_cache (ui u 20 0 (6 * b + u.1 15 0 q) (u.2.1 16 0 q)) (u.1 15 0 q) (u.2.1 16 0 q) (u.2.1 17 0 q))
    else if u.1 14 0 b < 4 then (1, km_add (ui u 20 0 (6 * b + u.1 15 0 q) (u.2.1 16 0 q)) b (u.1 15 0 q) (u.2.1 16 0 q) (u.2.1 17 0 q)) else (0, u)
  else (1, u)
theorem em_setUp {n : Nat} {u : UU} {q b : Nat} (hu : wm n u) : em n u (km_setUp u q b).2 := by
  have he := hu.2.2.2.2.2.1 q
  unfold km_setUp
  repeat' split
  · exact em_tr (em_ui n u (by omega) _ _ _) (em_cache he)
  · rename_i h; exact em_tr (em_ui n u (by omega) _ _ _) (em_add he h)
  · exact em_rf n u
  · exact em_rf n u
theorem km_add_ge {u : UU} {r e : Nat} {x v : Int32} (j : Nat) : u.1 14 0 j ≤ (km_add u r e x v).1 14 0 j := by
  unfold km_add
  rw [un_1]
  split
  · rename_i h; rw [h.2.2]; omega
  · rw [ui_1, ui_1, un_1, if_neg (by omega)]
    exact Nat.le_refl _
theorem km_cache_ge {u : UU} {a : Nat} {x v : Int32} (j : Nat) : u.1 14 0 j ≤ (km_cache u a x v).1 14 0 j := by
  unfold km_cache
  generalize (if u.1 23 0 a < 3 then u.1 23 0 a + 1 else 3) = z
  split
  · refine Nat.le_trans ?_ (km_add_ge j); rw [km_ca2_m]; exact Nat.le_refl _
  · rw [km_ca2_m]; exact Nat.le_refl _
theorem km_setUp_ge {u : UU} {q b : Nat} (j : Nat) : u.1 14 0 j ≤ (km_setUp u q b).2.1 14 0 j := by
  unfold km_setUp
  repeat' split
  · exact km_cache_ge (u := ui u 20 0 (6 * b + u.1 15 0 q) (u.2.1 16 0 q)) j
  · exact km_add_ge (u := ui u 20 0 (6 * b + u.1 15 0 q) (u.2.1 16 0 q)) j
  · exact Nat.le_refl _
  · exact Nat.le_refl _
theorem ui_c {q z : UU} {k i j : Nat} {v x : Int32} (h : q.2 = z.2) (hv : v = x) : (ui q k i j v).2 = (ui z k i j x).2 := by
  subst hv
  show ((fun a b c => if a = k ∧ b = i ∧ c = j then v else q.2.1 a b c), q.2.2) = ((fun a b c => if a = k ∧ b = i ∧ c = j then v else z.2.1 a b c), z.2.2)
  rw [h]
def km_failUp (w : UU) (a : Nat) : UU := if w.1 18 0 a + 1 = 4 then un (un (un w 18 0 a (w.1 18 0 a + 1)) 18 0 a 0) 3 0 a 0 else un w 18 0 a (w.1 18 0 a + 1)
theorem un_un (u : UU) (k i j v z : Nat) : un (un u k i j v) k i j z = un u k i j z := by
  unfold un
  congr 1
  funext a b c
  dsimp only
  split
  · rfl
  · rfl
theorem em_failUp {n : Nat} {u : UU} {a : Nat} : em n u (km_failUp u a) := by
  unfold km_failUp
  split
  · rw [un_un]
    exact em_tr (em_un (by omega) (by omega)) (em_un (by omega) (by omega))
  · refine ⟨fun q => wm_un q (by have := q.2.2.2.2.2.2.1 a; omega), sm_un u (by omega) _ _ _⟩
def km_up3 (w : UU) (a b : Nat) : UU := if (km_leave w a).2.1 9 0 (2 * a) = nI b then ui (un (km_leave w a) 18 0 a 0) 4 0 a ((km_leave w a).2.1 4 0 b) else ui (un (km_leave w a) 18 0 a 0) 4 0 a ((km_leave w a).2.1 4 0 a)
def km_up2 (q : Nat) (w : UU) (a b ch : Nat) : UU := if q = 0 then km_failUp w a else if kbitm (w.2.2.1 7 0 ch) (w.1 0 0 3) = 0 then km_failUp w a else km_up3 w a b
def km_up1 (u : UU) (a b ch : Nat) : UU := if km_hears u a b ch = 0 then km_up2 0 u a b ch else km_up2 (km_setUp u (4 * a) b).1 (km_setUp u (4 * a) b).2 a b ch
def km_up (u : UU) (a b ch : Nat) : UU := if u.1 3 0 a = 0 then u else if u.1 14 0 a = 0 then u else km_up1 (ui u 0 0 4 (u.2.1 0 0 4 + nI 1)) a b ch
theorem em_up2 {n q : Nat} {u : UU} {a b ch : Nat} (hu : wm n u) : em n u (km_up2 q u a b ch) := by
  unfold km_up2 km_up3
  repeat' split
  · exact em_failUp
  · exact em_failUp
  · exact em_tr (em_leave hu) (em_tr (em_un (by omega) (by omega)) (em_ui n _ (by omega) _ _ _))
  · exact em_tr (em_leave hu) (em_tr (em_un (by omega) (by omega)) (em_ui n _ (by omega) _ _ _))
theorem em_up {n : Nat} {u : UU} {a b ch : Nat} (hu : wm n u) : em n u (km_up u a b ch) := by
  unfold km_up km_up1
  repeat' split
  · exact em_rf n u
  · exact em_rf n u
  · exact em_tr (em_ui n _ (by omega) _ _ _) (em_up2 hu)
  · have h1 : wm n (ui u 0 0 4 (u.2.1 0 0 4 + nI 1)) := hu
    exact em_tr (em_ui n _ (by omega) _ _ _) (em_tr (em_setUp h1) (em_up2 ((em_setUp h1).1 h1)))
def km_setDn (u : UU) (q b : Nat) : Nat × UU := if u.2.1 20 0 (36 + 6 * b + u.1 15 0 q) < u.2.1 16 0 q then
    if u.1 15 0 q = b then (1, ui (ui u 20 0 (36 + 6 * b + u.1 15 0 q) (u.2.1 16 0 q)) 28 0 b (u.2.1 17 0 q))
    else if u.1 14 0 (6 + b) < 4 then (1, km_add (ui u 20 0 (36 + 6 * b + u.1 15 0 q) (u.2.1 16 0 q)) (6 + b) (u.1 15 0 q) (u.2.1 16 0 q) (u.2.1 17 0 q)) else (0, u)
  else (1, u)
theorem em_setDn {n : Nat} {u : UU} {q b : Nat} (hu : wm n u) : em n u (km_setDn u q b).2 := by
  have he := hu.2.2.2.2.2.1 q
  unfold km_setDn
  repeat' split
  · exact em_tr (em_ui n u (by omega) _ _ _) (em_ui n _ (by omega) _ _ _)
  · rename_i h; exact em_tr (em_ui n u (by omega) _ _ _) (em_add he h)
  · exact em_rf n u
  · exact em_rf n u
theorem km_setDn_ge {u : UU} {q b : Nat} (j : Nat) : u.1 14 0 j ≤ (km_setDn u q b).2.1 14 0 j := by
  unfold km_setDn
  repeat' split
  · exact Nat.le_refl _
  · exact km_add_ge (u := ui u 20 0 (36 + 6 * b + u.1 15 0 q) (u.2.1 16 0 q)) j
  · exact Nat.le_refl _
  · exact Nat.le_refl _
def km_failDn (w : UU) (a : Nat) : UU := if w.1 19 0 a + 1 = 6 then un (km_leave (un w 19 0 a (w.1 19 0 a + 1)) (6 + a)) 19 0 a 0 else un w 19 0 a (w.1 19 0 a + 1)
def km_dn2 (q : Nat) (w : UU) (a ch : Nat) : UU := if q = 0 then km_failDn w a else if kbitm (w.2.2.1 7 0 ch) (w.1 0 0 3) = 0 then km_failDn w a else un (km_leave w (6 + a)) 19 0 a 0
def km_dn1 (u : UU) (a b ch : Nat) : UU := if km_hears u a b ch = 0 then km_dn2 0 u a ch else km_dn2 (km_setDn (ui u 4 0 b (u.2.1 4 0 a)) (4 * (6 + a)) b).1 (km_setDn (ui u 4 0 b (u.2.1 4 0 a)) (4 * (6 + a)) b).2 a ch
/-- is node b on the first parents' way up, within j steps -/
def kbel (pa : Nat → Option Nat) (b : Nat) : Nat → Option Nat → Nat
  | 0, q => if q = some b then 1 else 0
  | _ + 1, none => 0
  | j + 1, some a => if a = 0 then (if b = 0 then 1 else 0) else if a = b then 1 else kbel pa b j (pa a)
theorem kbel_le (pa : Nat → Option Nat) (b : Nat) (j : Nat) (q : Option Nat) : kbel pa b j q ≤ 1 := by
  induction j generalizing q with
  | zero => unfold kbel; split <;> omega
  | succ j ih =>
    cases q with
    | none => unfold kbel; omega
    | some a =>
      rw [kbel]
      split
      · split <;> omega
      · split
        · omega
        · exact ih _
def km_down (pa : Nat → Option Nat) (u : UU) (a b ch : Nat) : UU := if u.1 3 0 a = 0 then u else if u.1 14 0 (6 + a) = 0 then u else if kbel pa b 6 (some (u.1 15 0 (4 * (6 + a)))) = 0 then u else km_dn1 (ui u 0 0 4 (u.2.1 0 0 4 + nI 1)) a b ch
theorem em_failDn {n : Nat} {u : UU} {a : Nat} (hu : wm n u) (hz : u.1 19 0 a ≤ 4 ∨ u.1 19 0 a + 1 = 6) : em n u (km_failDn u a) := by
  unfold km_failDn
  split
  · have e : ∀ (w : UU), km_leave (un w 19 0 a (w.1 19 0 a + 1)) (6 + a) = km_leave (un w 19 0 a (w.1 19 0 a + 1)) (6 + a) := fun _ => rfl
    have key : em n (un u 19 0 a 0) (un (km_leave (un u 19 0 a 0) (6 + a)) 19 0 a 0) := em_tr (em_leave (wm_un hu (by omega))) (em_un (by omega) (by omega))
    have e2 : un (km_leave (un u 19 0 a (u.1 19 0 a + 1)) (6 + a)) 19 0 a 0 = un (km_leave (un u 19 0 a 0) (6 + a)) 19 0 a 0 := by
      have e3 : ∀ (w z : UU) m, (∀ x y t, ¬ (x = 19 ∧ y = 0 ∧ t = a) → w.1 x y t = z.1 x y t) → w.2 = z.2 → (∀ x y t, ¬ (x = 19 ∧ y = 0 ∧ t = a) → (fo (km_lv1 (6 + a)) w m).1 x y t = (fo (km_lv1 (6 + a)) z m).1 x y t) ∧ (fo (km_lv1 (6 + a)) w m).2 = (fo (km_lv1 (6 + a)) z m).2 := by
        intro w z m h1 h2
        induction m with
        | zero => exact ⟨h1, h2⟩
        | succ m ih =>
          obtain ⟨i1, i2⟩ := ih
          refine ⟨fun x y t hx => ?_, ?_⟩
          · show (un (fo (km_lv1 (6 + a)) w m) 15 0 _ _).1 x y t = (un (fo (km_lv1 (6 + a)) z m) 15 0 _ _).1 x y t
            rw [un_1, un_1, i1 x y t hx, i1 15 0 _ (by omega)]
          · show (km_lv1 (6 + a) m (fo (km_lv1 (6 + a)) w m)).2 = (km_lv1 (6 + a) m (fo (km_lv1 (6 + a)) z m)).2
            generalize fo (km_lv1 (6 + a)) w m = W at i1 i2 ⊢
            generalize fo (km_lv1 (6 + a)) z m = Z at i1 i2 ⊢
            exact ui_c (ui_c (q := un W 15 0 (4 * (6 + a) + m) (W.1 15 0 (4 * (6 + a) + m + 1))) (z := un Z 15 0 (4 * (6 + a) + m) (Z.1 15 0 (4 * (6 + a) + m + 1))) i2 (by rw [i2])) (by rw [i2])
      obtain ⟨f1, f2⟩ := e3 (un (un u 19 0 a (u.1 19 0 a + 1)) 14 0 (6 + a) (u.1 14 0 (6 + a) - 1)) (un (un u 19 0 a 0) 14 0 (6 + a) (u.1 14 0 (6 + a) - 1)) (u.1 14 0 (6 + a) - 1) (fun x y t hx => by rw [un_1, un_1, un_1, un_1, if_neg hx, if_neg hx]) rfl
      have g1 : km_leave (un u 19 0 a (u.1 19 0 a + 1)) (6 + a) = fo (km_lv1 (6 + a)) (un (un u 19 0 a (u.1 19 0 a + 1)) 14 0 (6 + a) (u.1 14 0 (6 + a) - 1)) (u.1 14 0 (6 + a) - 1) := by
        unfold km_leave; rw [un_1, if_neg (by omega)]
      have g2 : km_leave (un u 19 0 a 0) (6 + a) = fo (km_lv1 (6 + a)) (un (un u 19 0 a 0) 14 0 (6 + a) (u.1 14 0 (6 + a) - 1)) (u.1 14 0 (6 + a) - 1) := by
        unfold km_leave; rw [un_1, if_neg (by omega)]
      rw [g1, g2]
      refine Prod.ext ?_ f2
      funext x y t
      rw [un_1, un_1]
      by_cases hx : x = 19 ∧ y = 0 ∧ t = a
      · rw [if_pos hx, if_pos hx]
      · rw [if_neg hx, if_neg hx]; exact f1 x y t hx
    rw [e2]
    exact em_tr (em_un (by omega) (by omega)) key
  · exact ⟨fun q => wm_un q (by omega), sm_un u (by omega) _ _ _⟩
theorem em_dn2 {n q : Nat} {u : UU} {a ch : Nat} (hu : wm n u) : em n u (km_dn2 q u a ch) := by
  have hz : u.1 19 0 a ≤ 4 ∨ u.1 19 0 a + 1 = 6 := by have := hu.2.2.2.2.2.2.2.1 a; omega
  unfold km_dn2
  repeat' split
  · exact em_failDn hu hz
  · exact em_failDn hu hz
  · exact em_tr (em_leave hu) (em_un (by omega) (by omega))
theorem em_down {n : Nat} {pa : Nat → Option Nat} {u : UU} {a b ch : Nat} (hu : wm n u) : em n u (km_down pa u a b ch) := by
  unfold km_down km_dn1
  repeat' split
  · exact em_rf n u
  · exact em_rf n u
  · exact em_rf n u
  · exact em_tr (em_ui n _ (by omega) _ _ _) (em_dn2 hu)
  · have h1 : wm n (ui (ui u 0 0 4 (u.2.1 0 0 4 + nI 1)) 4 0 b ((ui u 0 0 4 (u.2.1 0 0 4 + nI 1)).2.1 4 0 a)) := hu
    exact em_tr (em_ui n _ (by omega) _ _ _) (em_tr (em_ui n _ (by omega) _ _ _) (em_tr (em_setDn h1) (em_dn2 ((em_setDn h1).1 h1))))
def km_ad1 (a b : Nat) (w : UU) : UU := if w.1 1 0 (6 * a + b) = 0 then w else if w.1 2 0 b = 0 then w else if w.1 3 0 b = 0 then un (ui (un w 3 0 b 1) 4 0 b (w.2.1 4 0 a)) 18 0 b 0 else if w.2.1 9 0 (2 * b) = nI a then (if kclm (w.2.1 4 0 a) (w.2.1 4 0 b) = 0 then w else ui w 4 0 b (w.2.1 4 0 a)) else w
theorem em_ad1 {n : Nat} {u : UU} {a b : Nat} : em n u (km_ad1 a b u) := by
  unfold km_ad1
  repeat' split
  · exact em_rf n u
  · exact em_rf n u
  · exact em_tr (em_tr (em_un (by omega) (by omega)) (em_ui n _ (by omega) _ _ _)) (em_un (by omega) (by omega))
  · exact em_rf n u
  · exact em_ui n u (by omega) _ _ _
  · exact em_rf n u
def km_advert (n c : Nat) (u : UU) (a : Nat) : UU := if u.1 3 0 a = 0 then u else if kbitm (u.2.2.1 6 0 (u.1 0 0 3 % c)) (u.1 0 0 3) = 0 then u else fo (fun k w => km_ad1 a (k + 1) w) u (n - 1)
theorem em_advert {n c : Nat} {u : UU} {a : Nat} (hu : wm n u) : em n u (km_advert n c u a) := by
  unfold km_advert
  repeat' split
  · exact em_rf n u
  · exact em_rf n u
  · exact em_fo (fun k w _ => em_ad1) (n - 1) u hu
def km_dr1 (a : Nat) (w : UU) : UU := if w.1 2 0 a = 0 then ui w 4 0 a (w.2.1 4 0 a + nI 0) else ui w 4 0 a (w.2.1 4 0 a + w.2.1 5 0 a)
theorem em_dr1 {n : Nat} {u : UU} {a : Nat} : em n u (km_dr1 a u) := by
  unfold km_dr1
  split <;> exact em_ui n u (by omega) _ _ _
/-- one channel of a slot -/
def km_play1 (c : Nat) (pa : Nat → Option Nat) (sl k : Nat) (w : UU) : UU := if 300 ≤ w.1 10 0 (4 * sl + k) then km_down pa w (kfst (w.1 10 0 (4 * sl + k))) (ksnd (w.1 10 0 (4 * sl + k))) ((k + w.1 0 0 3) % c) else if 200 ≤ w.1 10 0 (4 * sl + k) then km_up w (kfst (w.1 10 0 (4 * sl + k))) (ksnd (w.1 10 0 (4 * sl + k))) ((k + w.1 0 0 3) % c) else w
theorem em_play1 {n c : Nat} {pa : Nat → Option Nat} {sl k : Nat} {u : UU} (hu : wm n u) : em n u (km_play1 c pa sl k u) := by
  unfold km_play1
  repeat' split
  · exact em_down hu
  · exact em_up hu
  · exact em_rf n u
