/-! SlottedMesh: bounds that every call keeps (pure rows) -/
def wf (n : Nat) (u : UU) : Prop :=
  (∀ i j, u.1 7 i j ≤ 1) ∧ (∀ i, u.1 4 i 6 ≤ 1) ∧ (∀ i, u.1 4 i 7 ≤ 1) ∧ (∀ i, u.1 4 i 10 ≤ 3) ∧ (∀ i, u.1 4 i 11 ≤ 5) ∧ (∀ r, u.1 8 r 3 ≤ 4) ∧ (∀ r j, u.1 12 r j < n) ∧ (∀ i, u.1 6 i 1 ≤ 3) ∧ (∀ i, u.1 15 i 8 ≤ 1) ∧ (∀ p q, u.1 20 p q < 400) ∧ u.1 0 0 7 < 2 ^ 30 ∧ u.2.2.2 5 < 2 ∧ u.2.2.2 6 < 2
theorem wf_un {n : Nat} {u : UU} (h : wf n u) {k i j v : Nat} (hv : (k = 7 → v ≤ 1) ∧ (k = 4 → j = 6 → v ≤ 1) ∧ (k = 4 → j = 7 → v ≤ 1) ∧ (k = 4 → j = 10 → v ≤ 3) ∧ (k = 4 → j = 11 → v ≤ 5) ∧ (k = 8 → j = 3 → v ≤ 4) ∧ (k = 12 → v < n) ∧ (k = 6 → j = 1 → v ≤ 3) ∧ (k = 15 → j = 8 → v ≤ 1) ∧ (k = 20 → v < 400) ∧ (k = 0 → j = 7 → v < 2 ^ 30)) : wf n (un u k i j v) := by
  obtain ⟨h1, h2, h3, h4, h5, h6, h7, h8, h9, h10, h11, h12, h13⟩ := h
  obtain ⟨v1, v2, v3, v4, v5, v6, v7, v8, v9, v10, v11⟩ := hv
  refine ⟨fun a b => ?_, fun a => ?_, fun a => ?_, fun a => ?_, fun a => ?_, fun a => ?_, fun a b => ?_, fun a => ?_, fun a => ?_, fun a b => ?_, ?_, h12, h13⟩
  all_goals (rw [un_1]; split)
  · rename_i q; exact v1 q.1.symm
  · exact h1 a b
  · rename_i q; exact v2 q.1.symm q.2.2.symm
  · exact h2 a
  · rename_i q; exact v3 q.1.symm q.2.2.symm
  · exact h3 a
  · rename_i q; exact v4 q.1.symm q.2.2.symm
  · exact h4 a
  · rename_i q; exact v5 q.1.symm q.2.2.symm
  · exact h5 a
  · rename_i q; exact v6 q.1.symm q.2.2.symm
  · exact h6 a
  · rename_i q; exact v7 q.1.symm
  · exact h7 a b
  · rename_i q; exact v8 q.1.symm q.2.2.symm
  · exact h8 a
  · rename_i q; exact v9 q.1.symm q.2.2.symm
  · exact h9 a
  · rename_i q; exact v10 q.1.symm
  · exact h10 a b
  · rename_i q; exact v11 q.1.symm q.2.2.symm
  · exact h11
theorem wf_ui {n : Nat} {u : UU} (h : wf n u) {k i j : Nat} {v : Int32} : wf n (ui u k i j v) := h
theorem wf_ul {n : Nat} {u : UU} (h : wf n u) {k i j : Nat} {v : Int64} : wf n (ul u k i j v) := h
/-- the plans stay, and the time -/
def sp (u w : UU) : Prop := (∀ k i j, 15 ≤ k ∨ k = 0 → w.1 k i j = u.1 k i j) ∧ (∀ k i j, 15 ≤ k → w.2.1 k i j = u.2.1 k i j) ∧ w.2.2.2 = u.2.2.2
theorem sp_rf (u : UU) : sp u u := ⟨fun _ _ _ _ => rfl, fun _ _ _ _ => rfl, rfl⟩
theorem sp_tr {u v w : UU} (h : sp u v) (g : sp v w) : sp u w := ⟨fun k i j hk => (g.1 k i j hk).trans (h.1 k i j hk), fun k i j hk => (g.2.1 k i j hk).trans (h.2.1 k i j hk), g.2.2.trans h.2.2⟩
theorem sp_un (u : UU) {k : Nat} (hk : k < 15 ∧ k ≠ 0) (i j v : Nat) : sp u (un u k i j v) := ⟨fun a b c ha => by rw [un_1, if_neg (by omega)], fun _ _ _ _ => rfl, rfl⟩
theorem sp_ui (u : UU) {k : Nat} (hk : k < 15) (i j : Nat) (v : Int32) : sp u (ui u k i j v) := ⟨fun _ _ _ _ => rfl, fun a b c ha => by rw [ui_2, if_neg (by omega)], rfl⟩
/-- what a step of run keeps -/
def ev (n : Nat) (u w : UU) : Prop := (wf n u → wf n w) ∧ sp u w
theorem ev_rf (n : Nat) (u : UU) : ev n u u := ⟨id, sp_rf u⟩
theorem ev_tr {n : Nat} {u v w : UU} (h : ev n u v) (g : ev n v w) : ev n u w := ⟨fun q => g.1 (h.1 q), sp_tr h.2 g.2⟩
theorem ev_ui (n : Nat) (u : UU) {k : Nat} (hk : k < 15) (i j : Nat) (v : Int32) : ev n u (ui u k i j v) := ⟨fun h => h, sp_ui u hk i j v⟩
theorem ev_fo {n : Nat} {f : Nat → UU → UU} (h : ∀ k w, wf n w → ev n w (f k w)) : ∀ m u, wf n u → ev n u (fo f u m) := by
  intro m u hu
  induction m with
  | zero => exact ev_rf n u
  | succ m ih => exact ev_tr ih (h m _ (ih.1 hu))
theorem ev_append {n : Nat} {u : UU} {r e : Nat} {x v : Int32} (he : e < n) : ev n u (kc_append u r e x v) := by
  unfold kc_append
  split
  · rename_i h
    refine ⟨fun q => ?_, ?_⟩
    · exact wf_un (wf_ui (wf_ui (wf_un q (by omega)))) (by omega)
    · exact sp_tr (sp_tr (sp_tr (sp_un u (by omega) _ _ _) (sp_ui _ (by omega) _ _ _)) (sp_ui _ (by omega) _ _ _)) (sp_un _ (by omega) _ _ _)
  · exact ev_rf n u
theorem ev_drop {n : Nat} {u : UU} {r : Nat} (hu : wf n u) : ev n u (kc_drop u r) := by
  unfold kc_drop
  split
  · exact ev_rf n u
  · have h1 : ev n u (un u 8 r 3 (u.1 8 r 3 - 1)) := ⟨fun q => wf_un q (by have := q.2.2.2.2.2.1 r; omega), sp_un u (by omega) _ _ _⟩
    refine ev_tr h1 (ev_fo (fun k w hw => ?_) _ _ (h1.1 hu))
    refine ⟨fun q => wf_ui (wf_ui (wf_un q (by have := q.2.2.2.2.2.2.1 r (k + 1); omega))), ?_⟩
    exact sp_tr (sp_tr (sp_un w (by omega) _ _ _) (sp_ui _ (by omega) _ _ _)) (sp_ui _ (by omega) _ _ _)
theorem ev_keep {n : Nat} {u : UU} {i : Nat} {v : Int32} : ev n u (kc_keep u i v) := by
  unfold kc_keep
  refine ⟨fun q => wf_un (wf_ui (wf_ui (wf_ui q))) (by split <;> omega), ?_⟩
  exact sp_tr (sp_tr (sp_tr (sp_ui u (by omega) _ _ _) (sp_ui _ (by omega) _ _ _)) (sp_ui _ (by omega) _ _ _)) (sp_un _ (by omega) _ _ _)
theorem ev_failUp {n : Nat} {u : UU} {i : Nat} : ev n u (kc_failUp u i) := by
  unfold kc_failUp
  split
  · exact ⟨fun q => wf_un q (by omega), sp_un u (by omega) _ _ _⟩
  · refine ⟨fun q => ?_, sp_tr (sp_tr (sp_un u (by omega) _ _ _) (sp_un _ (by omega) _ _ _)) (sp_un _ (by omega) _ _ _)⟩
    obtain ⟨h1, h2, h3, h4, h5, h6, h7, h8, h9, h10, h11, h12, h13⟩ := q
    have e : un (un u 4 i 10 (u.1 4 i 10 + 1)) 4 i 10 0 = un u 4 i 10 0 := by
      unfold un
      congr 1
      funext a b c
      dsimp only
      split
      · rfl
      · rfl
    rw [e]
    exact wf_un (wf_un ⟨h1, h2, h3, h4, h5, h6, h7, h8, h9, h10, h11, h12, h13⟩ (by omega)) (by omega)
theorem ev_failDown {n : Nat} {u : UU} {i : Nat} (hu : wf n u) : ev n u (kc_failDown u i) := by
  unfold kc_failDown
  split
  · exact ⟨fun q => wf_un q (by omega), sp_un u (by omega) _ _ _⟩
  · have e : un (un u 4 i 11 (u.1 4 i 11 + 1)) 4 i 11 0 = un u 4 i 11 0 := by
      unfold un
      congr 1
      funext a b c
      dsimp only
      split
      · rfl
      · rfl
    rw [e]
    have h1 : ev n u (un u 4 i 11 0) := ⟨fun q => wf_un q (by omega), sp_un u (by omega) _ _ _⟩
    exact ev_tr h1 (ev_drop (h1.1 hu))
/-! what a node hears, takes and sends -/
def kc_hears (u : UU) (b a ch : Nat) : Nat := if u.1 4 b 7 = 0 then 0 else if u.1 7 b a = 0 then 0 else if kclose (u.2.1 4 b 8) (u.2.1 4 a 8) = 0 then 0 else if kbit (u.2.2.1 5 ch 0) (u.1 0 0 7) = 0 then 0 else 1
theorem kc_hears_01 (u : UU) (b a ch : Nat) : kc_hears u b a ch = 0 ∨ kc_hears u b a ch = 1 := by
  unfold kc_hears
  repeat' split
  all_goals simp
def kc_cache (u : UU) (e : Nat) (x v : Int32) : UU := kc_append (ui (kc_keep u e v) 6 e 5 (kc_sum (kc_keep u e v) e v)) (2 * 0 + 1) e x (kc_cmd (kc_keep u e v) e v)
theorem ev_cache {n : Nat} {u : UU} {e : Nat} {x v : Int32} (he : e < n) : ev n u (kc_cache u e x v) := ev_tr (ev_tr ev_keep (ev_ui n _ (by omega) _ _ _)) (ev_append he)
def kc_settleUp (u : UU) (r b : Nat) : Nat × UU := if u.2.1 9 b (u.1 12 r 0) < u.2.1 13 r 0 then
    if b = 0 then (1, ui (kc_cache u (u.1 12 r 0) (u.2.1 13 r 0) (u.2.1 14 r 0)) 9 b (u.1 12 r 0) (u.2.1 13 r 0))
    else if u.1 8 (2 * b) 3 < 4 then (1, ui (kc_append u (2 * b) (u.1 12 r 0) (u.2.1 13 r 0) (u.2.1 14 r 0)) 9 b (u.1 12 r 0) (u.2.1 13 r 0)) else (0, u)
  else (1, u)
theorem ev_settleUp {n : Nat} {u : UU} {r b : Nat} (hu : wf n u) : ev n u (kc_settleUp u r b).2 := by
  have he := hu.2.2.2.2.2.2.1 r 0
  unfold kc_settleUp
  repeat' split
  · exact ev_tr (ev_cache he) (ev_ui n _ (by omega) _ _ _)
  · exact ev_tr (ev_append he) (ev_ui n _ (by omega) _ _ _)
  · exact ev_rf n u
  · exact ev_rf n u
theorem kc_settleUp_01 (u : UU) (r b : Nat) : (kc_settleUp u r b).1 = 0 ∨ (kc_settleUp u r b).1 = 1 := by
  unfold kc_settleUp
  repeat' split
  all_goals simp
def kc_settleDown (u : UU) (r b : Nat) : Nat × UU := if u.2.1 10 b (u.1 12 r 0) < u.2.1 13 r 0 then
    if b = u.1 12 r 0 then (1, ui (ui u 4 b 13 (u.2.1 14 r 0)) 10 b (u.1 12 r 0) (u.2.1 13 r 0))
    else if u.1 8 (2 * b + 1) 3 < 4 then (1, ui (kc_append u (2 * b + 1) (u.1 12 r 0) (u.2.1 13 r 0) (u.2.1 14 r 0)) 10 b (u.1 12 r 0) (u.2.1 13 r 0)) else (0, u)
  else (1, u)
theorem ev_settleDown {n : Nat} {u : UU} {r b : Nat} (hu : wf n u) : ev n u (kc_settleDown u r b).2 := by
  have he := hu.2.2.2.2.2.2.1 r 0
  unfold kc_settleDown
  repeat' split
  · exact ev_tr (ev_ui n _ (by omega) _ _ _) (ev_ui n _ (by omega) _ _ _)
  · exact ev_tr (ev_append he) (ev_ui n _ (by omega) _ _ _)
  · exact ev_rf n u
  · exact ev_rf n u
theorem kc_settleDown_01 (u : UU) (r b : Nat) : (kc_settleDown u r b).1 = 0 ∨ (kc_settleDown u r b).1 = 1 := by
  unfold kc_settleDown
  repeat' split
  all_goals simp
/-- what comes of an up frame: q is 1 if it was settled, w the state then -/
def kc_up3 (w : UU) (a b : Nat) : UU := if (kc_drop w (2 * a)).2.1 17 ((kc_drop w (2 * a)).2.2.2 5) a = nI b then ui (un (kc_drop w (2 * a)) 4 a 10 0) 4 a 8 ((kc_drop w (2 * a)).2.1 4 b 8) else un (kc_drop w (2 * a)) 4 a 10 0
def kc_up2 (q : Nat) (w : UU) (a b ch : Nat) : UU := if q = 0 then kc_failUp w a else if kbit (w.2.2.1 5 ch 1) (w.1 0 0 7) = 0 then kc_failUp w a else kc_up3 w a b
def kc_up1 (u : UU) (a b ch : Nat) : UU := if kc_hears u b a ch = 0 then kc_up2 0 u a b ch else kc_up2 (kc_settleUp u (2 * a) b).1 (kc_settleUp u (2 * a) b).2 a b ch
def kc_sendUp (u : UU) (a b ch : Nat) : UU := if u.1 4 a 7 = 0 then u else if u.1 8 (2 * a) 3 = 0 then u else kc_up1 (ui u 0 0 8 (u.2.1 0 0 8 + nI 1)) a b ch
theorem ev_up2 {n q : Nat} {u : UU} {a b ch : Nat} (hu : wf n u) : ev n u (kc_up2 q u a b ch) := by
  unfold kc_up2 kc_up3
  repeat' split
  · exact ev_failUp
  · exact ev_failUp
  · exact ev_tr (ev_drop hu) (ev_tr ⟨fun q => wf_un q (by omega), sp_un _ (by omega) _ _ _⟩ (ev_ui n _ (by omega) _ _ _))
  · exact ev_tr (ev_drop hu) ⟨fun q => wf_un q (by omega), sp_un _ (by omega) _ _ _⟩
theorem ev_sendUp {n : Nat} {u : UU} {a b ch : Nat} (hu : wf n u) : ev n u (kc_sendUp u a b ch) := by
  unfold kc_sendUp kc_up1
  repeat' split
  · exact ev_rf n u
  · exact ev_rf n u
  · exact ev_tr (ev_ui n _ (by omega) _ _ _) (ev_up2 hu)
  · have h1 : wf n (ui u 0 0 8 (u.2.1 0 0 8 + nI 1)) := hu
    exact ev_tr (ev_ui n _ (by omega) _ _ _) (ev_tr (ev_settleUp h1) (ev_up2 ((ev_settleUp h1).1 h1)))
def kc_dn2 (q : Nat) (w : UU) (a ch : Nat) : UU := if q = 0 then kc_failDown w a else if kbit (w.2.2.1 5 ch 1) (w.1 0 0 7) = 0 then kc_failDown w a else un (kc_drop w (2 * a + 1)) 4 a 11 0
def kc_dn1 (u : UU) (a b ch : Nat) : UU := if kc_hears u b a ch = 0 then kc_dn2 0 u a ch else kc_dn2 (kc_settleDown (ui u 4 b 8 (u.2.1 4 a 8)) (2 * a + 1) b).1 (kc_settleDown (ui u 4 b 8 (u.2.1 4 a 8)) (2 * a + 1) b).2 a ch
def kc_sendDown (n : Nat) (fa : Nat → Option Nat) (u : UU) (a b ch : Nat) : UU := if u.1 4 a 7 = 0 then u else if u.1 8 (2 * a + 1) 3 = 0 then u else if kleads fa b n (some (u.1 12 (2 * a + 1) 0)) = 0 then u else kc_dn1 (ui u 0 0 8 (u.2.1 0 0 8 + nI 1)) a b ch
theorem ev_dn2 {n q : Nat} {u : UU} {a ch : Nat} (hu : wf n u) : ev n u (kc_dn2 q u a ch) := by
  unfold kc_dn2
  repeat' split
  · exact ev_failDown hu
  · exact ev_failDown hu
  · exact ev_tr (ev_drop hu) ⟨fun q => wf_un q (by omega), sp_un _ (by omega) _ _ _⟩
theorem ev_sendDown {n : Nat} {fa : Nat → Option Nat} {u : UU} {a b ch : Nat} (hu : wf n u) : ev n u (kc_sendDown n fa u a b ch) := by
  unfold kc_sendDown kc_dn1
  repeat' split
  · exact ev_rf n u
  · exact ev_rf n u
  · exact ev_rf n u
  · exact ev_tr (ev_ui n _ (by omega) _ _ _) (ev_dn2 hu)
  · have h1 : wf n (ui (ui u 0 0 8 (u.2.1 0 0 8 + nI 1)) 4 b 8 ((ui u 0 0 8 (u.2.1 0 0 8 + nI 1)).2.1 4 a 8)) := hu
    exact ev_tr (ev_ui n _ (by omega) _ _ _) (ev_tr (ev_ui n _ (by omega) _ _ _) (ev_tr (ev_settleDown h1) (ev_dn2 ((ev_settleDown h1).1 h1))))
def kc_answer (u : UU) (b a : Nat) : UU := if u.1 4 b 7 = 0 then un (ui (un u 4 b 7 1) 4 b 8 (u.2.1 4 a 8)) 4 b 10 0 else if u.2.1 17 (u.2.2.2 5) b = nI a then (if kclose (u.2.1 4 b 8) (u.2.1 4 a 8) = 0 then u else ui u 4 b 8 (u.2.1 4 a 8)) else u
theorem ev_answer {n : Nat} {u : UU} {a b : Nat} : ev n u (kc_answer u b a) := by
  unfold kc_answer
  repeat' split
  · refine ⟨fun q => wf_un (wf_ui (wf_un q (by omega))) (by omega), sp_tr (sp_tr (sp_un u (by omega) _ _ _) (sp_ui _ (by omega) _ _ _)) (sp_un _ (by omega) _ _ _)⟩
  · exact ev_rf n u
  · exact ev_ui n u (by omega) _ _ _
  · exact ev_rf n u
def kc_ad1 (a k : Nat) (w : UU) : UU := if w.1 7 a k = 0 then w else if w.1 4 k 6 = 0 then w else kc_answer w k a
def kc_advertise (n : Nat) (u : UU) (a ch : Nat) : UU := if u.1 4 a 7 = 0 then u else if kbit (u.2.2.1 5 ch 0) (u.1 0 0 7) = 0 then u else fo (kc_ad1 a) u n
theorem ev_ad1 {n : Nat} {u : UU} {a k : Nat} : ev n u (kc_ad1 a k u) := by
  unfold kc_ad1
  repeat' split
  · exact ev_rf n u
  · exact ev_rf n u
  · exact ev_answer
theorem ev_advertise {n : Nat} {u : UU} {a ch : Nat} (hu : wf n u) : ev n u (kc_advertise n u a ch) := by
  unfold kc_advertise
  repeat' split
  · exact ev_rf n u
  · exact ev_rf n u
  · exact ev_fo (fun k w _ => ev_ad1) n u hu
def kc_dr1 (k : Nat) (w : UU) : UU := if w.1 4 k 6 = 0 then w else ui w 4 k 8 (w.2.1 4 k 8 + w.2.1 4 k 9)
theorem ev_dr1 {n : Nat} {u : UU} {k : Nat} : ev n u (kc_dr1 k u) := by
  unfold kc_dr1
  split
  · exact ev_rf n u
  · exact ev_ui n u (by omega) _ _ _
/-- one channel of a slot -/
def kc_play1 (n c : Nat) (fa : Nat → Option Nat) (sl k : Nat) (w : UU) : UU :=
  if w.1 20 (w.2.2.2 5) (sl * c + k) / 100 * 100 = 100 then (if k = 0 then kc_advertise n w (w.1 20 (w.2.2.2 5) (sl * c + k) / 10 % 10) ((k + w.1 0 0 7) % c) else w)
  else if w.1 20 (w.2.2.2 5) (sl * c + k) / 100 * 100 = 200 then kc_sendUp w (w.1 20 (w.2.2.2 5) (sl * c + k) / 10 % 10) (w.1 20 (w.2.2.2 5) (sl * c + k) % 10) ((k + w.1 0 0 7) % c)
  else if w.1 20 (w.2.2.2 5) (sl * c + k) / 100 * 100 = 300 then kc_sendDown n fa w (w.1 20 (w.2.2.2 5) (sl * c + k) / 10 % 10) (w.1 20 (w.2.2.2 5) (sl * c + k) % 10) ((k + w.1 0 0 7) % c)
  else w
theorem ev_play1 {n c : Nat} {fa : Nat → Option Nat} {sl k : Nat} {u : UU} (hu : wf n u) : ev n u (kc_play1 n c fa sl k u) := by
  unfold kc_play1
  repeat' split
  · exact ev_advertise hu
  · exact ev_rf n u
  · exact ev_sendUp hu
  · exact ev_sendDown hu
  · exact ev_rf n u
def kc_slot (n s c : Nat) (fa : Nat → Option Nat) (u : UU) : UU := if (fo kc_dr1 u n).1 15 ((fo kc_dr1 u n).2.2.2 5) 8 = 0 then un (fo kc_dr1 u n) 0 0 7 ((fo kc_dr1 u n).1 0 0 7 + 1) else un (fo (kc_play1 n c fa ((fo kc_dr1 u n).1 0 0 7 % s)) (fo kc_dr1 u n) c) 0 0 7 ((fo (kc_play1 n c fa ((fo kc_dr1 u n).1 0 0 7 % s)) (fo kc_dr1 u n) c).1 0 0 7 + 1)
/-- the plan in use: its cells name nodes, its first parents are fa -/
def pw (n s c : Nat) (fa : Nat → Option Nat) (u : UU) : Prop := u.1 15 (u.2.2.2 5) 8 ≠ 0 → (∀ q, q < s * c → u.1 20 (u.2.2.2 5) q / 10 % 10 < n ∧ u.1 20 (u.2.2.2 5) q % 10 < n) ∧ (∀ i, i < n → u.2.1 17 (u.2.2.2 5) i = io (fa i)) ∧ ∀ i a, fa i = some a → a < n
theorem pw_sp {n s c : Nat} {fa : Nat → Option Nat} {u w : UU} (h : sp u w) (g : pw n s c fa u) : pw n s c fa w := by
  unfold pw at *
  rw [h.2.2]
  intro q
  rw [h.1 15 _ _ (by omega)] at q
  obtain ⟨g1, g2, g3⟩ := g q
  refine ⟨fun q hq => ?_, fun i hi => ?_, g3⟩
  · rw [h.1 20 _ _ (by omega)]; exact g1 q hq
  · rw [h.2.1 17 _ _ (by omega)]; exact g2 i hi
/-- the plans stay -/
def sq (u w : UU) : Prop := (∀ k i j, 15 ≤ k → w.1 k i j = u.1 k i j) ∧ (∀ k i j, 15 ≤ k → w.2.1 k i j = u.2.1 k i j) ∧ w.2.2.2 = u.2.2.2
theorem sq_sp {u w : UU} (h : sp u w) : sq u w := ⟨fun k i j hk => h.1 k i j (Or.inl hk), h.2.1, h.2.2⟩
theorem sq_rf (u : UU) : sq u u := ⟨fun _ _ _ _ => rfl, fun _ _ _ _ => rfl, rfl⟩
theorem sq_tr {u v w : UU} (h : sq u v) (g : sq v w) : sq u w := ⟨fun k i j hk => (g.1 k i j hk).trans (h.1 k i j hk), fun k i j hk => (g.2.1 k i j hk).trans (h.2.1 k i j hk), g.2.2.trans h.2.2⟩
theorem pw_sq {n s c : Nat} {fa : Nat → Option Nat} {u w : UU} (h : sq u w) (g : pw n s c fa u) : pw n s c fa w := by
  unfold pw at *
  rw [h.2.2]
  intro q
  rw [h.1 15 _ _ (by omega)] at q
  obtain ⟨g1, g2, g3⟩ := g q
  refine ⟨fun q hq => ?_, fun i hi => ?_, g3⟩
  · rw [h.1 20 _ _ (by omega)]; exact g1 q hq
  · rw [h.2.1 17 _ _ (by omega)]; exact g2 i hi
theorem wf_slot {n s c : Nat} {fa : Nat → Option Nat} {u : UU} (hu : wf n u) (ht : u.1 0 0 7 + 1 < 2 ^ 30) : wf n (kc_slot n s c fa u) ∧ (kc_slot n s c fa u).1 0 0 7 = u.1 0 0 7 + 1 ∧ sq u (kc_slot n s c fa u) := by
  have h1 : ev n u (fo kc_dr1 u n) := ev_fo (fun _ _ _ => ev_dr1) n u hu
  have h2 : ev n u (fo (kc_play1 n c fa ((fo kc_dr1 u n).1 0 0 7 % s)) (fo kc_dr1 u n) c) := ev_tr h1 (ev_fo (fun _ _ hw => ev_play1 hw) c _ (h1.1 hu))
  have key : ∀ w, ev n u w → wf n (un w 0 0 7 (w.1 0 0 7 + 1)) ∧ (un w 0 0 7 (w.1 0 0 7 + 1)).1 0 0 7 = u.1 0 0 7 + 1 ∧ sq u (un w 0 0 7 (w.1 0 0 7 + 1)) := by
    intro w h
    have e := h.2.1 0 0 7 (Or.inr rfl)
    refine ⟨wf_un (h.1 hu) (by omega), by rw [un_1, if_pos ⟨rfl, rfl, rfl⟩, e], sq_tr (sq_sp h.2) ⟨fun k i j hk => by rw [un_1, if_neg (by omega)], fun _ _ _ _ => rfl, rfl⟩⟩
  unfold kc_slot
  split
  · exact key _ h1
  · exact key _ h2
theorem wf_slots {n s c : Nat} {fa : Nat → Option Nat} {u : UU} (hu : wf n u) : ∀ m, u.1 0 0 7 + m < 2 ^ 30 → wf n (fo (fun _ w => kc_slot n s c fa w) u m) ∧ (fo (fun _ w => kc_slot n s c fa w) u m).1 0 0 7 = u.1 0 0 7 + m ∧ sq u (fo (fun _ w => kc_slot n s c fa w) u m) := by
  intro m
  induction m with
  | zero => intro _; exact ⟨hu, rfl, sq_rf u⟩
  | succ m ih =>
    intro h
    obtain ⟨a, b, d⟩ := ih (by omega)
    obtain ⟨a2, b2, d2⟩ := wf_slot (s := s) (c := c) (fa := fa) a (by omega)
    exact ⟨a2, by show (kc_slot n s c fa _).1 0 0 7 = _; rw [b2, b]; omega, sq_tr d d2⟩
theorem kc_p1_a {n c : Nat} {fa : Nat → Option Nat} {sl k : Nat} {w : UU} (h : w.1 20 (w.2.2.2 5) (sl * c + k) / 100 * 100 = 100) (hk : k = 0) : kc_play1 n c fa sl k w = kc_advertise n w (w.1 20 (w.2.2.2 5) (sl * c + k) / 10 % 10) ((k + w.1 0 0 7) % c) := by
  unfold kc_play1; rw [if_pos h, if_pos hk]
theorem kc_p1_b {n c : Nat} {fa : Nat → Option Nat} {sl k : Nat} {w : UU} (h : w.1 20 (w.2.2.2 5) (sl * c + k) / 100 * 100 = 100) (hk : ¬ k = 0) : kc_play1 n c fa sl k w = w := by
  unfold kc_play1; rw [if_pos h, if_neg hk]
theorem kc_p1_c {n c : Nat} {fa : Nat → Option Nat} {sl k : Nat} {w : UU} (h : w.1 20 (w.2.2.2 5) (sl * c + k) / 100 * 100 = 200) : kc_play1 n c fa sl k w = kc_sendUp w (w.1 20 (w.2.2.2 5) (sl * c + k) / 10 % 10) (w.1 20 (w.2.2.2 5) (sl * c + k) % 10) ((k + w.1 0 0 7) % c) := by
  unfold kc_play1; rw [if_neg (by omega), if_pos h]
theorem kc_p1_d {n c : Nat} {fa : Nat → Option Nat} {sl k : Nat} {w : UU} (h : w.1 20 (w.2.2.2 5) (sl * c + k) / 100 * 100 = 300) : kc_play1 n c fa sl k w = kc_sendDown n fa w (w.1 20 (w.2.2.2 5) (sl * c + k) / 10 % 10) (w.1 20 (w.2.2.2 5) (sl * c + k) % 10) ((k + w.1 0 0 7) % c) := by
  unfold kc_play1; rw [if_neg (by omega), if_neg (by omega), if_pos h]
theorem kc_p1_e {n c : Nat} {fa : Nat → Option Nat} {sl k : Nat} {w : UU} (h : w.1 20 (w.2.2.2 5) (sl * c + k) / 100 * 100 = 0) : kc_play1 n c fa sl k w = w := by
  unfold kc_play1; rw [if_neg (by omega), if_neg (by omega), if_neg (by omega)]
/-! plan -/
theorem kadvs_2 {s c p : Nat} : ∀ j k w, (kadvs s c p j k w).2.2 = w.2 := by
  intro j
  induction j with
  | zero => intro k w; rfl
  | succ j ih =>
    intro k w
    rw [kadvs]
    split
    · show (kc_advert s c w p (w.1 19 p k)).2.2 = _; unfold kc_advert; rw [kc_adv_2]
    · rw [ih]; unfold kc_advert; rw [kc_adv_2]
theorem klnks_2 {s c p : Nat} {fa sa : Nat → Option Nat} : ∀ j k w, (klnks s c p fa sa j k w).2.2 = w.2 := by
  have hl : ∀ (w : UU) d x y, (kc_link s c w p d x y).2.2 = w.2 := fun w d x y => by unfold kc_link; rw [kc_lnk_2]
  intro j
  induction j with
  | zero => intro k w; rfl
  | succ j ih =>
    intro k w
    rw [klnks]
    split
    · rfl
    · unfold kl1 kl2 kl3
      repeat' split
      all_goals simp only [ih, hl]
theorem kc_make_r {n s c : Nat} {u : UU} {p : Nat} (h1 : 1 ≤ n) (hn : n < 2 ^ 31) : (kc_make n s c u p).2.2.2 = u.2.2 := by
  have e0 : (kmk s c u p).2 = u.2 := by unfold kmk; rw [(kfl20 _ p 0 (s * c)).1]; rfl
  have e1 : (kc_ranks n (kmk s c u p) p).1.2.2 = u.2.2 := by rw [(kro_all h1 hn).2.1, e0]
  unfold kc_make kc_mk3
  repeat' split
  · show (kadvs s c p n 0 _).2.2.2 = _; rw [kadvs_2, (kpi_all h1).2.1, e1]
  · show (klnks s c p _ _ (n - 1) 1 _).2.2.2 = _; rw [klnks_2, kadvs_2, (kpi_all h1).2.1, e1]
  · show (klnks s c p _ _ (n - 1) 1 _).2.2.2 = _; rw [klnks_2, kadvs_2, (kpi_all h1).2.1, e1]
  · exact e1
theorem kc_make_lt {n s c : Nat} {u : UU} {p : Nat} : (kc_make n s c u p).1 < 2 ^ 31 := by
  unfold kc_make kc_mk3
  repeat' split
  all_goals (dsimp only; omega)
theorem kc_enters_2 (u : UU) (m : Nat) : (fo (fun k w => kc_enter w k) u m).2 = u.2 := by
  induction m with
  | zero => rfl
  | succ m ih => show (kc_enter _ m).2 = _; rw [← ih]; rfl
def kc_planW (n s c : Nat) (u : UU) : UU := fo (fun k w => kc_enter w k) (ur (ur (kc_make n s c u (u.2.2.2 6)).2 6 (u.2.2.2 5)) 5 (u.2.2.2 6)) n
def kc_plan (n s c : Nat) (u : UU) : Int32 × UU := if (kc_make n s c u (u.2.2.2 6)).1 = 0 then (-1, (kc_make n s c u (u.2.2.2 6)).2) else (nI ((kc_planW n s c u).1 15 (u.2.2.2 6) 7), kc_planW n s c u)
