/-! Class and model: steps of a slot alike -/
theorem un_same {u : UU} {k i j v : Nat} (h : u.1 k i j = v) : un u k i j v = u := by
  refine Prod.ext ?_ rfl
  funext a b c
  rw [un_1]
  split
  · rename_i q; rw [q.1, q.2.1, q.2.2, h]
  · rfl
theorem ui_same {u : UU} {k i j : Nat} {v : Int32} (h : u.2.1 k i j = v) : ui u k i j v = u := by
  refine Prod.ext rfl (Prod.ext ?_ rfl)
  funext a b c
  rw [ui_2]
  split
  · rename_i q; rw [q.1, q.2.1, q.2.2, h]
  · rfl
theorem un_unc {u : UU} {k i j v k2 i2 j2 v2 : Nat} (h : ¬ (k = k2 ∧ i = i2 ∧ j = j2)) : un (un u k i j v) k2 i2 j2 v2 = un (un u k2 i2 j2 v2) k i j v := by
  refine Prod.ext ?_ rfl
  funext a b c
  rw [un_1, un_1, un_1, un_1]
  by_cases h1 : a = k2 ∧ b = i2 ∧ c = j2
  · rw [if_pos h1, if_neg (fun q => h ⟨q.1.symm.trans h1.1, q.2.1.symm.trans h1.2.1, q.2.2.symm.trans h1.2.2⟩), if_pos h1]
  · rw [if_neg h1]
    by_cases h2 : a = k ∧ b = i ∧ c = j
    · rw [if_pos h2, if_pos h2]
    · rw [if_neg h2, if_neg h2, if_neg h1]
theorem fo_sh {α : Type} (f : Nat → α → α) (u : α) (m : Nat) : fo f u (m + 1) = fo (fun k => f (k + 1)) (f 0 u) m := by
  induction m with
  | zero => rfl
  | succ m ih => rw [fo_s, ih]; rfl
/-- what the model keeps beside its bounds; p are the ranks -/
def Iv (n : Nat) (p : Nat → Nat) (w : UU) : Prop := (∀ a b, a < n → b < n → w.1 1 0 (6 * a + b) = w.1 1 0 (6 * b + a)) ∧ w.1 2 0 0 = 1 ∧ w.1 3 0 0 = 1 ∧ w.1 14 0 0 = 0 ∧ w.2.1 5 0 0 = 0 ∧ (∀ a, w.1 2 0 a = 0 → w.1 3 0 a = 0) ∧ (∀ a, -3 ≤ (w.2.1 5 0 a).toInt ∧ (w.2.1 5 0 a).toInt ≤ 3) ∧ (∀ a, w.1 8 0 a = p a) ∧ (∀ a, w.1 11 0 a ≤ 99) ∧ (∀ a, w.1 13 0 a < 400) ∧ ∀ a, 2 * n ≤ a → w.2.1 12 0 a = 0
def Ck (B : Int) (w : UU) : Prop := ∀ a, -B ≤ (w.2.1 4 0 a).toInt ∧ (w.2.1 4 0 a).toInt ≤ B
def Jv (n : Nat) (p : Nat → Nat) (B : Int) (w : UU) : Prop := Iv n p w ∧ Ck B w
section JS
variable {n c r q : Nat} {p : Nat → Nat} {B : Int} {u w : UU}
theorem Jv_ui (h : Jv n p B w) {k j : Nat} {v : Int32} (hk : k ≠ 5 ∧ k ≠ 12) (hv : k = 4 → -B ≤ v.toInt ∧ v.toInt ≤ B) : Jv n p B (ui w k 0 j v) := by
  obtain ⟨⟨h1, h2, h3, h4, h5, h6, h7, h8, h9, h10, h11⟩, hc⟩ := h
  refine ⟨⟨h1, h2, h3, h4, ?_, h6, fun a => ?_, h8, h9, h10, fun a ha => ?_⟩, fun a => ?_⟩
  · rw [ui_2, if_neg (fun q => hk.1 q.1.symm)]; exact h5
  · rw [ui_2, if_neg (fun q => hk.1 q.1.symm)]; exact h7 a
  · rw [ui_2, if_neg (fun q => hk.2 q.1.symm)]; exact h11 a ha
  · rw [ui_2]; split
    · rename_i q; exact hv q.1.symm
    · exact hc a
theorem Jv_un (h : Jv n p B w) {k j v : Nat} (hk : k ≠ 1 ∧ k ≠ 2 ∧ k ≠ 8 ∧ k ≠ 11 ∧ k ≠ 13) (h3 : k = 3 → (j = 0 → v = 1) ∧ (v ≠ 0 → w.1 2 0 j ≠ 0)) (h14 : k = 14 → j = 0 → v = 0) : Jv n p B (un w k 0 j v) := by
  obtain ⟨⟨g1, g2, g3, g4, g5, g6, g7, g8, g9, g10, g11⟩, hc⟩ := h
  refine ⟨⟨fun a b ha hb => ?_, ?_, ?_, ?_, g5, fun a ha => ?_, g7, fun a => ?_, fun a => ?_, fun a => ?_, g11⟩, hc⟩
  · rw [un_1, un_1, if_neg (by omega), if_neg (by omega)]; exact g1 a b ha hb
  · rw [un_1, if_neg (by omega)]; exact g2
  · rw [un_1]; split
    · rename_i q; exact (h3 q.1.symm).1 q.2.2.symm
    · exact g3
  · rw [un_1]; split
    · rename_i q; exact h14 q.1.symm q.2.2.symm
    · exact g4
  · rw [un_1, if_neg (by omega)] at ha
    rw [un_1]; split
    · rename_i q
      obtain ⟨q1, q2, q3⟩ := q
      by_cases e : v = 0
      · exact e
      · exact absurd (by rw [← q3]; exact ha) ((h3 q1.symm).2 e)
    · exact g6 a ha
  · rw [un_1, if_neg (by omega)]; exact g8 a
  · rw [un_1, if_neg (by omega)]; exact g9 a
  · rw [un_1, if_neg (by omega)]; exact g10 a
theorem Jv_fo {f : Nat → UU → UU} (h : ∀ k w, Jv n p B w → Jv n p B (f k w)) : ∀ m u, Jv n p B u → Jv n p B (fo f u m) := by
  intro m u hu
  induction m with
  | zero => exact hu
  | succ m ih => exact h m _ ih
theorem Jv_add (h : Jv n p B w) {e : Nat} {x v : Int32} (hr : r ≠ 0) : Jv n p B (km_add w r e x v) := by
  unfold km_add
  exact Jv_un (Jv_ui (Jv_ui (Jv_un h (by omega) (by omega) (by omega)) (by omega) (by omega)) (by omega) (by omega)) (by omega) (by omega) (by omega)
theorem Jv_leave (h : Jv n p B w) : Jv n p B (km_leave w r) := by
  unfold km_leave
  refine Jv_fo (fun k w hw => ?_) _ _ (Jv_un h (by omega) (by omega) (fun _ e => ?_))
  · unfold km_lv1
    exact Jv_ui (Jv_ui (Jv_un hw (by omega) (by omega) (by omega)) (by omega) (by omega)) (by omega) (by omega)
  · subst e
    have := h.1.2.2.2.1
    omega
theorem Jv_cache (h : Jv n p B w) {a : Nat} {x v : Int32} : Jv n p B (km_cache w a x v) := by
  have key : ∀ z, Jv n p B (km_ca2 w a z v) := fun z => by
    unfold km_ca2 km_ca1
    exact Jv_ui (Jv_un (Jv_ui (Jv_ui (Jv_ui h (by omega) (by omega)) (by omega) (by omega)) (by omega) (by omega)) (by omega) (by omega) (by omega)) (by omega) (by omega)
  unfold km_cache
  generalize (if w.1 23 0 a < 3 then w.1 23 0 a + 1 else 3) = z
  split
  · exact Jv_add (key _) (by omega)
  · exact key _
theorem Jv_setUp (h : Jv n p B w) {b : Nat} : Jv n p B (km_setUp w q b).2 := by
  unfold km_setUp
  repeat' split
  · exact Jv_cache (Jv_ui h (by omega) (by omega))
  · rename_i hb _; exact Jv_add (Jv_ui h (by omega) (by omega)) hb
  · exact h
  · exact h
theorem Jv_failUp (h : Jv n p B w) {a : Nat} (ha : a ≠ 0) : Jv n p B (km_failUp w a) := by
  unfold km_failUp
  split
  · exact Jv_un (Jv_un (Jv_un h (by omega) (by omega) (by omega)) (by omega) (by omega) (by omega)) (by omega) (fun _ => ⟨fun e => absurd e ha, fun e => absurd rfl e⟩) (by omega)
  · exact Jv_un h (by omega) (by omega) (by omega)
theorem Jv_up (h : Jv n p B w) {a b ch : Nat} : Jv n p B (km_up w a b ch) := by
  unfold km_up
  split
  · exact h
  · split
    · exact h
    · rename_i hz
      have ha : a ≠ 0 := fun e => hz (by rw [e]; exact h.1.2.2.2.1)
      have h1 : Jv n p B (ui w 0 0 4 (w.2.1 0 0 4 + nI 1)) := Jv_ui h (by omega) (by omega)
      have key : ∀ z W, Jv n p B W → Jv n p B (km_up2 z W a b ch) := fun z W hW => by
        unfold km_up2 km_up3
        have hl : Jv n p B (km_leave W a) := Jv_leave hW
        repeat' split
        · exact Jv_failUp hW ha
        · exact Jv_failUp hW ha
        · exact Jv_ui (Jv_un hl (by omega) (by omega) (by omega)) (by omega) (fun _ => hl.2 b)
        · exact Jv_ui (Jv_un hl (by omega) (by omega) (by omega)) (by omega) (fun _ => hl.2 a)
      unfold km_up1
      split
      · exact key _ _ h1
      · exact key _ _ (Jv_setUp h1)
theorem Jv_setDn (h : Jv n p B w) {b : Nat} : Jv n p B (km_setDn w q b).2 := by
  unfold km_setDn
  repeat' split
  · exact Jv_ui (Jv_ui h (by omega) (by omega)) (by omega) (by omega)
  · exact Jv_add (Jv_ui h (by omega) (by omega)) (by omega)
  · exact h
  · exact h
theorem Jv_failDn (h : Jv n p B w) {a : Nat} : Jv n p B (km_failDn w a) := by
  unfold km_failDn
  split
  · exact Jv_un (Jv_leave (Jv_un h (by omega) (by omega) (by omega))) (by omega) (by omega) (by omega)
  · exact Jv_un h (by omega) (by omega) (by omega)
theorem Jv_down (h : Jv n p B w) {pa : Nat → Option Nat} {a b ch : Nat} : Jv n p B (km_down pa w a b ch) := by
  have h1 : Jv n p B (ui w 0 0 4 (w.2.1 0 0 4 + nI 1)) := Jv_ui h (by omega) (by omega)
  have key : ∀ z W, Jv n p B W → Jv n p B (km_dn2 z W a ch) := fun z W hW => by
    unfold km_dn2
    repeat' split
    · exact Jv_failDn hW
    · exact Jv_failDn hW
    · exact Jv_un (Jv_leave hW) (by omega) (by omega) (by omega)
  unfold km_down km_dn1
  repeat' split
  · exact h
  · exact h
  · exact h
  · exact key _ _ h1
  · exact key _ _ (Jv_setDn (Jv_ui h1 (by omega) (fun _ => h1.2 a)))
theorem Jv_ad1 (h : Jv n p B w) {a b : Nat} (hb : b ≠ 0) : Jv n p B (km_ad1 a b w) := by
  unfold km_ad1
  repeat' split
  · exact h
  · exact h
  · rename_i h2 _
    exact Jv_un (Jv_ui (Jv_un h (by omega) (fun _ => ⟨fun e => absurd e hb, fun _ => h2⟩) (by omega)) (by omega) (fun _ => h.2 a)) (by omega) (by omega) (by omega)
  · exact h
  · exact Jv_ui h (by omega) (fun _ => h.2 a)
  · exact h
theorem Jv_advert (h : Jv n p B w) {a : Nat} : Jv n p B (km_advert n c w a) := by
  unfold km_advert
  repeat' split
  · exact h
  · exact h
  · exact Jv_fo (fun k W hW => Jv_ad1 hW (by omega)) _ _ h
theorem Jv_play1 (h : Jv n p B w) {pa : Nat → Option Nat} {sl k : Nat} : Jv n p B (km_play1 c pa sl k w) := by
  unfold km_play1
  repeat' split
  · exact Jv_down h
  · exact Jv_up h
  · exact h
/-! alike, piece by piece -/
theorem RR_app (hn : n ≤ 6) (h : RR n c u w) {e : Nat} {x v : Int32} (hr : r < 2 * n) (hq : q = r / 2 + 6 * (r % 2)) (hm : u.1 8 r 3 < 4) : RR n c (kc_append u r e x v) (km_add w q e x v) := by
  have e0 : u.1 8 r 3 = w.1 14 0 q := h.1 _ _ _ _ _ (cn_siz hr hq)
  unfold kc_append km_add
  rw [if_pos hm, ← e0]
  exact RR_un hn (RR_ui hn (RR_ui hn (RR_un hn h (cn_end hr hm (by omega)) _) (ci_num hr hm (by omega)) _) (ci_val hr hm (by omega)) _) (cn_siz hr hq) _
theorem RR_drp (hn : n ≤ 6) (h : RR n c u w) (hr : r < 2 * n) (hq : q = r / 2 + 6 * (r % 2)) (h4 : u.1 8 r 3 ≤ 4) : RR n c (kc_drop u r) (km_leave w q) := by
  have e0 : u.1 8 r 3 = w.1 14 0 q := h.1 _ _ _ _ _ (cn_siz hr hq)
  unfold kc_drop km_leave
  rw [← e0]
  by_cases hz : u.1 8 r 3 = 0
  · rw [if_pos hz, hz]
    show RR n c u (un w 14 0 q 0)
    rw [un_same (by rw [← e0, hz])]
    exact h
  · rw [if_neg hz]
    refine RR_fo (I := fun _ u w => RR n c u w) _ (RR_un hn h (cn_siz hr hq) _) (fun k U W hk g => ?_)
    have e1 : U.1 12 r (k + 1) = W.1 15 0 (4 * q + k + 1) := g.1 _ _ _ _ _ (cn_end hr (by omega) (by omega))
    have e2 : U.2.1 13 r (k + 1) = W.2.1 16 0 (4 * q + k + 1) := g.2.1 _ _ _ _ _ (ci_num hr (by omega) (by omega))
    have e3 : U.2.1 14 r (k + 1) = W.2.1 17 0 (4 * q + k + 1) := g.2.1 _ _ _ _ _ (ci_val hr (by omega) (by omega))
    show RR n c (kc_sh r k U) (km_lv1 q k W)
    unfold kc_sh km_lv1
    rw [← e1, ← e2, ← e3]
    exact RR_ui hn (RR_ui hn (RR_un hn g (cn_end hr (by omega) (by omega)) _) (ci_num hr (by omega) (by omega)) _) (ci_val hr (by omega) (by omega)) _
theorem RR_hears (h : RR n c u w) (hj : Jv n p B w) (hB : B ≤ 2 ^ 29) {a b ch : Nat} (ha : a < n) (hb : b < n) (hch : ch < c) : kc_hears u b a ch = km_hears w a b ch := by
  unfold kc_hears km_hears
  rw [h.cur hb, h.near hb ha, hj.1.1 b a hb ha, h.clk hb, h.clk ha, h.hrd hch, h.tim, kcl_eq hB (hj.2 a) (hj.2 b), kbit_eq]
theorem km_add_ui {e : Nat} {x v y : Int32} {j : Nat} : km_add (ui w 20 0 j y) r e x v = ui (km_add w r e x v) 20 0 j y := by
  unfold km_add
  show un (ui (ui (ui (un w 15 0 (4 * r + w.1 14 0 r) e) 20 0 j y) 16 0 (4 * r + w.1 14 0 r) x) 17 0 (4 * r + w.1 14 0 r) v) 14 0 r (w.1 14 0 r + 1) = _
  rw [ui_ui (k := 20) (k2 := 16) (by omega), ui_ui (k := 20) (k2 := 17) (by omega)]
  rfl
theorem kc_cache_sum {e : Nat} {v : Int32} (z : UU) (hz : ∀ i j, z.2.1 6 i j = u.2.1 6 i j) : kc_sum z e v = kc_sum u e v ∧ kc_cmd z e v = kc_cmd u e v := by
  unfold kc_cmd kc_sum
  rw [hz, hz, hz, hz]
  exact ⟨rfl, rfl⟩
theorem RR_cache (hn : n ≤ 6) (h1 : 1 ≤ n) (h : RR n c u w) (hk : u.1 6 q 1 ≤ 3) {x v : Int32} (hq : q < n) : RR n c (kc_cache u q x v) (km_cache w q x v) := by
  have es : kc_sum u q v = km_sum w q v := by
    unfold kc_sum km_sum
    rw [h.sum hq, h.tgt hq]
    exact kwn_eq _ (nI 2000) (by decide)
  have ec : kc_cmd u q v = km_cmd w q v := by
    unfold kc_cmd km_cmd
    rw [es, h.tgt hq, h.lps hq, h.lis hq, kfd_eq]
    exact kwn_eq _ (nI 500) (by decide)
  have e1 : ∀ i j, (kc_keep u q v).2.1 6 i j = u.2.1 6 i j := fun i j => by
    unfold kc_keep
    rw [un_2, ui_2, if_neg (by omega), ui_2, if_neg (by omega), ui_2, if_neg (by omega)]
  obtain ⟨e2, e3⟩ := kc_cache_sum (e := q) (v := v) (kc_keep u q v) e1
  have ez : (if u.1 6 q 1 + 1 < 3 then u.1 6 q 1 + 1 else 3) = (if w.1 23 0 q < 3 then w.1 23 0 q + 1 else 3) := by
    rw [← h.kpt hq]
    split <;> split <;> omega
  have hkeep : RR n c (ui (kc_keep u q v) 6 q 5 (km_sum w q v)) (km_ca2 w q (if w.1 23 0 q < 3 then w.1 23 0 q + 1 else 3) v) := by
    unfold kc_keep km_ca2 km_ca1
    rw [ez, h.new hq (j := 1) (by omega), h.new hq (j := 0) (by omega)]
    exact RR_ui hn (RR_un hn (RR_ui hn (RR_ui hn (RR_ui hn h (ci_new hq (j := 2) (by omega)) _) (ci_new hq (j := 1) (by omega)) _) (ci_new hq (j := 0) (by omega)) _) (cn_kpt hq) _) (ci_sum hq) _
  unfold kc_cache km_cache
  rw [e2, e3, es, ec]
  have e6 : (ui (kc_keep u q v) 6 q 5 (km_sum w q v)).1 8 (2 * 0 + 1) 3 = w.1 14 0 6 := by
    rw [← h.dnz (i := 0) (by omega)]
    unfold kc_keep
    rw [ui_1, un_1, if_neg (by omega)]
    rfl
  by_cases hm : w.1 14 0 6 < 4
  · rw [if_pos hm]
    exact RR_app hn hkeep (by omega) (by omega) (by rw [e6]; exact hm)
  · rw [if_neg hm]
    unfold kc_append
    rw [if_neg (by rw [e6]; exact hm)]
    exact hkeep
theorem km_cache_ui {a j : Nat} {x v y : Int32} : km_cache (ui w 20 0 j y) a x v = ui (km_cache w a x v) 20 0 j y := by
  have e1 : ∀ z, km_ca2 (ui w 20 0 j y) a z v = ui (km_ca2 w a z v) 20 0 j y := fun z => by
    unfold km_ca2 km_ca1 km_sum
    rw [ui_2, ui_2, ui_2, ui_2, if_neg (by omega), if_neg (by omega), if_neg (by omega), if_neg (by omega)]
    rw [ui_ui (k := 20) (k2 := 22) (by omega), ui_ui (k := 20) (k2 := 22) (by omega), ui_ui (k := 20) (k2 := 22) (by omega), un_ui, ui_ui (k := 20) (k2 := 27) (by omega)]
  have e2 : km_cmd (ui w 20 0 j y) a v = km_cmd w a v := by
    unfold km_cmd km_sum
    rw [ui_2, ui_2, ui_2, ui_2, if_neg (by omega), if_neg (by omega), if_neg (by omega), if_neg (by omega)]
  unfold km_cache
  rw [ui_1, e1, e2, km_add_ui]
  split <;> rfl
end JS
