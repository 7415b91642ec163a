/-! Class and model: sending alike -/
def Lp (n : Nat) (u w : UU) : Prop := (∀ i, i < n → u.2.1 17 (u.2.2.2 5) i = w.2.1 9 0 (2 * i)) ∧ w.2.1 9 0 0 = -1
theorem Lp_st {n : Nat} {u w U W : UU} (h : Lp n u w) (h1 : sp u U) (h2 : sm w W) : Lp n U W := by
  refine ⟨fun i hi => ?_, ?_⟩
  · rw [h1.2.2, h1.2.1 17 _ _ (by decide), h2.2.1, h.1 i hi]
  · rw [h2.2.1]; exact h.2
theorem kc_drop_un {u : UU} {a z r : Nat} : kc_drop (un u 4 a 11 z) r = un (kc_drop u r) 4 a 11 z := by
  have key : ∀ m W, fo (kc_sh r) (un W 4 a 11 z) m = un (fo (kc_sh r) W m) 4 a 11 z := by
    intro m W
    induction m with
    | zero => rfl
    | succ m ih =>
      rw [fo_s, fo_s, ih]
      unfold kc_sh
      rw [un_1, if_neg (by omega), un_unc (k := 4) (k2 := 12) (by omega)]
      rfl
  have e : (un u 4 a 11 z).1 8 r 3 = u.1 8 r 3 := by rw [un_1, if_neg (by omega)]
  unfold kc_drop
  rw [e]
  by_cases h : u.1 8 r 3 = 0
  · rw [if_pos h, if_pos h]
  · rw [if_neg h, if_neg h, un_unc (k := 4) (k2 := 8) (by omega)]
    exact key _ _
section SD
variable {n c : Nat} {p : Nat → Nat} {B : Int} {u w : UU} {a b ch : Nat}
theorem RR_setUp (hn : n ≤ 6) (h1 : 1 ≤ n) (h : RR n c u w) (hu : wf n u) (ha : a < n) (hb : b < n) : (kc_settleUp u (2 * a) b).1 = (km_setUp w (4 * a) b).1 ∧ RR n c (kc_settleUp u (2 * a) b).2 (km_setUp w (4 * a) b).2 := by
  have ee : u.1 12 (2 * a) 0 = w.1 15 0 (4 * a) := h.upe ha (j := 0) (by omega)
  have en : u.2.1 13 (2 * a) 0 = w.2.1 16 0 (4 * a) := h.upn ha (j := 0) (by omega)
  have ev : u.2.1 14 (2 * a) 0 = w.2.1 17 0 (4 * a) := h.upv ha (j := 0) (by omega)
  have he : w.1 15 0 (4 * a) < n := by rw [← ee]; exact hu.2.2.2.2.2.2.1 (2 * a) 0
  unfold kc_settleUp km_setUp
  rw [ee, en, ev, h.tku hb he]
  by_cases hlt : w.2.1 20 0 (6 * b + w.1 15 0 (4 * a)) < w.2.1 16 0 (4 * a)
  · rw [if_pos hlt, if_pos hlt]
    by_cases h0 : b = 0
    · rw [if_pos h0, if_pos h0]
      refine ⟨rfl, ?_⟩
      show RR n c (ui (kc_cache u (w.1 15 0 (4 * a)) (w.2.1 16 0 (4 * a)) (w.2.1 17 0 (4 * a))) 9 b (w.1 15 0 (4 * a)) (w.2.1 16 0 (4 * a))) (km_cache (ui w 20 0 (6 * b + w.1 15 0 (4 * a)) (w.2.1 16 0 (4 * a))) (w.1 15 0 (4 * a)) (w.2.1 16 0 (4 * a)) (w.2.1 17 0 (4 * a)))
      rw [km_cache_ui]
      exact RR_ui hn (RR_cache hn h1 h (hu.2.2.2.2.2.2.2.1 _) he) (ci_tku hb he) _
    · rw [if_neg h0, if_neg h0]
      have ez := h.upz hb
      rw [ez]
      by_cases hz : w.1 14 0 b < 4
      · rw [if_pos hz, if_pos hz]
        refine ⟨rfl, ?_⟩
        show RR n c (ui (kc_append u (2 * b) (w.1 15 0 (4 * a)) (w.2.1 16 0 (4 * a)) (w.2.1 17 0 (4 * a))) 9 b (w.1 15 0 (4 * a)) (w.2.1 16 0 (4 * a))) (km_add (ui w 20 0 (6 * b + w.1 15 0 (4 * a)) (w.2.1 16 0 (4 * a))) b (w.1 15 0 (4 * a)) (w.2.1 16 0 (4 * a)) (w.2.1 17 0 (4 * a)))
        rw [km_add_ui]
        exact RR_ui hn (RR_app hn h (by omega) (by omega) (by rw [ez]; exact hz)) (ci_tku hb he) _
      · rw [if_neg hz, if_neg hz]
        exact ⟨rfl, h⟩
  · rw [if_neg hlt, if_neg hlt]
    exact ⟨rfl, h⟩
theorem RR_up2 (z : Nat) (hn : n ≤ 6) (h : RR n c u w) (hu : wf n u) (hw : wm n w) (hl : Lp n u w) (ha : a < n) (hb : b < n) (hch : ch < c) : RR n c (kc_up2 z u a b ch) (km_up2 z w a b ch) := by
  have hf : RR n c (kc_failUp u a) (km_failUp w a) := by
    have hb3 := hu.2.2.2.1 a
    unfold kc_failUp km_failUp
    rw [← h.fls ha]
    by_cases e : u.1 4 a 10 + 1 < 4
    · rw [if_pos e, if_neg (by omega)]
      exact RR_un hn h (cn_fls ha) _
    · rw [if_neg e, if_pos (by omega)]
      exact RR_un hn (RR_un hn (RR_un hn h (cn_fls ha) _) (cn_fls ha) _) (cn_cur ha) _
  unfold kc_up2 km_up2
  rw [h.cfm hch, h.tim, kbit_eq]
  by_cases e1 : z = 0
  · rw [if_pos e1, if_pos e1]; exact hf
  · rw [if_neg e1, if_neg e1]
    by_cases e2 : kbitm (w.2.2.1 7 0 ch) (w.1 0 0 3) = 0
    · rw [if_pos e2, if_pos e2]; exact hf
    · rw [if_neg e2, if_neg e2]
      have hd : RR n c (kc_drop u (2 * a)) (km_leave w a) := RR_drp hn h (by omega) (by omega) (hu.2.2.2.2.2.1 _)
      have hl2 := Lp_st hl (ev_drop (r := 2 * a) hu).2 (em_leave (r := a) hw).2
      unfold kc_up3 km_up3
      rw [hl2.1 a ha]
      by_cases e3 : (km_leave w a).2.1 9 0 (2 * a) = nI b
      · rw [if_pos e3, if_pos e3, hd.clk hb]
        exact RR_ui hn (RR_un hn hd (cn_fls ha) _) (ci_clk ha) _
      · have e4 : ui (un (km_leave w a) 18 0 a 0) 4 0 a ((km_leave w a).2.1 4 0 a) = un (km_leave w a) 18 0 a 0 := ui_same rfl
        rw [if_neg e3, if_neg e3, e4]
        exact RR_un hn hd (cn_fls ha) _
theorem RR_up (hn : n ≤ 6) (h1 : 1 ≤ n) (h : RR n c u w) (hu : wf n u) (hw : wm n w) (hl : Lp n u w) (hj : Jv n p B w) (hB : B ≤ 2 ^ 29) (ha : a < n) (hb : b < n) (hch : ch < c) : RR n c (kc_sendUp u a b ch) (km_up w a b ch) := by
  unfold kc_sendUp km_up
  rw [h.cur ha, h.upz ha]
  by_cases e1 : w.1 3 0 a = 0
  · rw [if_pos e1, if_pos e1]; exact h
  · rw [if_neg e1, if_neg e1]
    by_cases e2 : w.1 14 0 a = 0
    · rw [if_pos e2, if_pos e2]; exact h
    · rw [if_neg e2, if_neg e2]
      have h2 : RR n c (ui u 0 0 8 (u.2.1 0 0 8 + nI 1)) (ui w 0 0 4 (w.2.1 0 0 4 + nI 1)) := by
        rw [h.snt]; exact RR_ui hn h ci_snt _
      have hu2 : wf n (ui u 0 0 8 (u.2.1 0 0 8 + nI 1)) := hu
      have hw2 : wm n (ui w 0 0 4 (w.2.1 0 0 4 + nI 1)) := hw
      have hl2 : Lp n (ui u 0 0 8 (u.2.1 0 0 8 + nI 1)) (ui w 0 0 4 (w.2.1 0 0 4 + nI 1)) := Lp_st hl (sp_ui u (by omega) _ _ _) (sm_ui w (by omega) _ _ _)
      have hj2 : Jv n p B (ui w 0 0 4 (w.2.1 0 0 4 + nI 1)) := Jv_ui hj (by omega) (by omega)
      generalize ui u 0 0 8 (u.2.1 0 0 8 + nI 1) = U at h2 hu2 hl2 ⊢
      generalize ui w 0 0 4 (w.2.1 0 0 4 + nI 1) = W at h2 hw2 hl2 hj2 ⊢
      unfold kc_up1 km_up1
      rw [RR_hears h2 hj2 hB ha hb hch]
      by_cases e3 : km_hears W a b ch = 0
      · rw [if_pos e3, if_pos e3]
        exact RR_up2 _ hn h2 hu2 hw2 hl2 ha hb hch
      · rw [if_neg e3, if_neg e3]
        obtain ⟨s1, s2⟩ := RR_setUp hn h1 h2 hu2 ha hb
        rw [s1]
        exact RR_up2 _ hn s2 ((ev_settleUp hu2).1 hu2) ((em_setUp hw2).1 hw2) (Lp_st hl2 (ev_settleUp hu2).2 (em_setUp hw2).2) ha hb hch
theorem RR_setDn (hn : n ≤ 6) (h : RR n c u w) (hu : wf n u) (ha : a < n) (hb : b < n) : (kc_settleDown u (2 * a + 1) b).1 = (km_setDn w (4 * (6 + a)) b).1 ∧ RR n c (kc_settleDown u (2 * a + 1) b).2 (km_setDn w (4 * (6 + a)) b).2 := by
  have ee : u.1 12 (2 * a + 1) 0 = w.1 15 0 (4 * (6 + a)) := h.dne ha (j := 0) (by omega)
  have en : u.2.1 13 (2 * a + 1) 0 = w.2.1 16 0 (4 * (6 + a)) := h.dnn ha (j := 0) (by omega)
  have ev : u.2.1 14 (2 * a + 1) 0 = w.2.1 17 0 (4 * (6 + a)) := h.dnv ha (j := 0) (by omega)
  have he : w.1 15 0 (4 * (6 + a)) < n := by rw [← ee]; exact hu.2.2.2.2.2.2.1 (2 * a + 1) 0
  unfold kc_settleDown km_setDn
  rw [ee, en, ev, h.tkd hb he]
  by_cases hlt : w.2.1 20 0 (36 + 6 * b + w.1 15 0 (4 * (6 + a))) < w.2.1 16 0 (4 * (6 + a))
  · rw [if_pos hlt, if_pos hlt]
    by_cases h0 : b = w.1 15 0 (4 * (6 + a))
    · rw [if_pos h0, if_pos h0.symm]
      refine ⟨rfl, ?_⟩
      show RR n c (ui (ui u 4 b 13 (w.2.1 17 0 (4 * (6 + a)))) 10 b (w.1 15 0 (4 * (6 + a))) (w.2.1 16 0 (4 * (6 + a)))) (ui (ui w 20 0 (36 + 6 * b + w.1 15 0 (4 * (6 + a))) (w.2.1 16 0 (4 * (6 + a)))) 28 0 b (w.2.1 17 0 (4 * (6 + a))))
      rw [ui_ui (k := 20) (k2 := 28) (by omega)]
      exact RR_ui hn (RR_ui hn h (ci_act hb) _) (ci_tkd hb he) _
    · rw [if_neg h0, if_neg (show ¬ w.1 15 0 (4 * (6 + a)) = b from fun q => h0 q.symm)]
      have ez := h.dnz hb
      rw [ez]
      by_cases hz : w.1 14 0 (6 + b) < 4
      · rw [if_pos hz, if_pos hz]
        refine ⟨rfl, ?_⟩
        show RR n c (ui (kc_append u (2 * b + 1) (w.1 15 0 (4 * (6 + a))) (w.2.1 16 0 (4 * (6 + a))) (w.2.1 17 0 (4 * (6 + a)))) 10 b (w.1 15 0 (4 * (6 + a))) (w.2.1 16 0 (4 * (6 + a)))) (km_add (ui w 20 0 (36 + 6 * b + w.1 15 0 (4 * (6 + a))) (w.2.1 16 0 (4 * (6 + a)))) (6 + b) (w.1 15 0 (4 * (6 + a))) (w.2.1 16 0 (4 * (6 + a))) (w.2.1 17 0 (4 * (6 + a))))
        rw [km_add_ui]
        exact RR_ui hn (RR_app hn h (by omega) (by omega) (by rw [ez]; exact hz)) (ci_tkd hb he) _
      · rw [if_neg hz, if_neg hz]
        exact ⟨rfl, h⟩
  · rw [if_neg hlt, if_neg hlt]
    exact ⟨rfl, h⟩
theorem RR_dn2 (z : Nat) (hn : n ≤ 6) (h : RR n c u w) (hu : wf n u) (ha : a < n) (hch : ch < c) : RR n c (kc_dn2 z u a ch) (km_dn2 z w a ch) := by
  have hf : RR n c (kc_failDown u a) (km_failDn w a) := by
    have hb5 := hu.2.2.2.2.1 a
    unfold kc_failDown km_failDn
    rw [← h.trs ha]
    by_cases e : u.1 4 a 11 + 1 < 6
    · rw [if_pos e, if_neg (by omega)]
      exact RR_un hn h (cn_trs ha) _
    · rw [if_neg e, if_pos (by omega), kc_drop_un]
      exact RR_un hn (RR_drp hn (RR_un hn h (cn_trs ha) _) (by omega) (by omega) (by rw [un_1, if_neg (by omega)]; exact hu.2.2.2.2.2.1 _)) (cn_trs ha) _
  unfold kc_dn2 km_dn2
  rw [h.cfm hch, h.tim, kbit_eq]
  by_cases e1 : z = 0
  · rw [if_pos e1, if_pos e1]; exact hf
  · rw [if_neg e1, if_neg e1]
    by_cases e2 : kbitm (w.2.2.1 7 0 ch) (w.1 0 0 3) = 0
    · rw [if_pos e2, if_pos e2]; exact hf
    · rw [if_neg e2, if_neg e2]
      exact RR_un hn (RR_drp hn h (by omega) (by omega) (hu.2.2.2.2.2.1 _)) (cn_trs ha) _
theorem RR_down {fa pa : Nat → Option Nat} (hn : n ≤ 6) (h : RR n c u w) (hu : wf n u) (hj : Jv n p B w) (hB : B ≤ 2 ^ 29) (hk : ∀ b x, x < n → kleads fa b n (some x) = kbel pa b 6 (some x)) (ha : a < n) (hb : b < n) (hch : ch < c) : RR n c (kc_sendDown n fa u a b ch) (km_down pa w a b ch) := by
  have ee : u.1 12 (2 * a + 1) 0 = w.1 15 0 (4 * (6 + a)) := h.dne ha (j := 0) (by omega)
  have he : w.1 15 0 (4 * (6 + a)) < n := by rw [← ee]; exact hu.2.2.2.2.2.2.1 (2 * a + 1) 0
  unfold kc_sendDown km_down
  rw [h.cur ha, h.dnz ha, ee, hk b _ he]
  by_cases e1 : w.1 3 0 a = 0
  · rw [if_pos e1, if_pos e1]; exact h
  · rw [if_neg e1, if_neg e1]
    by_cases e2 : w.1 14 0 (6 + a) = 0
    · rw [if_pos e2, if_pos e2]; exact h
    · rw [if_neg e2, if_neg e2]
      by_cases e4 : kbel pa b 6 (some (w.1 15 0 (4 * (6 + a)))) = 0
      · rw [if_pos e4, if_pos e4]; exact h
      · rw [if_neg e4, if_neg e4]
        have h2 : RR n c (ui u 0 0 8 (u.2.1 0 0 8 + nI 1)) (ui w 0 0 4 (w.2.1 0 0 4 + nI 1)) := by
          rw [h.snt]; exact RR_ui hn h ci_snt _
        have hu2 : wf n (ui u 0 0 8 (u.2.1 0 0 8 + nI 1)) := hu
        have hj2 : Jv n p B (ui w 0 0 4 (w.2.1 0 0 4 + nI 1)) := Jv_ui hj (by omega) (by omega)
        generalize ui u 0 0 8 (u.2.1 0 0 8 + nI 1) = U at h2 hu2 ⊢
        generalize ui w 0 0 4 (w.2.1 0 0 4 + nI 1) = W at h2 hj2 ⊢
        unfold kc_dn1 km_dn1
        rw [RR_hears h2 hj2 hB ha hb hch]
        by_cases e3 : km_hears W a b ch = 0
        · rw [if_pos e3, if_pos e3]
          exact RR_dn2 _ hn h2 hu2 ha hch
        · rw [if_neg e3, if_neg e3]
          have h3 : RR n c (ui U 4 b 8 (U.2.1 4 a 8)) (ui W 4 0 b (W.2.1 4 0 a)) := by
            rw [h2.clk ha]; exact RR_ui hn h2 (ci_clk hb) _
          have hu3 : wf n (ui U 4 b 8 (U.2.1 4 a 8)) := hu2
          obtain ⟨s1, s2⟩ := RR_setDn hn h3 hu3 ha hb
          rw [s1]
          exact RR_dn2 _ hn s2 ((ev_settleDown hu3).1 hu3) ha hch
theorem RR_ad1 {k : Nat} (hn : n ≤ 6) (h : RR n c u w) (hl : Lp n u w) (hj : Jv n p B w) (hB : B ≤ 2 ^ 29) (ha : a < n) (hk : k < n) : RR n c (kc_ad1 a k u) (km_ad1 a k w) := by
  unfold kc_ad1 km_ad1 kc_answer
  rw [h.near ha hk, h.sta hk, h.cur hk, hl.1 k hk, h.clk hk, h.clk ha, kcl_eq hB (hj.2 a) (hj.2 k)]
  by_cases e1 : w.1 1 0 (6 * a + k) = 0
  · rw [if_pos e1, if_pos e1]; exact h
  · rw [if_neg e1, if_neg e1]
    by_cases e2 : w.1 2 0 k = 0
    · rw [if_pos e2, if_pos e2]; exact h
    · rw [if_neg e2, if_neg e2]
      by_cases e3 : w.1 3 0 k = 0
      · rw [if_pos e3, if_pos e3]
        exact RR_un hn (RR_ui hn (RR_un hn h (cn_cur hk) _) (ci_clk hk) _) (cn_fls hk) _
      · rw [if_neg e3, if_neg e3]
        by_cases e4 : w.2.1 9 0 (2 * k) = nI a
        · rw [if_pos e4, if_pos e4]
          by_cases e5 : kclm (w.2.1 4 0 a) (w.2.1 4 0 k) = 0
          · rw [if_pos e5, if_pos e5]; exact h
          · rw [if_neg e5, if_neg e5]
            exact RR_ui hn h (ci_clk hk) _
        · rw [if_neg e4, if_neg e4]; exact h
theorem RR_advert (hn : n ≤ 6) (h1 : 1 ≤ n) (h : RR n c u w) (hl : Lp n u w) (hj : Jv n p B w) (hB : B ≤ 2 ^ 29) (ha : a < n) (h0 : 0 < c) : RR n c (kc_advertise n u a ((0 + u.1 0 0 7) % c)) (km_advert n c w a) := by
  unfold kc_advertise km_advert
  rw [h.tim, Nat.zero_add, h.cur ha, h.hrd (Nat.mod_lt _ h0), kbit_eq]
  by_cases e1 : w.1 3 0 a = 0
  · rw [if_pos e1, if_pos e1]; exact h
  · rw [if_neg e1, if_neg e1]
    by_cases e2 : kbitm (w.2.2.1 6 0 (w.1 0 0 3 % c)) (w.1 0 0 3) = 0
    · rw [if_pos e2, if_pos e2]; exact h
    · rw [if_neg e2, if_neg e2]
      obtain ⟨m, rfl⟩ : ∃ m, n = m + 1 := ⟨n - 1, by omega⟩
      have e0 : kc_ad1 a 0 u = u := by
        unfold kc_ad1 kc_answer
        have e3 : u.1 4 0 7 = 1 := by rw [h.cur (by omega)]; exact hj.1.2.2.1
        have e4 : u.2.1 17 (u.2.2.2 5) 0 = -1 := by rw [hl.1 0 (by omega)]; exact hl.2
        rw [if_neg (show ¬ u.1 4 0 7 = 0 by omega), if_neg (show ¬ u.2.1 17 (u.2.2.2 5) 0 = nI a by rw [e4]; exact nI_m1' (by omega))]
        split
        · rfl
        · split <;> rfl
      rw [fo_sh, e0, Nat.add_sub_cancel]
      refine (RR_fo (I := fun _ U W => RR (m + 1) c U W ∧ Lp (m + 1) U W ∧ Jv (m + 1) p B W) m ⟨h, hl, hj⟩ (fun k U W hk g => ?_)).1
      exact ⟨RR_ad1 hn g.1 g.2.1 g.2.2 hB ha (by omega), Lp_st g.2.1 (ev_ad1 (n := m + 1)).2 (em_ad1 (n := m + 1)).2, Jv_ad1 g.2.2 (by omega)⟩
end SD
