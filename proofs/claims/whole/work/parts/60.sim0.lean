/-! Class and model: places that hold the same -/
def CN (n k i j k2 j2 : Nat) : Prop :=
  (k = 7 ∧ k2 = 1 ∧ i < n ∧ j < n ∧ j2 = 6 * i + j) ∨ (k = 4 ∧ j = 6 ∧ k2 = 2 ∧ i < n ∧ j2 = i) ∨ (k = 4 ∧ j = 7 ∧ k2 = 3 ∧ i < n ∧ j2 = i) ∨ (k = 4 ∧ j = 10 ∧ k2 = 18 ∧ i < n ∧ j2 = i) ∨ (k = 4 ∧ j = 11 ∧ k2 = 19 ∧ i < n ∧ j2 = i) ∨ (k = 8 ∧ j = 3 ∧ k2 = 14 ∧ i < 2 * n ∧ j2 = i / 2 + 6 * (i % 2)) ∨ (k = 12 ∧ j < 4 ∧ k2 = 15 ∧ i < 2 * n ∧ j2 = 4 * (i / 2 + 6 * (i % 2)) + j) ∨ (k = 6 ∧ j = 1 ∧ k2 = 23 ∧ i < n ∧ j2 = i) ∨ (k = 0 ∧ i = 0 ∧ j = 7 ∧ k2 = 0 ∧ j2 = 3)
def CI (n k i j k2 j2 : Nat) : Prop :=
  (k = 4 ∧ j = 8 ∧ k2 = 4 ∧ i < n ∧ j2 = i) ∨ (k = 4 ∧ j = 9 ∧ k2 = 5 ∧ i < n ∧ j2 = i) ∨ (k = 4 ∧ j = 12 ∧ k2 = 21 ∧ i < n ∧ j2 = i) ∨ (k = 4 ∧ j = 13 ∧ k2 = 28 ∧ i < n ∧ j2 = i) ∨ (k = 13 ∧ j < 4 ∧ k2 = 16 ∧ i < 2 * n ∧ j2 = 4 * (i / 2 + 6 * (i % 2)) + j) ∨ (k = 14 ∧ j < 4 ∧ k2 = 17 ∧ i < 2 * n ∧ j2 = 4 * (i / 2 + 6 * (i % 2)) + j) ∨ (k = 9 ∧ k2 = 20 ∧ i < n ∧ j < n ∧ j2 = 6 * i + j) ∨ (k = 10 ∧ k2 = 20 ∧ i < n ∧ j < n ∧ j2 = 36 + 6 * i + j) ∨ (k = 6 ∧ j = 2 ∧ k2 = 24 ∧ i < n ∧ j2 = i) ∨ (k = 6 ∧ j = 3 ∧ k2 = 25 ∧ i < n ∧ j2 = i) ∨ (k = 6 ∧ j = 4 ∧ k2 = 26 ∧ i < n ∧ j2 = i) ∨ (k = 6 ∧ j = 5 ∧ k2 = 27 ∧ i < n ∧ j2 = i) ∨ (k = 11 ∧ j < 3 ∧ k2 = 22 ∧ i < n ∧ j2 = 3 * i + j) ∨ (k = 0 ∧ i = 0 ∧ j = 8 ∧ k2 = 0 ∧ j2 = 4)
def CL (c k i j k2 j2 : Nat) : Prop := (k = 5 ∧ j = 0 ∧ k2 = 6 ∧ i < c ∧ j2 = i) ∨ (k = 5 ∧ j = 1 ∧ k2 = 7 ∧ i < c ∧ j2 = i)
/-- alike: all places of the class that the model has too -/
def RR (n c : Nat) (u w : UU) : Prop := (∀ k i j k2 j2, CN n k i j k2 j2 → u.1 k i j = w.1 k2 0 j2) ∧ (∀ k i j k2 j2, CI n k i j k2 j2 → u.2.1 k i j = w.2.1 k2 0 j2) ∧ ∀ k i j k2 j2, CL c k i j k2 j2 → u.2.2.1 k i j = w.2.2.1 k2 0 j2
theorem cn_near {n i j : Nat} (hi : i < n) (hj : j < n) : CN n 7 i j 1 (6 * i + j) := Or.inl ⟨rfl, rfl, hi, hj, rfl⟩
theorem cn_sta {n i : Nat} (hi : i < n) : CN n 4 i 6 2 i := Or.inr (Or.inl ⟨rfl, rfl, rfl, hi, rfl⟩)
theorem cn_cur {n i : Nat} (hi : i < n) : CN n 4 i 7 3 i := Or.inr (Or.inr (Or.inl ⟨rfl, rfl, rfl, hi, rfl⟩))
theorem cn_fls {n i : Nat} (hi : i < n) : CN n 4 i 10 18 i := Or.inr (Or.inr (Or.inr (Or.inl ⟨rfl, rfl, rfl, hi, rfl⟩)))
theorem cn_trs {n i : Nat} (hi : i < n) : CN n 4 i 11 19 i := Or.inr (Or.inr (Or.inr (Or.inr (Or.inl ⟨rfl, rfl, rfl, hi, rfl⟩))))
theorem cn_siz {n r q : Nat} (hr : r < 2 * n) (hq : q = r / 2 + 6 * (r % 2)) : CN n 8 r 3 14 q := Or.inr (Or.inr (Or.inr (Or.inr (Or.inr (Or.inl ⟨rfl, rfl, rfl, hr, hq⟩)))))
theorem cn_end {n r j q : Nat} (hr : r < 2 * n) (hj : j < 4) (hq : q = 4 * (r / 2 + 6 * (r % 2)) + j) : CN n 12 r j 15 q := Or.inr (Or.inr (Or.inr (Or.inr (Or.inr (Or.inr (Or.inl ⟨rfl, hj, rfl, hr, hq⟩))))))
theorem cn_kpt {n i : Nat} (hi : i < n) : CN n 6 i 1 23 i := Or.inr (Or.inr (Or.inr (Or.inr (Or.inr (Or.inr (Or.inr (Or.inl ⟨rfl, rfl, rfl, hi, rfl⟩)))))))
theorem cn_tim {n : Nat}  : CN n 0 0 7 0 3 := Or.inr (Or.inr (Or.inr (Or.inr (Or.inr (Or.inr (Or.inr (Or.inr (⟨rfl, rfl, rfl, rfl, rfl⟩))))))))
theorem ci_clk {n i : Nat} (hi : i < n) : CI n 4 i 8 4 i := Or.inl ⟨rfl, rfl, rfl, hi, rfl⟩
theorem ci_dft {n i : Nat} (hi : i < n) : CI n 4 i 9 5 i := Or.inr (Or.inl ⟨rfl, rfl, rfl, hi, rfl⟩)
theorem ci_cnt {n i : Nat} (hi : i < n) : CI n 4 i 12 21 i := Or.inr (Or.inr (Or.inl ⟨rfl, rfl, rfl, hi, rfl⟩))
theorem ci_act {n i : Nat} (hi : i < n) : CI n 4 i 13 28 i := Or.inr (Or.inr (Or.inr (Or.inl ⟨rfl, rfl, rfl, hi, rfl⟩)))
theorem ci_num {n r j q : Nat} (hr : r < 2 * n) (hj : j < 4) (hq : q = 4 * (r / 2 + 6 * (r % 2)) + j) : CI n 13 r j 16 q := Or.inr (Or.inr (Or.inr (Or.inr (Or.inl ⟨rfl, hj, rfl, hr, hq⟩))))
theorem ci_val {n r j q : Nat} (hr : r < 2 * n) (hj : j < 4) (hq : q = 4 * (r / 2 + 6 * (r % 2)) + j) : CI n 14 r j 17 q := Or.inr (Or.inr (Or.inr (Or.inr (Or.inr (Or.inl ⟨rfl, hj, rfl, hr, hq⟩)))))
theorem ci_tku {n i j : Nat} (hi : i < n) (hj : j < n) : CI n 9 i j 20 (6 * i + j) := Or.inr (Or.inr (Or.inr (Or.inr (Or.inr (Or.inr (Or.inl ⟨rfl, rfl, hi, hj, rfl⟩))))))
theorem ci_tkd {n i j : Nat} (hi : i < n) (hj : j < n) : CI n 10 i j 20 (36 + 6 * i + j) := Or.inr (Or.inr (Or.inr (Or.inr (Or.inr (Or.inr (Or.inr (Or.inl ⟨rfl, rfl, hi, hj, rfl⟩)))))))
theorem ci_tgt {n i : Nat} (hi : i < n) : CI n 6 i 2 24 i := Or.inr (Or.inr (Or.inr (Or.inr (Or.inr (Or.inr (Or.inr (Or.inr (Or.inl ⟨rfl, rfl, rfl, hi, rfl⟩))))))))
theorem ci_lps {n i : Nat} (hi : i < n) : CI n 6 i 3 25 i := Or.inr (Or.inr (Or.inr (Or.inr (Or.inr (Or.inr (Or.inr (Or.inr (Or.inr (Or.inl ⟨rfl, rfl, rfl, hi, rfl⟩)))))))))
theorem ci_lis {n i : Nat} (hi : i < n) : CI n 6 i 4 26 i := Or.inr (Or.inr (Or.inr (Or.inr (Or.inr (Or.inr (Or.inr (Or.inr (Or.inr (Or.inr (Or.inl ⟨rfl, rfl, rfl, hi, rfl⟩))))))))))
theorem ci_sum {n i : Nat} (hi : i < n) : CI n 6 i 5 27 i := Or.inr (Or.inr (Or.inr (Or.inr (Or.inr (Or.inr (Or.inr (Or.inr (Or.inr (Or.inr (Or.inr (Or.inl ⟨rfl, rfl, rfl, hi, rfl⟩)))))))))))
theorem ci_new {n i j : Nat} (hi : i < n) (hj : j < 3) : CI n 11 i j 22 (3 * i + j) := Or.inr (Or.inr (Or.inr (Or.inr (Or.inr (Or.inr (Or.inr (Or.inr (Or.inr (Or.inr (Or.inr (Or.inr (Or.inl ⟨rfl, hj, rfl, hi, rfl⟩))))))))))))
theorem ci_snt {n : Nat}  : CI n 0 0 8 0 4 := Or.inr (Or.inr (Or.inr (Or.inr (Or.inr (Or.inr (Or.inr (Or.inr (Or.inr (Or.inr (Or.inr (Or.inr (Or.inr (⟨rfl, rfl, rfl, rfl, rfl⟩)))))))))))))
theorem cl_hrd {c i : Nat} (hi : i < c) : CL c 5 i 0 6 i := Or.inl ⟨rfl, rfl, rfl, hi, rfl⟩
theorem cl_cfm {c i : Nat} (hi : i < c) : CL c 5 i 1 7 i := Or.inr (⟨rfl, rfl, rfl, hi, rfl⟩)
set_option maxHeartbeats 4000000 in
theorem CN_f {n k i j k2 j2 k4 j4 : Nat} (h : CN n k i j k2 j2) (g : CN n k i j k4 j4) : k4 = k2 ∧ j4 = j2 := by
  unfold CN at h g
  rcases h with ⟨a1, a2, a3, a4, a5⟩ | ⟨a1, a2, a3, a4, a5⟩ | ⟨a1, a2, a3, a4, a5⟩ | ⟨a1, a2, a3, a4, a5⟩ | ⟨a1, a2, a3, a4, a5⟩ | ⟨a1, a2, a3, a4, a5⟩ | ⟨a1, a2, a3, a4, a5⟩ | ⟨a1, a2, a3, a4, a5⟩ | ⟨a1, a2, a3, a4, a5⟩ <;> rcases g with ⟨b1, b2, b3, b4, b5⟩ | ⟨b1, b2, b3, b4, b5⟩ | ⟨b1, b2, b3, b4, b5⟩ | ⟨b1, b2, b3, b4, b5⟩ | ⟨b1, b2, b3, b4, b5⟩ | ⟨b1, b2, b3, b4, b5⟩ | ⟨b1, b2, b3, b4, b5⟩ | ⟨b1, b2, b3, b4, b5⟩ | ⟨b1, b2, b3, b4, b5⟩ <;> refine ⟨?_, ?_⟩ <;> omega
set_option maxHeartbeats 4000000 in
theorem CN_g {n k i j k2 j2 k3 i3 j3 : Nat} (hn : n ≤ 6) (h : CN n k i j k2 j2) (g : CN n k3 i3 j3 k2 j2) : k3 = k ∧ i3 = i ∧ j3 = j := by
  unfold CN at h g
  rcases h with ⟨a1, a2, a3, a4, a5⟩ | ⟨a1, a2, a3, a4, a5⟩ | ⟨a1, a2, a3, a4, a5⟩ | ⟨a1, a2, a3, a4, a5⟩ | ⟨a1, a2, a3, a4, a5⟩ | ⟨a1, a2, a3, a4, a5⟩ | ⟨a1, a2, a3, a4, a5⟩ | ⟨a1, a2, a3, a4, a5⟩ | ⟨a1, a2, a3, a4, a5⟩ <;> rcases g with ⟨b1, b2, b3, b4, b5⟩ | ⟨b1, b2, b3, b4, b5⟩ | ⟨b1, b2, b3, b4, b5⟩ | ⟨b1, b2, b3, b4, b5⟩ | ⟨b1, b2, b3, b4, b5⟩ | ⟨b1, b2, b3, b4, b5⟩ | ⟨b1, b2, b3, b4, b5⟩ | ⟨b1, b2, b3, b4, b5⟩ | ⟨b1, b2, b3, b4, b5⟩ <;> refine ⟨?_, ?_, ?_⟩ <;> omega
theorem CN_inj {n k i j k2 j2 k3 i3 j3 k4 j4 : Nat} (hn : n ≤ 6) (h : CN n k i j k2 j2) (g : CN n k3 i3 j3 k4 j4) : (k3 = k ∧ i3 = i ∧ j3 = j) ↔ (k4 = k2 ∧ j4 = j2) := by
  constructor
  · rintro ⟨rfl, rfl, rfl⟩
    exact CN_f h g
  · rintro ⟨rfl, rfl⟩
    exact CN_g hn h g
set_option maxHeartbeats 4000000 in
theorem CI_f {n k i j k2 j2 k4 j4 : Nat} (h : CI n k i j k2 j2) (g : CI n k i j k4 j4) : k4 = k2 ∧ j4 = j2 := by
  unfold CI at h g
  rcases h with ⟨a1, a2, a3, a4, a5⟩ | ⟨a1, a2, a3, a4, a5⟩ | ⟨a1, a2, a3, a4, a5⟩ | ⟨a1, a2, a3, a4, a5⟩ | ⟨a1, a2, a3, a4, a5⟩ | ⟨a1, a2, a3, a4, a5⟩ | ⟨a1, a2, a3, a4, a5⟩ | ⟨a1, a2, a3, a4, a5⟩ | ⟨a1, a2, a3, a4, a5⟩ | ⟨a1, a2, a3, a4, a5⟩ | ⟨a1, a2, a3, a4, a5⟩ | ⟨a1, a2, a3, a4, a5⟩ | ⟨a1, a2, a3, a4, a5⟩ | ⟨a1, a2, a3, a4, a5⟩ <;> rcases g with ⟨b1, b2, b3, b4, b5⟩ | ⟨b1, b2, b3, b4, b5⟩ | ⟨b1, b2, b3, b4, b5⟩ | ⟨b1, b2, b3, b4, b5⟩ | ⟨b1, b2, b3, b4, b5⟩ | ⟨b1, b2, b3, b4, b5⟩ | ⟨b1, b2, b3, b4, b5⟩ | ⟨b1, b2, b3, b4, b5⟩ | ⟨b1, b2, b3, b4, b5⟩ | ⟨b1, b2, b3, b4, b5⟩ | ⟨b1, b2, b3, b4, b5⟩ | ⟨b1, b2, b3, b4, b5⟩ | ⟨b1, b2, b3, b4, b5⟩ | ⟨b1, b2, b3, b4, b5⟩ <;> refine ⟨?_, ?_⟩ <;> omega
set_option maxHeartbeats 4000000 in
theorem CI_g {n k i j k2 j2 k3 i3 j3 : Nat} (hn : n ≤ 6) (h : CI n k i j k2 j2) (g : CI n k3 i3 j3 k2 j2) : k3 = k ∧ i3 = i ∧ j3 = j := by
  unfold CI at h g
  rcases h with ⟨a1, a2, a3, a4, a5⟩ | ⟨a1, a2, a3, a4, a5⟩ | ⟨a1, a2, a3, a4, a5⟩ | ⟨a1, a2, a3, a4, a5⟩ | ⟨a1, a2, a3, a4, a5⟩ | ⟨a1, a2, a3, a4, a5⟩ | ⟨a1, a2, a3, a4, a5⟩ | ⟨a1, a2, a3, a4, a5⟩ | ⟨a1, a2, a3, a4, a5⟩ | ⟨a1, a2, a3, a4, a5⟩ | ⟨a1, a2, a3, a4, a5⟩ | ⟨a1, a2, a3, a4, a5⟩ | ⟨a1, a2, a3, a4, a5⟩ | ⟨a1, a2, a3, a4, a5⟩ <;> rcases g with ⟨b1, b2, b3, b4, b5⟩ | ⟨b1, b2, b3, b4, b5⟩ | ⟨b1, b2, b3, b4, b5⟩ | ⟨b1, b2, b3, b4, b5⟩ | ⟨b1, b2, b3, b4, b5⟩ | ⟨b1, b2, b3, b4, b5⟩ | ⟨b1, b2, b3, b4, b5⟩ | ⟨b1, b2, b3, b4, b5⟩ | ⟨b1, b2, b3, b4, b5⟩ | ⟨b1, b2, b3, b4, b5⟩ | ⟨b1, b2, b3, b4, b5⟩ | ⟨b1, b2, b3, b4, b5⟩ | ⟨b1, b2, b3, b4, b5⟩ | ⟨b1, b2, b3, b4, b5⟩ <;> refine ⟨?_, ?_, ?_⟩ <;> omega
theorem CI_inj {n k i j k2 j2 k3 i3 j3 k4 j4 : Nat} (hn : n ≤ 6) (h : CI n k i j k2 j2) (g : CI n k3 i3 j3 k4 j4) : (k3 = k ∧ i3 = i ∧ j3 = j) ↔ (k4 = k2 ∧ j4 = j2) := by
  constructor
  · rintro ⟨rfl, rfl, rfl⟩
    exact CI_f h g
  · rintro ⟨rfl, rfl⟩
    exact CI_g hn h g
set_option maxHeartbeats 4000000 in
theorem CL_f {c k i j k2 j2 k4 j4 : Nat} (h : CL c k i j k2 j2) (g : CL c k i j k4 j4) : k4 = k2 ∧ j4 = j2 := by
  unfold CL at h g
  rcases h with ⟨a1, a2, a3, a4, a5⟩ | ⟨a1, a2, a3, a4, a5⟩ <;> rcases g with ⟨b1, b2, b3, b4, b5⟩ | ⟨b1, b2, b3, b4, b5⟩ <;> refine ⟨?_, ?_⟩ <;> omega
set_option maxHeartbeats 4000000 in
theorem CL_g {c k i j k2 j2 k3 i3 j3 : Nat} (hn : True) (h : CL c k i j k2 j2) (g : CL c k3 i3 j3 k2 j2) : k3 = k ∧ i3 = i ∧ j3 = j := by
  unfold CL at h g
  rcases h with ⟨a1, a2, a3, a4, a5⟩ | ⟨a1, a2, a3, a4, a5⟩ <;> rcases g with ⟨b1, b2, b3, b4, b5⟩ | ⟨b1, b2, b3, b4, b5⟩ <;> refine ⟨?_, ?_, ?_⟩ <;> omega
theorem CL_inj {c k i j k2 j2 k3 i3 j3 k4 j4 : Nat} (hn : True) (h : CL c k i j k2 j2) (g : CL c k3 i3 j3 k4 j4) : (k3 = k ∧ i3 = i ∧ j3 = j) ↔ (k4 = k2 ∧ j4 = j2) := by
  constructor
  · rintro ⟨rfl, rfl, rfl⟩
    exact CL_f h g
  · rintro ⟨rfl, rfl⟩
    exact CL_g hn h g
section RS
variable {n c : Nat} {u w : UU} {k i j k2 j2 : Nat}
theorem RR_un (hn : n ≤ 6) (h : RR n c u w) (hc : CN n k i j k2 j2) (v : Nat) : RR n c (un u k i j v) (un w k2 0 j2 v) := by
  refine ⟨fun a b d a2 d2 g => ?_, h.2.1, h.2.2⟩
  have e := CN_inj hn hc g
  rw [un_1, un_1]
  by_cases q : a = k ∧ b = i ∧ d = j
  · rw [if_pos q, if_pos ⟨(e.mp q).1, rfl, (e.mp q).2⟩]
  · rw [if_neg q, if_neg (fun z => q (e.mpr ⟨z.1, z.2.2⟩))]
    exact h.1 _ _ _ _ _ g
theorem RR_ui (hn : n ≤ 6) (h : RR n c u w) (hc : CI n k i j k2 j2) (v : Int32) : RR n c (ui u k i j v) (ui w k2 0 j2 v) := by
  refine ⟨h.1, fun a b d a2 d2 g => ?_, h.2.2⟩
  have e := CI_inj hn hc g
  rw [ui_2, ui_2]
  by_cases q : a = k ∧ b = i ∧ d = j
  · rw [if_pos q, if_pos ⟨(e.mp q).1, rfl, (e.mp q).2⟩]
  · rw [if_neg q, if_neg (fun z => q (e.mpr ⟨z.1, z.2.2⟩))]
    exact h.2.1 _ _ _ _ _ g
theorem RR_ul (h : RR n c u w) (hc : CL c k i j k2 j2) (v : Int64) : RR n c (ul u k i j v) (ul w k2 0 j2 v) := by
  refine ⟨h.1, h.2.1, fun a b d a2 d2 g => ?_⟩
  have e := CL_inj trivial hc g
  rw [ul_3, ul_3]
  by_cases q : a = k ∧ b = i ∧ d = j
  · rw [if_pos q, if_pos ⟨(e.mp q).1, rfl, (e.mp q).2⟩]
  · rw [if_neg q, if_neg (fun z => q (e.mpr ⟨z.1, z.2.2⟩))]
    exact h.2.2 _ _ _ _ _ g
/-- a place of the class, or of the model, that is of no concern -/
theorem RR_unl (h : RR n c u w) (hc : ∀ a d, ¬ CN n k i j a d) (v : Nat) : RR n c (un u k i j v) w := by
  refine ⟨fun a b d a2 d2 g => ?_, h.2.1, h.2.2⟩
  rw [un_1, if_neg (fun z => hc a2 d2 (by obtain ⟨rfl, rfl, rfl⟩ := z; exact g))]
  exact h.1 _ _ _ _ _ g
theorem RR_unr (h : RR n c u w) (hc : ∀ a b d, ¬ CN n a b d k j) (v : Nat) : RR n c u (un w k 0 j v) := by
  refine ⟨fun a b d a2 d2 g => ?_, h.2.1, h.2.2⟩
  rw [un_1, if_neg (fun z => hc a b d (by obtain ⟨rfl, -, rfl⟩ := z; exact g))]
  exact h.1 _ _ _ _ _ g
theorem RR_uil (h : RR n c u w) (hc : ∀ a d, ¬ CI n k i j a d) (v : Int32) : RR n c (ui u k i j v) w := by
  refine ⟨h.1, fun a b d a2 d2 g => ?_, h.2.2⟩
  rw [ui_2, if_neg (fun z => hc a2 d2 (by obtain ⟨rfl, rfl, rfl⟩ := z; exact g))]
  exact h.2.1 _ _ _ _ _ g
theorem RR_uir (h : RR n c u w) (hc : ∀ a b d, ¬ CI n a b d k j) (v : Int32) : RR n c u (ui w k 0 j v) := by
  refine ⟨h.1, fun a b d a2 d2 g => ?_, h.2.2⟩
  rw [ui_2, if_neg (fun z => hc a b d (by obtain ⟨rfl, -, rfl⟩ := z; exact g))]
  exact h.2.1 _ _ _ _ _ g
theorem RR_ur (h : RR n c u w) (j v : Nat) : RR n c (ur u j v) w := h
/-! what is read -/
theorem RR.near (h : RR n c u w) (hi : i < n) (hj : j < n) : u.1 7 i j = w.1 1 0 (6 * i + j) := h.1 _ _ _ _ _ (cn_near hi hj)
theorem RR.sta (h : RR n c u w) (hi : i < n) : u.1 4 i 6 = w.1 2 0 i := h.1 _ _ _ _ _ (cn_sta hi)
theorem RR.cur (h : RR n c u w) (hi : i < n) : u.1 4 i 7 = w.1 3 0 i := h.1 _ _ _ _ _ (cn_cur hi)
theorem RR.fls (h : RR n c u w) (hi : i < n) : u.1 4 i 10 = w.1 18 0 i := h.1 _ _ _ _ _ (cn_fls hi)
theorem RR.trs (h : RR n c u w) (hi : i < n) : u.1 4 i 11 = w.1 19 0 i := h.1 _ _ _ _ _ (cn_trs hi)
theorem RR.upz (h : RR n c u w) (hi : i < n) : u.1 8 (2 * i) 3 = w.1 14 0 i := h.1 _ _ _ _ _ (cn_siz (by omega) (by omega))
theorem RR.dnz (h : RR n c u w) (hi : i < n) : u.1 8 (2 * i + 1) 3 = w.1 14 0 (6 + i) := h.1 _ _ _ _ _ (cn_siz (by omega) (by omega))
theorem RR.upe (h : RR n c u w) (hi : i < n) (hj : j < 4) : u.1 12 (2 * i) j = w.1 15 0 (4 * i + j) := h.1 _ _ _ _ _ (cn_end (by omega) hj (by omega))
theorem RR.dne (h : RR n c u w) (hi : i < n) (hj : j < 4) : u.1 12 (2 * i + 1) j = w.1 15 0 (4 * (6 + i) + j) := h.1 _ _ _ _ _ (cn_end (by omega) hj (by omega))
theorem RR.kpt (h : RR n c u w) (hi : i < n) : u.1 6 i 1 = w.1 23 0 i := h.1 _ _ _ _ _ (cn_kpt hi)
theorem RR.tim (h : RR n c u w) : u.1 0 0 7 = w.1 0 0 3 := h.1 _ _ _ _ _ (cn_tim)
theorem RR.clk (h : RR n c u w) (hi : i < n) : u.2.1 4 i 8 = w.2.1 4 0 i := h.2.1 _ _ _ _ _ (ci_clk hi)
theorem RR.dft (h : RR n c u w) (hi : i < n) : u.2.1 4 i 9 = w.2.1 5 0 i := h.2.1 _ _ _ _ _ (ci_dft hi)
theorem RR.cnt (h : RR n c u w) (hi : i < n) : u.2.1 4 i 12 = w.2.1 21 0 i := h.2.1 _ _ _ _ _ (ci_cnt hi)
theorem RR.act (h : RR n c u w) (hi : i < n) : u.2.1 4 i 13 = w.2.1 28 0 i := h.2.1 _ _ _ _ _ (ci_act hi)
theorem RR.upn (h : RR n c u w) (hi : i < n) (hj : j < 4) : u.2.1 13 (2 * i) j = w.2.1 16 0 (4 * i + j) := h.2.1 _ _ _ _ _ (ci_num (by omega) hj (by omega))
theorem RR.dnn (h : RR n c u w) (hi : i < n) (hj : j < 4) : u.2.1 13 (2 * i + 1) j = w.2.1 16 0 (4 * (6 + i) + j) := h.2.1 _ _ _ _ _ (ci_num (by omega) hj (by omega))
theorem RR.upv (h : RR n c u w) (hi : i < n) (hj : j < 4) : u.2.1 14 (2 * i) j = w.2.1 17 0 (4 * i + j) := h.2.1 _ _ _ _ _ (ci_val (by omega) hj (by omega))
theorem RR.dnv (h : RR n c u w) (hi : i < n) (hj : j < 4) : u.2.1 14 (2 * i + 1) j = w.2.1 17 0 (4 * (6 + i) + j) := h.2.1 _ _ _ _ _ (ci_val (by omega) hj (by omega))
theorem RR.tku (h : RR n c u w) (hi : i < n) (hj : j < n) : u.2.1 9 i j = w.2.1 20 0 (6 * i + j) := h.2.1 _ _ _ _ _ (ci_tku hi hj)
theorem RR.tkd (h : RR n c u w) (hi : i < n) (hj : j < n) : u.2.1 10 i j = w.2.1 20 0 (36 + 6 * i + j) := h.2.1 _ _ _ _ _ (ci_tkd hi hj)
theorem RR.tgt (h : RR n c u w) (hi : i < n) : u.2.1 6 i 2 = w.2.1 24 0 i := h.2.1 _ _ _ _ _ (ci_tgt hi)
theorem RR.lps (h : RR n c u w) (hi : i < n) : u.2.1 6 i 3 = w.2.1 25 0 i := h.2.1 _ _ _ _ _ (ci_lps hi)
theorem RR.lis (h : RR n c u w) (hi : i < n) : u.2.1 6 i 4 = w.2.1 26 0 i := h.2.1 _ _ _ _ _ (ci_lis hi)
theorem RR.sum (h : RR n c u w) (hi : i < n) : u.2.1 6 i 5 = w.2.1 27 0 i := h.2.1 _ _ _ _ _ (ci_sum hi)
theorem RR.new (h : RR n c u w) (hi : i < n) (hj : j < 3) : u.2.1 11 i j = w.2.1 22 0 (3 * i + j) := h.2.1 _ _ _ _ _ (ci_new hi hj)
theorem RR.snt (h : RR n c u w) : u.2.1 0 0 8 = w.2.1 0 0 4 := h.2.1 _ _ _ _ _ (ci_snt)
theorem RR.hrd (h : RR n c u w) (hi : i < c) : u.2.2.1 5 i 0 = w.2.2.1 6 0 i := h.2.2 _ _ _ _ _ (cl_hrd hi)
theorem RR.cfm (h : RR n c u w) (hi : i < c) : u.2.2.1 5 i 1 = w.2.2.1 7 0 i := h.2.2 _ _ _ _ _ (cl_cfm hi)
theorem RR_fo {f g : Nat → UU → UU} {I : Nat → UU → UU → Prop} (m : Nat) (h0 : I 0 u w) (hs : ∀ k u w, k < m → I k u w → I (k + 1) (f k u) (g k w)) : I m (fo f u m) (fo g w m) := by
  have key : ∀ q, q ≤ m → I q (fo f u q) (fo g w q) := by
    intro q
    induction q with
    | zero => intro _; exact h0
    | succ q ih => intro hq; exact hs q _ _ (by omega) (ih (by omega))
  exact key m (Nat.le_refl m)
end RS
theorem ui_ui {u : UU} {k i j k2 i2 j2 : Nat} {v x : Int32} (h : ¬ (k = k2 ∧ i = i2 ∧ j = j2)) : ui (ui u k i j v) k2 i2 j2 x = ui (ui u k2 i2 j2 x) k i j v := by
  unfold ui
  congr 2
  funext a b c
  dsimp only
  by_cases h1 : a = k2 ∧ b = i2 ∧ c = j2
  · rw [if_pos h1, if_neg (fun q => h ⟨q.1.symm.trans h1.1, q.2.1.symm.trans h1.2.1, q.2.2.symm.trans h1.2.2⟩), if_pos h1]
  · rw [if_neg h1]
    by_cases h2 : a = k ∧ b = i ∧ c = j
    · rw [if_pos h2, if_pos h2]
    · rw [if_neg h2, if_neg h2, if_neg h1]
theorem un_ui (u : UU) (k i j v k2 i2 j2 : Nat) (x : Int32) : un (ui u k2 i2 j2 x) k i j v = ui (un u k i j v) k2 i2 j2 x := rfl
