/-! The law: its loop, its start (by program, wip/whole/gen/l2.py) -/
section LOO
variable {X : OX} {A : Nat → Prop} {Q : State → Prop} {ce sl : Nat} {b L : Nat} {xs : Nat → Int32} {Y1 Y2 : YY} {n s c : Nat}
set_option maxRecDepth 100000 in
set_option maxHeartbeats 4000000 in
theorem la_loop (h : LX X A b L xs (vC Y1 n s c) (vM Y2 n s c)) (h1 : 1 ≤ n) (hn : n ≤ 6) (h0 : 0 < c) (hc : c ≤ 4) (hs0 : 0 < s) (hs : s ≤ 24) (hsc : s * c < 2 ^ 31) (hce : ce ≤ room_1.cells ∧ sl ≤ room_1.slots) (hend : ∀ u w i, jw X A Q (P2 (vC Y1 n s c) (vM Y2 n s c) u w) ce sl [(0, .ref b), (1, .ref (pv_ad (vC Y1 n s c) 0 0)), (2, .ref (pv_ad (vM Y2 n s c) 0 0)), (3, .int (nI (i)))] 781 []) : ∀ f i t u w, L ≤ i + 6 * f → i ≤ L + 6 → L ≤ 100000 → t + 64 * (f + 1) < 2 ^ 26 → Sim n s c t u w → jw X A Q (P2 (vC Y1 n s c) (vM Y2 n s c) u w) ce sl [(0, .ref b), (1, .ref (pv_ad (vC Y1 n s c) 0 0)), (2, .ref (pv_ad (vM Y2 n s c) 0 0)), (3, .int (nI (i)))] 48 [] := by
  have hX := h.1
  have hx := h.2.1
  have hL := h.2.2.2.1
  intro f
  induction f with
  | zero =>
    intro i t u w hf hiL hL1 ht hS
    refine jw_iload_n (pc := 48) hX d_L_law_48 rfl ?_
    refine jw_aload_n (pc := 49) hX d_L_law_49 rfl ?_
    refine jw_slen (pc := 50) hX hx h.2.2.1 d_L_law_50 ?_
    refine jw_bipush (pc := 51) (v := nI 6) hX d_L_law_51 (by decide) ?_
    refine jw_isub (pc := 53) hX d_L_law_53 ?_
    have e6 : (nI 6).toInt = 6 := by decide
    have eL := nI_toInt (show L < 2 ^ 31 by omega)
    have ei := nI_toInt (show i < 2 ^ 31 by omega)
    have es := sub_sm (x := nI L) (y := nI 6) (B := 2 ^ 20) (by omega) (by rw [eL]; omega) (by rw [e6]; omega)
    refine jw_ic_gt (pc := 54) (tgt := 781) hX d_L_law_54 (by decide) (fun _ => hend u w i) (fun q => ?_)
    rw [Int32.lt_iff_toInt_lt, es, eL, e6, ei] at q
    exact absurd q (by omega)
  | succ f ih =>
    intro i t u w hf hiL hL1 ht hS
    refine jw_iload_n (pc := 48) hX d_L_law_48 rfl ?_
    refine jw_aload_n (pc := 49) hX d_L_law_49 rfl ?_
    refine jw_slen (pc := 50) hX hx h.2.2.1 d_L_law_50 ?_
    refine jw_bipush (pc := 51) (v := nI 6) hX d_L_law_51 (by decide) ?_
    refine jw_isub (pc := 53) hX d_L_law_53 ?_
    have e6 : (nI 6).toInt = 6 := by decide
    have eL := nI_toInt (show L < 2 ^ 31 by omega)
    have ei := nI_toInt (show i < 2 ^ 31 by omega)
    have es := sub_sm (x := nI L) (y := nI 6) (B := 2 ^ 20) (by omega) (by rw [eL]; omega) (by rw [e6]; omega)
    refine jw_ic_gt (pc := 54) (tgt := 781) hX d_L_law_54 (by decide) (fun _ => hend u w i) (fun q => ?_)
    rw [Int32.lt_iff_toInt_lt, es, eL, e6, ei] at q
    have hi : i + 6 ≤ L := by omega
    have k : ∀ u' w', Sim n s c (t + 64) u' w' → jw X A Q (P2 (vC Y1 n s c) (vM Y2 n s c) u' w') ce sl [(0, .ref b), (1, .ref (pv_ad (vC Y1 n s c) 0 0)), (2, .ref (pv_ad (vM Y2 n s c) 0 0)), (3, .int (nI (i)))] 775 [] := fun u' w' hS' => by
      refine jw_iinc (pc := 775) (v := nI (i + 6)) (l2 := [(0, .ref b), (1, .ref (pv_ad (vC Y1 n s c) 0 0)), (2, .ref (pv_ad (vM Y2 n s c) 0 0)), (3, .int (nI (i + 6)))]) hX d_L_law_775 rfl (by rw [show Int32.ofInt 6 = nI 6 by decide]; exact nI_add i 6) (by decide) rfl rfl ?_
      refine jw_goto (pc := 778) (tgt := 48) hX d_L_law_778 (by decide) ?_
      exact ih (i + 6) (t + 64) u' w' (by omega) (by omega) hL1 (by omega) hS'
    have ht2 : t + 64 < 2 ^ 26 := by omega
    refine jw_aload_n (pc := 57) hX d_L_law_57 rfl ?_
    refine jw_iload_n (pc := 58) hX d_L_law_58 rfl ?_
    refine jw_sld (pc := 59) hX hx h.2.2.1 (by omega) hL d_L_law_59 ?_
    refine jw_bipush (pc := 60) (v := nI 31) hX d_L_law_60 (by decide) ?_
    refine jw_iand (pc := 62) hX d_L_law_62 ?_
    generalize (xs i &&& nI 31) = x
    by_cases hr : x.toInt < 0 ∨ 18 < x.toInt
    · exact jw_tableOut (pc := 63) (tgt := 775) hX d_L_law_63 hr (by decide) (k u w (Sim_le hS (by omega)))
    · obtain ⟨q, hq⟩ : ∃ q : Nat, x.toInt = (q : Int) := ⟨x.toInt.toNat, by omega⟩
      have hq18 : q = 0 ∨ q = 1 ∨ q = 2 ∨ q = 3 ∨ q = 4 ∨ q = 5 ∨ q = 6 ∨ q = 7 ∨ q = 8 ∨ q = 9 ∨ q = 10 ∨ q = 11 ∨ q = 12 ∨ q = 13 ∨ q = 14 ∨ q = 15 ∨ q = 16 ∨ q = 17 ∨ q = 18 := by omega
      rcases hq18 with rfl | rfl | rfl | rfl | rfl | rfl | rfl | rfl | rfl | rfl | rfl | rfl | rfl | rfl | rfl | rfl | rfl | rfl | rfl
      · exact jw_tableIn (pc := 63) (off := 89) (tgt := 152) hX d_L_law_63 (by omega) (by omega) (by rw [hq]; rfl) (by decide) (la_pair h h1 hn h0 hc hs0 hs hsc hce hi hS ht2 k)
      · exact jw_tableIn (pc := 63) (off := 148) (tgt := 211) hX d_L_law_63 (by omega) (by omega) (by rw [hq]; rfl) (by decide) (la_plan h h1 hn h0 hc hs0 hs hsc hce hi hS ht2 k)
      · exact jw_tableIn (pc := 63) (off := 161) (tgt := 224) hX d_L_law_63 (by omega) (by omega) (by rw [hq]; rfl) (by decide) (la_start h h1 hn h0 hc hs0 hs hsc hce hi hS ht2 k)
      · exact jw_tableIn (pc := 63) (off := 184) (tgt := 247) hX d_L_law_63 (by omega) (by omega) (by rw [hq]; rfl) (by decide) (la_stop h h1 hn h0 hc hs0 hs hsc hce hi hS ht2 k)
      · exact jw_tableIn (pc := 63) (off := 207) (tgt := 270) hX d_L_law_63 (by omega) (by omega) (by rw [hq]; rfl) (by decide) (la_drift h h1 hn h0 hc hs0 hs hsc hce hi hS ht2 k)
      · exact jw_tableIn (pc := 63) (off := 240) (tgt := 303) hX d_L_law_63 (by omega) (by omega) (by rw [hq]; rfl) (by decide) (la_radio h h1 hn h0 hc hs0 hs hsc hce hi hS ht2 k)
      · exact jw_tableIn (pc := 63) (off := 343) (tgt := 406) hX d_L_law_63 (by omega) (by omega) (by rw [hq]; rfl) (by decide) (la_sample h h1 hn h0 hc hs0 hs hsc hce hi hS ht2 k)
      · exact jw_tableIn (pc := 63) (off := 376) (tgt := 439) hX d_L_law_63 (by omega) (by omega) (by rw [hq]; rfl) (by decide) (la_control h h1 hn h0 hc hs0 hs hsc hce hi hS ht2 k)
      · exact jw_tableIn (pc := 63) (off := 429) (tgt := 492) hX d_L_law_63 (by omega) (by omega) (by rw [hq]; rfl) (by decide) (la_run h h1 hn h0 hc hs0 hs hsc hce hi hS ht2 k)
      · exact jw_tableIn (pc := 63) (off := 452) (tgt := 515) hX d_L_law_63 (by omega) (by omega) (by rw [hq]; rfl) (by decide) (la_rank h h1 hn h0 hc hs0 hs hsc hce hi hS ht2 k)
      · exact jw_tableIn (pc := 63) (off := 475) (tgt := 538) hX d_L_law_63 (by omega) (by omega) (by rw [hq]; rfl) (by decide) (la_parent h h1 hn h0 hc hs0 hs hsc hce hi hS ht2 k)
      · exact jw_tableIn (pc := 63) (off := 508) (tgt := 571) hX d_L_law_63 (by omega) (by omega) (by rw [hq]; rfl) (by decide) (la_cell h h1 hn h0 hc hs0 hs hsc hce hi hS ht2 k)
      · exact jw_tableIn (pc := 63) (off := 541) (tgt := 604) hX d_L_law_63 (by omega) (by omega) (by rw [hq]; rfl) (by decide) (la_current h h1 hn h0 hc hs0 hs hsc hce hi hS ht2 k)
      · exact jw_tableIn (pc := 63) (off := 564) (tgt := 627) hX d_L_law_63 (by omega) (by omega) (by rw [hq]; rfl) (by decide) (la_offset h h1 hn h0 hc hs0 hs hsc hce hi hS ht2 k)
      · exact jw_tableIn (pc := 63) (off := 587) (tgt := 650) hX d_L_law_63 (by omega) (by omega) (by rw [hq]; rfl) (by decide) (la_count h h1 hn h0 hc hs0 hs hsc hce hi hS ht2 k)
      · exact jw_tableIn (pc := 63) (off := 620) (tgt := 683) hX d_L_law_63 (by omega) (by omega) (by rw [hq]; rfl) (by decide) (la_cached h h1 hn h0 hc hs0 hs hsc hce hi hS ht2 k)
      · exact jw_tableIn (pc := 63) (off := 653) (tgt := 716) hX d_L_law_63 (by omega) (by omega) (by rw [hq]; rfl) (by decide) (la_latest h h1 hn h0 hc hs0 hs hsc hce hi hS ht2 k)
      · exact jw_tableIn (pc := 63) (off := 676) (tgt := 739) hX d_L_law_63 (by omega) (by omega) (by rw [hq]; rfl) (by decide) (la_actuator h h1 hn h0 hc hs0 hs hsc hce hi hS ht2 k)
      · exact jw_tableIn (pc := 63) (off := 699) (tgt := 762) hX d_L_law_63 (by omega) (by omega) (by rw [hq]; rfl) (by decide) (la_sent h h1 hn h0 hc hs0 hs hsc hce hi hS ht2 k)
end LOO
