/-! the small sums -/
theorem sub_sm {x y : Int32} {B : Int} (hB : B ≤ 2 ^ 29) (hx : -B ≤ x.toInt ∧ x.toInt ≤ B) (hy : -B ≤ y.toInt ∧ y.toInt ≤ B) : (x - y).toInt = x.toInt - y.toInt := by
  rw [Int32.toInt_sub]
  apply Int.bmod_eq_of_le <;> omega
theorem add_sm {x y : Int32} {B : Int} (hB : B ≤ 2 ^ 29) (hx : -B ≤ x.toInt ∧ x.toInt ≤ B) (hy : -B ≤ y.toInt ∧ y.toInt ≤ B) : (x + y).toInt = x.toInt + y.toInt := by
  rw [Int32.toInt_add]
  apply Int.bmod_eq_of_le <;> omega
theorem kcl_eq {x y : Int32} {B : Int} (hB : B ≤ 2 ^ 29) (hx : -B ≤ x.toInt ∧ x.toInt ≤ B) (hy : -B ≤ y.toInt ∧ y.toInt ≤ B) : kclose y x = kclm x y := by
  have e1 := sub_sm hB hx hy
  have e2 := sub_sm hB hy hx
  have e0 : (0 : Int32).toInt = 0 := by decide
  have e10 : (nI 10).toInt = 10 := by decide
  have em : (-10 : Int32).toInt = -10 := by decide
  have e3 : (0 - (y - x)).toInt = x.toInt - y.toInt := by
    rw [Int32.toInt_sub, e0, e2, show 0 - (y.toInt - x.toInt) = x.toInt - y.toInt by omega]
    apply Int.bmod_eq_of_le <;> omega
  unfold kclose kclm
  by_cases h : 0 ≤ y - x
  · rw [if_pos h]
    rw [Int32.le_iff_toInt_le, e0, e2] at h
    by_cases g : nI 10 < y - x
    · rw [if_pos g, if_pos]
      rw [Int32.lt_iff_toInt_lt, e10, e2] at g
      rw [Int32.lt_iff_toInt_lt, em, e1]
      omega
    · rw [if_neg g, if_neg, if_neg]
      · rw [Int32.lt_iff_toInt_lt, e10, e1]
        omega
      · rw [Int32.lt_iff_toInt_lt, e10, e2] at g
        rw [Int32.lt_iff_toInt_lt, em, e1]
        omega
  · rw [if_neg h]
    rw [Int32.le_iff_toInt_le, e0, e2] at h
    by_cases g : nI 10 < 0 - (y - x)
    · rw [if_pos g, if_neg, if_pos]
      · rw [Int32.lt_iff_toInt_lt, e10, e3] at g
        rw [Int32.lt_iff_toInt_lt, e10, e1]
        omega
      · rw [Int32.lt_iff_toInt_lt, em, e1]
        omega
    · rw [if_neg g, if_neg, if_neg]
      · rw [Int32.lt_iff_toInt_lt, e10, e3] at g
        rw [Int32.lt_iff_toInt_lt, e10, e1]
        omega
      · rw [Int32.lt_iff_toInt_lt, em, e1]
        omega
theorem kin_eq (v lo hi : Int32) : kin v lo hi = 0 ↔ v < lo ∨ hi < v := by
  unfold kin
  by_cases h : v < lo
  · rw [if_pos h]; simp [h]
  · rw [if_neg h]
    by_cases g : hi < v
    · rw [if_pos g]; simp [g]
    · rw [if_neg g]; simp [h, g]
theorem kwn_eq (v b : Int32) (hb : -b ≤ b) : knear v (-b) b = kwin v b := by
  unfold knear kwin
  rw [Int32.le_iff_toInt_le] at hb
  by_cases h : v < b
  · rw [if_pos h]
    by_cases g : -b < v
    · rw [if_pos g, if_pos, if_pos]
      · rw [Int32.le_iff_toInt_le]; rw [Int32.lt_iff_toInt_lt] at h; omega
      · rw [Int32.le_iff_toInt_le]; rw [Int32.lt_iff_toInt_lt] at g; omega
    · rw [if_neg g]
      by_cases q : -b ≤ v
      · rw [if_pos q, if_pos]
        · apply Int32.toInt_inj.mp
          rw [Int32.le_iff_toInt_le] at q
          rw [Int32.lt_iff_toInt_lt] at g
          omega
        · rw [Int32.le_iff_toInt_le]; rw [Int32.lt_iff_toInt_lt] at h; omega
      · rw [if_neg q]
  · rw [if_neg h]
    rw [Int32.lt_iff_toInt_lt] at h
    by_cases g : -b < b
    · rw [if_pos g, if_pos]
      · by_cases q : v ≤ b
        · rw [if_pos q]
          apply Int32.toInt_inj.mp
          rw [Int32.le_iff_toInt_le] at q
          omega
        · rw [if_neg q]
      · rw [Int32.le_iff_toInt_le]
        omega
    · rw [if_neg g]
      rw [Int32.lt_iff_toInt_lt] at g
      have e : (-b).toInt = b.toInt := by omega
      have e2 := Int32.toInt_inj.mp e
      rw [e2]
      by_cases q : b ≤ v
      · rw [if_pos q]
        by_cases q2 : v ≤ b
        · rw [if_pos q2]
          apply Int32.toInt_inj.mp
          rw [Int32.le_iff_toInt_le] at q q2
          omega
        · rw [if_neg q2]
      · rw [if_neg q]
/-! the shifts -/
theorem bit_0 (x : BitVec 64) : (x &&& 1#64 = 1#64) ↔ x.getLsbD 0 = true := by
  constructor
  · intro h
    have := congrArg (fun y => y.getLsbD 0) h
    simpa using this
  · intro h
    apply BitVec.eq_of_getLsbD_eq
    intro i hi
    rw [BitVec.getLsbD_and, BitVec.getLsbD_one]
    by_cases e : i = 0
    · subst e; simp [h]
    · simp [e]
theorem kbit_eq (b : Int64) (t : Nat) : kbit b t = kbitm b t := by
  have key : ∀ m, m < 64 → (((b.toUInt64 >>> ((nI m).toInt64.toUInt64 &&& Int64.toUInt64 63)).toInt64 &&& 1) = 1 ↔ ((b >>> ((nI m).toInt64 &&& 63)) &&& 1) = 1) := by
    intro m hm
    have h1 : ∀ m : Fin 64, (((nI m.1).toInt64.toUInt64 &&& Int64.toUInt64 63).toBitVec % 64).toNat = m.1 := by decide +kernel
    have h2 : ∀ m : Fin 64, ((((nI m.1).toInt64 &&& 63).toBitVec).smod 64).toNat = m.1 := by decide +kernel
    rw [← Int64.toBitVec_inj, ← Int64.toBitVec_inj, Int64.toBitVec_and, Int64.toBitVec_and, UInt64.toBitVec_toInt64, UInt64.toBitVec_shiftRight, Int64.toBitVec_shiftRight]
    show (_ &&& 1#64 = 1#64) ↔ (_ &&& 1#64 = 1#64)
    rw [bit_0, bit_0, BitVec.ushiftRight_eq', BitVec.sshiftRight_eq', BitVec.getLsbD_ushiftRight, BitVec.getLsbD_sshiftRight, h1 ⟨m, hm⟩, h2 ⟨m, hm⟩]
    show b.toBitVec.getLsbD (m + 0) = true ↔ _
    simp [hm]
  unfold kbit kbitm
  have := key (t % 64) (Nat.mod_lt _ (by decide))
  simp only [this]
theorem kfd_eq (x : Int32) : kfd x = x >>> (nI 4 &&& 31) := by
  have hs : (x >>> (nI 4 &&& 31)).toInt = x.toInt / 16 := by
    have h0 : (((nI 4 &&& 31 : Int32).toBitVec).smod 32).toNat = 4 := by decide +kernel
    show ((x >>> (nI 4 &&& 31)).toBitVec).toInt = _
    rw [Int32.toBitVec_shiftRight, BitVec.sshiftRight_eq', BitVec.toInt_sshiftRight, h0, Int.shiftRight_eq_div_pow]
    rfl
  have e16 : (nI 16).toInt = 16 := by decide
  have hd : (x / nI 16).toInt = x.toInt.tdiv 16 := by rw [Int32.toInt_div_of_ne_right _ _ (by decide), e16]
  have hx : (0 ≤ x ^^^ nI 16) ↔ 0 ≤ x.toInt := by
    rw [Int32.le_iff_toInt_le]
    show (0 : Int32).toInt ≤ (x ^^^ nI 16).toBitVec.toInt ↔ _
    rw [Int32.toBitVec_xor]
    have hm : (x.toBitVec ^^^ (nI 16).toBitVec).msb = x.toBitVec.msb := by
      have h1 : (nI 16).toBitVec.msb = false := by decide
      rw [BitVec.msb_xor, h1]
      simp
    rw [BitVec.msb_eq_toInt, BitVec.msb_eq_toInt] at hm
    have hm2 := decide_eq_decide.mp hm
    have e0 : (0 : Int32).toInt = 0 := by decide
    have e1 : x.toBitVec.toInt = x.toInt := rfl
    rw [e0]
    omega
  have hb1 := Int32.le_toInt x
  have hb2 := Int32.toInt_lt x
  apply Int32.toInt_inj.mp
  rw [hs]
  unfold kfd
  by_cases h : 0 ≤ x ^^^ nI 16
  · rw [if_pos h, hd]
    exact Int.tdiv_eq_ediv_of_nonneg (hx.mp h)
  · rw [if_neg h]
    have hneg : x.toInt < 0 := Int.not_le.mp (fun q => h (hx.mpr q))
    have ht : x.toInt.tdiv 16 = -((-x.toInt) / 16) := by
      have := Int.neg_tdiv (-x.toInt) 16
      rw [Int.neg_neg] at this
      rw [this, Int.tdiv_eq_ediv_of_nonneg (by omega)]
    have hmul : (x / nI 16 * nI 16).toInt = x.toInt.tdiv 16 * 16 := by
      rw [Int32.toInt_mul, hd, e16, ht]
      apply Int.bmod_eq_of_le <;> omega
    by_cases g : x / nI 16 * nI 16 = x
    · rw [if_pos g, hd]
      have := congrArg Int32.toInt g
      rw [hmul, ht] at this
      rw [ht]
      omega
    · rw [if_neg g]
      have g2 : x.toInt.tdiv 16 * 16 ≠ x.toInt := fun q => g (Int32.toInt_inj.mp (by rw [hmul]; exact q))
      have e1 : (nI 1).toInt = 1 := by decide
      rw [ht] at g2
      rw [Int32.toInt_sub, hd, e1, ht]
      have e3 : (-(-x.toInt / 16) - 1).bmod (2 ^ 32) = -(-x.toInt / 16) - 1 := by
        apply Int.bmod_eq_of_le <;> omega
      rw [e3]
      omega
