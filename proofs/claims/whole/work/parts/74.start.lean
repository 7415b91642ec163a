/-! Class and model: alike when new -/
theorem hv4 {j : Nat} (h : j < 4) : hvL 4 j = -1 := by
  have : j = 0 ∨ j = 1 ∨ j = 2 ∨ j = 3 := by omega
  rcases this with rfl | rfl | rfl | rfl <;> rfl
theorem Sim_0 {n s c : Nat} (h1 : 1 ≤ n) (hc : c ≤ 4) : Sim n s c 0 uC0 uM0 := by
  have z0 : (0 : Int32).toInt = 0 := by decide
  have b1 : ∀ i, b0 i ≤ 1 := fun i => by show (if i = 0 then 1 else 0) ≤ 1; split <;> omega
  refine ⟨fun _ => none, fun _ => 0, ⟨fun k i j k2 j2 g => ?_, fun k i j k2 j2 g => rfl, fun k i j k2 j2 g => ?_⟩, ?_, ?_, ?_, ?_, Nat.le_refl 0, rfl⟩
  · unfold CN at g
    rcases g with ⟨rfl, rfl, -, -, -⟩ | ⟨rfl, rfl, rfl, -, rfl⟩ | ⟨rfl, rfl, rfl, -, rfl⟩ | ⟨rfl, rfl, rfl, -, rfl⟩ | ⟨rfl, rfl, rfl, -, rfl⟩ | ⟨rfl, rfl, rfl, -, -⟩ | ⟨rfl, -, rfl, -, -⟩ | ⟨rfl, rfl, rfl, -, rfl⟩ | ⟨rfl, rfl, rfl, rfl, rfl⟩ <;> rfl
  · unfold CL at g
    rcases g with ⟨rfl, rfl, rfl, hi, rfl⟩ | ⟨rfl, rfl, rfl, hi, rfl⟩
    · show (-1 : Int64) = hvL 4 j2
      rw [hv4 (by omega)]
    · show (-1 : Int64) = hvL 4 j2
      rw [hv4 (by omega)]
  · refine ⟨fun i j => Nat.zero_le 1, fun i => b1 i, fun i => b1 i, fun i => Nat.zero_le 3, fun i => Nat.zero_le 5, fun r => Nat.zero_le 4, fun r j => ?_, fun i => Nat.zero_le 3, fun i => Nat.zero_le 1, fun p q => ?_, ?_, ?_, ?_⟩
    · show 0 < n; omega
    · show 0 < 400; omega
    · show 0 < 2 ^ 30; omega
    · show 0 < 2; omega
    · show 1 < 2; omega
  · refine ⟨fun j => Nat.zero_le 1, fun j => ?_, fun j => ?_, fun j => ?_, fun j => Nat.zero_le 4, fun j => ?_, fun j => Nat.zero_le 3, fun j => Nat.zero_le 5, fun j => Nat.zero_le 3, Nat.zero_le 1, ?_⟩
    · show (if j = 0 then 1 else 0) ≤ 1; split <;> omega
    · show (if j = 0 then 1 else 0) ≤ 1; split <;> omega
    · show 0 < 400; omega
    · show 0 < n; omega
    · show 0 < 2 ^ 30; omega
  · refine ⟨⟨fun a b ha hb => rfl, rfl, rfl, rfl, rfl, fun a ha => ha, fun a => ?_, fun a => rfl, fun a => Nat.zero_le 99, fun a => ?_, fun a ha => rfl⟩, fun a => ?_⟩
    · show -3 ≤ (0 : Int32).toInt ∧ (0 : Int32).toInt ≤ 3; rw [z0]; omega
    · show 0 < 400; omega
    · show -(3 * ((0 : Nat) : Int)) ≤ (0 : Int32).toInt ∧ (0 : Int32).toInt ≤ 3 * ((0 : Nat) : Int); rw [z0]; omega
  · exact ⟨rfl, fun q => absurd rfl q⟩
