-- sets as bits, by two
theorem sub_tab : ∀ a : Nat, a < 64 → ∀ b : Nat, b < 64 → (zand (a : Int) (zxor (b : Int) (-1)) = 0 ↔ ∀ p : Nat, p < 6 → bt (a : Int) (p : Int) = 1 → bt (b : Int) (p : Int) = 1) ∧ (zand (a : Int) (zxor (b : Int) (-1)) = 0 → a = b ∨ a < b ∧ popc a < popc b) := by decide +kernel
theorem dj_tab : ∀ a : Nat, a < 64 → ∀ b : Nat, b < 64 → (zand (a : Int) (b : Int) = 0 ↔ ∀ p : Nat, p < 6 → bt (a : Int) (p : Int) = 1 → ¬ bt (b : Int) (p : Int) = 1) := by decide +kernel
theorem pow_tab : ∀ P : Nat, P ≤ 6 → 0 < zshl 1 (P : Int) ∧ zshl 1 (P : Int) ≤ 64 := by decide +kernel
