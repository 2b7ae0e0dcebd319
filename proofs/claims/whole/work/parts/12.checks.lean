theorem oc0_0 : okChunk 0 0 = true := by decide +kernel
theorem or0 : okRowsAll 0 := fun i h => (show ∀ i, i < 1 → okChunk 0 i = true from (lt_s lt_0 oc0_0)) i (Nat.lt_of_lt_of_eq h (by decide +kernel))
theorem oh0 : okHeadAll 0 := Or.inr (Or.inr (by decide +kernel))
theorem oc1_0 : okChunk 1 0 = true := by decide +kernel
theorem or1 : okRowsAll 1 := fun i h => (show ∀ i, i < 1 → okChunk 1 i = true from (lt_s lt_0 oc1_0)) i (Nat.lt_of_lt_of_eq h (by decide +kernel))
theorem oh1 : okHeadAll 1 := Or.inr (Or.inr (by decide +kernel))
theorem oc2_0 : okChunk 2 0 = true := by decide +kernel
theorem or2 : okRowsAll 2 := fun i h => (show ∀ i, i < 1 → okChunk 2 i = true from (lt_s lt_0 oc2_0)) i (Nat.lt_of_lt_of_eq h (by decide +kernel))
theorem oh2 : okHeadAll 2 := Or.inr (Or.inr (by decide +kernel))
theorem oc3_0 : okChunk 3 0 = true := by decide +kernel
theorem or3 : okRowsAll 3 := fun i h => (show ∀ i, i < 1 → okChunk 3 i = true from (lt_s lt_0 oc3_0)) i (Nat.lt_of_lt_of_eq h (by decide +kernel))
theorem oh3 : okHeadAll 3 := Or.inr (Or.inr (by decide +kernel))
theorem oc4_0 : okChunk 4 0 = true := by decide +kernel
theorem or4 : okRowsAll 4 := fun i h => (show ∀ i, i < 1 → okChunk 4 i = true from (lt_s lt_0 oc4_0)) i (Nat.lt_of_lt_of_eq h (by decide +kernel))
theorem oh4 : okHeadAll 4 := Or.inr (Or.inr (by decide +kernel))
theorem oc5_0 : okChunk 5 0 = true := by decide +kernel
theorem or5 : okRowsAll 5 := fun i h => (show ∀ i, i < 1 → okChunk 5 i = true from (lt_s lt_0 oc5_0)) i (Nat.lt_of_lt_of_eq h (by decide +kernel))
theorem oh5 : okHeadAll 5 := Or.inr (Or.inr (by decide +kernel))
theorem oc6_0 : okChunk 6 0 = true := by decide +kernel
theorem oc6_1 : okChunk 6 1 = true := by decide +kernel
theorem or6 : okRowsAll 6 := fun i h => (show ∀ i, i < 2 → okChunk 6 i = true from (lt_s (lt_s lt_0 oc6_0) oc6_1)) i (Nat.lt_of_lt_of_eq h (by decide +kernel))
theorem oh6 : okHeadAll 6 := Or.inr (Or.inr (by decide +kernel))
theorem oc7_0 : okChunk 7 0 = true := by decide +kernel
theorem or7 : okRowsAll 7 := fun i h => (show ∀ i, i < 1 → okChunk 7 i = true from (lt_s lt_0 oc7_0)) i (Nat.lt_of_lt_of_eq h (by decide +kernel))
theorem oh7 : okHeadAll 7 := Or.inr (Or.inr (by decide +kernel))
theorem oc8_0 : okChunk 8 0 = true := by decide +kernel
theorem oc8_1 : okChunk 8 1 = true := by decide +kernel
theorem oc8_2 : okChunk 8 2 = true := by decide +kernel
theorem or8 : okRowsAll 8 := fun i h => (show ∀ i, i < 3 → okChunk 8 i = true from (lt_s (lt_s (lt_s lt_0 oc8_0) oc8_1) oc8_2)) i (Nat.lt_of_lt_of_eq h (by decide +kernel))
theorem oh8 : okHeadAll 8 := Or.inr (Or.inr (by decide +kernel))
theorem oc9_0 : okChunk 9 0 = true := by decide +kernel
theorem or9 : okRowsAll 9 := fun i h => (show ∀ i, i < 1 → okChunk 9 i = true from (lt_s lt_0 oc9_0)) i (Nat.lt_of_lt_of_eq h (by decide +kernel))
theorem oh9 : okHeadAll 9 := Or.inr (Or.inr (by decide +kernel))
theorem oc10_0 : okChunk 10 0 = true := by decide +kernel
theorem or10 : okRowsAll 10 := fun i h => (show ∀ i, i < 1 → okChunk 10 i = true from (lt_s lt_0 oc10_0)) i (Nat.lt_of_lt_of_eq h (by decide +kernel))
theorem oh10 : okHeadAll 10 := Or.inr (Or.inr (by decide +kernel))
theorem oc11_0 : okChunk 11 0 = true := by decide +kernel
theorem or11 : okRowsAll 11 := fun i h => (show ∀ i, i < 1 → okChunk 11 i = true from (lt_s lt_0 oc11_0)) i (Nat.lt_of_lt_of_eq h (by decide +kernel))
theorem oh11 : okHeadAll 11 := Or.inr (Or.inr (by decide +kernel))
theorem oc12_0 : okChunk 12 0 = true := by decide +kernel
theorem or12 : okRowsAll 12 := fun i h => (show ∀ i, i < 1 → okChunk 12 i = true from (lt_s lt_0 oc12_0)) i (Nat.lt_of_lt_of_eq h (by decide +kernel))
theorem oh12 : okHeadAll 12 := Or.inr (Or.inr (by decide +kernel))
theorem oc13_0 : okChunk 13 0 = true := by decide +kernel
theorem or13 : okRowsAll 13 := fun i h => (show ∀ i, i < 1 → okChunk 13 i = true from (lt_s lt_0 oc13_0)) i (Nat.lt_of_lt_of_eq h (by decide +kernel))
theorem oh13 : okHeadAll 13 := Or.inr (Or.inr (by decide +kernel))
theorem oc14_0 : okChunk 14 0 = true := by decide +kernel
theorem or14 : okRowsAll 14 := fun i h => (show ∀ i, i < 1 → okChunk 14 i = true from (lt_s lt_0 oc14_0)) i (Nat.lt_of_lt_of_eq h (by decide +kernel))
theorem oh14 : okHeadAll 14 := Or.inr (Or.inr (by decide +kernel))
theorem oc15_0 : okChunk 15 0 = true := by decide +kernel
theorem or15 : okRowsAll 15 := fun i h => (show ∀ i, i < 1 → okChunk 15 i = true from (lt_s lt_0 oc15_0)) i (Nat.lt_of_lt_of_eq h (by decide +kernel))
theorem oh15 : okHeadAll 15 := Or.inr (Or.inr (by decide +kernel))
theorem oc16_0 : okChunk 16 0 = true := by decide +kernel
theorem or16 : okRowsAll 16 := fun i h => (show ∀ i, i < 1 → okChunk 16 i = true from (lt_s lt_0 oc16_0)) i (Nat.lt_of_lt_of_eq h (by decide +kernel))
theorem oh16 : okHeadAll 16 := Or.inr (Or.inr (by decide +kernel))
theorem oc17_0 : okChunk 17 0 = true := by decide +kernel
theorem or17 : okRowsAll 17 := fun i h => (show ∀ i, i < 1 → okChunk 17 i = true from (lt_s lt_0 oc17_0)) i (Nat.lt_of_lt_of_eq h (by decide +kernel))
theorem oh17 : okHeadAll 17 := Or.inr (Or.inr (by decide +kernel))
theorem oc18_0 : okChunk 18 0 = true := by decide +kernel
theorem oc18_1 : okChunk 18 1 = true := by decide +kernel
theorem or18 : okRowsAll 18 := fun i h => (show ∀ i, i < 2 → okChunk 18 i = true from (lt_s (lt_s lt_0 oc18_0) oc18_1)) i (Nat.lt_of_lt_of_eq h (by decide +kernel))
theorem oh18 : okHeadAll 18 := Or.inr (Or.inr (by decide +kernel))
theorem oc19_0 : okChunk 19 0 = true := by decide +kernel
theorem or19 : okRowsAll 19 := fun i h => (show ∀ i, i < 1 → okChunk 19 i = true from (lt_s lt_0 oc19_0)) i (Nat.lt_of_lt_of_eq h (by decide +kernel))
theorem oh19 : okHeadAll 19 := Or.inr (Or.inr (by decide +kernel))
theorem oc20_0 : okChunk 20 0 = true := by decide +kernel
theorem or20 : okRowsAll 20 := fun i h => (show ∀ i, i < 1 → okChunk 20 i = true from (lt_s lt_0 oc20_0)) i (Nat.lt_of_lt_of_eq h (by decide +kernel))
theorem oh20 : okHeadAll 20 := Or.inr (Or.inr (by decide +kernel))
theorem oc21_0 : okChunk 21 0 = true := by decide +kernel
theorem or21 : okRowsAll 21 := fun i h => (show ∀ i, i < 1 → okChunk 21 i = true from (lt_s lt_0 oc21_0)) i (Nat.lt_of_lt_of_eq h (by decide +kernel))
theorem oh21 : okHeadAll 21 := Or.inr (Or.inr (by decide +kernel))
theorem oc22_0 : okChunk 22 0 = true := by decide +kernel
theorem or22 : okRowsAll 22 := fun i h => (show ∀ i, i < 1 → okChunk 22 i = true from (lt_s lt_0 oc22_0)) i (Nat.lt_of_lt_of_eq h (by decide +kernel))
theorem oh22 : okHeadAll 22 := Or.inr (Or.inr (by decide +kernel))
theorem oc23_0 : okChunk 23 0 = true := by decide +kernel
theorem oc23_1 : okChunk 23 1 = true := by decide +kernel
theorem or23 : okRowsAll 23 := fun i h => (show ∀ i, i < 2 → okChunk 23 i = true from (lt_s (lt_s lt_0 oc23_0) oc23_1)) i (Nat.lt_of_lt_of_eq h (by decide +kernel))
theorem oh23 : okHeadAll 23 := Or.inr (Or.inr (by decide +kernel))
theorem oc24_0 : okChunk 24 0 = true := by decide +kernel
theorem or24 : okRowsAll 24 := fun i h => (show ∀ i, i < 1 → okChunk 24 i = true from (lt_s lt_0 oc24_0)) i (Nat.lt_of_lt_of_eq h (by decide +kernel))
theorem oh24 : okHeadAll 24 := Or.inr (Or.inr (by decide +kernel))
theorem oc25_0 : okChunk 25 0 = true := by decide +kernel
theorem or25 : okRowsAll 25 := fun i h => (show ∀ i, i < 1 → okChunk 25 i = true from (lt_s lt_0 oc25_0)) i (Nat.lt_of_lt_of_eq h (by decide +kernel))
theorem oh25 : okHeadAll 25 := Or.inr (Or.inr (by decide +kernel))
theorem oc26_0 : okChunk 26 0 = true := by decide +kernel
theorem or26 : okRowsAll 26 := fun i h => (show ∀ i, i < 1 → okChunk 26 i = true from (lt_s lt_0 oc26_0)) i (Nat.lt_of_lt_of_eq h (by decide +kernel))
theorem oh26 : okHeadAll 26 := Or.inr (Or.inr (by decide +kernel))
theorem oc27_0 : okChunk 27 0 = true := by decide +kernel
theorem or27 : okRowsAll 27 := fun i h => (show ∀ i, i < 1 → okChunk 27 i = true from (lt_s lt_0 oc27_0)) i (Nat.lt_of_lt_of_eq h (by decide +kernel))
theorem oh27 : okHeadAll 27 := Or.inr (Or.inr (by decide +kernel))
theorem oc28_0 : okChunk 28 0 = true := by decide +kernel
theorem or28 : okRowsAll 28 := fun i h => (show ∀ i, i < 1 → okChunk 28 i = true from (lt_s lt_0 oc28_0)) i (Nat.lt_of_lt_of_eq h (by decide +kernel))
theorem oh28 : okHeadAll 28 := Or.inr (Or.inr (by decide +kernel))
theorem oc29_0 : okChunk 29 0 = true := by decide +kernel
theorem or29 : okRowsAll 29 := fun i h => (show ∀ i, i < 1 → okChunk 29 i = true from (lt_s lt_0 oc29_0)) i (Nat.lt_of_lt_of_eq h (by decide +kernel))
theorem oh29 : okHeadAll 29 := Or.inr (Or.inr (by decide +kernel))
theorem oc30_0 : okChunk 30 0 = true := by decide +kernel
theorem or30 : okRowsAll 30 := fun i h => (show ∀ i, i < 1 → okChunk 30 i = true from (lt_s lt_0 oc30_0)) i (Nat.lt_of_lt_of_eq h (by decide +kernel))
theorem oh30 : okHeadAll 30 := Or.inr (Or.inr (by decide +kernel))
theorem oc31_0 : okChunk 31 0 = true := by decide +kernel
theorem or31 : okRowsAll 31 := fun i h => (show ∀ i, i < 1 → okChunk 31 i = true from (lt_s lt_0 oc31_0)) i (Nat.lt_of_lt_of_eq h (by decide +kernel))
theorem oh31 : okHeadAll 31 := Or.inr (Or.inr (by decide +kernel))
theorem oc32_0 : okChunk 32 0 = true := by decide +kernel
theorem oc32_1 : okChunk 32 1 = true := by decide +kernel
theorem or32 : okRowsAll 32 := fun i h => (show ∀ i, i < 2 → okChunk 32 i = true from (lt_s (lt_s lt_0 oc32_0) oc32_1)) i (Nat.lt_of_lt_of_eq h (by decide +kernel))
theorem oh32 : okHeadAll 32 := Or.inr (Or.inr (by decide +kernel))
theorem oc33_0 : okChunk 33 0 = true := by decide +kernel
theorem or33 : okRowsAll 33 := fun i h => (show ∀ i, i < 1 → okChunk 33 i = true from (lt_s lt_0 oc33_0)) i (Nat.lt_of_lt_of_eq h (by decide +kernel))
theorem oh33 : okHeadAll 33 := Or.inr (Or.inr (by decide +kernel))
theorem oc34_0 : okChunk 34 0 = true := by decide +kernel
theorem or34 : okRowsAll 34 := fun i h => (show ∀ i, i < 1 → okChunk 34 i = true from (lt_s lt_0 oc34_0)) i (Nat.lt_of_lt_of_eq h (by decide +kernel))
theorem oh34 : okHeadAll 34 := Or.inr (Or.inr (by decide +kernel))
theorem oc35_0 : okChunk 35 0 = true := by decide +kernel
theorem oc35_1 : okChunk 35 1 = true := by decide +kernel
theorem or35 : okRowsAll 35 := fun i h => (show ∀ i, i < 2 → okChunk 35 i = true from (lt_s (lt_s lt_0 oc35_0) oc35_1)) i (Nat.lt_of_lt_of_eq h (by decide +kernel))
theorem oh35 : okHeadAll 35 := Or.inr (Or.inr (by decide +kernel))
theorem oc36_0 : okChunk 36 0 = true := by decide +kernel
theorem oc36_1 : okChunk 36 1 = true := by decide +kernel
theorem or36 : okRowsAll 36 := fun i h => (show ∀ i, i < 2 → okChunk 36 i = true from (lt_s (lt_s lt_0 oc36_0) oc36_1)) i (Nat.lt_of_lt_of_eq h (by decide +kernel))
theorem oh36 : okHeadAll 36 := Or.inr (Or.inr (by decide +kernel))
theorem oc37_0 : okChunk 37 0 = true := by decide +kernel
theorem or37 : okRowsAll 37 := fun i h => (show ∀ i, i < 1 → okChunk 37 i = true from (lt_s lt_0 oc37_0)) i (Nat.lt_of_lt_of_eq h (by decide +kernel))
theorem oh37 : okHeadAll 37 := Or.inr (Or.inr (by decide +kernel))
theorem oc38_0 : okChunk 38 0 = true := by decide +kernel
theorem or38 : okRowsAll 38 := fun i h => (show ∀ i, i < 1 → okChunk 38 i = true from (lt_s lt_0 oc38_0)) i (Nat.lt_of_lt_of_eq h (by decide +kernel))
theorem oh38 : okHeadAll 38 := Or.inr (Or.inr (by decide +kernel))
theorem oc39_0 : okChunk 39 0 = true := by decide +kernel
theorem or39 : okRowsAll 39 := fun i h => (show ∀ i, i < 1 → okChunk 39 i = true from (lt_s lt_0 oc39_0)) i (Nat.lt_of_lt_of_eq h (by decide +kernel))
theorem oh39 : okHeadAll 39 := Or.inr (Or.inr (by decide +kernel))
theorem oc40_0 : okChunk 40 0 = true := by decide +kernel
theorem oc40_1 : okChunk 40 1 = true := by decide +kernel
theorem or40 : okRowsAll 40 := fun i h => (show ∀ i, i < 2 → okChunk 40 i = true from (lt_s (lt_s lt_0 oc40_0) oc40_1)) i (Nat.lt_of_lt_of_eq h (by decide +kernel))
theorem oh40 : okHeadAll 40 := Or.inr (Or.inr (by decide +kernel))
theorem oc41_0 : okChunk 41 0 = true := by decide +kernel
theorem or41 : okRowsAll 41 := fun i h => (show ∀ i, i < 1 → okChunk 41 i = true from (lt_s lt_0 oc41_0)) i (Nat.lt_of_lt_of_eq h (by decide +kernel))
theorem oh41 : okHeadAll 41 := Or.inr (Or.inr (by decide +kernel))
theorem oc42_0 : okChunk 42 0 = true := by decide +kernel
theorem or42 : okRowsAll 42 := fun i h => (show ∀ i, i < 1 → okChunk 42 i = true from (lt_s lt_0 oc42_0)) i (Nat.lt_of_lt_of_eq h (by decide +kernel))
theorem oh42 : okHeadAll 42 := Or.inr (Or.inr (by decide +kernel))
theorem oc43_0 : okChunk 43 0 = true := by decide +kernel
theorem or43 : okRowsAll 43 := fun i h => (show ∀ i, i < 1 → okChunk 43 i = true from (lt_s lt_0 oc43_0)) i (Nat.lt_of_lt_of_eq h (by decide +kernel))
theorem oh43 : okHeadAll 43 := Or.inr (Or.inr (by decide +kernel))
theorem oc44_0 : okChunk 44 0 = true := by decide +kernel
theorem or44 : okRowsAll 44 := fun i h => (show ∀ i, i < 1 → okChunk 44 i = true from (lt_s lt_0 oc44_0)) i (Nat.lt_of_lt_of_eq h (by decide +kernel))
theorem oh44 : okHeadAll 44 := Or.inr (Or.inr (by decide +kernel))
theorem oc45_0 : okChunk 45 0 = true := by decide +kernel
theorem or45 : okRowsAll 45 := fun i h => (show ∀ i, i < 1 → okChunk 45 i = true from (lt_s lt_0 oc45_0)) i (Nat.lt_of_lt_of_eq h (by decide +kernel))
theorem oh45 : okHeadAll 45 := Or.inr (Or.inr (by decide +kernel))
theorem oc46_0 : okChunk 46 0 = true := by decide +kernel
theorem or46 : okRowsAll 46 := fun i h => (show ∀ i, i < 1 → okChunk 46 i = true from (lt_s lt_0 oc46_0)) i (Nat.lt_of_lt_of_eq h (by decide +kernel))
theorem oh46 : okHeadAll 46 := Or.inr (Or.inr (by decide +kernel))
theorem oc47_0 : okChunk 47 0 = true := by decide +kernel
theorem or47 : okRowsAll 47 := fun i h => (show ∀ i, i < 1 → okChunk 47 i = true from (lt_s lt_0 oc47_0)) i (Nat.lt_of_lt_of_eq h (by decide +kernel))
theorem oh47 : okHeadAll 47 := Or.inr (Or.inr (by decide +kernel))
theorem oc48_0 : okChunk 48 0 = true := by decide +kernel
theorem or48 : okRowsAll 48 := fun i h => (show ∀ i, i < 1 → okChunk 48 i = true from (lt_s lt_0 oc48_0)) i (Nat.lt_of_lt_of_eq h (by decide +kernel))
theorem oh48 : okHeadAll 48 := Or.inr (Or.inr (by decide +kernel))
theorem oc49_0 : okChunk 49 0 = true := by decide +kernel
theorem oc49_1 : okChunk 49 1 = true := by decide +kernel
theorem or49 : okRowsAll 49 := fun i h => (show ∀ i, i < 2 → okChunk 49 i = true from (lt_s (lt_s lt_0 oc49_0) oc49_1)) i (Nat.lt_of_lt_of_eq h (by decide +kernel))
theorem oh49 : okHeadAll 49 := Or.inr (Or.inr (by decide +kernel))
theorem oc50_0 : okChunk 50 0 = true := by decide +kernel
theorem oc50_1 : okChunk 50 1 = true := by decide +kernel
theorem or50 : okRowsAll 50 := fun i h => (show ∀ i, i < 2 → okChunk 50 i = true from (lt_s (lt_s lt_0 oc50_0) oc50_1)) i (Nat.lt_of_lt_of_eq h (by decide +kernel))
theorem oh50 : okHeadAll 50 := Or.inr (Or.inr (by decide +kernel))
theorem oc51_0 : okChunk 51 0 = true := by decide +kernel
theorem or51 : okRowsAll 51 := fun i h => (show ∀ i, i < 1 → okChunk 51 i = true from (lt_s lt_0 oc51_0)) i (Nat.lt_of_lt_of_eq h (by decide +kernel))
theorem oh51 : okHeadAll 51 := Or.inr (Or.inr (by decide +kernel))
theorem oc52_0 : okChunk 52 0 = true := by decide +kernel
theorem oc52_1 : okChunk 52 1 = true := by decide +kernel
theorem or52 : okRowsAll 52 := fun i h => (show ∀ i, i < 2 → okChunk 52 i = true from (lt_s (lt_s lt_0 oc52_0) oc52_1)) i (Nat.lt_of_lt_of_eq h (by decide +kernel))
theorem oh52 : okHeadAll 52 := Or.inr (Or.inr (by decide +kernel))
theorem oc53_0 : okChunk 53 0 = true := by decide +kernel
theorem or53 : okRowsAll 53 := fun i h => (show ∀ i, i < 1 → okChunk 53 i = true from (lt_s lt_0 oc53_0)) i (Nat.lt_of_lt_of_eq h (by decide +kernel))
theorem oh53 : okHeadAll 53 := Or.inr (Or.inr (by decide +kernel))
theorem oc54_0 : okChunk 54 0 = true := by decide +kernel
theorem or54 : okRowsAll 54 := fun i h => (show ∀ i, i < 1 → okChunk 54 i = true from (lt_s lt_0 oc54_0)) i (Nat.lt_of_lt_of_eq h (by decide +kernel))
theorem oh54 : okHeadAll 54 := Or.inr (Or.inr (by decide +kernel))
theorem oc55_0 : okChunk 55 0 = true := by decide +kernel
theorem or55 : okRowsAll 55 := fun i h => (show ∀ i, i < 1 → okChunk 55 i = true from (lt_s lt_0 oc55_0)) i (Nat.lt_of_lt_of_eq h (by decide +kernel))
theorem oh55 : okHeadAll 55 := Or.inr (Or.inr (by decide +kernel))
theorem oc56_0 : okChunk 56 0 = true := by decide +kernel
theorem or56 : okRowsAll 56 := fun i h => (show ∀ i, i < 1 → okChunk 56 i = true from (lt_s lt_0 oc56_0)) i (Nat.lt_of_lt_of_eq h (by decide +kernel))
theorem oh56 : okHeadAll 56 := Or.inr (Or.inr (by decide +kernel))
theorem oc57_0 : okChunk 57 0 = true := by decide +kernel
theorem or57 : okRowsAll 57 := fun i h => (show ∀ i, i < 1 → okChunk 57 i = true from (lt_s lt_0 oc57_0)) i (Nat.lt_of_lt_of_eq h (by decide +kernel))
theorem oh57 : okHeadAll 57 := Or.inr (Or.inr (by decide +kernel))
theorem oc58_0 : okChunk 58 0 = true := by decide +kernel
theorem oc58_1 : okChunk 58 1 = true := by decide +kernel
theorem or58 : okRowsAll 58 := fun i h => (show ∀ i, i < 2 → okChunk 58 i = true from (lt_s (lt_s lt_0 oc58_0) oc58_1)) i (Nat.lt_of_lt_of_eq h (by decide +kernel))
theorem oh58 : okHeadAll 58 := Or.inr (Or.inr (by decide +kernel))
theorem oc59_0 : okChunk 59 0 = true := by decide +kernel
theorem or59 : okRowsAll 59 := fun i h => (show ∀ i, i < 1 → okChunk 59 i = true from (lt_s lt_0 oc59_0)) i (Nat.lt_of_lt_of_eq h (by decide +kernel))
theorem oh59 : okHeadAll 59 := Or.inr (Or.inr (by decide +kernel))
theorem oc60_0 : okChunk 60 0 = true := by decide +kernel
theorem oc60_1 : okChunk 60 1 = true := by decide +kernel
theorem or60 : okRowsAll 60 := fun i h => (show ∀ i, i < 2 → okChunk 60 i = true from (lt_s (lt_s lt_0 oc60_0) oc60_1)) i (Nat.lt_of_lt_of_eq h (by decide +kernel))
theorem oh60 : okHeadAll 60 := Or.inr (Or.inr (by decide +kernel))
theorem oc61_0 : okChunk 61 0 = true := by decide +kernel
theorem oc61_1 : okChunk 61 1 = true := by decide +kernel
theorem or61 : okRowsAll 61 := fun i h => (show ∀ i, i < 2 → okChunk 61 i = true from (lt_s (lt_s lt_0 oc61_0) oc61_1)) i (Nat.lt_of_lt_of_eq h (by decide +kernel))
theorem oh61 : okHeadAll 61 := Or.inr (Or.inr (by decide +kernel))
theorem oc62_0 : okChunk 62 0 = true := by decide +kernel
theorem oc62_1 : okChunk 62 1 = true := by decide +kernel
theorem or62 : okRowsAll 62 := fun i h => (show ∀ i, i < 2 → okChunk 62 i = true from (lt_s (lt_s lt_0 oc62_0) oc62_1)) i (Nat.lt_of_lt_of_eq h (by decide +kernel))
theorem oh62 : okHeadAll 62 := Or.inr (Or.inr (by decide +kernel))
theorem oc63_0 : okChunk 63 0 = true := by decide +kernel
theorem or63 : okRowsAll 63 := fun i h => (show ∀ i, i < 1 → okChunk 63 i = true from (lt_s lt_0 oc63_0)) i (Nat.lt_of_lt_of_eq h (by decide +kernel))
theorem oh63 : okHeadAll 63 := Or.inr (Or.inr (by decide +kernel))
theorem oc64_0 : okChunk 64 0 = true := by decide +kernel
theorem or64 : okRowsAll 64 := fun i h => (show ∀ i, i < 1 → okChunk 64 i = true from (lt_s lt_0 oc64_0)) i (Nat.lt_of_lt_of_eq h (by decide +kernel))
theorem oh64 : okHeadAll 64 := Or.inr (Or.inr (by decide +kernel))
theorem oc65_0 : okChunk 65 0 = true := by decide +kernel
theorem oc65_1 : okChunk 65 1 = true := by decide +kernel
theorem or65 : okRowsAll 65 := fun i h => (show ∀ i, i < 2 → okChunk 65 i = true from (lt_s (lt_s lt_0 oc65_0) oc65_1)) i (Nat.lt_of_lt_of_eq h (by decide +kernel))
theorem oh65 : okHeadAll 65 := Or.inr (Or.inr (by decide +kernel))
theorem oc66_0 : okChunk 66 0 = true := by decide +kernel
theorem or66 : okRowsAll 66 := fun i h => (show ∀ i, i < 1 → okChunk 66 i = true from (lt_s lt_0 oc66_0)) i (Nat.lt_of_lt_of_eq h (by decide +kernel))
theorem oh66 : okHeadAll 66 := Or.inr (Or.inr (by decide +kernel))
theorem oc67_0 : okChunk 67 0 = true := by decide +kernel
theorem oc67_1 : okChunk 67 1 = true := by decide +kernel
theorem or67 : okRowsAll 67 := fun i h => (show ∀ i, i < 2 → okChunk 67 i = true from (lt_s (lt_s lt_0 oc67_0) oc67_1)) i (Nat.lt_of_lt_of_eq h (by decide +kernel))
theorem oh67 : okHeadAll 67 := Or.inr (Or.inr (by decide +kernel))
theorem oc68_0 : okChunk 68 0 = true := by decide +kernel
theorem or68 : okRowsAll 68 := fun i h => (show ∀ i, i < 1 → okChunk 68 i = true from (lt_s lt_0 oc68_0)) i (Nat.lt_of_lt_of_eq h (by decide +kernel))
theorem oh68 : okHeadAll 68 := Or.inr (Or.inr (by decide +kernel))
theorem oc69_0 : okChunk 69 0 = true := by decide +kernel
theorem oc69_1 : okChunk 69 1 = true := by decide +kernel
theorem or69 : okRowsAll 69 := fun i h => (show ∀ i, i < 2 → okChunk 69 i = true from (lt_s (lt_s lt_0 oc69_0) oc69_1)) i (Nat.lt_of_lt_of_eq h (by decide +kernel))
theorem oh69 : okHeadAll 69 := Or.inr (Or.inr (by decide +kernel))
theorem oc70_0 : okChunk 70 0 = true := by decide +kernel
theorem oc70_1 : okChunk 70 1 = true := by decide +kernel
theorem or70 : okRowsAll 70 := fun i h => (show ∀ i, i < 2 → okChunk 70 i = true from (lt_s (lt_s lt_0 oc70_0) oc70_1)) i (Nat.lt_of_lt_of_eq h (by decide +kernel))
theorem oh70 : okHeadAll 70 := Or.inr (Or.inr (by decide +kernel))
theorem oc71_0 : okChunk 71 0 = true := by decide +kernel
theorem or71 : okRowsAll 71 := fun i h => (show ∀ i, i < 1 → okChunk 71 i = true from (lt_s lt_0 oc71_0)) i (Nat.lt_of_lt_of_eq h (by decide +kernel))
theorem oh71 : okHeadAll 71 := Or.inr (Or.inr (by decide +kernel))
theorem oc72_0 : okChunk 72 0 = true := by decide +kernel
theorem oc72_1 : okChunk 72 1 = true := by decide +kernel
theorem or72 : okRowsAll 72 := fun i h => (show ∀ i, i < 2 → okChunk 72 i = true from (lt_s (lt_s lt_0 oc72_0) oc72_1)) i (Nat.lt_of_lt_of_eq h (by decide +kernel))
theorem oh72 : okHeadAll 72 := Or.inr (Or.inr (by decide +kernel))
theorem oc73_0 : okChunk 73 0 = true := by decide +kernel
theorem or73 : okRowsAll 73 := fun i h => (show ∀ i, i < 1 → okChunk 73 i = true from (lt_s lt_0 oc73_0)) i (Nat.lt_of_lt_of_eq h (by decide +kernel))
theorem oh73 : okHeadAll 73 := Or.inr (Or.inr (by decide +kernel))
theorem oc74_0 : okChunk 74 0 = true := by decide +kernel
theorem oc74_1 : okChunk 74 1 = true := by decide +kernel
theorem or74 : okRowsAll 74 := fun i h => (show ∀ i, i < 2 → okChunk 74 i = true from (lt_s (lt_s lt_0 oc74_0) oc74_1)) i (Nat.lt_of_lt_of_eq h (by decide +kernel))
theorem oh74 : okHeadAll 74 := Or.inr (Or.inr (by decide +kernel))
theorem oc75_0 : okChunk 75 0 = true := by decide +kernel
theorem oc75_1 : okChunk 75 1 = true := by decide +kernel
theorem or75 : okRowsAll 75 := fun i h => (show ∀ i, i < 2 → okChunk 75 i = true from (lt_s (lt_s lt_0 oc75_0) oc75_1)) i (Nat.lt_of_lt_of_eq h (by decide +kernel))
theorem oh75 : okHeadAll 75 := Or.inr (Or.inr (by decide +kernel))
theorem oc76_0 : okChunk 76 0 = true := by decide +kernel
theorem or76 : okRowsAll 76 := fun i h => (show ∀ i, i < 1 → okChunk 76 i = true from (lt_s lt_0 oc76_0)) i (Nat.lt_of_lt_of_eq h (by decide +kernel))
theorem oh76 : okHeadAll 76 := Or.inr (Or.inr (by decide +kernel))
theorem oc77_0 : okChunk 77 0 = true := by decide +kernel
theorem or77 : okRowsAll 77 := fun i h => (show ∀ i, i < 1 → okChunk 77 i = true from (lt_s lt_0 oc77_0)) i (Nat.lt_of_lt_of_eq h (by decide +kernel))
theorem oh77 : okHeadAll 77 := Or.inr (Or.inr (by decide +kernel))
theorem oc78_0 : okChunk 78 0 = true := by decide +kernel
theorem oc78_1 : okChunk 78 1 = true := by decide +kernel
theorem or78 : okRowsAll 78 := fun i h => (show ∀ i, i < 2 → okChunk 78 i = true from (lt_s (lt_s lt_0 oc78_0) oc78_1)) i (Nat.lt_of_lt_of_eq h (by decide +kernel))
theorem oh78 : okHeadAll 78 := Or.inr (Or.inr (by decide +kernel))
theorem oc79_0 : okChunk 79 0 = true := by decide +kernel
theorem oc79_1 : okChunk 79 1 = true := by decide +kernel
theorem or79 : okRowsAll 79 := fun i h => (show ∀ i, i < 2 → okChunk 79 i = true from (lt_s (lt_s lt_0 oc79_0) oc79_1)) i (Nat.lt_of_lt_of_eq h (by decide +kernel))
theorem oh79 : okHeadAll 79 := Or.inr (Or.inr (by decide +kernel))
theorem oc80_0 : okChunk 80 0 = true := by decide +kernel
theorem or80 : okRowsAll 80 := fun i h => (show ∀ i, i < 1 → okChunk 80 i = true from (lt_s lt_0 oc80_0)) i (Nat.lt_of_lt_of_eq h (by decide +kernel))
theorem oh80 : okHeadAll 80 := Or.inr (Or.inr (by decide +kernel))
theorem oc81_0 : okChunk 81 0 = true := by decide +kernel
theorem or81 : okRowsAll 81 := fun i h => (show ∀ i, i < 1 → okChunk 81 i = true from (lt_s lt_0 oc81_0)) i (Nat.lt_of_lt_of_eq h (by decide +kernel))
theorem oh81 : okHeadAll 81 := Or.inr (Or.inr (by decide +kernel))
theorem oc82_0 : okChunk 82 0 = true := by decide +kernel
theorem or82 : okRowsAll 82 := fun i h => (show ∀ i, i < 1 → okChunk 82 i = true from (lt_s lt_0 oc82_0)) i (Nat.lt_of_lt_of_eq h (by decide +kernel))
theorem oh82 : okHeadAll 82 := Or.inr (Or.inr (by decide +kernel))
theorem oc83_0 : okChunk 83 0 = true := by decide +kernel
theorem oc83_1 : okChunk 83 1 = true := by decide +kernel
theorem or83 : okRowsAll 83 := fun i h => (show ∀ i, i < 2 → okChunk 83 i = true from (lt_s (lt_s lt_0 oc83_0) oc83_1)) i (Nat.lt_of_lt_of_eq h (by decide +kernel))
theorem oh83 : okHeadAll 83 := Or.inr (Or.inr (by decide +kernel))
theorem oc84_0 : okChunk 84 0 = true := by decide +kernel
theorem or84 : okRowsAll 84 := fun i h => (show ∀ i, i < 1 → okChunk 84 i = true from (lt_s lt_0 oc84_0)) i (Nat.lt_of_lt_of_eq h (by decide +kernel))
theorem oh84 : okHeadAll 84 := Or.inr (Or.inr (by decide +kernel))
theorem oc85_0 : okChunk 85 0 = true := by decide +kernel
theorem oc85_1 : okChunk 85 1 = true := by decide +kernel
theorem or85 : okRowsAll 85 := fun i h => (show ∀ i, i < 2 → okChunk 85 i = true from (lt_s (lt_s lt_0 oc85_0) oc85_1)) i (Nat.lt_of_lt_of_eq h (by decide +kernel))
theorem oh85 : okHeadAll 85 := Or.inr (Or.inr (by decide +kernel))
theorem oc86_0 : okChunk 86 0 = true := by decide +kernel
theorem or86 : okRowsAll 86 := fun i h => (show ∀ i, i < 1 → okChunk 86 i = true from (lt_s lt_0 oc86_0)) i (Nat.lt_of_lt_of_eq h (by decide +kernel))
theorem oh86 : okHeadAll 86 := Or.inr (Or.inr (by decide +kernel))
theorem oc87_0 : okChunk 87 0 = true := by decide +kernel
theorem or87 : okRowsAll 87 := fun i h => (show ∀ i, i < 1 → okChunk 87 i = true from (lt_s lt_0 oc87_0)) i (Nat.lt_of_lt_of_eq h (by decide +kernel))
theorem oh87 : okHeadAll 87 := Or.inr (Or.inr (by decide +kernel))
theorem oc88_0 : okChunk 88 0 = true := by decide +kernel
theorem or88 : okRowsAll 88 := fun i h => (show ∀ i, i < 1 → okChunk 88 i = true from (lt_s lt_0 oc88_0)) i (Nat.lt_of_lt_of_eq h (by decide +kernel))
theorem oh88 : okHeadAll 88 := Or.inr (Or.inr (by decide +kernel))
theorem oc89_0 : okChunk 89 0 = true := by decide +kernel
theorem or89 : okRowsAll 89 := fun i h => (show ∀ i, i < 1 → okChunk 89 i = true from (lt_s lt_0 oc89_0)) i (Nat.lt_of_lt_of_eq h (by decide +kernel))
theorem oh89 : okHeadAll 89 := Or.inr (Or.inr (by decide +kernel))
theorem oc90_0 : okChunk 90 0 = true := by decide +kernel
theorem or90 : okRowsAll 90 := fun i h => (show ∀ i, i < 1 → okChunk 90 i = true from (lt_s lt_0 oc90_0)) i (Nat.lt_of_lt_of_eq h (by decide +kernel))
theorem oh90 : okHeadAll 90 := Or.inr (Or.inr (by decide +kernel))
theorem oc91_0 : okChunk 91 0 = true := by decide +kernel
theorem or91 : okRowsAll 91 := fun i h => (show ∀ i, i < 1 → okChunk 91 i = true from (lt_s lt_0 oc91_0)) i (Nat.lt_of_lt_of_eq h (by decide +kernel))
theorem oh91 : okHeadAll 91 := Or.inr (Or.inr (by decide +kernel))
theorem oc92_0 : okChunk 92 0 = true := by decide +kernel
theorem or92 : okRowsAll 92 := fun i h => (show ∀ i, i < 1 → okChunk 92 i = true from (lt_s lt_0 oc92_0)) i (Nat.lt_of_lt_of_eq h (by decide +kernel))
theorem oh92 : okHeadAll 92 := Or.inr (Or.inr (by decide +kernel))
theorem oc93_0 : okChunk 93 0 = true := by decide +kernel
theorem or93 : okRowsAll 93 := fun i h => (show ∀ i, i < 1 → okChunk 93 i = true from (lt_s lt_0 oc93_0)) i (Nat.lt_of_lt_of_eq h (by decide +kernel))
theorem oh93 : okHeadAll 93 := Or.inr (Or.inr (by decide +kernel))
theorem oc94_0 : okChunk 94 0 = true := by decide +kernel
theorem or94 : okRowsAll 94 := fun i h => (show ∀ i, i < 1 → okChunk 94 i = true from (lt_s lt_0 oc94_0)) i (Nat.lt_of_lt_of_eq h (by decide +kernel))
theorem oh94 : okHeadAll 94 := Or.inr (Or.inr (by decide +kernel))
theorem oc95_0 : okChunk 95 0 = true := by decide +kernel
theorem or95 : okRowsAll 95 := fun i h => (show ∀ i, i < 1 → okChunk 95 i = true from (lt_s lt_0 oc95_0)) i (Nat.lt_of_lt_of_eq h (by decide +kernel))
theorem oh95 : okHeadAll 95 := Or.inr (Or.inr (by decide +kernel))
theorem oc96_0 : okChunk 96 0 = true := by decide +kernel
theorem or96 : okRowsAll 96 := fun i h => (show ∀ i, i < 1 → okChunk 96 i = true from (lt_s lt_0 oc96_0)) i (Nat.lt_of_lt_of_eq h (by decide +kernel))
theorem oh96 : okHeadAll 96 := Or.inr (Or.inr (by decide +kernel))
theorem oc97_0 : okChunk 97 0 = true := by decide +kernel
theorem or97 : okRowsAll 97 := fun i h => (show ∀ i, i < 1 → okChunk 97 i = true from (lt_s lt_0 oc97_0)) i (Nat.lt_of_lt_of_eq h (by decide +kernel))
theorem oh97 : okHeadAll 97 := Or.inr (Or.inr (by decide +kernel))
theorem oc98_0 : okChunk 98 0 = true := by decide +kernel
theorem or98 : okRowsAll 98 := fun i h => (show ∀ i, i < 1 → okChunk 98 i = true from (lt_s lt_0 oc98_0)) i (Nat.lt_of_lt_of_eq h (by decide +kernel))
theorem oh98 : okHeadAll 98 := Or.inr (Or.inr (by decide +kernel))
theorem oc99_0 : okChunk 99 0 = true := by decide +kernel
theorem or99 : okRowsAll 99 := fun i h => (show ∀ i, i < 1 → okChunk 99 i = true from (lt_s lt_0 oc99_0)) i (Nat.lt_of_lt_of_eq h (by decide +kernel))
theorem oh99 : okHeadAll 99 := Or.inr (Or.inr (by decide +kernel))
theorem oc100_0 : okChunk 100 0 = true := by decide +kernel
theorem or100 : okRowsAll 100 := fun i h => (show ∀ i, i < 1 → okChunk 100 i = true from (lt_s lt_0 oc100_0)) i (Nat.lt_of_lt_of_eq h (by decide +kernel))
theorem oh100 : okHeadAll 100 := Or.inr (Or.inr (by decide +kernel))
theorem oc101_0 : okChunk 101 0 = true := by decide +kernel
theorem or101 : okRowsAll 101 := fun i h => (show ∀ i, i < 1 → okChunk 101 i = true from (lt_s lt_0 oc101_0)) i (Nat.lt_of_lt_of_eq h (by decide +kernel))
theorem oh101 : okHeadAll 101 := Or.inr (Or.inr (by decide +kernel))
theorem oc102_0 : okChunk 102 0 = true := by decide +kernel
theorem or102 : okRowsAll 102 := fun i h => (show ∀ i, i < 1 → okChunk 102 i = true from (lt_s lt_0 oc102_0)) i (Nat.lt_of_lt_of_eq h (by decide +kernel))
theorem oh102 : okHeadAll 102 := Or.inr (Or.inr (by decide +kernel))
theorem oc103_0 : okChunk 103 0 = true := by decide +kernel
theorem or103 : okRowsAll 103 := fun i h => (show ∀ i, i < 1 → okChunk 103 i = true from (lt_s lt_0 oc103_0)) i (Nat.lt_of_lt_of_eq h (by decide +kernel))
theorem oh103 : okHeadAll 103 := Or.inr (Or.inr (by decide +kernel))
theorem oc104_0 : okChunk 104 0 = true := by decide +kernel
theorem or104 : okRowsAll 104 := fun i h => (show ∀ i, i < 1 → okChunk 104 i = true from (lt_s lt_0 oc104_0)) i (Nat.lt_of_lt_of_eq h (by decide +kernel))
theorem oh104 : okHeadAll 104 := Or.inr (Or.inr (by decide +kernel))
theorem oc105_0 : okChunk 105 0 = true := by decide +kernel
theorem or105 : okRowsAll 105 := fun i h => (show ∀ i, i < 1 → okChunk 105 i = true from (lt_s lt_0 oc105_0)) i (Nat.lt_of_lt_of_eq h (by decide +kernel))
theorem oh105 : okHeadAll 105 := Or.inr (Or.inr (by decide +kernel))
theorem oc106_0 : okChunk 106 0 = true := by decide +kernel
theorem or106 : okRowsAll 106 := fun i h => (show ∀ i, i < 1 → okChunk 106 i = true from (lt_s lt_0 oc106_0)) i (Nat.lt_of_lt_of_eq h (by decide +kernel))
theorem oh106 : okHeadAll 106 := Or.inr (Or.inr (by decide +kernel))
theorem oc107_0 : okChunk 107 0 = true := by decide +kernel
theorem or107 : okRowsAll 107 := fun i h => (show ∀ i, i < 1 → okChunk 107 i = true from (lt_s lt_0 oc107_0)) i (Nat.lt_of_lt_of_eq h (by decide +kernel))
theorem oh107 : okHeadAll 107 := Or.inr (Or.inr (by decide +kernel))
theorem oc108_0 : okChunk 108 0 = true := by decide +kernel
theorem or108 : okRowsAll 108 := fun i h => (show ∀ i, i < 1 → okChunk 108 i = true from (lt_s lt_0 oc108_0)) i (Nat.lt_of_lt_of_eq h (by decide +kernel))
theorem oh108 : okHeadAll 108 := Or.inr (Or.inr (by decide +kernel))
theorem oc109_0 : okChunk 109 0 = true := by decide +kernel
theorem oc109_1 : okChunk 109 1 = true := by decide +kernel
theorem oc109_2 : okChunk 109 2 = true := by decide +kernel
theorem or109 : okRowsAll 109 := fun i h => (show ∀ i, i < 3 → okChunk 109 i = true from (lt_s (lt_s (lt_s lt_0 oc109_0) oc109_1) oc109_2)) i (Nat.lt_of_lt_of_eq h (by decide +kernel))
theorem oh109 : okHeadAll 109 := Or.inr (Or.inr (by decide +kernel))
theorem oc110_0 : okChunk 110 0 = true := by decide +kernel
theorem or110 : okRowsAll 110 := fun i h => (show ∀ i, i < 1 → okChunk 110 i = true from (lt_s lt_0 oc110_0)) i (Nat.lt_of_lt_of_eq h (by decide +kernel))
theorem oh110 : okHeadAll 110 := Or.inr (Or.inr (by decide +kernel))
theorem oc111_0 : okChunk 111 0 = true := by decide +kernel
theorem or111 : okRowsAll 111 := fun i h => (show ∀ i, i < 1 → okChunk 111 i = true from (lt_s lt_0 oc111_0)) i (Nat.lt_of_lt_of_eq h (by decide +kernel))
theorem oh111 : okHeadAll 111 := Or.inr (Or.inr (by decide +kernel))
theorem oc112_0 : okChunk 112 0 = true := by decide +kernel
theorem or112 : okRowsAll 112 := fun i h => (show ∀ i, i < 1 → okChunk 112 i = true from (lt_s lt_0 oc112_0)) i (Nat.lt_of_lt_of_eq h (by decide +kernel))
theorem oh112 : okHeadAll 112 := Or.inr (Or.inr (by decide +kernel))
theorem oc113_0 : okChunk 113 0 = true := by decide +kernel
theorem or113 : okRowsAll 113 := fun i h => (show ∀ i, i < 1 → okChunk 113 i = true from (lt_s lt_0 oc113_0)) i (Nat.lt_of_lt_of_eq h (by decide +kernel))
theorem oh113 : okHeadAll 113 := Or.inr (Or.inr (by decide +kernel))
theorem oc114_0 : okChunk 114 0 = true := by decide +kernel
theorem or114 : okRowsAll 114 := fun i h => (show ∀ i, i < 1 → okChunk 114 i = true from (lt_s lt_0 oc114_0)) i (Nat.lt_of_lt_of_eq h (by decide +kernel))
theorem oh114 : okHeadAll 114 := Or.inr (Or.inr (by decide +kernel))
theorem oc115_0 : okChunk 115 0 = true := by decide +kernel
theorem or115 : okRowsAll 115 := fun i h => (show ∀ i, i < 1 → okChunk 115 i = true from (lt_s lt_0 oc115_0)) i (Nat.lt_of_lt_of_eq h (by decide +kernel))
theorem oh115 : okHeadAll 115 := Or.inr (Or.inr (by decide +kernel))
theorem oc116_0 : okChunk 116 0 = true := by decide +kernel
theorem or116 : okRowsAll 116 := fun i h => (show ∀ i, i < 1 → okChunk 116 i = true from (lt_s lt_0 oc116_0)) i (Nat.lt_of_lt_of_eq h (by decide +kernel))
theorem oh116 : okHeadAll 116 := Or.inr (Or.inr (by decide +kernel))
theorem oc117_0 : okChunk 117 0 = true := by decide +kernel
theorem or117 : okRowsAll 117 := fun i h => (show ∀ i, i < 1 → okChunk 117 i = true from (lt_s lt_0 oc117_0)) i (Nat.lt_of_lt_of_eq h (by decide +kernel))
theorem oh117 : okHeadAll 117 := Or.inr (Or.inr (by decide +kernel))
theorem oc118_0 : okChunk 118 0 = true := by decide +kernel
theorem oc118_1 : okChunk 118 1 = true := by decide +kernel
theorem oc118_2 : okChunk 118 2 = true := by decide +kernel
theorem or118 : okRowsAll 118 := fun i h => (show ∀ i, i < 3 → okChunk 118 i = true from (lt_s (lt_s (lt_s lt_0 oc118_0) oc118_1) oc118_2)) i (Nat.lt_of_lt_of_eq h (by decide +kernel))
theorem oh118 : okHeadAll 118 := Or.inr (Or.inr (by decide +kernel))
theorem oc119_0 : okChunk 119 0 = true := by decide +kernel
theorem or119 : okRowsAll 119 := fun i h => (show ∀ i, i < 1 → okChunk 119 i = true from (lt_s lt_0 oc119_0)) i (Nat.lt_of_lt_of_eq h (by decide +kernel))
theorem oh119 : okHeadAll 119 := Or.inr (Or.inr (by decide +kernel))
theorem oc120_0 : okChunk 120 0 = true := by decide +kernel
theorem or120 : okRowsAll 120 := fun i h => (show ∀ i, i < 1 → okChunk 120 i = true from (lt_s lt_0 oc120_0)) i (Nat.lt_of_lt_of_eq h (by decide +kernel))
theorem oh120 : okHeadAll 120 := Or.inr (Or.inr (by decide +kernel))
theorem oc121_0 : okChunk 121 0 = true := by decide +kernel
theorem oc121_1 : okChunk 121 1 = true := by decide +kernel
theorem or121 : okRowsAll 121 := fun i h => (show ∀ i, i < 2 → okChunk 121 i = true from (lt_s (lt_s lt_0 oc121_0) oc121_1)) i (Nat.lt_of_lt_of_eq h (by decide +kernel))
theorem oh121 : okHeadAll 121 := Or.inr (Or.inr (by decide +kernel))
theorem oc122_0 : okChunk 122 0 = true := by decide +kernel
theorem oc122_1 : okChunk 122 1 = true := by decide +kernel
theorem or122 : okRowsAll 122 := fun i h => (show ∀ i, i < 2 → okChunk 122 i = true from (lt_s (lt_s lt_0 oc122_0) oc122_1)) i (Nat.lt_of_lt_of_eq h (by decide +kernel))
theorem oh122 : okHeadAll 122 := Or.inr (Or.inr (by decide +kernel))
theorem oc123_0 : okChunk 123 0 = true := by decide +kernel
theorem oc123_1 : okChunk 123 1 = true := by decide +kernel
theorem oc123_2 : okChunk 123 2 = true := by decide +kernel
theorem oc123_3 : okChunk 123 3 = true := by decide +kernel
theorem or123 : okRowsAll 123 := fun i h => (show ∀ i, i < 4 → okChunk 123 i = true from (lt_s (lt_s (lt_s (lt_s lt_0 oc123_0) oc123_1) oc123_2) oc123_3)) i (Nat.lt_of_lt_of_eq h (by decide +kernel))
theorem oh123 : okHeadAll 123 := Or.inr (Or.inr (by decide +kernel))
theorem oc124_0 : okChunk 124 0 = true := by decide +kernel
theorem oc124_1 : okChunk 124 1 = true := by decide +kernel
theorem oc124_2 : okChunk 124 2 = true := by decide +kernel
theorem or124 : okRowsAll 124 := fun i h => (show ∀ i, i < 3 → okChunk 124 i = true from (lt_s (lt_s (lt_s lt_0 oc124_0) oc124_1) oc124_2)) i (Nat.lt_of_lt_of_eq h (by decide +kernel))
theorem oh124 : okHeadAll 124 := Or.inr (Or.inr (by decide +kernel))
theorem oc125_0 : okChunk 125 0 = true := by decide +kernel
theorem oc125_1 : okChunk 125 1 = true := by decide +kernel
theorem or125 : okRowsAll 125 := fun i h => (show ∀ i, i < 2 → okChunk 125 i = true from (lt_s (lt_s lt_0 oc125_0) oc125_1)) i (Nat.lt_of_lt_of_eq h (by decide +kernel))
theorem oh125 : okHeadAll 125 := Or.inr (Or.inr (by decide +kernel))
theorem oc126_0 : okChunk 126 0 = true := by decide +kernel
theorem or126 : okRowsAll 126 := fun i h => (show ∀ i, i < 1 → okChunk 126 i = true from (lt_s lt_0 oc126_0)) i (Nat.lt_of_lt_of_eq h (by decide +kernel))
theorem oh126 : okHeadAll 126 := Or.inr (Or.inr (by decide +kernel))
theorem oc127_0 : okChunk 127 0 = true := by decide +kernel
theorem or127 : okRowsAll 127 := fun i h => (show ∀ i, i < 1 → okChunk 127 i = true from (lt_s lt_0 oc127_0)) i (Nat.lt_of_lt_of_eq h (by decide +kernel))
theorem oh127 : okHeadAll 127 := Or.inr (Or.inr (by decide +kernel))
theorem oc128_0 : okChunk 128 0 = true := by decide +kernel
theorem or128 : okRowsAll 128 := fun i h => (show ∀ i, i < 1 → okChunk 128 i = true from (lt_s lt_0 oc128_0)) i (Nat.lt_of_lt_of_eq h (by decide +kernel))
theorem oh128 : okHeadAll 128 := Or.inr (Or.inr (by decide +kernel))
theorem oc129_0 : okChunk 129 0 = true := by decide +kernel
theorem oc129_1 : okChunk 129 1 = true := by decide +kernel
theorem oc129_2 : okChunk 129 2 = true := by decide +kernel
theorem or129 : okRowsAll 129 := fun i h => (show ∀ i, i < 3 → okChunk 129 i = true from (lt_s (lt_s (lt_s lt_0 oc129_0) oc129_1) oc129_2)) i (Nat.lt_of_lt_of_eq h (by decide +kernel))
theorem oh129 : okHeadAll 129 := Or.inr (Or.inr (by decide +kernel))
theorem oc130_0 : okChunk 130 0 = true := by decide +kernel
theorem oc130_1 : okChunk 130 1 = true := by decide +kernel
theorem oc130_2 : okChunk 130 2 = true := by decide +kernel
theorem or130 : okRowsAll 130 := fun i h => (show ∀ i, i < 3 → okChunk 130 i = true from (lt_s (lt_s (lt_s lt_0 oc130_0) oc130_1) oc130_2)) i (Nat.lt_of_lt_of_eq h (by decide +kernel))
theorem oh130 : okHeadAll 130 := Or.inr (Or.inr (by decide +kernel))
theorem oc131_0 : okChunk 131 0 = true := by decide +kernel
theorem oc131_1 : okChunk 131 1 = true := by decide +kernel
theorem or131 : okRowsAll 131 := fun i h => (show ∀ i, i < 2 → okChunk 131 i = true from (lt_s (lt_s lt_0 oc131_0) oc131_1)) i (Nat.lt_of_lt_of_eq h (by decide +kernel))
theorem oh131 : okHeadAll 131 := Or.inr (Or.inr (by decide +kernel))
theorem oc132_0 : okChunk 132 0 = true := by decide +kernel
theorem or132 : okRowsAll 132 := fun i h => (show ∀ i, i < 1 → okChunk 132 i = true from (lt_s lt_0 oc132_0)) i (Nat.lt_of_lt_of_eq h (by decide +kernel))
theorem oh132 : okHeadAll 132 := Or.inr (Or.inr (by decide +kernel))
theorem oc133_0 : okChunk 133 0 = true := by decide +kernel
theorem or133 : okRowsAll 133 := fun i h => (show ∀ i, i < 1 → okChunk 133 i = true from (lt_s lt_0 oc133_0)) i (Nat.lt_of_lt_of_eq h (by decide +kernel))
theorem oh133 : okHeadAll 133 := Or.inr (Or.inr (by decide +kernel))
theorem oc134_0 : okChunk 134 0 = true := by decide +kernel
theorem oc134_1 : okChunk 134 1 = true := by decide +kernel
theorem or134 : okRowsAll 134 := fun i h => (show ∀ i, i < 2 → okChunk 134 i = true from (lt_s (lt_s lt_0 oc134_0) oc134_1)) i (Nat.lt_of_lt_of_eq h (by decide +kernel))
theorem oh134 : okHeadAll 134 := Or.inr (Or.inr (by decide +kernel))
theorem oc135_0 : okChunk 135 0 = true := by decide +kernel
theorem or135 : okRowsAll 135 := fun i h => (show ∀ i, i < 1 → okChunk 135 i = true from (lt_s lt_0 oc135_0)) i (Nat.lt_of_lt_of_eq h (by decide +kernel))
theorem oh135 : okHeadAll 135 := Or.inr (Or.inr (by decide +kernel))
theorem oc136_0 : okChunk 136 0 = true := by decide +kernel
theorem or136 : okRowsAll 136 := fun i h => (show ∀ i, i < 1 → okChunk 136 i = true from (lt_s lt_0 oc136_0)) i (Nat.lt_of_lt_of_eq h (by decide +kernel))
theorem oh136 : okHeadAll 136 := Or.inr (Or.inr (by decide +kernel))
theorem oc137_0 : okChunk 137 0 = true := by decide +kernel
theorem oc137_1 : okChunk 137 1 = true := by decide +kernel
theorem or137 : okRowsAll 137 := fun i h => (show ∀ i, i < 2 → okChunk 137 i = true from (lt_s (lt_s lt_0 oc137_0) oc137_1)) i (Nat.lt_of_lt_of_eq h (by decide +kernel))
theorem oh137 : okHeadAll 137 := Or.inr (Or.inr (by decide +kernel))
theorem oc138_0 : okChunk 138 0 = true := by decide +kernel
theorem oc138_1 : okChunk 138 1 = true := by decide +kernel
theorem or138 : okRowsAll 138 := fun i h => (show ∀ i, i < 2 → okChunk 138 i = true from (lt_s (lt_s lt_0 oc138_0) oc138_1)) i (Nat.lt_of_lt_of_eq h (by decide +kernel))
theorem oh138 : okHeadAll 138 := Or.inr (Or.inr (by decide +kernel))
theorem oc139_0 : okChunk 139 0 = true := by decide +kernel
theorem or139 : okRowsAll 139 := fun i h => (show ∀ i, i < 1 → okChunk 139 i = true from (lt_s lt_0 oc139_0)) i (Nat.lt_of_lt_of_eq h (by decide +kernel))
theorem oh139 : okHeadAll 139 := Or.inr (Or.inr (by decide +kernel))
theorem oc140_0 : okChunk 140 0 = true := by decide +kernel
theorem oc140_1 : okChunk 140 1 = true := by decide +kernel
theorem or140 : okRowsAll 140 := fun i h => (show ∀ i, i < 2 → okChunk 140 i = true from (lt_s (lt_s lt_0 oc140_0) oc140_1)) i (Nat.lt_of_lt_of_eq h (by decide +kernel))
theorem oh140 : okHeadAll 140 := Or.inr (Or.inr (by decide +kernel))
theorem oc141_0 : okChunk 141 0 = true := by decide +kernel
theorem or141 : okRowsAll 141 := fun i h => (show ∀ i, i < 1 → okChunk 141 i = true from (lt_s lt_0 oc141_0)) i (Nat.lt_of_lt_of_eq h (by decide +kernel))
theorem oh141 : okHeadAll 141 := Or.inr (Or.inr (by decide +kernel))
theorem oc142_0 : okChunk 142 0 = true := by decide +kernel
theorem or142 : okRowsAll 142 := fun i h => (show ∀ i, i < 1 → okChunk 142 i = true from (lt_s lt_0 oc142_0)) i (Nat.lt_of_lt_of_eq h (by decide +kernel))
theorem oh142 : okHeadAll 142 := Or.inr (Or.inr (by decide +kernel))
theorem oc143_0 : okChunk 143 0 = true := by decide +kernel
theorem or143 : okRowsAll 143 := fun i h => (show ∀ i, i < 1 → okChunk 143 i = true from (lt_s lt_0 oc143_0)) i (Nat.lt_of_lt_of_eq h (by decide +kernel))
theorem oh143 : okHeadAll 143 := Or.inr (Or.inr (by decide +kernel))
theorem oc144_0 : okChunk 144 0 = true := by decide +kernel
theorem oc144_1 : okChunk 144 1 = true := by decide +kernel
theorem or144 : okRowsAll 144 := fun i h => (show ∀ i, i < 2 → okChunk 144 i = true from (lt_s (lt_s lt_0 oc144_0) oc144_1)) i (Nat.lt_of_lt_of_eq h (by decide +kernel))
theorem oh144 : okHeadAll 144 := Or.inr (Or.inr (by decide +kernel))
theorem oc145_0 : okChunk 145 0 = true := by decide +kernel
theorem or145 : okRowsAll 145 := fun i h => (show ∀ i, i < 1 → okChunk 145 i = true from (lt_s lt_0 oc145_0)) i (Nat.lt_of_lt_of_eq h (by decide +kernel))
theorem oh145 : okHeadAll 145 := Or.inr (Or.inr (by decide +kernel))
theorem oc146_0 : okChunk 146 0 = true := by decide +kernel
theorem or146 : okRowsAll 146 := fun i h => (show ∀ i, i < 1 → okChunk 146 i = true from (lt_s lt_0 oc146_0)) i (Nat.lt_of_lt_of_eq h (by decide +kernel))
theorem oh146 : okHeadAll 146 := Or.inr (Or.inr (by decide +kernel))
theorem oc147_0 : okChunk 147 0 = true := by decide +kernel
theorem or147 : okRowsAll 147 := fun i h => (show ∀ i, i < 1 → okChunk 147 i = true from (lt_s lt_0 oc147_0)) i (Nat.lt_of_lt_of_eq h (by decide +kernel))
theorem oh147 : okHeadAll 147 := Or.inr (Or.inr (by decide +kernel))
theorem oc148_0 : okChunk 148 0 = true := by decide +kernel
theorem or148 : okRowsAll 148 := fun i h => (show ∀ i, i < 1 → okChunk 148 i = true from (lt_s lt_0 oc148_0)) i (Nat.lt_of_lt_of_eq h (by decide +kernel))
theorem oh148 : okHeadAll 148 := Or.inr (Or.inr (by decide +kernel))
theorem oc149_0 : okChunk 149 0 = true := by decide +kernel
theorem or149 : okRowsAll 149 := fun i h => (show ∀ i, i < 1 → okChunk 149 i = true from (lt_s lt_0 oc149_0)) i (Nat.lt_of_lt_of_eq h (by decide +kernel))
theorem oh149 : okHeadAll 149 := Or.inr (Or.inr (by decide +kernel))
theorem oc150_0 : okChunk 150 0 = true := by decide +kernel
theorem oc150_1 : okChunk 150 1 = true := by decide +kernel
theorem or150 : okRowsAll 150 := fun i h => (show ∀ i, i < 2 → okChunk 150 i = true from (lt_s (lt_s lt_0 oc150_0) oc150_1)) i (Nat.lt_of_lt_of_eq h (by decide +kernel))
theorem oh150 : okHeadAll 150 := Or.inr (Or.inr (by decide +kernel))
theorem oc151_0 : okChunk 151 0 = true := by decide +kernel
theorem or151 : okRowsAll 151 := fun i h => (show ∀ i, i < 1 → okChunk 151 i = true from (lt_s lt_0 oc151_0)) i (Nat.lt_of_lt_of_eq h (by decide +kernel))
theorem oh151 : okHeadAll 151 := Or.inr (Or.inr (by decide +kernel))
theorem oc152_0 : okChunk 152 0 = true := by decide +kernel
theorem or152 : okRowsAll 152 := fun i h => (show ∀ i, i < 1 → okChunk 152 i = true from (lt_s lt_0 oc152_0)) i (Nat.lt_of_lt_of_eq h (by decide +kernel))
theorem oh152 : okHeadAll 152 := Or.inr (Or.inr (by decide +kernel))
theorem oc153_0 : okChunk 153 0 = true := by decide +kernel
theorem or153 : okRowsAll 153 := fun i h => (show ∀ i, i < 1 → okChunk 153 i = true from (lt_s lt_0 oc153_0)) i (Nat.lt_of_lt_of_eq h (by decide +kernel))
theorem oh153 : okHeadAll 153 := Or.inr (Or.inr (by decide +kernel))
theorem oc154_0 : okChunk 154 0 = true := by decide +kernel
theorem or154 : okRowsAll 154 := fun i h => (show ∀ i, i < 1 → okChunk 154 i = true from (lt_s lt_0 oc154_0)) i (Nat.lt_of_lt_of_eq h (by decide +kernel))
theorem oh154 : okHeadAll 154 := Or.inr (Or.inr (by decide +kernel))
theorem oc155_0 : okChunk 155 0 = true := by decide +kernel
theorem or155 : okRowsAll 155 := fun i h => (show ∀ i, i < 1 → okChunk 155 i = true from (lt_s lt_0 oc155_0)) i (Nat.lt_of_lt_of_eq h (by decide +kernel))
theorem oh155 : okHeadAll 155 := Or.inr (Or.inr (by decide +kernel))
theorem oc156_0 : okChunk 156 0 = true := by decide +kernel
theorem oc156_1 : okChunk 156 1 = true := by decide +kernel
theorem or156 : okRowsAll 156 := fun i h => (show ∀ i, i < 2 → okChunk 156 i = true from (lt_s (lt_s lt_0 oc156_0) oc156_1)) i (Nat.lt_of_lt_of_eq h (by decide +kernel))
theorem oh156 : okHeadAll 156 := Or.inr (Or.inr (by decide +kernel))
theorem oc157_0 : okChunk 157 0 = true := by decide +kernel
theorem or157 : okRowsAll 157 := fun i h => (show ∀ i, i < 1 → okChunk 157 i = true from (lt_s lt_0 oc157_0)) i (Nat.lt_of_lt_of_eq h (by decide +kernel))
theorem oh157 : okHeadAll 157 := Or.inr (Or.inr (by decide +kernel))
theorem oc158_0 : okChunk 158 0 = true := by decide +kernel
theorem or158 : okRowsAll 158 := fun i h => (show ∀ i, i < 1 → okChunk 158 i = true from (lt_s lt_0 oc158_0)) i (Nat.lt_of_lt_of_eq h (by decide +kernel))
theorem oh158 : okHeadAll 158 := Or.inr (Or.inr (by decide +kernel))
theorem oc159_0 : okChunk 159 0 = true := by decide +kernel
theorem or159 : okRowsAll 159 := fun i h => (show ∀ i, i < 1 → okChunk 159 i = true from (lt_s lt_0 oc159_0)) i (Nat.lt_of_lt_of_eq h (by decide +kernel))
theorem oh159 : okHeadAll 159 := Or.inr (Or.inr (by decide +kernel))
theorem oc160_0 : okChunk 160 0 = true := by decide +kernel
theorem oc160_1 : okChunk 160 1 = true := by decide +kernel
theorem or160 : okRowsAll 160 := fun i h => (show ∀ i, i < 2 → okChunk 160 i = true from (lt_s (lt_s lt_0 oc160_0) oc160_1)) i (Nat.lt_of_lt_of_eq h (by decide +kernel))
theorem oh160 : okHeadAll 160 := Or.inr (Or.inr (by decide +kernel))
theorem oc161_0 : okChunk 161 0 = true := by decide +kernel
theorem oc161_1 : okChunk 161 1 = true := by decide +kernel
theorem or161 : okRowsAll 161 := fun i h => (show ∀ i, i < 2 → okChunk 161 i = true from (lt_s (lt_s lt_0 oc161_0) oc161_1)) i (Nat.lt_of_lt_of_eq h (by decide +kernel))
theorem oh161 : okHeadAll 161 := Or.inr (Or.inr (by decide +kernel))
theorem oc162_0 : okChunk 162 0 = true := by decide +kernel
theorem oc162_1 : okChunk 162 1 = true := by decide +kernel
theorem or162 : okRowsAll 162 := fun i h => (show ∀ i, i < 2 → okChunk 162 i = true from (lt_s (lt_s lt_0 oc162_0) oc162_1)) i (Nat.lt_of_lt_of_eq h (by decide +kernel))
theorem oh162 : okHeadAll 162 := Or.inr (Or.inr (by decide +kernel))
theorem oc163_0 : okChunk 163 0 = true := by decide +kernel
theorem oc163_1 : okChunk 163 1 = true := by decide +kernel
theorem oc163_2 : okChunk 163 2 = true := by decide +kernel
theorem or163 : okRowsAll 163 := fun i h => (show ∀ i, i < 3 → okChunk 163 i = true from (lt_s (lt_s (lt_s lt_0 oc163_0) oc163_1) oc163_2)) i (Nat.lt_of_lt_of_eq h (by decide +kernel))
theorem oh163 : okHeadAll 163 := Or.inr (Or.inr (by decide +kernel))
theorem oc164_0 : okChunk 164 0 = true := by decide +kernel
theorem or164 : okRowsAll 164 := fun i h => (show ∀ i, i < 1 → okChunk 164 i = true from (lt_s lt_0 oc164_0)) i (Nat.lt_of_lt_of_eq h (by decide +kernel))
theorem oh164 : okHeadAll 164 := Or.inr (Or.inr (by decide +kernel))
theorem oc165_0 : okChunk 165 0 = true := by decide +kernel
theorem or165 : okRowsAll 165 := fun i h => (show ∀ i, i < 1 → okChunk 165 i = true from (lt_s lt_0 oc165_0)) i (Nat.lt_of_lt_of_eq h (by decide +kernel))
theorem oh165 : okHeadAll 165 := Or.inr (Or.inr (by decide +kernel))
theorem oc166_0 : okChunk 166 0 = true := by decide +kernel
theorem oc166_1 : okChunk 166 1 = true := by decide +kernel
theorem or166 : okRowsAll 166 := fun i h => (show ∀ i, i < 2 → okChunk 166 i = true from (lt_s (lt_s lt_0 oc166_0) oc166_1)) i (Nat.lt_of_lt_of_eq h (by decide +kernel))
theorem oh166 : okHeadAll 166 := Or.inr (Or.inr (by decide +kernel))
theorem oc167_0 : okChunk 167 0 = true := by decide +kernel
theorem or167 : okRowsAll 167 := fun i h => (show ∀ i, i < 1 → okChunk 167 i = true from (lt_s lt_0 oc167_0)) i (Nat.lt_of_lt_of_eq h (by decide +kernel))
theorem oh167 : okHeadAll 167 := Or.inr (Or.inr (by decide +kernel))
theorem oc168_0 : okChunk 168 0 = true := by decide +kernel
theorem or168 : okRowsAll 168 := fun i h => (show ∀ i, i < 1 → okChunk 168 i = true from (lt_s lt_0 oc168_0)) i (Nat.lt_of_lt_of_eq h (by decide +kernel))
theorem oh168 : okHeadAll 168 := Or.inr (Or.inr (by decide +kernel))
theorem oc169_0 : okChunk 169 0 = true := by decide +kernel
theorem or169 : okRowsAll 169 := fun i h => (show ∀ i, i < 1 → okChunk 169 i = true from (lt_s lt_0 oc169_0)) i (Nat.lt_of_lt_of_eq h (by decide +kernel))
theorem oh169 : okHeadAll 169 := Or.inr (Or.inr (by decide +kernel))
theorem oc170_0 : okChunk 170 0 = true := by decide +kernel
theorem oc170_1 : okChunk 170 1 = true := by decide +kernel
theorem or170 : okRowsAll 170 := fun i h => (show ∀ i, i < 2 → okChunk 170 i = true from (lt_s (lt_s lt_0 oc170_0) oc170_1)) i (Nat.lt_of_lt_of_eq h (by decide +kernel))
theorem oh170 : okHeadAll 170 := Or.inr (Or.inr (by decide +kernel))
theorem oc171_0 : okChunk 171 0 = true := by decide +kernel
theorem or171 : okRowsAll 171 := fun i h => (show ∀ i, i < 1 → okChunk 171 i = true from (lt_s lt_0 oc171_0)) i (Nat.lt_of_lt_of_eq h (by decide +kernel))
theorem oh171 : okHeadAll 171 := Or.inr (Or.inr (by decide +kernel))
theorem oc172_0 : okChunk 172 0 = true := by decide +kernel
theorem or172 : okRowsAll 172 := fun i h => (show ∀ i, i < 1 → okChunk 172 i = true from (lt_s lt_0 oc172_0)) i (Nat.lt_of_lt_of_eq h (by decide +kernel))
theorem oh172 : okHeadAll 172 := Or.inr (Or.inr (by decide +kernel))
theorem oc173_0 : okChunk 173 0 = true := by decide +kernel
theorem oc173_1 : okChunk 173 1 = true := by decide +kernel
theorem or173 : okRowsAll 173 := fun i h => (show ∀ i, i < 2 → okChunk 173 i = true from (lt_s (lt_s lt_0 oc173_0) oc173_1)) i (Nat.lt_of_lt_of_eq h (by decide +kernel))
theorem oh173 : okHeadAll 173 := Or.inr (Or.inr (by decide +kernel))
theorem oc174_0 : okChunk 174 0 = true := by decide +kernel
theorem oc174_1 : okChunk 174 1 = true := by decide +kernel
theorem or174 : okRowsAll 174 := fun i h => (show ∀ i, i < 2 → okChunk 174 i = true from (lt_s (lt_s lt_0 oc174_0) oc174_1)) i (Nat.lt_of_lt_of_eq h (by decide +kernel))
theorem oh174 : okHeadAll 174 := Or.inr (Or.inr (by decide +kernel))
theorem oc175_0 : okChunk 175 0 = true := by decide +kernel
theorem or175 : okRowsAll 175 := fun i h => (show ∀ i, i < 1 → okChunk 175 i = true from (lt_s lt_0 oc175_0)) i (Nat.lt_of_lt_of_eq h (by decide +kernel))
theorem oh175 : okHeadAll 175 := Or.inr (Or.inr (by decide +kernel))
theorem oc176_0 : okChunk 176 0 = true := by decide +kernel
theorem or176 : okRowsAll 176 := fun i h => (show ∀ i, i < 1 → okChunk 176 i = true from (lt_s lt_0 oc176_0)) i (Nat.lt_of_lt_of_eq h (by decide +kernel))
theorem oh176 : okHeadAll 176 := Or.inr (Or.inr (by decide +kernel))
theorem oc177_0 : okChunk 177 0 = true := by decide +kernel
theorem or177 : okRowsAll 177 := fun i h => (show ∀ i, i < 1 → okChunk 177 i = true from (lt_s lt_0 oc177_0)) i (Nat.lt_of_lt_of_eq h (by decide +kernel))
theorem oh177 : okHeadAll 177 := Or.inr (Or.inr (by decide +kernel))
theorem oc178_0 : okChunk 178 0 = true := by decide +kernel
theorem oc178_1 : okChunk 178 1 = true := by decide +kernel
theorem or178 : okRowsAll 178 := fun i h => (show ∀ i, i < 2 → okChunk 178 i = true from (lt_s (lt_s lt_0 oc178_0) oc178_1)) i (Nat.lt_of_lt_of_eq h (by decide +kernel))
theorem oh178 : okHeadAll 178 := Or.inr (Or.inr (by decide +kernel))
theorem oc179_0 : okChunk 179 0 = true := by decide +kernel
theorem oc179_1 : okChunk 179 1 = true := by decide +kernel
theorem or179 : okRowsAll 179 := fun i h => (show ∀ i, i < 2 → okChunk 179 i = true from (lt_s (lt_s lt_0 oc179_0) oc179_1)) i (Nat.lt_of_lt_of_eq h (by decide +kernel))
theorem oh179 : okHeadAll 179 := Or.inr (Or.inr (by decide +kernel))
theorem oc180_0 : okChunk 180 0 = true := by decide +kernel
theorem oc180_1 : okChunk 180 1 = true := by decide +kernel
theorem or180 : okRowsAll 180 := fun i h => (show ∀ i, i < 2 → okChunk 180 i = true from (lt_s (lt_s lt_0 oc180_0) oc180_1)) i (Nat.lt_of_lt_of_eq h (by decide +kernel))
theorem oh180 : okHeadAll 180 := Or.inr (Or.inr (by decide +kernel))
theorem oc181_0 : okChunk 181 0 = true := by decide +kernel
theorem or181 : okRowsAll 181 := fun i h => (show ∀ i, i < 1 → okChunk 181 i = true from (lt_s lt_0 oc181_0)) i (Nat.lt_of_lt_of_eq h (by decide +kernel))
theorem oh181 : okHeadAll 181 := Or.inl rfl
theorem oc182_0 : okChunk 182 0 = true := by decide +kernel
theorem or182 : okRowsAll 182 := fun i h => (show ∀ i, i < 1 → okChunk 182 i = true from (lt_s lt_0 oc182_0)) i (Nat.lt_of_lt_of_eq h (by decide +kernel))
theorem oh182 : okHeadAll 182 := Or.inr (Or.inl rfl)
theorem oc183_0 : okChunk 183 0 = true := by decide +kernel
theorem or183 : okRowsAll 183 := fun i h => (show ∀ i, i < 1 → okChunk 183 i = true from (lt_s lt_0 oc183_0)) i (Nat.lt_of_lt_of_eq h (by decide +kernel))
theorem oh183 : okHeadAll 183 := Or.inr (Or.inr (by decide +kernel))
theorem oc184_0 : okChunk 184 0 = true := by decide +kernel
theorem oc184_1 : okChunk 184 1 = true := by decide +kernel
theorem oc184_2 : okChunk 184 2 = true := by decide +kernel
theorem oc184_3 : okChunk 184 3 = true := by decide +kernel
theorem oc184_4 : okChunk 184 4 = true := by decide +kernel
theorem oc184_5 : okChunk 184 5 = true := by decide +kernel
theorem oc184_6 : okChunk 184 6 = true := by decide +kernel
theorem oc184_7 : okChunk 184 7 = true := by decide +kernel
theorem oc184_8 : okChunk 184 8 = true := by decide +kernel
theorem oc184_9 : okChunk 184 9 = true := by decide +kernel
theorem oc184_10 : okChunk 184 10 = true := by decide +kernel
theorem oc184_11 : okChunk 184 11 = true := by decide +kernel
theorem oc184_12 : okChunk 184 12 = true := by decide +kernel
theorem oc184_13 : okChunk 184 13 = true := by decide +kernel
theorem oc184_14 : okChunk 184 14 = true := by decide +kernel
theorem or184 : okRowsAll 184 := fun i h => (show ∀ i, i < 15 → okChunk 184 i = true from (lt_s (lt_s (lt_s (lt_s (lt_s (lt_s (lt_s (lt_s (lt_s (lt_s (lt_s (lt_s (lt_s (lt_s (lt_s lt_0 oc184_0) oc184_1) oc184_2) oc184_3) oc184_4) oc184_5) oc184_6) oc184_7) oc184_8) oc184_9) oc184_10) oc184_11) oc184_12) oc184_13) oc184_14)) i (Nat.lt_of_lt_of_eq h (by decide +kernel))
theorem orA0 : ∀ k, k < 0 → okRowsAll k := lt_0
theorem ohA0 : ∀ k, k < 0 → okHeadAll k := lt_0
theorem orA1 : ∀ k, k < 1 → okRowsAll k := lt_s orA0 or0
theorem ohA1 : ∀ k, k < 1 → okHeadAll k := lt_s ohA0 oh0
theorem orA2 : ∀ k, k < 2 → okRowsAll k := lt_s orA1 or1
theorem ohA2 : ∀ k, k < 2 → okHeadAll k := lt_s ohA1 oh1
theorem orA3 : ∀ k, k < 3 → okRowsAll k := lt_s orA2 or2
theorem ohA3 : ∀ k, k < 3 → okHeadAll k := lt_s ohA2 oh2
theorem orA4 : ∀ k, k < 4 → okRowsAll k := lt_s orA3 or3
theorem ohA4 : ∀ k, k < 4 → okHeadAll k := lt_s ohA3 oh3
theorem orA5 : ∀ k, k < 5 → okRowsAll k := lt_s orA4 or4
theorem ohA5 : ∀ k, k < 5 → okHeadAll k := lt_s ohA4 oh4
theorem orA6 : ∀ k, k < 6 → okRowsAll k := lt_s orA5 or5
theorem ohA6 : ∀ k, k < 6 → okHeadAll k := lt_s ohA5 oh5
theorem orA7 : ∀ k, k < 7 → okRowsAll k := lt_s orA6 or6
theorem ohA7 : ∀ k, k < 7 → okHeadAll k := lt_s ohA6 oh6
theorem orA8 : ∀ k, k < 8 → okRowsAll k := lt_s orA7 or7
theorem ohA8 : ∀ k, k < 8 → okHeadAll k := lt_s ohA7 oh7
theorem orA9 : ∀ k, k < 9 → okRowsAll k := lt_s orA8 or8
theorem ohA9 : ∀ k, k < 9 → okHeadAll k := lt_s ohA8 oh8
theorem orA10 : ∀ k, k < 10 → okRowsAll k := lt_s orA9 or9
theorem ohA10 : ∀ k, k < 10 → okHeadAll k := lt_s ohA9 oh9
theorem orA11 : ∀ k, k < 11 → okRowsAll k := lt_s orA10 or10
theorem ohA11 : ∀ k, k < 11 → okHeadAll k := lt_s ohA10 oh10
theorem orA12 : ∀ k, k < 12 → okRowsAll k := lt_s orA11 or11
theorem ohA12 : ∀ k, k < 12 → okHeadAll k := lt_s ohA11 oh11
theorem orA13 : ∀ k, k < 13 → okRowsAll k := lt_s orA12 or12
theorem ohA13 : ∀ k, k < 13 → okHeadAll k := lt_s ohA12 oh12
theorem orA14 : ∀ k, k < 14 → okRowsAll k := lt_s orA13 or13
theorem ohA14 : ∀ k, k < 14 → okHeadAll k := lt_s ohA13 oh13
theorem orA15 : ∀ k, k < 15 → okRowsAll k := lt_s orA14 or14
theorem ohA15 : ∀ k, k < 15 → okHeadAll k := lt_s ohA14 oh14
theorem orA16 : ∀ k, k < 16 → okRowsAll k := lt_s orA15 or15
theorem ohA16 : ∀ k, k < 16 → okHeadAll k := lt_s ohA15 oh15
theorem orA17 : ∀ k, k < 17 → okRowsAll k := lt_s orA16 or16
theorem ohA17 : ∀ k, k < 17 → okHeadAll k := lt_s ohA16 oh16
theorem orA18 : ∀ k, k < 18 → okRowsAll k := lt_s orA17 or17
theorem ohA18 : ∀ k, k < 18 → okHeadAll k := lt_s ohA17 oh17
theorem orA19 : ∀ k, k < 19 → okRowsAll k := lt_s orA18 or18
theorem ohA19 : ∀ k, k < 19 → okHeadAll k := lt_s ohA18 oh18
theorem orA20 : ∀ k, k < 20 → okRowsAll k := lt_s orA19 or19
theorem ohA20 : ∀ k, k < 20 → okHeadAll k := lt_s ohA19 oh19
theorem orA21 : ∀ k, k < 21 → okRowsAll k := lt_s orA20 or20
theorem ohA21 : ∀ k, k < 21 → okHeadAll k := lt_s ohA20 oh20
theorem orA22 : ∀ k, k < 22 → okRowsAll k := lt_s orA21 or21
theorem ohA22 : ∀ k, k < 22 → okHeadAll k := lt_s ohA21 oh21
theorem orA23 : ∀ k, k < 23 → okRowsAll k := lt_s orA22 or22
theorem ohA23 : ∀ k, k < 23 → okHeadAll k := lt_s ohA22 oh22
theorem orA24 : ∀ k, k < 24 → okRowsAll k := lt_s orA23 or23
theorem ohA24 : ∀ k, k < 24 → okHeadAll k := lt_s ohA23 oh23
theorem orA25 : ∀ k, k < 25 → okRowsAll k := lt_s orA24 or24
theorem ohA25 : ∀ k, k < 25 → okHeadAll k := lt_s ohA24 oh24
theorem orA26 : ∀ k, k < 26 → okRowsAll k := lt_s orA25 or25
theorem ohA26 : ∀ k, k < 26 → okHeadAll k := lt_s ohA25 oh25
theorem orA27 : ∀ k, k < 27 → okRowsAll k := lt_s orA26 or26
theorem ohA27 : ∀ k, k < 27 → okHeadAll k := lt_s ohA26 oh26
theorem orA28 : ∀ k, k < 28 → okRowsAll k := lt_s orA27 or27
theorem ohA28 : ∀ k, k < 28 → okHeadAll k := lt_s ohA27 oh27
theorem orA29 : ∀ k, k < 29 → okRowsAll k := lt_s orA28 or28
theorem ohA29 : ∀ k, k < 29 → okHeadAll k := lt_s ohA28 oh28
theorem orA30 : ∀ k, k < 30 → okRowsAll k := lt_s orA29 or29
theorem ohA30 : ∀ k, k < 30 → okHeadAll k := lt_s ohA29 oh29
theorem orA31 : ∀ k, k < 31 → okRowsAll k := lt_s orA30 or30
theorem ohA31 : ∀ k, k < 31 → okHeadAll k := lt_s ohA30 oh30
theorem orA32 : ∀ k, k < 32 → okRowsAll k := lt_s orA31 or31
theorem ohA32 : ∀ k, k < 32 → okHeadAll k := lt_s ohA31 oh31
theorem orA33 : ∀ k, k < 33 → okRowsAll k := lt_s orA32 or32
theorem ohA33 : ∀ k, k < 33 → okHeadAll k := lt_s ohA32 oh32
theorem orA34 : ∀ k, k < 34 → okRowsAll k := lt_s orA33 or33
theorem ohA34 : ∀ k, k < 34 → okHeadAll k := lt_s ohA33 oh33
theorem orA35 : ∀ k, k < 35 → okRowsAll k := lt_s orA34 or34
theorem ohA35 : ∀ k, k < 35 → okHeadAll k := lt_s ohA34 oh34
theorem orA36 : ∀ k, k < 36 → okRowsAll k := lt_s orA35 or35
theorem ohA36 : ∀ k, k < 36 → okHeadAll k := lt_s ohA35 oh35
theorem orA37 : ∀ k, k < 37 → okRowsAll k := lt_s orA36 or36
theorem ohA37 : ∀ k, k < 37 → okHeadAll k := lt_s ohA36 oh36
theorem orA38 : ∀ k, k < 38 → okRowsAll k := lt_s orA37 or37
theorem ohA38 : ∀ k, k < 38 → okHeadAll k := lt_s ohA37 oh37
theorem orA39 : ∀ k, k < 39 → okRowsAll k := lt_s orA38 or38
theorem ohA39 : ∀ k, k < 39 → okHeadAll k := lt_s ohA38 oh38
theorem orA40 : ∀ k, k < 40 → okRowsAll k := lt_s orA39 or39
theorem ohA40 : ∀ k, k < 40 → okHeadAll k := lt_s ohA39 oh39
theorem orA41 : ∀ k, k < 41 → okRowsAll k := lt_s orA40 or40
theorem ohA41 : ∀ k, k < 41 → okHeadAll k := lt_s ohA40 oh40
theorem orA42 : ∀ k, k < 42 → okRowsAll k := lt_s orA41 or41
theorem ohA42 : ∀ k, k < 42 → okHeadAll k := lt_s ohA41 oh41
theorem orA43 : ∀ k, k < 43 → okRowsAll k := lt_s orA42 or42
theorem ohA43 : ∀ k, k < 43 → okHeadAll k := lt_s ohA42 oh42
theorem orA44 : ∀ k, k < 44 → okRowsAll k := lt_s orA43 or43
theorem ohA44 : ∀ k, k < 44 → okHeadAll k := lt_s ohA43 oh43
theorem orA45 : ∀ k, k < 45 → okRowsAll k := lt_s orA44 or44
theorem ohA45 : ∀ k, k < 45 → okHeadAll k := lt_s ohA44 oh44
theorem orA46 : ∀ k, k < 46 → okRowsAll k := lt_s orA45 or45
theorem ohA46 : ∀ k, k < 46 → okHeadAll k := lt_s ohA45 oh45
theorem orA47 : ∀ k, k < 47 → okRowsAll k := lt_s orA46 or46
theorem ohA47 : ∀ k, k < 47 → okHeadAll k := lt_s ohA46 oh46
theorem orA48 : ∀ k, k < 48 → okRowsAll k := lt_s orA47 or47
theorem ohA48 : ∀ k, k < 48 → okHeadAll k := lt_s ohA47 oh47
theorem orA49 : ∀ k, k < 49 → okRowsAll k := lt_s orA48 or48
theorem ohA49 : ∀ k, k < 49 → okHeadAll k := lt_s ohA48 oh48
theorem orA50 : ∀ k, k < 50 → okRowsAll k := lt_s orA49 or49
theorem ohA50 : ∀ k, k < 50 → okHeadAll k := lt_s ohA49 oh49
theorem orA51 : ∀ k, k < 51 → okRowsAll k := lt_s orA50 or50
theorem ohA51 : ∀ k, k < 51 → okHeadAll k := lt_s ohA50 oh50
theorem orA52 : ∀ k, k < 52 → okRowsAll k := lt_s orA51 or51
theorem ohA52 : ∀ k, k < 52 → okHeadAll k := lt_s ohA51 oh51
theorem orA53 : ∀ k, k < 53 → okRowsAll k := lt_s orA52 or52
theorem ohA53 : ∀ k, k < 53 → okHeadAll k := lt_s ohA52 oh52
theorem orA54 : ∀ k, k < 54 → okRowsAll k := lt_s orA53 or53
theorem ohA54 : ∀ k, k < 54 → okHeadAll k := lt_s ohA53 oh53
theorem orA55 : ∀ k, k < 55 → okRowsAll k := lt_s orA54 or54
theorem ohA55 : ∀ k, k < 55 → okHeadAll k := lt_s ohA54 oh54
theorem orA56 : ∀ k, k < 56 → okRowsAll k := lt_s orA55 or55
theorem ohA56 : ∀ k, k < 56 → okHeadAll k := lt_s ohA55 oh55
theorem orA57 : ∀ k, k < 57 → okRowsAll k := lt_s orA56 or56
theorem ohA57 : ∀ k, k < 57 → okHeadAll k := lt_s ohA56 oh56
theorem orA58 : ∀ k, k < 58 → okRowsAll k := lt_s orA57 or57
theorem ohA58 : ∀ k, k < 58 → okHeadAll k := lt_s ohA57 oh57
theorem orA59 : ∀ k, k < 59 → okRowsAll k := lt_s orA58 or58
theorem ohA59 : ∀ k, k < 59 → okHeadAll k := lt_s ohA58 oh58
theorem orA60 : ∀ k, k < 60 → okRowsAll k := lt_s orA59 or59
theorem ohA60 : ∀ k, k < 60 → okHeadAll k := lt_s ohA59 oh59
theorem orA61 : ∀ k, k < 61 → okRowsAll k := lt_s orA60 or60
theorem ohA61 : ∀ k, k < 61 → okHeadAll k := lt_s ohA60 oh60
theorem orA62 : ∀ k, k < 62 → okRowsAll k := lt_s orA61 or61
theorem ohA62 : ∀ k, k < 62 → okHeadAll k := lt_s ohA61 oh61
theorem orA63 : ∀ k, k < 63 → okRowsAll k := lt_s orA62 or62
theorem ohA63 : ∀ k, k < 63 → okHeadAll k := lt_s ohA62 oh62
theorem orA64 : ∀ k, k < 64 → okRowsAll k := lt_s orA63 or63
theorem ohA64 : ∀ k, k < 64 → okHeadAll k := lt_s ohA63 oh63
theorem orA65 : ∀ k, k < 65 → okRowsAll k := lt_s orA64 or64
theorem ohA65 : ∀ k, k < 65 → okHeadAll k := lt_s ohA64 oh64
theorem orA66 : ∀ k, k < 66 → okRowsAll k := lt_s orA65 or65
theorem ohA66 : ∀ k, k < 66 → okHeadAll k := lt_s ohA65 oh65
theorem orA67 : ∀ k, k < 67 → okRowsAll k := lt_s orA66 or66
theorem ohA67 : ∀ k, k < 67 → okHeadAll k := lt_s ohA66 oh66
theorem orA68 : ∀ k, k < 68 → okRowsAll k := lt_s orA67 or67
theorem ohA68 : ∀ k, k < 68 → okHeadAll k := lt_s ohA67 oh67
theorem orA69 : ∀ k, k < 69 → okRowsAll k := lt_s orA68 or68
theorem ohA69 : ∀ k, k < 69 → okHeadAll k := lt_s ohA68 oh68
theorem orA70 : ∀ k, k < 70 → okRowsAll k := lt_s orA69 or69
theorem ohA70 : ∀ k, k < 70 → okHeadAll k := lt_s ohA69 oh69
theorem orA71 : ∀ k, k < 71 → okRowsAll k := lt_s orA70 or70
theorem ohA71 : ∀ k, k < 71 → okHeadAll k := lt_s ohA70 oh70
theorem orA72 : ∀ k, k < 72 → okRowsAll k := lt_s orA71 or71
theorem ohA72 : ∀ k, k < 72 → okHeadAll k := lt_s ohA71 oh71
theorem orA73 : ∀ k, k < 73 → okRowsAll k := lt_s orA72 or72
theorem ohA73 : ∀ k, k < 73 → okHeadAll k := lt_s ohA72 oh72
theorem orA74 : ∀ k, k < 74 → okRowsAll k := lt_s orA73 or73
theorem ohA74 : ∀ k, k < 74 → okHeadAll k := lt_s ohA73 oh73
theorem orA75 : ∀ k, k < 75 → okRowsAll k := lt_s orA74 or74
theorem ohA75 : ∀ k, k < 75 → okHeadAll k := lt_s ohA74 oh74
theorem orA76 : ∀ k, k < 76 → okRowsAll k := lt_s orA75 or75
theorem ohA76 : ∀ k, k < 76 → okHeadAll k := lt_s ohA75 oh75
theorem orA77 : ∀ k, k < 77 → okRowsAll k := lt_s orA76 or76
theorem ohA77 : ∀ k, k < 77 → okHeadAll k := lt_s ohA76 oh76
theorem orA78 : ∀ k, k < 78 → okRowsAll k := lt_s orA77 or77
theorem ohA78 : ∀ k, k < 78 → okHeadAll k := lt_s ohA77 oh77
theorem orA79 : ∀ k, k < 79 → okRowsAll k := lt_s orA78 or78
theorem ohA79 : ∀ k, k < 79 → okHeadAll k := lt_s ohA78 oh78
theorem orA80 : ∀ k, k < 80 → okRowsAll k := lt_s orA79 or79
theorem ohA80 : ∀ k, k < 80 → okHeadAll k := lt_s ohA79 oh79
theorem orA81 : ∀ k, k < 81 → okRowsAll k := lt_s orA80 or80
theorem ohA81 : ∀ k, k < 81 → okHeadAll k := lt_s ohA80 oh80
theorem orA82 : ∀ k, k < 82 → okRowsAll k := lt_s orA81 or81
theorem ohA82 : ∀ k, k < 82 → okHeadAll k := lt_s ohA81 oh81
theorem orA83 : ∀ k, k < 83 → okRowsAll k := lt_s orA82 or82
theorem ohA83 : ∀ k, k < 83 → okHeadAll k := lt_s ohA82 oh82
theorem orA84 : ∀ k, k < 84 → okRowsAll k := lt_s orA83 or83
theorem ohA84 : ∀ k, k < 84 → okHeadAll k := lt_s ohA83 oh83
theorem orA85 : ∀ k, k < 85 → okRowsAll k := lt_s orA84 or84
theorem ohA85 : ∀ k, k < 85 → okHeadAll k := lt_s ohA84 oh84
theorem orA86 : ∀ k, k < 86 → okRowsAll k := lt_s orA85 or85
theorem ohA86 : ∀ k, k < 86 → okHeadAll k := lt_s ohA85 oh85
theorem orA87 : ∀ k, k < 87 → okRowsAll k := lt_s orA86 or86
theorem ohA87 : ∀ k, k < 87 → okHeadAll k := lt_s ohA86 oh86
theorem orA88 : ∀ k, k < 88 → okRowsAll k := lt_s orA87 or87
theorem ohA88 : ∀ k, k < 88 → okHeadAll k := lt_s ohA87 oh87
theorem orA89 : ∀ k, k < 89 → okRowsAll k := lt_s orA88 or88
theorem ohA89 : ∀ k, k < 89 → okHeadAll k := lt_s ohA88 oh88
theorem orA90 : ∀ k, k < 90 → okRowsAll k := lt_s orA89 or89
theorem ohA90 : ∀ k, k < 90 → okHeadAll k := lt_s ohA89 oh89
theorem orA91 : ∀ k, k < 91 → okRowsAll k := lt_s orA90 or90
theorem ohA91 : ∀ k, k < 91 → okHeadAll k := lt_s ohA90 oh90
theorem orA92 : ∀ k, k < 92 → okRowsAll k := lt_s orA91 or91
theorem ohA92 : ∀ k, k < 92 → okHeadAll k := lt_s ohA91 oh91
theorem orA93 : ∀ k, k < 93 → okRowsAll k := lt_s orA92 or92
theorem ohA93 : ∀ k, k < 93 → okHeadAll k := lt_s ohA92 oh92
theorem orA94 : ∀ k, k < 94 → okRowsAll k := lt_s orA93 or93
theorem ohA94 : ∀ k, k < 94 → okHeadAll k := lt_s ohA93 oh93
theorem orA95 : ∀ k, k < 95 → okRowsAll k := lt_s orA94 or94
theorem ohA95 : ∀ k, k < 95 → okHeadAll k := lt_s ohA94 oh94
theorem orA96 : ∀ k, k < 96 → okRowsAll k := lt_s orA95 or95
theorem ohA96 : ∀ k, k < 96 → okHeadAll k := lt_s ohA95 oh95
theorem orA97 : ∀ k, k < 97 → okRowsAll k := lt_s orA96 or96
theorem ohA97 : ∀ k, k < 97 → okHeadAll k := lt_s ohA96 oh96
theorem orA98 : ∀ k, k < 98 → okRowsAll k := lt_s orA97 or97
theorem ohA98 : ∀ k, k < 98 → okHeadAll k := lt_s ohA97 oh97
theorem orA99 : ∀ k, k < 99 → okRowsAll k := lt_s orA98 or98
theorem ohA99 : ∀ k, k < 99 → okHeadAll k := lt_s ohA98 oh98
theorem orA100 : ∀ k, k < 100 → okRowsAll k := lt_s orA99 or99
theorem ohA100 : ∀ k, k < 100 → okHeadAll k := lt_s ohA99 oh99
theorem orA101 : ∀ k, k < 101 → okRowsAll k := lt_s orA100 or100
theorem ohA101 : ∀ k, k < 101 → okHeadAll k := lt_s ohA100 oh100
theorem orA102 : ∀ k, k < 102 → okRowsAll k := lt_s orA101 or101
theorem ohA102 : ∀ k, k < 102 → okHeadAll k := lt_s ohA101 oh101
theorem orA103 : ∀ k, k < 103 → okRowsAll k := lt_s orA102 or102
theorem ohA103 : ∀ k, k < 103 → okHeadAll k := lt_s ohA102 oh102
theorem orA104 : ∀ k, k < 104 → okRowsAll k := lt_s orA103 or103
theorem ohA104 : ∀ k, k < 104 → okHeadAll k := lt_s ohA103 oh103
theorem orA105 : ∀ k, k < 105 → okRowsAll k := lt_s orA104 or104
theorem ohA105 : ∀ k, k < 105 → okHeadAll k := lt_s ohA104 oh104
theorem orA106 : ∀ k, k < 106 → okRowsAll k := lt_s orA105 or105
theorem ohA106 : ∀ k, k < 106 → okHeadAll k := lt_s ohA105 oh105
theorem orA107 : ∀ k, k < 107 → okRowsAll k := lt_s orA106 or106
theorem ohA107 : ∀ k, k < 107 → okHeadAll k := lt_s ohA106 oh106
theorem orA108 : ∀ k, k < 108 → okRowsAll k := lt_s orA107 or107
theorem ohA108 : ∀ k, k < 108 → okHeadAll k := lt_s ohA107 oh107
theorem orA109 : ∀ k, k < 109 → okRowsAll k := lt_s orA108 or108
theorem ohA109 : ∀ k, k < 109 → okHeadAll k := lt_s ohA108 oh108
theorem orA110 : ∀ k, k < 110 → okRowsAll k := lt_s orA109 or109
theorem ohA110 : ∀ k, k < 110 → okHeadAll k := lt_s ohA109 oh109
theorem orA111 : ∀ k, k < 111 → okRowsAll k := lt_s orA110 or110
theorem ohA111 : ∀ k, k < 111 → okHeadAll k := lt_s ohA110 oh110
theorem orA112 : ∀ k, k < 112 → okRowsAll k := lt_s orA111 or111
theorem ohA112 : ∀ k, k < 112 → okHeadAll k := lt_s ohA111 oh111
theorem orA113 : ∀ k, k < 113 → okRowsAll k := lt_s orA112 or112
theorem ohA113 : ∀ k, k < 113 → okHeadAll k := lt_s ohA112 oh112
theorem orA114 : ∀ k, k < 114 → okRowsAll k := lt_s orA113 or113
theorem ohA114 : ∀ k, k < 114 → okHeadAll k := lt_s ohA113 oh113
theorem orA115 : ∀ k, k < 115 → okRowsAll k := lt_s orA114 or114
theorem ohA115 : ∀ k, k < 115 → okHeadAll k := lt_s ohA114 oh114
theorem orA116 : ∀ k, k < 116 → okRowsAll k := lt_s orA115 or115
theorem ohA116 : ∀ k, k < 116 → okHeadAll k := lt_s ohA115 oh115
theorem orA117 : ∀ k, k < 117 → okRowsAll k := lt_s orA116 or116
theorem ohA117 : ∀ k, k < 117 → okHeadAll k := lt_s ohA116 oh116
theorem orA118 : ∀ k, k < 118 → okRowsAll k := lt_s orA117 or117
theorem ohA118 : ∀ k, k < 118 → okHeadAll k := lt_s ohA117 oh117
theorem orA119 : ∀ k, k < 119 → okRowsAll k := lt_s orA118 or118
theorem ohA119 : ∀ k, k < 119 → okHeadAll k := lt_s ohA118 oh118
theorem orA120 : ∀ k, k < 120 → okRowsAll k := lt_s orA119 or119
theorem ohA120 : ∀ k, k < 120 → okHeadAll k := lt_s ohA119 oh119
theorem orA121 : ∀ k, k < 121 → okRowsAll k := lt_s orA120 or120
theorem ohA121 : ∀ k, k < 121 → okHeadAll k := lt_s ohA120 oh120
theorem orA122 : ∀ k, k < 122 → okRowsAll k := lt_s orA121 or121
theorem ohA122 : ∀ k, k < 122 → okHeadAll k := lt_s ohA121 oh121
theorem orA123 : ∀ k, k < 123 → okRowsAll k := lt_s orA122 or122
theorem ohA123 : ∀ k, k < 123 → okHeadAll k := lt_s ohA122 oh122
theorem orA124 : ∀ k, k < 124 → okRowsAll k := lt_s orA123 or123
theorem ohA124 : ∀ k, k < 124 → okHeadAll k := lt_s ohA123 oh123
theorem orA125 : ∀ k, k < 125 → okRowsAll k := lt_s orA124 or124
theorem ohA125 : ∀ k, k < 125 → okHeadAll k := lt_s ohA124 oh124
theorem orA126 : ∀ k, k < 126 → okRowsAll k := lt_s orA125 or125
theorem ohA126 : ∀ k, k < 126 → okHeadAll k := lt_s ohA125 oh125
theorem orA127 : ∀ k, k < 127 → okRowsAll k := lt_s orA126 or126
theorem ohA127 : ∀ k, k < 127 → okHeadAll k := lt_s ohA126 oh126
theorem orA128 : ∀ k, k < 128 → okRowsAll k := lt_s orA127 or127
theorem ohA128 : ∀ k, k < 128 → okHeadAll k := lt_s ohA127 oh127
theorem orA129 : ∀ k, k < 129 → okRowsAll k := lt_s orA128 or128
theorem ohA129 : ∀ k, k < 129 → okHeadAll k := lt_s ohA128 oh128
theorem orA130 : ∀ k, k < 130 → okRowsAll k := lt_s orA129 or129
theorem ohA130 : ∀ k, k < 130 → okHeadAll k := lt_s ohA129 oh129
theorem orA131 : ∀ k, k < 131 → okRowsAll k := lt_s orA130 or130
theorem ohA131 : ∀ k, k < 131 → okHeadAll k := lt_s ohA130 oh130
theorem orA132 : ∀ k, k < 132 → okRowsAll k := lt_s orA131 or131
theorem ohA132 : ∀ k, k < 132 → okHeadAll k := lt_s ohA131 oh131
theorem orA133 : ∀ k, k < 133 → okRowsAll k := lt_s orA132 or132
theorem ohA133 : ∀ k, k < 133 → okHeadAll k := lt_s ohA132 oh132
theorem orA134 : ∀ k, k < 134 → okRowsAll k := lt_s orA133 or133
theorem ohA134 : ∀ k, k < 134 → okHeadAll k := lt_s ohA133 oh133
theorem orA135 : ∀ k, k < 135 → okRowsAll k := lt_s orA134 or134
theorem ohA135 : ∀ k, k < 135 → okHeadAll k := lt_s ohA134 oh134
theorem orA136 : ∀ k, k < 136 → okRowsAll k := lt_s orA135 or135
theorem ohA136 : ∀ k, k < 136 → okHeadAll k := lt_s ohA135 oh135
theorem orA137 : ∀ k, k < 137 → okRowsAll k := lt_s orA136 or136
theorem ohA137 : ∀ k, k < 137 → okHeadAll k := lt_s ohA136 oh136
theorem orA138 : ∀ k, k < 138 → okRowsAll k := lt_s orA137 or137
theorem ohA138 : ∀ k, k < 138 → okHeadAll k := lt_s ohA137 oh137
theorem orA139 : ∀ k, k < 139 → okRowsAll k := lt_s orA138 or138
theorem ohA139 : ∀ k, k < 139 → okHeadAll k := lt_s ohA138 oh138
theorem orA140 : ∀ k, k < 140 → okRowsAll k := lt_s orA139 or139
theorem ohA140 : ∀ k, k < 140 → okHeadAll k := lt_s ohA139 oh139
theorem orA141 : ∀ k, k < 141 → okRowsAll k := lt_s orA140 or140
theorem ohA141 : ∀ k, k < 141 → okHeadAll k := lt_s ohA140 oh140
theorem orA142 : ∀ k, k < 142 → okRowsAll k := lt_s orA141 or141
theorem ohA142 : ∀ k, k < 142 → okHeadAll k := lt_s ohA141 oh141
theorem orA143 : ∀ k, k < 143 → okRowsAll k := lt_s orA142 or142
theorem ohA143 : ∀ k, k < 143 → okHeadAll k := lt_s ohA142 oh142
theorem orA144 : ∀ k, k < 144 → okRowsAll k := lt_s orA143 or143
theorem ohA144 : ∀ k, k < 144 → okHeadAll k := lt_s ohA143 oh143
theorem orA145 : ∀ k, k < 145 → okRowsAll k := lt_s orA144 or144
theorem ohA145 : ∀ k, k < 145 → okHeadAll k := lt_s ohA144 oh144
theorem orA146 : ∀ k, k < 146 → okRowsAll k := lt_s orA145 or145
theorem ohA146 : ∀ k, k < 146 → okHeadAll k := lt_s ohA145 oh145
theorem orA147 : ∀ k, k < 147 → okRowsAll k := lt_s orA146 or146
theorem ohA147 : ∀ k, k < 147 → okHeadAll k := lt_s ohA146 oh146
theorem orA148 : ∀ k, k < 148 → okRowsAll k := lt_s orA147 or147
theorem ohA148 : ∀ k, k < 148 → okHeadAll k := lt_s ohA147 oh147
theorem orA149 : ∀ k, k < 149 → okRowsAll k := lt_s orA148 or148
theorem ohA149 : ∀ k, k < 149 → okHeadAll k := lt_s ohA148 oh148
theorem orA150 : ∀ k, k < 150 → okRowsAll k := lt_s orA149 or149
theorem ohA150 : ∀ k, k < 150 → okHeadAll k := lt_s ohA149 oh149
theorem orA151 : ∀ k, k < 151 → okRowsAll k := lt_s orA150 or150
theorem ohA151 : ∀ k, k < 151 → okHeadAll k := lt_s ohA150 oh150
theorem orA152 : ∀ k, k < 152 → okRowsAll k := lt_s orA151 or151
theorem ohA152 : ∀ k, k < 152 → okHeadAll k := lt_s ohA151 oh151
theorem orA153 : ∀ k, k < 153 → okRowsAll k := lt_s orA152 or152
theorem ohA153 : ∀ k, k < 153 → okHeadAll k := lt_s ohA152 oh152
theorem orA154 : ∀ k, k < 154 → okRowsAll k := lt_s orA153 or153
theorem ohA154 : ∀ k, k < 154 → okHeadAll k := lt_s ohA153 oh153
theorem orA155 : ∀ k, k < 155 → okRowsAll k := lt_s orA154 or154
theorem ohA155 : ∀ k, k < 155 → okHeadAll k := lt_s ohA154 oh154
theorem orA156 : ∀ k, k < 156 → okRowsAll k := lt_s orA155 or155
theorem ohA156 : ∀ k, k < 156 → okHeadAll k := lt_s ohA155 oh155
theorem orA157 : ∀ k, k < 157 → okRowsAll k := lt_s orA156 or156
theorem ohA157 : ∀ k, k < 157 → okHeadAll k := lt_s ohA156 oh156
theorem orA158 : ∀ k, k < 158 → okRowsAll k := lt_s orA157 or157
theorem ohA158 : ∀ k, k < 158 → okHeadAll k := lt_s ohA157 oh157
theorem orA159 : ∀ k, k < 159 → okRowsAll k := lt_s orA158 or158
theorem ohA159 : ∀ k, k < 159 → okHeadAll k := lt_s ohA158 oh158
theorem orA160 : ∀ k, k < 160 → okRowsAll k := lt_s orA159 or159
theorem ohA160 : ∀ k, k < 160 → okHeadAll k := lt_s ohA159 oh159
theorem orA161 : ∀ k, k < 161 → okRowsAll k := lt_s orA160 or160
theorem ohA161 : ∀ k, k < 161 → okHeadAll k := lt_s ohA160 oh160
theorem orA162 : ∀ k, k < 162 → okRowsAll k := lt_s orA161 or161
theorem ohA162 : ∀ k, k < 162 → okHeadAll k := lt_s ohA161 oh161
theorem orA163 : ∀ k, k < 163 → okRowsAll k := lt_s orA162 or162
theorem ohA163 : ∀ k, k < 163 → okHeadAll k := lt_s ohA162 oh162
theorem orA164 : ∀ k, k < 164 → okRowsAll k := lt_s orA163 or163
theorem ohA164 : ∀ k, k < 164 → okHeadAll k := lt_s ohA163 oh163
theorem orA165 : ∀ k, k < 165 → okRowsAll k := lt_s orA164 or164
theorem ohA165 : ∀ k, k < 165 → okHeadAll k := lt_s ohA164 oh164
theorem orA166 : ∀ k, k < 166 → okRowsAll k := lt_s orA165 or165
theorem ohA166 : ∀ k, k < 166 → okHeadAll k := lt_s ohA165 oh165
theorem orA167 : ∀ k, k < 167 → okRowsAll k := lt_s orA166 or166
theorem ohA167 : ∀ k, k < 167 → okHeadAll k := lt_s ohA166 oh166
theorem orA168 : ∀ k, k < 168 → okRowsAll k := lt_s orA167 or167
theorem ohA168 : ∀ k, k < 168 → okHeadAll k := lt_s ohA167 oh167
theorem orA169 : ∀ k, k < 169 → okRowsAll k := lt_s orA168 or168
theorem ohA169 : ∀ k, k < 169 → okHeadAll k := lt_s ohA168 oh168
theorem orA170 : ∀ k, k < 170 → okRowsAll k := lt_s orA169 or169
theorem ohA170 : ∀ k, k < 170 → okHeadAll k := lt_s ohA169 oh169
theorem orA171 : ∀ k, k < 171 → okRowsAll k := lt_s orA170 or170
theorem ohA171 : ∀ k, k < 171 → okHeadAll k := lt_s ohA170 oh170
theorem orA172 : ∀ k, k < 172 → okRowsAll k := lt_s orA171 or171
theorem ohA172 : ∀ k, k < 172 → okHeadAll k := lt_s ohA171 oh171
theorem orA173 : ∀ k, k < 173 → okRowsAll k := lt_s orA172 or172
theorem ohA173 : ∀ k, k < 173 → okHeadAll k := lt_s ohA172 oh172
theorem orA174 : ∀ k, k < 174 → okRowsAll k := lt_s orA173 or173
theorem ohA174 : ∀ k, k < 174 → okHeadAll k := lt_s ohA173 oh173
theorem orA175 : ∀ k, k < 175 → okRowsAll k := lt_s orA174 or174
theorem ohA175 : ∀ k, k < 175 → okHeadAll k := lt_s ohA174 oh174
theorem orA176 : ∀ k, k < 176 → okRowsAll k := lt_s orA175 or175
theorem ohA176 : ∀ k, k < 176 → okHeadAll k := lt_s ohA175 oh175
theorem orA177 : ∀ k, k < 177 → okRowsAll k := lt_s orA176 or176
theorem ohA177 : ∀ k, k < 177 → okHeadAll k := lt_s ohA176 oh176
theorem orA178 : ∀ k, k < 178 → okRowsAll k := lt_s orA177 or177
theorem ohA178 : ∀ k, k < 178 → okHeadAll k := lt_s ohA177 oh177
theorem orA179 : ∀ k, k < 179 → okRowsAll k := lt_s orA178 or178
theorem ohA179 : ∀ k, k < 179 → okHeadAll k := lt_s ohA178 oh178
theorem orA180 : ∀ k, k < 180 → okRowsAll k := lt_s orA179 or179
theorem ohA180 : ∀ k, k < 180 → okHeadAll k := lt_s ohA179 oh179
theorem orA181 : ∀ k, k < 181 → okRowsAll k := lt_s orA180 or180
theorem ohA181 : ∀ k, k < 181 → okHeadAll k := lt_s ohA180 oh180
theorem orA182 : ∀ k, k < 182 → okRowsAll k := lt_s orA181 or181
theorem ohA182 : ∀ k, k < 182 → okHeadAll k := lt_s ohA181 oh181
theorem orA183 : ∀ k, k < 183 → okRowsAll k := lt_s orA182 or182
theorem ohA183 : ∀ k, k < 183 → okHeadAll k := lt_s ohA182 oh182
theorem orA184 : ∀ k, k < 184 → okRowsAll k := lt_s orA183 or183
theorem ohA184 : ∀ k, k < 184 → okHeadAll k := lt_s ohA183 oh183
theorem orA185 : ∀ k, k < 185 → okRowsAll k := lt_s orA184 or184
