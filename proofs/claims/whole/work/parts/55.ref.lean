-- THE REFERENCE: its small methods
theorem uN_eq {z : Nat → Int} {i : Nat} {x : Int} : uN z i x i = x := if_pos rfl
theorem uN_ne {z : Nat → Int} {i j : Nat} {x : Int} (h : ¬ j = i) : uN z i x j = z j := if_neg h
section
variable {d : Nat} {h : LHeap} {Q : Option Value → LHeap → Prop} {x y w : Int} {z : Nat → Int}
theorem m_in (hd : 1 ≤ d) (hx : -2147483648 ≤ x ∧ x ≤ 2147483647) (hy : -2147483649 ≤ y ∧ y ≤ 2147483647) (hw : -2147483649 ≤ w ∧ w ≤ 2147483647) (kk : Q (some (vI (if y ≤ x ∧ x ≤ w then 1 else 0))) h) : CALL d 110 [vL x, vL y, vL w] h Q := by
  refine cl110 (by omega) ?_
  have e1 := zlcmp_r (x := x) (y := y) (by omega) (by omega) (by omega) (by omega)
  have e2 := zlcmp_r (x := x) (y := w) (by omega) (by omega) (by omega) (by omega)
  simp (disch := omega) only [wr_id, wr_m1, sd_t, nl_I, nl_R, nl_none, c1_I, c1_R, sh_0, sh_1, sh_2, sh_3, sh_4, true_and, and_true, ldA_A, ldB_B, ldS_S, stA_A, stB_B, aL_A, aL_B, aL_S, aC_A, hRd_eq, hRd_ne, cp6, cp8, tl_some, tl_none, List.cons_append, List.nil_append, ofI_t0, ofI_t1, Int.add_zero, Int.zero_add, x110_0, x110_1, x110_2, x110_3, x110_4, x110_5, x110_6, x110_7, x110_8, x110_9, x110_10, x110_11]
  rw [e1, e2]
  by_cases q : y ≤ x ∧ x ≤ w
  · rw [if_pos q] at kk
    exact ⟨fun z => by omega, fun z => ⟨fun z2 => by omega, fun _ => kk⟩⟩
  · rw [if_neg q] at kk
    exact ⟨fun _ => kk, fun z => ⟨fun _ => kk, fun z2 => by omega⟩⟩
theorem m_has (hd : 1 ≤ d) (kk : Q (some (vI (if bt x y = 1 then 1 else 0))) h) : CALL d 111 [vI x, vI y] h Q := by
  refine cl111 (by omega) ?_
  have hb := z_bit (zshr x y) 1
  simp (disch := omega) only [wr_id, wr_m1, sd_t, nl_I, nl_R, nl_none, c1_I, c1_R, sh_0, sh_1, sh_2, sh_3, sh_4, true_and, and_true, ldA_A, ldB_B, ldS_S, stA_A, stB_B, aL_A, aL_B, aL_S, aC_A, hRd_eq, hRd_ne, cp6, cp8, tl_some, tl_none, List.cons_append, List.nil_append, ofI_t0, ofI_t1, Int.add_zero, Int.zero_add, x111_0, x111_1, x111_2, x111_3, x111_4, x111_5, x111_6, x111_7, x111_8, x111_9, x111_10]
  unfold bt at kk
  refine ⟨fun q => ?_, fun q => ?_⟩
  · rw [if_neg q] at kk; exact kk
  · rw [if_pos (by omega)] at kk; exact kk
theorem m_later (hd : 1 ≤ d) (hx : -2147483648 ≤ x ∧ x ≤ 2147483647) (hy : -2147483648 ≤ y ∧ y ≤ 2147483647) (kk : Q (some (vI (mx x y))) h) : CALL d 128 [vI x, vI y] h Q := by
  refine cl128 (by omega) ?_
  simp (disch := omega) only [wr_id, wr_m1, sd_t, nl_I, nl_R, nl_none, c1_I, c1_R, sh_0, sh_1, sh_2, sh_3, sh_4, true_and, and_true, ldA_A, ldB_B, ldS_S, stA_A, stB_B, aL_A, aL_B, aL_S, aC_A, hRd_eq, hRd_ne, cp6, cp8, tl_some, tl_none, List.cons_append, List.nil_append, ofI_t0, ofI_t1, Int.add_zero, Int.zero_add, x128_0, x128_1, x128_2, x128_3, x128_4, x128_5, x128_6]
  unfold mx at kk
  refine ⟨fun q => ?_, fun q => ?_⟩
  · by_cases e : x < y
    · rw [if_pos e] at kk; exact kk
    · rw [if_neg e] at kk
      have : x = y := by omega
      rw [← this]; exact kk
  · rw [if_neg (by omega)] at kk; exact kk
theorem m_isP (hd : 2 ≤ d) (h1 : hRd h 156 = oM z) (hP : 0 ≤ z 1 ∧ z 1 ≤ 6) (hx : -2147483648 ≤ x ∧ x ≤ 2147483647) (kk : Q (some (vI (if 0 ≤ x ∧ x < z 1 then 1 else 0))) h) : CALL d 113 [.ref 156, vI x] h Q := by
  refine cl113 (by omega) h1 ?_
  simp (disch := omega) only [wr_id, wr_m1, sd_t, nl_I, nl_R, nl_none, c1_I, c1_R, sh_0, sh_1, sh_2, sh_3, sh_4, true_and, and_true, ldA_A, ldB_B, ldS_S, stA_A, stB_B, aL_A, aL_B, aL_S, aC_A, hRd_eq, hRd_ne, cp6, cp8, tl_some, tl_none, List.cons_append, List.nil_append, ofI_t0, ofI_t1, Int.add_zero, Int.zero_add, x113_0, x113_1, x113_2, x113_3, x113_4, x113_5, x113_6, x113_7, x113_8, x113_9, gf11_1, h1]
  refine m_in (by omega) (by omega) (by omega) (by omega) ?_
  by_cases q : 0 ≤ x ∧ x < z 1
  · rw [if_pos q] at kk
    rw [if_pos (by omega)]
    simp (disch := omega) only [wr_id, wr_m1, sd_t, nl_I, nl_R, nl_none, c1_I, c1_R, sh_0, sh_1, sh_2, sh_3, sh_4, true_and, and_true, ldA_A, ldB_B, ldS_S, stA_A, stB_B, aL_A, aL_B, aL_S, aC_A, hRd_eq, hRd_ne, cp6, cp8, tl_some, tl_none, List.cons_append, List.nil_append, ofI_t0, ofI_t1, Int.add_zero, Int.zero_add, x113_0, x113_1, x113_2, x113_3, x113_4, x113_5, x113_6, x113_7, x113_8, x113_9, gf11_1]
    exact kk
  · rw [if_neg q] at kk
    rw [if_neg (by omega)]
    simp (disch := omega) only [wr_id, wr_m1, sd_t, nl_I, nl_R, nl_none, c1_I, c1_R, sh_0, sh_1, sh_2, sh_3, sh_4, true_and, and_true, ldA_A, ldB_B, ldS_S, stA_A, stB_B, aL_A, aL_B, aL_S, aC_A, hRd_eq, hRd_ne, cp6, cp8, tl_some, tl_none, List.cons_append, List.nil_append, ofI_t0, ofI_t1, Int.add_zero, Int.zero_add, x113_0, x113_1, x113_2, x113_3, x113_4, x113_5, x113_6, x113_7, x113_8, x113_9, gf11_1]
    exact kk
theorem m_isJ (hd : 2 ≤ d) (h1 : hRd h 156 = oM z) (hP : 0 ≤ z 2 ∧ z 2 ≤ 8) (hx : -2147483648 ≤ x ∧ x ≤ 2147483647) (kk : Q (some (vI (if 0 ≤ x ∧ x < z 2 then 1 else 0))) h) : CALL d 114 [.ref 156, vI x] h Q := by
  refine cl114 (by omega) h1 ?_
  simp (disch := omega) only [wr_id, wr_m1, sd_t, nl_I, nl_R, nl_none, c1_I, c1_R, sh_0, sh_1, sh_2, sh_3, sh_4, true_and, and_true, ldA_A, ldB_B, ldS_S, stA_A, stB_B, aL_A, aL_B, aL_S, aC_A, hRd_eq, hRd_ne, cp6, cp8, tl_some, tl_none, List.cons_append, List.nil_append, ofI_t0, ofI_t1, Int.add_zero, Int.zero_add, x114_0, x114_1, x114_2, x114_3, x114_4, x114_5, x114_6, x114_7, x114_8, x114_9, gf11_2, h1]
  refine m_in (by omega) (by omega) (by omega) (by omega) ?_
  by_cases q : 0 ≤ x ∧ x < z 2
  · rw [if_pos q] at kk
    rw [if_pos (by omega)]
    simp (disch := omega) only [wr_id, wr_m1, sd_t, nl_I, nl_R, nl_none, c1_I, c1_R, sh_0, sh_1, sh_2, sh_3, sh_4, true_and, and_true, ldA_A, ldB_B, ldS_S, stA_A, stB_B, aL_A, aL_B, aL_S, aC_A, hRd_eq, hRd_ne, cp6, cp8, tl_some, tl_none, List.cons_append, List.nil_append, ofI_t0, ofI_t1, Int.add_zero, Int.zero_add, x114_0, x114_1, x114_2, x114_3, x114_4, x114_5, x114_6, x114_7, x114_8, x114_9, gf11_2]
    exact kk
  · rw [if_neg q] at kk
    rw [if_neg (by omega)]
    simp (disch := omega) only [wr_id, wr_m1, sd_t, nl_I, nl_R, nl_none, c1_I, c1_R, sh_0, sh_1, sh_2, sh_3, sh_4, true_and, and_true, ldA_A, ldB_B, ldS_S, stA_A, stB_B, aL_A, aL_B, aL_S, aC_A, hRd_eq, hRd_ne, cp6, cp8, tl_some, tl_none, List.cons_append, List.nil_append, ofI_t0, ofI_t1, Int.add_zero, Int.zero_add, x114_0, x114_1, x114_2, x114_3, x114_4, x114_5, x114_6, x114_7, x114_8, x114_9, gf11_2]
    exact kk
theorem m_inTime (hd : 1 ≤ d) (h1 : hRd h 156 = oM z) (hx : -2147483648 ≤ x ∧ x ≤ 2147483647) (hM : 0 ≤ z 0 ∧ z 0 ≤ 999) (kk : Q (some (vI (inT (z 0) x))) h) : CALL d 127 [.ref 156, vI x] h Q := by
  refine cl127 (by omega) h1 ?_
  simp (disch := omega) only [wr_id, wr_m1, sd_t, nl_I, nl_R, nl_none, c1_I, c1_R, sh_0, sh_1, sh_2, sh_3, sh_4, true_and, and_true, ldA_A, ldB_B, ldS_S, stA_A, stB_B, aL_A, aL_B, aL_S, aC_A, hRd_eq, hRd_ne, cp6, cp8, tl_some, tl_none, List.cons_append, List.nil_append, ofI_t0, ofI_t1, Int.add_zero, Int.zero_add, x127_0, x127_1, x127_2, x127_3, x127_4, x127_5, x127_6, x127_7, gf11_0, h1]
  unfold inT at kk
  refine ⟨fun q => ?_, fun q => ?_⟩
  · rw [if_neg (by omega)] at kk; exact kk
  · rw [if_pos (by omega)] at kk; exact kk
theorem m_fails (hd : 1 ≤ d) (h1 : hRd h 156 = oM z) (kk : Q (some (vI x)) (hWr h 156 (oM (uN z 10 y)))) : CALL d 117 [.ref 156, vI x, vI y] h Q := by
  refine cl117 (by omega) h1 ?_
  simp (disch := omega) only [wr_id, wr_m1, sd_t, nl_I, nl_R, nl_none, c1_I, c1_R, sh_0, sh_1, sh_2, sh_3, sh_4, true_and, and_true, ldA_A, ldB_B, ldS_S, stA_A, stB_B, aL_A, aL_B, aL_S, aC_A, hRd_eq, hRd_ne, cp6, cp8, tl_some, tl_none, List.cons_append, List.nil_append, ofI_t0, ofI_t1, Int.add_zero, Int.zero_add, x117_0, x117_1, x117_2, x117_3, x117_4, pf11_10, h1]
  exact kk
end
