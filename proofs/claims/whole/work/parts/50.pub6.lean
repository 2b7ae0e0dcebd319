-- THE CLASS'S OWN METHODS: what is told, persons, jobs
section
variable {d : Nat} {f wt tk bh kp sd ea la bj bm : Int → Int} {n pl M P J s ct bt : Int} {S : SS} {Hs : List SS} {im : Int → SS} {h : LHeap} {Q : Option Value → LHeap → Prop} {x y x1 x2 : Int}
def toF (n M P J : Int) (wt tk bh : Int → Int) (S : SS) (ct bt hl : Int) (x : Int) : Int :=
  if x = 0 then M else if x = 1 then P else if x = 2 then J else if x = 3 then n else if x = 4 then S.2.2.2.2 else if x = 5 then disF P S.1 else if x = 6 then S.2.2.2.1 else if x = 7 then stF (rU M J wt tk bh S) S.1 0 else if x = 8 then udF (rD M J wt tk bh S) J.toNat 0 0 else if x = 9 then ct else if x = 10 then bt else if x = 11 then hl else -1000000002
theorem c_told (hd : 7 ≤ d) (c : CI f n pl M P J wt tk bh S Hs kp sd im s ct ea la bt bj bm h) (hB : BD f n pl M P J wt tk bh S Hs kp sd im s ct ea la bt bj bm) (hx : -2147483648 ≤ x ∧ x ≤ 2147483647) (kk : ∀ h1, CI f n pl M P J wt tk bh S Hs kp sd im s ct ea la bt bj bm h1 → Out 1 155 h h1 → Q (some (vI (toF n M P J wt tk bh S ct bt Hs.length x))) h1) : CALL d 74 [.ref 1, vI x] h Q := by
  have a1 := c.w
  refine cl74 (by omega) a1 ?_
  simp (disch := omega) only [wr_id, wr_m1, sd_t, nl_I, nl_R, nl_none, c1_I, c1_R, sh_0, sh_1, sh_2, sh_3, sh_4, true_and, and_true, ldA_A, ldB_B, ldS_S, stA_A, stB_B, aL_A, aL_B, aL_S, aC_A, hRd_eq, hRd_ne, cp6, cp8, tl_some, tl_none, List.cons_append, List.nil_append, ofI_t0, ofI_t1, Int.add_zero, Int.zero_add, x74_0, x74_1, x74_2, gf10_1, a1]
  refine c_rk (by omega) c hB (fun h1 c1 e22 e23 o1 => ?_)
  have a11 := c1.w
  have kk := kk h1 c1 (o1.widen (by omega) (by omega))
  obtain ⟨tr, ra, rna, r1⟩ := c1.2.1
  have r1 := r1.1
  have h10 := c1.2.2.2.1
  obtain ⟨wk0, dr0, i1, i2, i3, i4, i5, i6⟩ := c1.2.2.2.2.1
  obtain ⟨e1, ⟨gg, e2, e2b, e2c⟩, e3, e4⟩ := c1.c17
  obtain ⟨nx, hh, -⟩ := c1.2.2.2.2.2.2.2.1
  obtain ⟨T, tot, su, pa, w1, -⟩ := c1.2.2.2.2.2.2.2.2.2.2.1
  have b1 := c1.2.2.2.2.2.2.2.2.2.2.2.1
  have hwr : wr x = x := wr_id (by omega) (by omega)
  unfold toF at kk
  simp (disch := omega) only [wr_id, wr_m1, sd_t, nl_I, nl_R, nl_none, c1_I, c1_R, sh_0, sh_1, sh_2, sh_3, sh_4, true_and, and_true, ldA_A, ldB_B, ldS_S, stA_A, stB_B, aL_A, aL_B, aL_S, aC_A, hRd_eq, hRd_ne, cp6, cp8, tl_some, tl_none, List.cons_append, List.nil_append, ofI_t0, ofI_t1, Int.add_zero, Int.zero_add, x74_3]
  refine x74_4 (fun z => ?_) (fun z => ?_) (fun z => ?_) (fun z => ?_) (fun z => ?_) (fun z => ?_) (fun z => ?_) (fun z => ?_) (fun z => ?_) (fun z => ?_) (fun z => ?_) (fun z => ?_) (fun z => ?_)
  · rw [hwr] at z
    rw [if_pos z] at kk
    simp (disch := omega) only [wr_id, wr_m1, sd_t, nl_I, nl_R, nl_none, c1_I, c1_R, sh_0, sh_1, sh_2, sh_3, sh_4, true_and, and_true, ldA_A, ldB_B, ldS_S, stA_A, stB_B, aL_A, aL_B, aL_S, aC_A, hRd_eq, hRd_ne, cp6, cp8, tl_some, tl_none, List.cons_append, List.nil_append, ofI_t0, ofI_t1, Int.add_zero, Int.zero_add, x74_5, x74_6, x74_7, x74_8, gf0_0, gf0_1, gf0_2, gf1_0, gf1_1, gf1_2, gf1_3, gf1_4, gf2_0, gf2_1, gf2_2, gf2_3, gf2_4, gf2_5, gf2_6, gf2_7, gf3_0, gf3_1, gf3_2, gf4_0, gf4_1, gf4_2, gf5_0, gf5_1, gf5_2, gf5_3, gf5_4, gf5_5, gf5_6, gf6_0, gf6_1, gf7_0, gf7_1, gf7_2, gf7_3, gf7_4, gf8_0, gf8_1, gf8_2, gf8_3, gf8_4, gf9_0, gf9_1, gf9_2, gf9_3, gf9_4, gf9_5, gf9_6, gf10_0, gf10_1, gf10_2, gf10_3, gf10_4, gf10_5, gf10_6, gf10_7, gf10_8, gf10_9, i1, r1, e1, a11]
    exact kk
  · rw [hwr] at z
    rw [if_neg (by omega), if_pos z] at kk
    simp (disch := omega) only [wr_id, wr_m1, sd_t, nl_I, nl_R, nl_none, c1_I, c1_R, sh_0, sh_1, sh_2, sh_3, sh_4, true_and, and_true, ldA_A, ldB_B, ldS_S, stA_A, stB_B, aL_A, aL_B, aL_S, aC_A, hRd_eq, hRd_ne, cp6, cp8, tl_some, tl_none, List.cons_append, List.nil_append, ofI_t0, ofI_t1, Int.add_zero, Int.zero_add, x74_9, x74_10, x74_11, x74_12, gf0_0, gf0_1, gf0_2, gf1_0, gf1_1, gf1_2, gf1_3, gf1_4, gf2_0, gf2_1, gf2_2, gf2_3, gf2_4, gf2_5, gf2_6, gf2_7, gf3_0, gf3_1, gf3_2, gf4_0, gf4_1, gf4_2, gf5_0, gf5_1, gf5_2, gf5_3, gf5_4, gf5_5, gf5_6, gf6_0, gf6_1, gf7_0, gf7_1, gf7_2, gf7_3, gf7_4, gf8_0, gf8_1, gf8_2, gf8_3, gf8_4, gf9_0, gf9_1, gf9_2, gf9_3, gf9_4, gf9_5, gf9_6, gf10_0, gf10_1, gf10_2, gf10_3, gf10_4, gf10_5, gf10_6, gf10_7, gf10_8, gf10_9, i1, r1, e1, a11]
    exact kk
  · rw [hwr] at z
    rw [if_neg (by omega), if_neg (by omega), if_pos z] at kk
    simp (disch := omega) only [wr_id, wr_m1, sd_t, nl_I, nl_R, nl_none, c1_I, c1_R, sh_0, sh_1, sh_2, sh_3, sh_4, true_and, and_true, ldA_A, ldB_B, ldS_S, stA_A, stB_B, aL_A, aL_B, aL_S, aC_A, hRd_eq, hRd_ne, cp6, cp8, tl_some, tl_none, List.cons_append, List.nil_append, ofI_t0, ofI_t1, Int.add_zero, Int.zero_add, x74_13, x74_14, x74_15, x74_16, gf0_0, gf0_1, gf0_2, gf1_0, gf1_1, gf1_2, gf1_3, gf1_4, gf2_0, gf2_1, gf2_2, gf2_3, gf2_4, gf2_5, gf2_6, gf2_7, gf3_0, gf3_1, gf3_2, gf4_0, gf4_1, gf4_2, gf5_0, gf5_1, gf5_2, gf5_3, gf5_4, gf5_5, gf5_6, gf6_0, gf6_1, gf7_0, gf7_1, gf7_2, gf7_3, gf7_4, gf8_0, gf8_1, gf8_2, gf8_3, gf8_4, gf9_0, gf9_1, gf9_2, gf9_3, gf9_4, gf9_5, gf9_6, gf10_0, gf10_1, gf10_2, gf10_3, gf10_4, gf10_5, gf10_6, gf10_7, gf10_8, gf10_9, i1, r1, e1, a11]
    exact kk
  · rw [hwr] at z
    rw [if_neg (by omega), if_neg (by omega), if_neg (by omega), if_pos z] at kk
    simp (disch := omega) only [wr_id, wr_m1, sd_t, nl_I, nl_R, nl_none, c1_I, c1_R, sh_0, sh_1, sh_2, sh_3, sh_4, true_and, and_true, ldA_A, ldB_B, ldS_S, stA_A, stB_B, aL_A, aL_B, aL_S, aC_A, hRd_eq, hRd_ne, cp6, cp8, tl_some, tl_none, List.cons_append, List.nil_append, ofI_t0, ofI_t1, Int.add_zero, Int.zero_add, x74_17, x74_18, x74_19, x74_20, gf0_0, gf0_1, gf0_2, gf1_0, gf1_1, gf1_2, gf1_3, gf1_4, gf2_0, gf2_1, gf2_2, gf2_3, gf2_4, gf2_5, gf2_6, gf2_7, gf3_0, gf3_1, gf3_2, gf4_0, gf4_1, gf4_2, gf5_0, gf5_1, gf5_2, gf5_3, gf5_4, gf5_5, gf5_6, gf6_0, gf6_1, gf7_0, gf7_1, gf7_2, gf7_3, gf7_4, gf8_0, gf8_1, gf8_2, gf8_3, gf8_4, gf9_0, gf9_1, gf9_2, gf9_3, gf9_4, gf9_5, gf9_6, gf10_0, gf10_1, gf10_2, gf10_3, gf10_4, gf10_5, gf10_6, gf10_7, gf10_8, gf10_9, i1, r1, e1, a11]
    exact kk
  · rw [hwr] at z
    rw [if_neg (by omega), if_neg (by omega), if_neg (by omega), if_neg (by omega), if_pos z] at kk
    simp (disch := omega) only [wr_id, wr_m1, sd_t, nl_I, nl_R, nl_none, c1_I, c1_R, sh_0, sh_1, sh_2, sh_3, sh_4, true_and, and_true, ldA_A, ldB_B, ldS_S, stA_A, stB_B, aL_A, aL_B, aL_S, aC_A, hRd_eq, hRd_ne, cp6, cp8, tl_some, tl_none, List.cons_append, List.nil_append, ofI_t0, ofI_t1, Int.add_zero, Int.zero_add, x74_21, x74_22, x74_23, x74_24, gf0_0, gf0_1, gf0_2, gf1_0, gf1_1, gf1_2, gf1_3, gf1_4, gf2_0, gf2_1, gf2_2, gf2_3, gf2_4, gf2_5, gf2_6, gf2_7, gf3_0, gf3_1, gf3_2, gf4_0, gf4_1, gf4_2, gf5_0, gf5_1, gf5_2, gf5_3, gf5_4, gf5_5, gf5_6, gf6_0, gf6_1, gf7_0, gf7_1, gf7_2, gf7_3, gf7_4, gf8_0, gf8_1, gf8_2, gf8_3, gf8_4, gf9_0, gf9_1, gf9_2, gf9_3, gf9_4, gf9_5, gf9_6, gf10_0, gf10_1, gf10_2, gf10_3, gf10_4, gf10_5, gf10_6, gf10_7, gf10_8, gf10_9, i1, r1, e1, a11]
    exact kk
  · rw [hwr] at z
    rw [if_neg (by omega), if_neg (by omega), if_neg (by omega), if_neg (by omega), if_neg (by omega), if_pos z] at kk
    simp (disch := omega) only [wr_id, wr_m1, sd_t, nl_I, nl_R, nl_none, c1_I, c1_R, sh_0, sh_1, sh_2, sh_3, sh_4, true_and, and_true, ldA_A, ldB_B, ldS_S, stA_A, stB_B, aL_A, aL_B, aL_S, aC_A, hRd_eq, hRd_ne, cp6, cp8, tl_some, tl_none, List.cons_append, List.nil_append, ofI_t0, ofI_t1, Int.add_zero, Int.zero_add, x74_25, x74_26]
    refine s_dismissed (by omega) c1.1 ⟨i1, i2, i3, i4, i5, i6⟩ c1.2.2.2.2.2.1 ?_
    simp (disch := omega) only [wr_id, wr_m1, sd_t, nl_I, nl_R, nl_none, c1_I, c1_R, sh_0, sh_1, sh_2, sh_3, sh_4, true_and, and_true, ldA_A, ldB_B, ldS_S, stA_A, stB_B, aL_A, aL_B, aL_S, aC_A, hRd_eq, hRd_ne, cp6, cp8, tl_some, tl_none, List.cons_append, List.nil_append, ofI_t0, ofI_t1, Int.add_zero, Int.zero_add, x74_27]
    exact kk
  · rw [hwr] at z
    rw [if_neg (by omega), if_neg (by omega), if_neg (by omega), if_neg (by omega), if_neg (by omega), if_neg (by omega), if_pos z] at kk
    simp (disch := omega) only [wr_id, wr_m1, sd_t, nl_I, nl_R, nl_none, c1_I, c1_R, sh_0, sh_1, sh_2, sh_3, sh_4, true_and, and_true, ldA_A, ldB_B, ldS_S, stA_A, stB_B, aL_A, aL_B, aL_S, aC_A, hRd_eq, hRd_ne, cp6, cp8, tl_some, tl_none, List.cons_append, List.nil_append, ofI_t0, ofI_t1, Int.add_zero, Int.zero_add, x74_28, x74_29, x74_30, x74_31, gf0_0, gf0_1, gf0_2, gf1_0, gf1_1, gf1_2, gf1_3, gf1_4, gf2_0, gf2_1, gf2_2, gf2_3, gf2_4, gf2_5, gf2_6, gf2_7, gf3_0, gf3_1, gf3_2, gf4_0, gf4_1, gf4_2, gf5_0, gf5_1, gf5_2, gf5_3, gf5_4, gf5_5, gf5_6, gf6_0, gf6_1, gf7_0, gf7_1, gf7_2, gf7_3, gf7_4, gf8_0, gf8_1, gf8_2, gf8_3, gf8_4, gf9_0, gf9_1, gf9_2, gf9_3, gf9_4, gf9_5, gf9_6, gf10_0, gf10_1, gf10_2, gf10_3, gf10_4, gf10_5, gf10_6, gf10_7, gf10_8, gf10_9, e1, a11]
    exact kk
  · rw [hwr] at z
    rw [if_neg (by omega), if_neg (by omega), if_neg (by omega), if_neg (by omega), if_neg (by omega), if_neg (by omega), if_neg (by omega), if_pos z] at kk
    simp (disch := omega) only [wr_id, wr_m1, sd_t, nl_I, nl_R, nl_none, c1_I, c1_R, sh_0, sh_1, sh_2, sh_3, sh_4, true_and, and_true, ldA_A, ldB_B, ldS_S, stA_A, stB_B, aL_A, aL_B, aL_S, aC_A, hRd_eq, hRd_ne, cp6, cp8, tl_some, tl_none, List.cons_append, List.nil_append, ofI_t0, ofI_t1, Int.add_zero, Int.zero_add, x74_32, x74_33, x74_34, x74_35, x74_36, x74_37, gf0_0, gf0_1, gf0_2, gf1_0, gf1_1, gf1_2, gf1_3, gf1_4, gf2_0, gf2_1, gf2_2, gf2_3, gf2_4, gf2_5, gf2_6, gf2_7, gf3_0, gf3_1, gf3_2, gf4_0, gf4_1, gf4_2, gf5_0, gf5_1, gf5_2, gf5_3, gf5_4, gf5_5, gf5_6, gf6_0, gf6_1, gf7_0, gf7_1, gf7_2, gf7_3, gf7_4, gf8_0, gf8_1, gf8_2, gf8_3, gf8_4, gf9_0, gf9_1, gf9_2, gf9_3, gf9_4, gf9_5, gf9_6, gf10_0, gf10_1, gf10_2, gf10_3, gf10_4, gf10_5, gf10_6, gf10_7, gf10_8, gf10_9, e1, a11]
    refine s_stuckIn (by omega) (rU_tv hB) h10 e22 e2 e2b e2c ?_
    simp (disch := omega) only [wr_id, wr_m1, sd_t, nl_I, nl_R, nl_none, c1_I, c1_R, sh_0, sh_1, sh_2, sh_3, sh_4, true_and, and_true, ldA_A, ldB_B, ldS_S, stA_A, stB_B, aL_A, aL_B, aL_S, aC_A, hRd_eq, hRd_ne, cp6, cp8, tl_some, tl_none, List.cons_append, List.nil_append, ofI_t0, ofI_t1, Int.add_zero, Int.zero_add, x74_38]
    exact kk
  · rw [hwr] at z
    rw [if_neg (by omega), if_neg (by omega), if_neg (by omega), if_neg (by omega), if_neg (by omega), if_neg (by omega), if_neg (by omega), if_neg (by omega), if_pos z] at kk
    simp (disch := omega) only [wr_id, wr_m1, sd_t, nl_I, nl_R, nl_none, c1_I, c1_R, sh_0, sh_1, sh_2, sh_3, sh_4, true_and, and_true, ldA_A, ldB_B, ldS_S, stA_A, stB_B, aL_A, aL_B, aL_S, aC_A, hRd_eq, hRd_ne, cp6, cp8, tl_some, tl_none, List.cons_append, List.nil_append, ofI_t0, ofI_t1, Int.add_zero, Int.zero_add, x74_39, x74_40, x74_41, gf0_0, gf0_1, gf0_2, gf1_0, gf1_1, gf1_2, gf1_3, gf1_4, gf2_0, gf2_1, gf2_2, gf2_3, gf2_4, gf2_5, gf2_6, gf2_7, gf3_0, gf3_1, gf3_2, gf4_0, gf4_1, gf4_2, gf5_0, gf5_1, gf5_2, gf5_3, gf5_4, gf5_5, gf5_6, gf6_0, gf6_1, gf7_0, gf7_1, gf7_2, gf7_3, gf7_4, gf8_0, gf8_1, gf8_2, gf8_3, gf8_4, gf9_0, gf9_1, gf9_2, gf9_3, gf9_4, gf9_5, gf9_6, gf10_0, gf10_1, gf10_2, gf10_3, gf10_4, gf10_5, gf10_6, gf10_7, gf10_8, gf10_9, a11]
    refine s_undone (by omega) (rD_tv hB) h10 i1 e23 hB.2.1.2.2.1 ?_
    simp (disch := omega) only [wr_id, wr_m1, sd_t, nl_I, nl_R, nl_none, c1_I, c1_R, sh_0, sh_1, sh_2, sh_3, sh_4, true_and, and_true, ldA_A, ldB_B, ldS_S, stA_A, stB_B, aL_A, aL_B, aL_S, aC_A, hRd_eq, hRd_ne, cp6, cp8, tl_some, tl_none, List.cons_append, List.nil_append, ofI_t0, ofI_t1, Int.add_zero, Int.zero_add, x74_42]
    exact kk
  · rw [hwr] at z
    rw [if_neg (by omega), if_neg (by omega), if_neg (by omega), if_neg (by omega), if_neg (by omega), if_neg (by omega), if_neg (by omega), if_neg (by omega), if_neg (by omega), if_pos z] at kk
    simp (disch := omega) only [wr_id, wr_m1, sd_t, nl_I, nl_R, nl_none, c1_I, c1_R, sh_0, sh_1, sh_2, sh_3, sh_4, true_and, and_true, ldA_A, ldB_B, ldS_S, stA_A, stB_B, aL_A, aL_B, aL_S, aC_A, hRd_eq, hRd_ne, cp6, cp8, tl_some, tl_none, List.cons_append, List.nil_append, ofI_t0, ofI_t1, Int.add_zero, Int.zero_add, x74_43, x74_44, x74_45, x74_46, gf0_0, gf0_1, gf0_2, gf1_0, gf1_1, gf1_2, gf1_3, gf1_4, gf2_0, gf2_1, gf2_2, gf2_3, gf2_4, gf2_5, gf2_6, gf2_7, gf3_0, gf3_1, gf3_2, gf4_0, gf4_1, gf4_2, gf5_0, gf5_1, gf5_2, gf5_3, gf5_4, gf5_5, gf5_6, gf6_0, gf6_1, gf7_0, gf7_1, gf7_2, gf7_3, gf7_4, gf8_0, gf8_1, gf8_2, gf8_3, gf8_4, gf9_0, gf9_1, gf9_2, gf9_3, gf9_4, gf9_5, gf9_6, gf10_0, gf10_1, gf10_2, gf10_3, gf10_4, gf10_5, gf10_6, gf10_7, gf10_8, gf10_9, w1, a11]
    exact kk
  · rw [hwr] at z
    rw [if_neg (by omega), if_neg (by omega), if_neg (by omega), if_neg (by omega), if_neg (by omega), if_neg (by omega), if_neg (by omega), if_neg (by omega), if_neg (by omega), if_neg (by omega), if_pos z] at kk
    simp (disch := omega) only [wr_id, wr_m1, sd_t, nl_I, nl_R, nl_none, c1_I, c1_R, sh_0, sh_1, sh_2, sh_3, sh_4, true_and, and_true, ldA_A, ldB_B, ldS_S, stA_A, stB_B, aL_A, aL_B, aL_S, aC_A, hRd_eq, hRd_ne, cp6, cp8, tl_some, tl_none, List.cons_append, List.nil_append, ofI_t0, ofI_t1, Int.add_zero, Int.zero_add, x74_47, x74_48, x74_49, x74_50, gf0_0, gf0_1, gf0_2, gf1_0, gf1_1, gf1_2, gf1_3, gf1_4, gf2_0, gf2_1, gf2_2, gf2_3, gf2_4, gf2_5, gf2_6, gf2_7, gf3_0, gf3_1, gf3_2, gf4_0, gf4_1, gf4_2, gf5_0, gf5_1, gf5_2, gf5_3, gf5_4, gf5_5, gf5_6, gf6_0, gf6_1, gf7_0, gf7_1, gf7_2, gf7_3, gf7_4, gf8_0, gf8_1, gf8_2, gf8_3, gf8_4, gf9_0, gf9_1, gf9_2, gf9_3, gf9_4, gf9_5, gf9_6, gf10_0, gf10_1, gf10_2, gf10_3, gf10_4, gf10_5, gf10_6, gf10_7, gf10_8, gf10_9, b1, a11]
    exact kk
  · rw [hwr] at z
    rw [if_neg (by omega), if_neg (by omega), if_neg (by omega), if_neg (by omega), if_neg (by omega), if_neg (by omega), if_neg (by omega), if_neg (by omega), if_neg (by omega), if_neg (by omega), if_neg (by omega), if_pos z] at kk
    simp (disch := omega) only [wr_id, wr_m1, sd_t, nl_I, nl_R, nl_none, c1_I, c1_R, sh_0, sh_1, sh_2, sh_3, sh_4, true_and, and_true, ldA_A, ldB_B, ldS_S, stA_A, stB_B, aL_A, aL_B, aL_S, aC_A, hRd_eq, hRd_ne, cp6, cp8, tl_some, tl_none, List.cons_append, List.nil_append, ofI_t0, ofI_t1, Int.add_zero, Int.zero_add, x74_51, x74_52, x74_53, x74_54, gf0_0, gf0_1, gf0_2, gf1_0, gf1_1, gf1_2, gf1_3, gf1_4, gf2_0, gf2_1, gf2_2, gf2_3, gf2_4, gf2_5, gf2_6, gf2_7, gf3_0, gf3_1, gf3_2, gf4_0, gf4_1, gf4_2, gf5_0, gf5_1, gf5_2, gf5_3, gf5_4, gf5_5, gf5_6, gf6_0, gf6_1, gf7_0, gf7_1, gf7_2, gf7_3, gf7_4, gf8_0, gf8_1, gf8_2, gf8_3, gf8_4, gf9_0, gf9_1, gf9_2, gf9_3, gf9_4, gf9_5, gf9_6, gf10_0, gf10_1, gf10_2, gf10_3, gf10_4, gf10_5, gf10_6, gf10_7, gf10_8, gf10_9, hh, a11]
    exact kk
  · rw [hwr] at z
    rw [if_neg (by omega), if_neg (by omega), if_neg (by omega), if_neg (by omega), if_neg (by omega), if_neg (by omega), if_neg (by omega), if_neg (by omega), if_neg (by omega), if_neg (by omega), if_neg (by omega), if_neg (by omega)] at kk
    simp (disch := omega) only [wr_id, wr_m1, sd_t, nl_I, nl_R, nl_none, c1_I, c1_R, sh_0, sh_1, sh_2, sh_3, sh_4, true_and, and_true, ldA_A, ldB_B, ldS_S, stA_A, stB_B, aL_A, aL_B, aL_S, aC_A, hRd_eq, hRd_ne, cp6, cp8, tl_some, tl_none, List.cons_append, List.nil_append, ofI_t0, ofI_t1, Int.add_zero, Int.zero_add, x74_55, x74_56]
    exact kk
def peF (P : Int) (M J : Int) (wt tk bh : Int → Int) (S : SS) (p x : Int) : Int :=
  if x = 0 then S.2.1 p else if x = 1 then pfrom S.1 p 0 else if x = 2 then wt p else if x = 3 then en (rU M J wt tk bh S p) else if x = 4 then jofF S.2.2.1 p J.toNat 0 0 else -1000000002
theorem c_person (hd : 7 ≤ d) (c : CI f n pl M P J wt tk bh S Hs kp sd im s ct ea la bt bj bm h) (hB : BD f n pl M P J wt tk bh S Hs kp sd im s ct ea la bt bj bm) (hx : -2147483648 ≤ x ∧ x ≤ 2147483647) (hy : -2147483648 ≤ y ∧ y ≤ 2147483647) (k1 : ¬ (0 ≤ x ∧ x < P) → Q (some (vI (-1000000001))) h) (k2 : 0 ≤ x → x < P → ∀ h1, CI f n pl M P J wt tk bh S Hs kp sd im s ct ea la bt bj bm h1 → Out 1 155 h h1 → Q (some (vI (peF P M J wt tk bh S x y))) h1) : CALL d 75 [.ref 1, vI x, vI y] h Q := by
  have a1 := c.w
  have hP := hB.2.1.2.1
  refine cl75 (by omega) a1 ?_
  simp (disch := omega) only [wr_id, wr_m1, sd_t, nl_I, nl_R, nl_none, c1_I, c1_R, sh_0, sh_1, sh_2, sh_3, sh_4, true_and, and_true, ldA_A, ldB_B, ldS_S, stA_A, stB_B, aL_A, aL_B, aL_S, aC_A, hRd_eq, hRd_ne, cp6, cp8, tl_some, tl_none, List.cons_append, List.nil_append, ofI_t0, ofI_t1, Int.add_zero, Int.zero_add, x75_0, x75_1, x75_2]
  refine c_isP (by omega) c hB hx ?_
  by_cases q : 0 ≤ x ∧ x < P
  · rw [if_pos q]
    simp (disch := omega) only [wr_id, wr_m1, sd_t, nl_I, nl_R, nl_none, c1_I, c1_R, sh_0, sh_1, sh_2, sh_3, sh_4, true_and, and_true, ldA_A, ldB_B, ldS_S, stA_A, stB_B, aL_A, aL_B, aL_S, aC_A, hRd_eq, hRd_ne, cp6, cp8, tl_some, tl_none, List.cons_append, List.nil_append, ofI_t0, ofI_t1, Int.add_zero, Int.zero_add, x75_3, x75_4, x75_5, x75_6, x75_7, x75_8, gf10_1, a1]
    refine ⟨fun _ => ?_, fun z => by omega⟩
    refine c_rk (by omega) c hB (fun h1 c1 e22 e23 o1 => ?_)
    have a11 := c1.w
    have kk := k2 q.1 q.2 h1 c1 (o1.widen (by omega) (by omega))
    have h10 := c1.2.2.2.1
    obtain ⟨wk0, dr0, i1, i2, i3, i4, i5, i6⟩ := c1.2.2.2.2.1
    obtain ⟨e1, e2, e3, e4⟩ := c1.c17
    have hwr : wr y = y := wr_id (by omega) (by omega)
    unfold peF at kk
    simp (disch := omega) only [wr_id, wr_m1, sd_t, nl_I, nl_R, nl_none, c1_I, c1_R, sh_0, sh_1, sh_2, sh_3, sh_4, true_and, and_true, ldA_A, ldB_B, ldS_S, stA_A, stB_B, aL_A, aL_B, aL_S, aC_A, hRd_eq, hRd_ne, cp6, cp8, tl_some, tl_none, List.cons_append, List.nil_append, ofI_t0, ofI_t1, Int.add_zero, Int.zero_add, x75_9]
    refine x75_10 (fun z => ?_) (fun z => ?_) (fun z => ?_) (fun z => ?_) (fun z => ?_) (fun z => ?_)
    · rw [hwr] at z
      rw [if_pos z] at kk
      simp (disch := omega) only [wr_id, wr_m1, sd_t, nl_I, nl_R, nl_none, c1_I, c1_R, sh_0, sh_1, sh_2, sh_3, sh_4, true_and, and_true, ldA_A, ldB_B, ldS_S, stA_A, stB_B, aL_A, aL_B, aL_S, aC_A, hRd_eq, hRd_ne, cp6, cp8, tl_some, tl_none, List.cons_append, List.nil_append, ofI_t0, ofI_t1, Int.add_zero, Int.zero_add, x75_11, x75_12, x75_13, x75_14, x75_15, x75_16, gf0_0, gf0_1, gf0_2, gf1_0, gf1_1, gf1_2, gf1_3, gf1_4, gf2_0, gf2_1, gf2_2, gf2_3, gf2_4, gf2_5, gf2_6, gf2_7, gf3_0, gf3_1, gf3_2, gf4_0, gf4_1, gf4_2, gf5_0, gf5_1, gf5_2, gf5_3, gf5_4, gf5_5, gf5_6, gf6_0, gf6_1, gf7_0, gf7_1, gf7_2, gf7_3, gf7_4, gf8_0, gf8_1, gf8_2, gf8_3, gf8_4, gf9_0, gf9_1, gf9_2, gf9_3, gf9_4, gf9_5, gf9_6, gf10_0, gf10_1, gf10_2, gf10_3, gf10_4, gf10_5, gf10_6, gf10_7, gf10_8, gf10_9, e1, e3, a11]
      exact ⟨⟨by omega, by omega⟩, kk⟩
    · rw [hwr] at z
      rw [if_neg (by omega), if_pos z] at kk
      simp (disch := omega) only [wr_id, wr_m1, sd_t, nl_I, nl_R, nl_none, c1_I, c1_R, sh_0, sh_1, sh_2, sh_3, sh_4, true_and, and_true, ldA_A, ldB_B, ldS_S, stA_A, stB_B, aL_A, aL_B, aL_S, aC_A, hRd_eq, hRd_ne, cp6, cp8, tl_some, tl_none, List.cons_append, List.nil_append, ofI_t0, ofI_t1, Int.add_zero, Int.zero_add, x75_17, x75_18, x75_19, x75_20, x75_21, gf0_0, gf0_1, gf0_2, gf1_0, gf1_1, gf1_2, gf1_3, gf1_4, gf2_0, gf2_1, gf2_2, gf2_3, gf2_4, gf2_5, gf2_6, gf2_7, gf3_0, gf3_1, gf3_2, gf4_0, gf4_1, gf4_2, gf5_0, gf5_1, gf5_2, gf5_3, gf5_4, gf5_5, gf5_6, gf6_0, gf6_1, gf7_0, gf7_1, gf7_2, gf7_3, gf7_4, gf8_0, gf8_1, gf8_2, gf8_3, gf8_4, gf9_0, gf9_1, gf9_2, gf9_3, gf9_4, gf9_5, gf9_6, gf10_0, gf10_1, gf10_2, gf10_3, gf10_4, gf10_5, gf10_6, gf10_7, gf10_8, gf10_9, e1, a11]
      refine p_placeOf (by omega) e2 (by omega) (by omega) ?_
      simp (disch := omega) only [wr_id, wr_m1, sd_t, nl_I, nl_R, nl_none, c1_I, c1_R, sh_0, sh_1, sh_2, sh_3, sh_4, true_and, and_true, ldA_A, ldB_B, ldS_S, stA_A, stB_B, aL_A, aL_B, aL_S, aC_A, hRd_eq, hRd_ne, cp6, cp8, tl_some, tl_none, List.cons_append, List.nil_append, ofI_t0, ofI_t1, Int.add_zero, Int.zero_add, x75_22]
      exact kk
    · rw [hwr] at z
      rw [if_neg (by omega), if_neg (by omega), if_pos z] at kk
      simp (disch := omega) only [wr_id, wr_m1, sd_t, nl_I, nl_R, nl_none, c1_I, c1_R, sh_0, sh_1, sh_2, sh_3, sh_4, true_and, and_true, ldA_A, ldB_B, ldS_S, stA_A, stB_B, aL_A, aL_B, aL_S, aC_A, hRd_eq, hRd_ne, cp6, cp8, tl_some, tl_none, List.cons_append, List.nil_append, ofI_t0, ofI_t1, Int.add_zero, Int.zero_add, x75_23, x75_24, x75_25, x75_26, x75_27, x75_28, gf0_0, gf0_1, gf0_2, gf1_0, gf1_1, gf1_2, gf1_3, gf1_4, gf2_0, gf2_1, gf2_2, gf2_3, gf2_4, gf2_5, gf2_6, gf2_7, gf3_0, gf3_1, gf3_2, gf4_0, gf4_1, gf4_2, gf5_0, gf5_1, gf5_2, gf5_3, gf5_4, gf5_5, gf5_6, gf6_0, gf6_1, gf7_0, gf7_1, gf7_2, gf7_3, gf7_4, gf8_0, gf8_1, gf8_2, gf8_3, gf8_4, gf9_0, gf9_1, gf9_2, gf9_3, gf9_4, gf9_5, gf9_6, gf10_0, gf10_1, gf10_2, gf10_3, gf10_4, gf10_5, gf10_6, gf10_7, gf10_8, gf10_9, i1, i3, a11]
      exact ⟨⟨by omega, by omega⟩, kk⟩
    · rw [hwr] at z
      rw [if_neg (by omega), if_neg (by omega), if_neg (by omega), if_pos z] at kk
      simp (disch := omega) only [wr_id, wr_m1, sd_t, nl_I, nl_R, nl_none, c1_I, c1_R, sh_0, sh_1, sh_2, sh_3, sh_4, true_and, and_true, ldA_A, ldB_B, ldS_S, stA_A, stB_B, aL_A, aL_B, aL_S, aC_A, hRd_eq, hRd_ne, cp6, cp8, tl_some, tl_none, List.cons_append, List.nil_append, ofI_t0, ofI_t1, Int.add_zero, Int.zero_add, x75_29, x75_30, x75_31, x75_32, x75_33, x75_34, gf0_0, gf0_1, gf0_2, gf1_0, gf1_1, gf1_2, gf1_3, gf1_4, gf2_0, gf2_1, gf2_2, gf2_3, gf2_4, gf2_5, gf2_6, gf2_7, gf3_0, gf3_1, gf3_2, gf4_0, gf4_1, gf4_2, gf5_0, gf5_1, gf5_2, gf5_3, gf5_4, gf5_5, gf5_6, gf6_0, gf6_1, gf7_0, gf7_1, gf7_2, gf7_3, gf7_4, gf8_0, gf8_1, gf8_2, gf8_3, gf8_4, gf9_0, gf9_1, gf9_2, gf9_3, gf9_4, gf9_5, gf9_6, gf10_0, gf10_1, gf10_2, gf10_3, gf10_4, gf10_5, gf10_6, gf10_7, gf10_8, gf10_9, h10, e22, a11]
      exact ⟨⟨by omega, by omega⟩, kk⟩
    · rw [hwr] at z
      rw [if_neg (by omega), if_neg (by omega), if_neg (by omega), if_neg (by omega), if_pos z] at kk
      simp (disch := omega) only [wr_id, wr_m1, sd_t, nl_I, nl_R, nl_none, c1_I, c1_R, sh_0, sh_1, sh_2, sh_3, sh_4, true_and, and_true, ldA_A, ldB_B, ldS_S, stA_A, stB_B, aL_A, aL_B, aL_S, aC_A, hRd_eq, hRd_ne, cp6, cp8, tl_some, tl_none, List.cons_append, List.nil_append, ofI_t0, ofI_t1, Int.add_zero, Int.zero_add, x75_35, x75_36, x75_37]
      refine s_jobsOf (S := S) (by omega) c1.1 ⟨i1, i2, i3, i4, i5, i6⟩ c1.2.2.2.2.2.1 hB.2.1.2.2.1 ⟨q.1, by omega⟩ (fun j j0 j1 => ?_) ?_
      · have := hB.2.2.1.2.2.2.1 j j0 j1
        omega
      simp (disch := omega) only [wr_id, wr_m1, sd_t, nl_I, nl_R, nl_none, c1_I, c1_R, sh_0, sh_1, sh_2, sh_3, sh_4, true_and, and_true, ldA_A, ldB_B, ldS_S, stA_A, stB_B, aL_A, aL_B, aL_S, aC_A, hRd_eq, hRd_ne, cp6, cp8, tl_some, tl_none, List.cons_append, List.nil_append, ofI_t0, ofI_t1, Int.add_zero, Int.zero_add, x75_38]
      exact kk
    · rw [hwr] at z
      rw [if_neg (by omega), if_neg (by omega), if_neg (by omega), if_neg (by omega), if_neg (by omega)] at kk
      simp (disch := omega) only [wr_id, wr_m1, sd_t, nl_I, nl_R, nl_none, c1_I, c1_R, sh_0, sh_1, sh_2, sh_3, sh_4, true_and, and_true, ldA_A, ldB_B, ldS_S, stA_A, stB_B, aL_A, aL_B, aL_S, aC_A, hRd_eq, hRd_ne, cp6, cp8, tl_some, tl_none, List.cons_append, List.nil_append, ofI_t0, ofI_t1, Int.add_zero, Int.zero_add, x75_39, x75_40]
      exact kk
  · rw [if_neg q]
    simp (disch := omega) only [wr_id, wr_m1, sd_t, nl_I, nl_R, nl_none, c1_I, c1_R, sh_0, sh_1, sh_2, sh_3, sh_4, true_and, and_true, ldA_A, ldB_B, ldS_S, stA_A, stB_B, aL_A, aL_B, aL_S, aC_A, hRd_eq, hRd_ne, cp6, cp8, tl_some, tl_none, List.cons_append, List.nil_append, ofI_t0, ofI_t1, Int.add_zero, Int.zero_add, x75_3, x75_4, x75_5]
    exact ⟨fun z => by first | omega | exact absurd trivial z | exact absurd rfl z, fun _ => k1 q⟩
def joF (M J : Int) (wt tk bh : Int → Int) (S : SS) (j x : Int) : Int :=
  if x = 0 then S.2.2.1 j else if x = 1 then tk j else if x = 2 then bh j else if x = 3 then en (rD M J wt tk bh S j) else -1000000002
theorem c_job (hd : 7 ≤ d) (c : CI f n pl M P J wt tk bh S Hs kp sd im s ct ea la bt bj bm h) (hB : BD f n pl M P J wt tk bh S Hs kp sd im s ct ea la bt bj bm) (hx : -2147483648 ≤ x ∧ x ≤ 2147483647) (hy : -2147483648 ≤ y ∧ y ≤ 2147483647) (k1 : ¬ (0 ≤ x ∧ x < J) → Q (some (vI (-1000000001))) h) (k2 : 0 ≤ x → x < J → ∀ h1, CI f n pl M P J wt tk bh S Hs kp sd im s ct ea la bt bj bm h1 → Out 1 155 h h1 → Q (some (vI (joF M J wt tk bh S x y))) h1) : CALL d 76 [.ref 1, vI x, vI y] h Q := by
  have a1 := c.w
  have hJ := hB.2.1.2.2.1
  refine cl76 (by omega) a1 ?_
  simp (disch := omega) only [wr_id, wr_m1, sd_t, nl_I, nl_R, nl_none, c1_I, c1_R, sh_0, sh_1, sh_2, sh_3, sh_4, true_and, and_true, ldA_A, ldB_B, ldS_S, stA_A, stB_B, aL_A, aL_B, aL_S, aC_A, hRd_eq, hRd_ne, cp6, cp8, tl_some, tl_none, List.cons_append, List.nil_append, ofI_t0, ofI_t1, Int.add_zero, Int.zero_add, x76_0, x76_1, x76_2]
  refine c_isJ (by omega) c hB hx ?_
  by_cases q : 0 ≤ x ∧ x < J
  · rw [if_pos q]
    simp (disch := omega) only [wr_id, wr_m1, sd_t, nl_I, nl_R, nl_none, c1_I, c1_R, sh_0, sh_1, sh_2, sh_3, sh_4, true_and, and_true, ldA_A, ldB_B, ldS_S, stA_A, stB_B, aL_A, aL_B, aL_S, aC_A, hRd_eq, hRd_ne, cp6, cp8, tl_some, tl_none, List.cons_append, List.nil_append, ofI_t0, ofI_t1, Int.add_zero, Int.zero_add, x76_3, x76_4, x76_5, x76_6, x76_7, x76_8, gf10_1, a1]
    refine ⟨fun _ => ?_, fun z => by omega⟩
    refine c_rk (by omega) c hB (fun h1 c1 e22 e23 o1 => ?_)
    have a11 := c1.w
    have kk := k2 q.1 q.2 h1 c1 (o1.widen (by omega) (by omega))
    have h10 := c1.2.2.2.1
    obtain ⟨wk0, dr0, i1, i2, i3, i4, i5, i6⟩ := c1.2.2.2.2.1
    obtain ⟨e1, e2, e3, e4⟩ := c1.c17
    have hwr : wr y = y := wr_id (by omega) (by omega)
    unfold joF at kk
    simp (disch := omega) only [wr_id, wr_m1, sd_t, nl_I, nl_R, nl_none, c1_I, c1_R, sh_0, sh_1, sh_2, sh_3, sh_4, true_and, and_true, ldA_A, ldB_B, ldS_S, stA_A, stB_B, aL_A, aL_B, aL_S, aC_A, hRd_eq, hRd_ne, cp6, cp8, tl_some, tl_none, List.cons_append, List.nil_append, ofI_t0, ofI_t1, Int.add_zero, Int.zero_add, x76_9]
    refine x76_10 (fun z => ?_) (fun z => ?_) (fun z => ?_) (fun z => ?_) (fun z => ?_)
    · rw [hwr] at z
      rw [if_pos z] at kk
      simp (disch := omega) only [wr_id, wr_m1, sd_t, nl_I, nl_R, nl_none, c1_I, c1_R, sh_0, sh_1, sh_2, sh_3, sh_4, true_and, and_true, ldA_A, ldB_B, ldS_S, stA_A, stB_B, aL_A, aL_B, aL_S, aC_A, hRd_eq, hRd_ne, cp6, cp8, tl_some, tl_none, List.cons_append, List.nil_append, ofI_t0, ofI_t1, Int.add_zero, Int.zero_add, x76_11, x76_12, x76_13, x76_14, x76_15, x76_16, gf0_0, gf0_1, gf0_2, gf1_0, gf1_1, gf1_2, gf1_3, gf1_4, gf2_0, gf2_1, gf2_2, gf2_3, gf2_4, gf2_5, gf2_6, gf2_7, gf3_0, gf3_1, gf3_2, gf4_0, gf4_1, gf4_2, gf5_0, gf5_1, gf5_2, gf5_3, gf5_4, gf5_5, gf5_6, gf6_0, gf6_1, gf7_0, gf7_1, gf7_2, gf7_3, gf7_4, gf8_0, gf8_1, gf8_2, gf8_3, gf8_4, gf9_0, gf9_1, gf9_2, gf9_3, gf9_4, gf9_5, gf9_6, gf10_0, gf10_1, gf10_2, gf10_3, gf10_4, gf10_5, gf10_6, gf10_7, gf10_8, gf10_9, e1, e4, a11]
      exact ⟨⟨by omega, by omega⟩, kk⟩
    · rw [hwr] at z
      rw [if_neg (by omega), if_pos z] at kk
      simp (disch := omega) only [wr_id, wr_m1, sd_t, nl_I, nl_R, nl_none, c1_I, c1_R, sh_0, sh_1, sh_2, sh_3, sh_4, true_and, and_true, ldA_A, ldB_B, ldS_S, stA_A, stB_B, aL_A, aL_B, aL_S, aC_A, hRd_eq, hRd_ne, cp6, cp8, tl_some, tl_none, List.cons_append, List.nil_append, ofI_t0, ofI_t1, Int.add_zero, Int.zero_add, x76_17, x76_18, x76_19, x76_20, x76_21, x76_22, gf0_0, gf0_1, gf0_2, gf1_0, gf1_1, gf1_2, gf1_3, gf1_4, gf2_0, gf2_1, gf2_2, gf2_3, gf2_4, gf2_5, gf2_6, gf2_7, gf3_0, gf3_1, gf3_2, gf4_0, gf4_1, gf4_2, gf5_0, gf5_1, gf5_2, gf5_3, gf5_4, gf5_5, gf5_6, gf6_0, gf6_1, gf7_0, gf7_1, gf7_2, gf7_3, gf7_4, gf8_0, gf8_1, gf8_2, gf8_3, gf8_4, gf9_0, gf9_1, gf9_2, gf9_3, gf9_4, gf9_5, gf9_6, gf10_0, gf10_1, gf10_2, gf10_3, gf10_4, gf10_5, gf10_6, gf10_7, gf10_8, gf10_9, i1, i5, a11]
      exact ⟨⟨by omega, by omega⟩, kk⟩
    · rw [hwr] at z
      rw [if_neg (by omega), if_neg (by omega), if_pos z] at kk
      simp (disch := omega) only [wr_id, wr_m1, sd_t, nl_I, nl_R, nl_none, c1_I, c1_R, sh_0, sh_1, sh_2, sh_3, sh_4, true_and, and_true, ldA_A, ldB_B, ldS_S, stA_A, stB_B, aL_A, aL_B, aL_S, aC_A, hRd_eq, hRd_ne, cp6, cp8, tl_some, tl_none, List.cons_append, List.nil_append, ofI_t0, ofI_t1, Int.add_zero, Int.zero_add, x76_23, x76_24, x76_25, x76_26, x76_27, x76_28, gf0_0, gf0_1, gf0_2, gf1_0, gf1_1, gf1_2, gf1_3, gf1_4, gf2_0, gf2_1, gf2_2, gf2_3, gf2_4, gf2_5, gf2_6, gf2_7, gf3_0, gf3_1, gf3_2, gf4_0, gf4_1, gf4_2, gf5_0, gf5_1, gf5_2, gf5_3, gf5_4, gf5_5, gf5_6, gf6_0, gf6_1, gf7_0, gf7_1, gf7_2, gf7_3, gf7_4, gf8_0, gf8_1, gf8_2, gf8_3, gf8_4, gf9_0, gf9_1, gf9_2, gf9_3, gf9_4, gf9_5, gf9_6, gf10_0, gf10_1, gf10_2, gf10_3, gf10_4, gf10_5, gf10_6, gf10_7, gf10_8, gf10_9, i1, i6, a11]
      exact ⟨⟨by omega, by omega⟩, kk⟩
    · rw [hwr] at z
      rw [if_neg (by omega), if_neg (by omega), if_neg (by omega), if_pos z] at kk
      simp (disch := omega) only [wr_id, wr_m1, sd_t, nl_I, nl_R, nl_none, c1_I, c1_R, sh_0, sh_1, sh_2, sh_3, sh_4, true_and, and_true, ldA_A, ldB_B, ldS_S, stA_A, stB_B, aL_A, aL_B, aL_S, aC_A, hRd_eq, hRd_ne, cp6, cp8, tl_some, tl_none, List.cons_append, List.nil_append, ofI_t0, ofI_t1, Int.add_zero, Int.zero_add, x76_29, x76_30, x76_31, x76_32, x76_33, x76_34, gf0_0, gf0_1, gf0_2, gf1_0, gf1_1, gf1_2, gf1_3, gf1_4, gf2_0, gf2_1, gf2_2, gf2_3, gf2_4, gf2_5, gf2_6, gf2_7, gf3_0, gf3_1, gf3_2, gf4_0, gf4_1, gf4_2, gf5_0, gf5_1, gf5_2, gf5_3, gf5_4, gf5_5, gf5_6, gf6_0, gf6_1, gf7_0, gf7_1, gf7_2, gf7_3, gf7_4, gf8_0, gf8_1, gf8_2, gf8_3, gf8_4, gf9_0, gf9_1, gf9_2, gf9_3, gf9_4, gf9_5, gf9_6, gf10_0, gf10_1, gf10_2, gf10_3, gf10_4, gf10_5, gf10_6, gf10_7, gf10_8, gf10_9, h10, e23, a11]
      exact ⟨⟨by omega, by omega⟩, kk⟩
    · rw [hwr] at z
      rw [if_neg (by omega), if_neg (by omega), if_neg (by omega), if_neg (by omega)] at kk
      simp (disch := omega) only [wr_id, wr_m1, sd_t, nl_I, nl_R, nl_none, c1_I, c1_R, sh_0, sh_1, sh_2, sh_3, sh_4, true_and, and_true, ldA_A, ldB_B, ldS_S, stA_A, stB_B, aL_A, aL_B, aL_S, aC_A, hRd_eq, hRd_ne, cp6, cp8, tl_some, tl_none, List.cons_append, List.nil_append, ofI_t0, ofI_t1, Int.add_zero, Int.zero_add, x76_35, x76_36]
      exact kk
  · rw [if_neg q]
    simp (disch := omega) only [wr_id, wr_m1, sd_t, nl_I, nl_R, nl_none, c1_I, c1_R, sh_0, sh_1, sh_2, sh_3, sh_4, true_and, and_true, ldA_A, ldB_B, ldS_S, stA_A, stB_B, aL_A, aL_B, aL_S, aC_A, hRd_eq, hRd_ne, cp6, cp8, tl_some, tl_none, List.cons_append, List.nil_append, ofI_t0, ofI_t1, Int.add_zero, Int.zero_add, x76_3, x76_4, x76_5]
    exact ⟨fun z => by first | omega | exact absurd trivial z | exact absurd rfl z, fun _ => k1 q⟩
end
