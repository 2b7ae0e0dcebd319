-- THE REFERENCE: what is told
section
variable {d : Nat} {f wt tk bh kp sd ea la bj bm : Int → Int} {n pl M P J s ct bt : Int} {S : SS} {Hs : List SS} {im : Int → SS} {h : LHeap} {Q : Option Value → LHeap → Prop} {x y : Int}
theorem m_rk (hd : 4 ≤ d) (c : MI f n pl M P J wt tk bh S Hs kp sd im s ct ea la bt bj bm h) (hB : BD f n pl M P J wt tk bh S Hs kp sd im s ct ea la bt bj bm) (kk : ∀ (h1 : LHeap) (z : Nat → Int) (g : Int → Int), MI f n pl M P J wt tk bh S Hs kp sd im s ct ea la bt bj bm h1 → MR f n pl M P J wt tk bh Hs kp sd im s ct ea la bt bj bm z h1 → hRd h1 160 = cA 24 g → SG P J S g 0 → NR S.1 g → hRd h1 168 = cA 6 (rU M J wt tk bh S) → hRd h1 169 = cA 8 (rD M J wt tk bh S) → Out 156 180 h h1 → Q none h1) : CALL d 131 [.ref 156] h Q := by
  obtain ⟨z, g, cR, h160, hSG, hM, hS, hN, h8, m6⟩ := c.go hB
  obtain ⟨⟨u1, h168⟩, ⟨u2, h169⟩, -⟩ := id m6
  refine m_settle hd hB.2.1 hS hB.2.2.1.1 hN.1.2.1 hB.2.2.1.2.1 hM h160 h168 h169 (fun h1 e1 e2 o => ?_)
  have os := OS.set o e1 e2
  have e156 : hRd h1 156 = oM z := by rw [o.2.2 _ (by omega)]; exact hM.1
  have e160 : hRd h1 160 = cA 24 g := by rw [o.2.2 _ (by omega)]; exact h160
  have c1 := MI.os cR os e156 (fun _ _ => rfl) e160 hSG
  obtain ⟨a1, ⟨z0, z1, z2, z7, z9, z10, z24, z29, z35⟩, ⟨r1, a3, a3b⟩, ⟨r2, a4, a4b⟩, ⟨r3, a5, a5b⟩, a6, ⟨r4, a7, a7b, a7c⟩, a8, a9, a10, a11, ⟨r5, a12, a12b⟩, ⟨a13, a13b⟩, a14⟩ := cR
  have k := os.2.2.1
  have m1 := os.2.2.2 m6
  obtain ⟨⟨q1, b1⟩, ⟨q2, b2⟩, ⟨q3, b3⟩, ⟨q4, b4⟩, ⟨q5, b5⟩, ⟨q6, b6⟩, -⟩ := a14
  obtain ⟨m7, m8, m9, m10, m11, m12⟩ := m1
  exact kk h1 z g c1 ⟨e156, ⟨z0, z1, z2, z7, z9, z10, z24, z29, z35⟩, ⟨r1, by rw [k _ (by omega)]; exact a3, a3b⟩, ⟨r2, by rw [k _ (by omega)]; exact a4, a4b⟩, ⟨r3, by rw [k _ (by omega)]; exact a5, a5b⟩, by rw [k _ (by omega)]; exact a6, ⟨r4, by rw [k _ (by omega)]; exact a7, a7b, a7c⟩, by rw [k _ (by omega)]; exact a8, by rw [k _ (by omega)]; exact a9, by rw [k _ (by omega)]; exact a10, by rw [k _ (by omega)]; exact a11, ⟨r5, by rw [k _ (by omega)]; exact a12, a12b⟩, ⟨by rw [k _ (by omega)]; exact a13, a13b⟩, ⟨q1, by rw [k _ (by omega)]; exact b1⟩, ⟨q2, by rw [k _ (by omega)]; exact b2⟩, ⟨q3, by rw [k _ (by omega)]; exact b3⟩, ⟨q4, by rw [k _ (by omega)]; exact b4⟩, ⟨q5, by rw [k _ (by omega)]; exact b5⟩, ⟨q6, by rw [k _ (by omega)]; exact b6⟩, m7, m8, m9, m10, m11, m12⟩ e160 hSG hN e1 e2 os.up
theorem m_told (hd : 5 ≤ d) (c : MI f n pl M P J wt tk bh S Hs kp sd im s ct ea la bt bj bm h) (hB : BD f n pl M P J wt tk bh S Hs kp sd im s ct ea la bt bj bm) (hx : -2147483648 ≤ x ∧ x ≤ 2147483647) (kk : ∀ h1, MI f n pl M P J wt tk bh S Hs kp sd im s ct ea la bt bj bm h1 → Out 156 180 h h1 → Q (some (vI (toF n M P J wt tk bh S ct bt Hs.length x))) h1) : CALL d 134 [.ref 156, vI x] h Q := by
  obtain ⟨z0, g0, cR0, -, -, hM0, -⟩ := c.go hB
  refine cl134 (by omega) hM0.1 ?_
  simp (disch := omega) only [wr_id, wr_m1, sd_t, nl_I, nl_R, nl_none, c1_I, c1_R, sh_0, sh_1, sh_2, sh_3, sh_4, true_and, and_true, ldA_A, ldB_B, ldS_S, stA_A, stB_B, aL_A, aL_B, aL_S, aC_A, hRd_eq, hRd_ne, cp6, cp8, tl_some, tl_none, List.cons_append, List.nil_append, ofI_t0, ofI_t1, Int.add_zero, Int.zero_add, x134_0, x134_1]
  refine m_rk (by omega) c hB (fun h1 z g c1 cR b1 hSG hN e1 e2 o1 => ?_)
  obtain ⟨a1, ⟨z0, z1, z2, z7, z9, z10, z24, z29, z35⟩, ⟨r1, a3, a3b⟩, ⟨r2, a4, a4b⟩, ⟨r3, a5, a5b⟩, a6, ⟨r4, a7, a7b, a7c⟩, a8, a9, a10, a11, ⟨r5, a12, a12b⟩, ⟨a13, a13b⟩, a14⟩ := cR
  have kk := kk h1 c1 o1
  obtain ⟨-, s6, s7, s8, -, -, s23⟩ := hSG
  rw [Int.zero_add] at s7 s8 s23
  have hwr : wr x = x := wr_id (by omega) (by omega)
  unfold toF at kk
  simp (disch := omega) only [wr_id, wr_m1, sd_t, nl_I, nl_R, nl_none, c1_I, c1_R, sh_0, sh_1, sh_2, sh_3, sh_4, true_and, and_true, ldA_A, ldB_B, ldS_S, stA_A, stB_B, aL_A, aL_B, aL_S, aC_A, hRd_eq, hRd_ne, cp6, cp8, tl_some, tl_none, List.cons_append, List.nil_append, ofI_t0, ofI_t1, Int.add_zero, Int.zero_add, x134_2]
  refine x134_3 (fun q => ?_) (fun q => ?_) (fun q => ?_) (fun q => ?_) (fun q => ?_) (fun q => ?_) (fun q => ?_) (fun q => ?_) (fun q => ?_) (fun q => ?_) (fun q => ?_) (fun q => ?_) (fun q => ?_)
  · rw [hwr] at q
    rw [if_pos q] at kk
    simp (disch := omega) only [wr_id, wr_m1, sd_t, nl_I, nl_R, nl_none, c1_I, c1_R, sh_0, sh_1, sh_2, sh_3, sh_4, true_and, and_true, ldA_A, ldB_B, ldS_S, stA_A, stB_B, aL_A, aL_B, aL_S, aC_A, hRd_eq, hRd_ne, cp6, cp8, tl_some, tl_none, List.cons_append, List.nil_append, ofI_t0, ofI_t1, Int.add_zero, Int.zero_add, x134_4, x134_5, x134_6, gf11_0, pf11_0, gf11_1, pf11_1, gf11_2, pf11_2, gf11_3, gf11_4, gf11_5, gf11_6, gf11_7, pf11_7, gf11_8, gf11_9, pf11_9, gf11_10, pf11_10, gf11_11, pf11_11, gf11_12, pf11_12, gf11_13, pf11_13, gf11_14, gf11_15, pf11_15, gf11_16, gf11_17, pf11_17, gf11_18, gf11_19, gf11_20, gf11_21, gf11_22, gf11_23, gf11_24, pf11_24, gf11_25, gf11_26, gf11_27, gf11_28, pf11_28, gf11_29, pf11_29, gf11_30, gf11_31, gf11_32, pf11_32, gf11_33, gf11_34, gf11_35, pf11_35, gf11_36, gf11_37, gf11_38, gf11_39, uN_eq, uN_ne, a1, z0]
    exact kk
  · rw [hwr] at q
    rw [if_neg (by omega), if_pos q] at kk
    simp (disch := omega) only [wr_id, wr_m1, sd_t, nl_I, nl_R, nl_none, c1_I, c1_R, sh_0, sh_1, sh_2, sh_3, sh_4, true_and, and_true, ldA_A, ldB_B, ldS_S, stA_A, stB_B, aL_A, aL_B, aL_S, aC_A, hRd_eq, hRd_ne, cp6, cp8, tl_some, tl_none, List.cons_append, List.nil_append, ofI_t0, ofI_t1, Int.add_zero, Int.zero_add, x134_7, x134_8, x134_9, gf11_0, pf11_0, gf11_1, pf11_1, gf11_2, pf11_2, gf11_3, gf11_4, gf11_5, gf11_6, gf11_7, pf11_7, gf11_8, gf11_9, pf11_9, gf11_10, pf11_10, gf11_11, pf11_11, gf11_12, pf11_12, gf11_13, pf11_13, gf11_14, gf11_15, pf11_15, gf11_16, gf11_17, pf11_17, gf11_18, gf11_19, gf11_20, gf11_21, gf11_22, gf11_23, gf11_24, pf11_24, gf11_25, gf11_26, gf11_27, gf11_28, pf11_28, gf11_29, pf11_29, gf11_30, gf11_31, gf11_32, pf11_32, gf11_33, gf11_34, gf11_35, pf11_35, gf11_36, gf11_37, gf11_38, gf11_39, uN_eq, uN_ne, a1, z1]
    exact kk
  · rw [hwr] at q
    rw [if_neg (by omega), if_neg (by omega), if_pos q] at kk
    simp (disch := omega) only [wr_id, wr_m1, sd_t, nl_I, nl_R, nl_none, c1_I, c1_R, sh_0, sh_1, sh_2, sh_3, sh_4, true_and, and_true, ldA_A, ldB_B, ldS_S, stA_A, stB_B, aL_A, aL_B, aL_S, aC_A, hRd_eq, hRd_ne, cp6, cp8, tl_some, tl_none, List.cons_append, List.nil_append, ofI_t0, ofI_t1, Int.add_zero, Int.zero_add, x134_10, x134_11, x134_12, gf11_0, pf11_0, gf11_1, pf11_1, gf11_2, pf11_2, gf11_3, gf11_4, gf11_5, gf11_6, gf11_7, pf11_7, gf11_8, gf11_9, pf11_9, gf11_10, pf11_10, gf11_11, pf11_11, gf11_12, pf11_12, gf11_13, pf11_13, gf11_14, gf11_15, pf11_15, gf11_16, gf11_17, pf11_17, gf11_18, gf11_19, gf11_20, gf11_21, gf11_22, gf11_23, gf11_24, pf11_24, gf11_25, gf11_26, gf11_27, gf11_28, pf11_28, gf11_29, pf11_29, gf11_30, gf11_31, gf11_32, pf11_32, gf11_33, gf11_34, gf11_35, pf11_35, gf11_36, gf11_37, gf11_38, gf11_39, uN_eq, uN_ne, a1, z2]
    exact kk
  · rw [hwr] at q
    rw [if_neg (by omega), if_neg (by omega), if_neg (by omega), if_pos q] at kk
    simp (disch := omega) only [wr_id, wr_m1, sd_t, nl_I, nl_R, nl_none, c1_I, c1_R, sh_0, sh_1, sh_2, sh_3, sh_4, true_and, and_true, ldA_A, ldB_B, ldS_S, stA_A, stB_B, aL_A, aL_B, aL_S, aC_A, hRd_eq, hRd_ne, cp6, cp8, tl_some, tl_none, List.cons_append, List.nil_append, ofI_t0, ofI_t1, Int.add_zero, Int.zero_add, x134_13, x134_14, x134_15, gf11_0, pf11_0, gf11_1, pf11_1, gf11_2, pf11_2, gf11_3, gf11_4, gf11_5, gf11_6, gf11_7, pf11_7, gf11_8, gf11_9, pf11_9, gf11_10, pf11_10, gf11_11, pf11_11, gf11_12, pf11_12, gf11_13, pf11_13, gf11_14, gf11_15, pf11_15, gf11_16, gf11_17, pf11_17, gf11_18, gf11_19, gf11_20, gf11_21, gf11_22, gf11_23, gf11_24, pf11_24, gf11_25, gf11_26, gf11_27, gf11_28, pf11_28, gf11_29, pf11_29, gf11_30, gf11_31, gf11_32, pf11_32, gf11_33, gf11_34, gf11_35, pf11_35, gf11_36, gf11_37, gf11_38, gf11_39, uN_eq, uN_ne, a1, z9]
    exact kk
  · rw [hwr] at q
    rw [if_neg (by omega), if_neg (by omega), if_neg (by omega), if_neg (by omega), if_pos q] at kk
    simp (disch := omega) only [wr_id, wr_m1, sd_t, nl_I, nl_R, nl_none, c1_I, c1_R, sh_0, sh_1, sh_2, sh_3, sh_4, true_and, and_true, ldA_A, ldB_B, ldS_S, stA_A, stB_B, aL_A, aL_B, aL_S, aC_A, hRd_eq, hRd_ne, cp6, cp8, tl_some, tl_none, List.cons_append, List.nil_append, ofI_t0, ofI_t1, Int.add_zero, Int.zero_add, x134_16, x134_17, x134_18, x134_19, x134_20, gf11_0, pf11_0, gf11_1, pf11_1, gf11_2, pf11_2, gf11_3, gf11_4, gf11_5, gf11_6, gf11_7, pf11_7, gf11_8, gf11_9, pf11_9, gf11_10, pf11_10, gf11_11, pf11_11, gf11_12, pf11_12, gf11_13, pf11_13, gf11_14, gf11_15, pf11_15, gf11_16, gf11_17, pf11_17, gf11_18, gf11_19, gf11_20, gf11_21, gf11_22, gf11_23, gf11_24, pf11_24, gf11_25, gf11_26, gf11_27, gf11_28, pf11_28, gf11_29, pf11_29, gf11_30, gf11_31, gf11_32, pf11_32, gf11_33, gf11_34, gf11_35, pf11_35, gf11_36, gf11_37, gf11_38, gf11_39, uN_eq, uN_ne, a1, b1, s23]
    exact ⟨by omega, kk⟩
  · rw [hwr] at q
    rw [if_neg (by omega), if_neg (by omega), if_neg (by omega), if_neg (by omega), if_neg (by omega), if_pos q] at kk
    simp (disch := omega) only [wr_id, wr_m1, sd_t, nl_I, nl_R, nl_none, c1_I, c1_R, sh_0, sh_1, sh_2, sh_3, sh_4, true_and, and_true, ldA_A, ldB_B, ldS_S, stA_A, stB_B, aL_A, aL_B, aL_S, aC_A, hRd_eq, hRd_ne, cp6, cp8, tl_some, tl_none, List.cons_append, List.nil_append, ofI_t0, ofI_t1, Int.add_zero, Int.zero_add, x134_21, x134_22, x134_23, x134_24, x134_25, gf11_0, pf11_0, gf11_1, pf11_1, gf11_2, pf11_2, gf11_3, gf11_4, gf11_5, gf11_6, gf11_7, pf11_7, gf11_8, gf11_9, pf11_9, gf11_10, pf11_10, gf11_11, pf11_11, gf11_12, pf11_12, gf11_13, pf11_13, gf11_14, gf11_15, pf11_15, gf11_16, gf11_17, pf11_17, gf11_18, gf11_19, gf11_20, gf11_21, gf11_22, gf11_23, gf11_24, pf11_24, gf11_25, gf11_26, gf11_27, gf11_28, pf11_28, gf11_29, pf11_29, gf11_30, gf11_31, gf11_32, pf11_32, gf11_33, gf11_34, gf11_35, pf11_35, gf11_36, gf11_37, gf11_38, gf11_39, uN_eq, uN_ne, a1, b1, s8]
    exact ⟨by omega, kk⟩
  · rw [hwr] at q
    rw [if_neg (by omega), if_neg (by omega), if_neg (by omega), if_neg (by omega), if_neg (by omega), if_neg (by omega), if_pos q] at kk
    simp (disch := omega) only [wr_id, wr_m1, sd_t, nl_I, nl_R, nl_none, c1_I, c1_R, sh_0, sh_1, sh_2, sh_3, sh_4, true_and, and_true, ldA_A, ldB_B, ldS_S, stA_A, stB_B, aL_A, aL_B, aL_S, aC_A, hRd_eq, hRd_ne, cp6, cp8, tl_some, tl_none, List.cons_append, List.nil_append, ofI_t0, ofI_t1, Int.add_zero, Int.zero_add, x134_26, x134_27, x134_28, x134_29, x134_30, gf11_0, pf11_0, gf11_1, pf11_1, gf11_2, pf11_2, gf11_3, gf11_4, gf11_5, gf11_6, gf11_7, pf11_7, gf11_8, gf11_9, pf11_9, gf11_10, pf11_10, gf11_11, pf11_11, gf11_12, pf11_12, gf11_13, pf11_13, gf11_14, gf11_15, pf11_15, gf11_16, gf11_17, pf11_17, gf11_18, gf11_19, gf11_20, gf11_21, gf11_22, gf11_23, gf11_24, pf11_24, gf11_25, gf11_26, gf11_27, gf11_28, pf11_28, gf11_29, pf11_29, gf11_30, gf11_31, gf11_32, pf11_32, gf11_33, gf11_34, gf11_35, pf11_35, gf11_36, gf11_37, gf11_38, gf11_39, uN_eq, uN_ne, a1, b1, s7]
    exact ⟨by omega, kk⟩
  · rw [hwr] at q
    rw [if_neg (by omega), if_neg (by omega), if_neg (by omega), if_neg (by omega), if_neg (by omega), if_neg (by omega), if_neg (by omega), if_pos q] at kk
    simp (disch := omega) only [wr_id, wr_m1, sd_t, nl_I, nl_R, nl_none, c1_I, c1_R, sh_0, sh_1, sh_2, sh_3, sh_4, true_and, and_true, ldA_A, ldB_B, ldS_S, stA_A, stB_B, aL_A, aL_B, aL_S, aC_A, hRd_eq, hRd_ne, cp6, cp8, tl_some, tl_none, List.cons_append, List.nil_append, ofI_t0, ofI_t1, Int.add_zero, Int.zero_add, x134_31, x134_32]
    refine m_stuck (by omega) a1 b1 e1 hN (rU_tv hB) ?_
    simp (disch := omega) only [wr_id, wr_m1, sd_t, nl_I, nl_R, nl_none, c1_I, c1_R, sh_0, sh_1, sh_2, sh_3, sh_4, true_and, and_true, ldA_A, ldB_B, ldS_S, stA_A, stB_B, aL_A, aL_B, aL_S, aC_A, hRd_eq, hRd_ne, cp6, cp8, tl_some, tl_none, List.cons_append, List.nil_append, ofI_t0, ofI_t1, Int.add_zero, Int.zero_add, x134_33]
    exact kk
  · rw [hwr] at q
    rw [if_neg (by omega), if_neg (by omega), if_neg (by omega), if_neg (by omega), if_neg (by omega), if_neg (by omega), if_neg (by omega), if_neg (by omega), if_pos q] at kk
    simp (disch := omega) only [wr_id, wr_m1, sd_t, nl_I, nl_R, nl_none, c1_I, c1_R, sh_0, sh_1, sh_2, sh_3, sh_4, true_and, and_true, ldA_A, ldB_B, ldS_S, stA_A, stB_B, aL_A, aL_B, aL_S, aC_A, hRd_eq, hRd_ne, cp6, cp8, tl_some, tl_none, List.cons_append, List.nil_append, ofI_t0, ofI_t1, Int.add_zero, Int.zero_add, x134_34, x134_35]
    refine m_und (by omega) a1 z2 hB.2.1.2.2.1 e2 (rD_tv hB) ?_
    simp (disch := omega) only [wr_id, wr_m1, sd_t, nl_I, nl_R, nl_none, c1_I, c1_R, sh_0, sh_1, sh_2, sh_3, sh_4, true_and, and_true, ldA_A, ldB_B, ldS_S, stA_A, stB_B, aL_A, aL_B, aL_S, aC_A, hRd_eq, hRd_ne, cp6, cp8, tl_some, tl_none, List.cons_append, List.nil_append, ofI_t0, ofI_t1, Int.add_zero, Int.zero_add, x134_36]
    exact kk
  · rw [hwr] at q
    rw [if_neg (by omega), if_neg (by omega), if_neg (by omega), if_neg (by omega), if_neg (by omega), if_neg (by omega), if_neg (by omega), if_neg (by omega), if_neg (by omega), if_pos q] at kk
    simp (disch := omega) only [wr_id, wr_m1, sd_t, nl_I, nl_R, nl_none, c1_I, c1_R, sh_0, sh_1, sh_2, sh_3, sh_4, true_and, and_true, ldA_A, ldB_B, ldS_S, stA_A, stB_B, aL_A, aL_B, aL_S, aC_A, hRd_eq, hRd_ne, cp6, cp8, tl_some, tl_none, List.cons_append, List.nil_append, ofI_t0, ofI_t1, Int.add_zero, Int.zero_add, x134_37, x134_38, x134_39, gf11_0, pf11_0, gf11_1, pf11_1, gf11_2, pf11_2, gf11_3, gf11_4, gf11_5, gf11_6, gf11_7, pf11_7, gf11_8, gf11_9, pf11_9, gf11_10, pf11_10, gf11_11, pf11_11, gf11_12, pf11_12, gf11_13, pf11_13, gf11_14, gf11_15, pf11_15, gf11_16, gf11_17, pf11_17, gf11_18, gf11_19, gf11_20, gf11_21, gf11_22, gf11_23, gf11_24, pf11_24, gf11_25, gf11_26, gf11_27, gf11_28, pf11_28, gf11_29, pf11_29, gf11_30, gf11_31, gf11_32, pf11_32, gf11_33, gf11_34, gf11_35, pf11_35, gf11_36, gf11_37, gf11_38, gf11_39, uN_eq, uN_ne, a1, z29]
    exact kk
  · rw [hwr] at q
    rw [if_neg (by omega), if_neg (by omega), if_neg (by omega), if_neg (by omega), if_neg (by omega), if_neg (by omega), if_neg (by omega), if_neg (by omega), if_neg (by omega), if_neg (by omega), if_pos q] at kk
    simp (disch := omega) only [wr_id, wr_m1, sd_t, nl_I, nl_R, nl_none, c1_I, c1_R, sh_0, sh_1, sh_2, sh_3, sh_4, true_and, and_true, ldA_A, ldB_B, ldS_S, stA_A, stB_B, aL_A, aL_B, aL_S, aC_A, hRd_eq, hRd_ne, cp6, cp8, tl_some, tl_none, List.cons_append, List.nil_append, ofI_t0, ofI_t1, Int.add_zero, Int.zero_add, x134_40, x134_41, x134_42, gf11_0, pf11_0, gf11_1, pf11_1, gf11_2, pf11_2, gf11_3, gf11_4, gf11_5, gf11_6, gf11_7, pf11_7, gf11_8, gf11_9, pf11_9, gf11_10, pf11_10, gf11_11, pf11_11, gf11_12, pf11_12, gf11_13, pf11_13, gf11_14, gf11_15, pf11_15, gf11_16, gf11_17, pf11_17, gf11_18, gf11_19, gf11_20, gf11_21, gf11_22, gf11_23, gf11_24, pf11_24, gf11_25, gf11_26, gf11_27, gf11_28, pf11_28, gf11_29, pf11_29, gf11_30, gf11_31, gf11_32, pf11_32, gf11_33, gf11_34, gf11_35, pf11_35, gf11_36, gf11_37, gf11_38, gf11_39, uN_eq, uN_ne, a1, z35]
    exact kk
  · rw [hwr] at q
    rw [if_neg (by omega), if_neg (by omega), if_neg (by omega), if_neg (by omega), if_neg (by omega), if_neg (by omega), if_neg (by omega), if_neg (by omega), if_neg (by omega), if_neg (by omega), if_neg (by omega), if_pos q] at kk
    simp (disch := omega) only [wr_id, wr_m1, sd_t, nl_I, nl_R, nl_none, c1_I, c1_R, sh_0, sh_1, sh_2, sh_3, sh_4, true_and, and_true, ldA_A, ldB_B, ldS_S, stA_A, stB_B, aL_A, aL_B, aL_S, aC_A, hRd_eq, hRd_ne, cp6, cp8, tl_some, tl_none, List.cons_append, List.nil_append, ofI_t0, ofI_t1, Int.add_zero, Int.zero_add, x134_43, x134_44, x134_45, gf11_0, pf11_0, gf11_1, pf11_1, gf11_2, pf11_2, gf11_3, gf11_4, gf11_5, gf11_6, gf11_7, pf11_7, gf11_8, gf11_9, pf11_9, gf11_10, pf11_10, gf11_11, pf11_11, gf11_12, pf11_12, gf11_13, pf11_13, gf11_14, gf11_15, pf11_15, gf11_16, gf11_17, pf11_17, gf11_18, gf11_19, gf11_20, gf11_21, gf11_22, gf11_23, gf11_24, pf11_24, gf11_25, gf11_26, gf11_27, gf11_28, pf11_28, gf11_29, pf11_29, gf11_30, gf11_31, gf11_32, pf11_32, gf11_33, gf11_34, gf11_35, pf11_35, gf11_36, gf11_37, gf11_38, gf11_39, uN_eq, uN_ne, a1, z24]
    exact kk
  · rw [hwr] at q
    rw [if_neg (by omega), if_neg (by omega), if_neg (by omega), if_neg (by omega), if_neg (by omega), if_neg (by omega), if_neg (by omega), if_neg (by omega), if_neg (by omega), if_neg (by omega), if_neg (by omega), if_neg (by omega)] at kk
    simp (disch := omega) only [wr_id, wr_m1, sd_t, nl_I, nl_R, nl_none, c1_I, c1_R, sh_0, sh_1, sh_2, sh_3, sh_4, true_and, and_true, ldA_A, ldB_B, ldS_S, stA_A, stB_B, aL_A, aL_B, aL_S, aC_A, hRd_eq, hRd_ne, cp6, cp8, tl_some, tl_none, List.cons_append, List.nil_append, ofI_t0, ofI_t1, Int.add_zero, Int.zero_add, x134_46, x134_47]
    exact kk
theorem m_person (hd : 5 ≤ d) (c : MI f n pl M P J wt tk bh S Hs kp sd im s ct ea la bt bj bm h) (hB : BD f n pl M P J wt tk bh S Hs kp sd im s ct ea la bt bj bm) (hx : -2147483648 ≤ x ∧ x ≤ 2147483647) (hy : -2147483648 ≤ y ∧ y ≤ 2147483647) (k1 : ¬ (0 ≤ x ∧ x < P) → Q (some (vI (-1000000001))) h) (k2 : 0 ≤ x → x < P → ∀ h1, MI f n pl M P J wt tk bh S Hs kp sd im s ct ea la bt bj bm h1 → Out 156 180 h h1 → Q (some (vI (peF P M J wt tk bh S x y))) h1) : CALL d 137 [.ref 156, vI x, vI y] h Q := by
  obtain ⟨zz0, g0, cR0, -, -, hM0, -⟩ := c.go hB
  have hP := hB.2.1.2.1
  refine cl137 (by omega) hM0.1 ?_
  simp (disch := omega) only [wr_id, wr_m1, sd_t, nl_I, nl_R, nl_none, c1_I, c1_R, sh_0, sh_1, sh_2, sh_3, sh_4, true_and, and_true, ldA_A, ldB_B, ldS_S, stA_A, stB_B, aL_A, aL_B, aL_S, aC_A, hRd_eq, hRd_ne, cp6, cp8, tl_some, tl_none, List.cons_append, List.nil_append, ofI_t0, ofI_t1, Int.add_zero, Int.zero_add, x137_0, x137_1, x137_2]
  refine m_isP (by omega) hM0.1 (by rw [hM0.2.1.2.1]; exact hP) hx ?_
  rw [hM0.2.1.2.1]
  by_cases q0 : 0 ≤ x ∧ x < P
  · rw [if_pos q0]
    simp (disch := omega) only [wr_id, wr_m1, sd_t, nl_I, nl_R, nl_none, c1_I, c1_R, sh_0, sh_1, sh_2, sh_3, sh_4, true_and, and_true, ldA_A, ldB_B, ldS_S, stA_A, stB_B, aL_A, aL_B, aL_S, aC_A, hRd_eq, hRd_ne, cp6, cp8, tl_some, tl_none, List.cons_append, List.nil_append, ofI_t0, ofI_t1, Int.add_zero, Int.zero_add, x137_3, x137_6, x137_7]
    refine ⟨fun _ => ?_, fun q => by first | omega | exact absurd rfl q | exact absurd trivial q | exact absurd q (by omega)⟩
    refine m_rk (by omega) c hB (fun h1 z g c1 cR b1 hSG hN e1 e2 o1 => ?_)
    have hsc := hSG.sc
    obtain ⟨a1, ⟨z0, z1, z2, z7, z9, z10, z24, z29, z35⟩, ⟨r1, a3, a3b⟩, ⟨r2, a4, a4b⟩, ⟨r3, a5, a5b⟩, a6, ⟨r4, a7, a7b, a7c⟩, a8, a9, a10, a11, ⟨r5, a12, a12b⟩, ⟨a13, a13b⟩, a14⟩ := cR
    have kk := k2 q0.1 q0.2 h1 c1 o1
    have w5 := a5b x q0.1 q0.2
    have w17 := hsc.2.2.2.2 x q0.1 q0.2
    have hu := TV_ge (rU_tv hB x)
    have hwr : wr y = y := wr_id (by omega) (by omega)
    unfold peF at kk
    simp (disch := omega) only [wr_id, wr_m1, sd_t, nl_I, nl_R, nl_none, c1_I, c1_R, sh_0, sh_1, sh_2, sh_3, sh_4, true_and, and_true, ldA_A, ldB_B, ldS_S, stA_A, stB_B, aL_A, aL_B, aL_S, aC_A, hRd_eq, hRd_ne, cp6, cp8, tl_some, tl_none, List.cons_append, List.nil_append, ofI_t0, ofI_t1, Int.add_zero, Int.zero_add, x137_8]
    refine x137_9 (fun q => ?_) (fun q => ?_) (fun q => ?_) (fun q => ?_) (fun q => ?_) (fun q => ?_)
    · rw [hwr] at q
      rw [if_pos q] at kk
      simp (disch := omega) only [wr_id, wr_m1, sd_t, nl_I, nl_R, nl_none, c1_I, c1_R, sh_0, sh_1, sh_2, sh_3, sh_4, true_and, and_true, ldA_A, ldB_B, ldS_S, stA_A, stB_B, aL_A, aL_B, aL_S, aC_A, hRd_eq, hRd_ne, cp6, cp8, tl_some, tl_none, List.cons_append, List.nil_append, ofI_t0, ofI_t1, Int.add_zero, Int.zero_add, x137_10, x137_11, x137_12, x137_13, x137_14, x137_15, x137_16, gf11_0, pf11_0, gf11_1, pf11_1, gf11_2, pf11_2, gf11_3, gf11_4, gf11_5, gf11_6, gf11_7, pf11_7, gf11_8, gf11_9, pf11_9, gf11_10, pf11_10, gf11_11, pf11_11, gf11_12, pf11_12, gf11_13, pf11_13, gf11_14, gf11_15, pf11_15, gf11_16, gf11_17, pf11_17, gf11_18, gf11_19, gf11_20, gf11_21, gf11_22, gf11_23, gf11_24, pf11_24, gf11_25, gf11_26, gf11_27, gf11_28, pf11_28, gf11_29, pf11_29, gf11_30, gf11_31, gf11_32, pf11_32, gf11_33, gf11_34, gf11_35, pf11_35, gf11_36, gf11_37, gf11_38, gf11_39, uN_eq, uN_ne, a1, b1, w17]
      exact ⟨by omega, kk⟩
    · rw [hwr] at q
      rw [if_neg (by omega), if_pos q] at kk
      simp (disch := omega) only [wr_id, wr_m1, sd_t, nl_I, nl_R, nl_none, c1_I, c1_R, sh_0, sh_1, sh_2, sh_3, sh_4, true_and, and_true, ldA_A, ldB_B, ldS_S, stA_A, stB_B, aL_A, aL_B, aL_S, aC_A, hRd_eq, hRd_ne, cp6, cp8, tl_some, tl_none, List.cons_append, List.nil_append, ofI_t0, ofI_t1, Int.add_zero, Int.zero_add, x137_17, x137_18, x137_19]
      refine m_placeOf (by omega) a1 b1 hN hB.2.2.1.2.1 hx ?_
      simp (disch := omega) only [wr_id, wr_m1, sd_t, nl_I, nl_R, nl_none, c1_I, c1_R, sh_0, sh_1, sh_2, sh_3, sh_4, true_and, and_true, ldA_A, ldB_B, ldS_S, stA_A, stB_B, aL_A, aL_B, aL_S, aC_A, hRd_eq, hRd_ne, cp6, cp8, tl_some, tl_none, List.cons_append, List.nil_append, ofI_t0, ofI_t1, Int.add_zero, Int.zero_add, x137_20]
      exact kk
    · rw [hwr] at q
      rw [if_neg (by omega), if_neg (by omega), if_pos q] at kk
      simp (disch := omega) only [wr_id, wr_m1, sd_t, nl_I, nl_R, nl_none, c1_I, c1_R, sh_0, sh_1, sh_2, sh_3, sh_4, true_and, and_true, ldA_A, ldB_B, ldS_S, stA_A, stB_B, aL_A, aL_B, aL_S, aC_A, hRd_eq, hRd_ne, cp6, cp8, tl_some, tl_none, List.cons_append, List.nil_append, ofI_t0, ofI_t1, Int.add_zero, Int.zero_add, x137_21, x137_22, x137_23, x137_24, x137_25, gf11_0, pf11_0, gf11_1, pf11_1, gf11_2, pf11_2, gf11_3, gf11_4, gf11_5, gf11_6, gf11_7, pf11_7, gf11_8, gf11_9, pf11_9, gf11_10, pf11_10, gf11_11, pf11_11, gf11_12, pf11_12, gf11_13, pf11_13, gf11_14, gf11_15, pf11_15, gf11_16, gf11_17, pf11_17, gf11_18, gf11_19, gf11_20, gf11_21, gf11_22, gf11_23, gf11_24, pf11_24, gf11_25, gf11_26, gf11_27, gf11_28, pf11_28, gf11_29, pf11_29, gf11_30, gf11_31, gf11_32, pf11_32, gf11_33, gf11_34, gf11_35, pf11_35, gf11_36, gf11_37, gf11_38, gf11_39, uN_eq, uN_ne, a1, a5, w5]
      exact ⟨by omega, kk⟩
    · rw [hwr] at q
      rw [if_neg (by omega), if_neg (by omega), if_neg (by omega), if_pos q] at kk
      unfold en at kk
      simp (disch := omega) only [wr_id, wr_m1, sd_t, nl_I, nl_R, nl_none, c1_I, c1_R, sh_0, sh_1, sh_2, sh_3, sh_4, true_and, and_true, ldA_A, ldB_B, ldS_S, stA_A, stB_B, aL_A, aL_B, aL_S, aC_A, hRd_eq, hRd_ne, cp6, cp8, tl_some, tl_none, List.cons_append, List.nil_append, ofI_t0, ofI_t1, Int.add_zero, Int.zero_add, x137_26, x137_27, x137_28, x137_29, x137_30, x137_31, x137_32, x137_33, x137_34, x137_35, x137_36, x137_37, x137_38, gf11_0, pf11_0, gf11_1, pf11_1, gf11_2, pf11_2, gf11_3, gf11_4, gf11_5, gf11_6, gf11_7, pf11_7, gf11_8, gf11_9, pf11_9, gf11_10, pf11_10, gf11_11, pf11_11, gf11_12, pf11_12, gf11_13, pf11_13, gf11_14, gf11_15, pf11_15, gf11_16, gf11_17, pf11_17, gf11_18, gf11_19, gf11_20, gf11_21, gf11_22, gf11_23, gf11_24, pf11_24, gf11_25, gf11_26, gf11_27, gf11_28, pf11_28, gf11_29, pf11_29, gf11_30, gf11_31, gf11_32, pf11_32, gf11_33, gf11_34, gf11_35, pf11_35, gf11_36, gf11_37, gf11_38, gf11_39, uN_eq, uN_ne, a1, e1]
      refine ⟨by omega, fun q2 => ⟨by omega, ?_⟩, fun q2 => ?_⟩
      · rw [if_neg q2] at kk; exact kk
      · rw [if_pos (by omega)] at kk; exact kk
    · rw [hwr] at q
      rw [if_neg (by omega), if_neg (by omega), if_neg (by omega), if_neg (by omega), if_pos q] at kk
      simp (disch := omega) only [wr_id, wr_m1, sd_t, nl_I, nl_R, nl_none, c1_I, c1_R, sh_0, sh_1, sh_2, sh_3, sh_4, true_and, and_true, ldA_A, ldB_B, ldS_S, stA_A, stB_B, aL_A, aL_B, aL_S, aC_A, hRd_eq, hRd_ne, cp6, cp8, tl_some, tl_none, List.cons_append, List.nil_append, ofI_t0, ofI_t1, Int.add_zero, Int.zero_add, x137_39, x137_40, x137_41]
      refine m_many (by omega) a1 z2 hB.2.1.2.2.1 b1 (fun j j0 j1 => ⟨hsc.2.2.2.1 j j0 j1, by have := hB.2.1.2.2.2.2 j j0 j1; omega⟩) hx ?_
      simp (disch := omega) only [wr_id, wr_m1, sd_t, nl_I, nl_R, nl_none, c1_I, c1_R, sh_0, sh_1, sh_2, sh_3, sh_4, true_and, and_true, ldA_A, ldB_B, ldS_S, stA_A, stB_B, aL_A, aL_B, aL_S, aC_A, hRd_eq, hRd_ne, cp6, cp8, tl_some, tl_none, List.cons_append, List.nil_append, ofI_t0, ofI_t1, Int.add_zero, Int.zero_add, x137_42]
      exact kk
    · rw [hwr] at q
      rw [if_neg (by omega), if_neg (by omega), if_neg (by omega), if_neg (by omega), if_neg (by omega)] at kk
      simp (disch := omega) only [wr_id, wr_m1, sd_t, nl_I, nl_R, nl_none, c1_I, c1_R, sh_0, sh_1, sh_2, sh_3, sh_4, true_and, and_true, ldA_A, ldB_B, ldS_S, stA_A, stB_B, aL_A, aL_B, aL_S, aC_A, hRd_eq, hRd_ne, cp6, cp8, tl_some, tl_none, List.cons_append, List.nil_append, ofI_t0, ofI_t1, Int.add_zero, Int.zero_add, x137_43, x137_44]
      exact kk
  · rw [if_neg q0]
    simp (disch := omega) only [wr_id, wr_m1, sd_t, nl_I, nl_R, nl_none, c1_I, c1_R, sh_0, sh_1, sh_2, sh_3, sh_4, true_and, and_true, ldA_A, ldB_B, ldS_S, stA_A, stB_B, aL_A, aL_B, aL_S, aC_A, hRd_eq, hRd_ne, cp6, cp8, tl_some, tl_none, List.cons_append, List.nil_append, ofI_t0, ofI_t1, Int.add_zero, Int.zero_add, x137_3, x137_4, x137_5]
    exact ⟨fun q => by first | omega | exact absurd rfl q | exact absurd trivial q | exact absurd q (by omega), fun _ => k1 q0⟩
theorem m_job (hd : 5 ≤ d) (c : MI f n pl M P J wt tk bh S Hs kp sd im s ct ea la bt bj bm h) (hB : BD f n pl M P J wt tk bh S Hs kp sd im s ct ea la bt bj bm) (hx : -2147483648 ≤ x ∧ x ≤ 2147483647) (hy : -2147483648 ≤ y ∧ y ≤ 2147483647) (k1 : ¬ (0 ≤ x ∧ x < J) → Q (some (vI (-1000000001))) h) (k2 : 0 ≤ x → x < J → ∀ h1, MI f n pl M P J wt tk bh S Hs kp sd im s ct ea la bt bj bm h1 → Out 156 180 h h1 → Q (some (vI (joF M J wt tk bh S x y))) h1) : CALL d 138 [.ref 156, vI x, vI y] h Q := by
  obtain ⟨zz0, g0, cR0, -, -, hM0, -⟩ := c.go hB
  have hJ := hB.2.1.2.2.1
  refine cl138 (by omega) hM0.1 ?_
  simp (disch := omega) only [wr_id, wr_m1, sd_t, nl_I, nl_R, nl_none, c1_I, c1_R, sh_0, sh_1, sh_2, sh_3, sh_4, true_and, and_true, ldA_A, ldB_B, ldS_S, stA_A, stB_B, aL_A, aL_B, aL_S, aC_A, hRd_eq, hRd_ne, cp6, cp8, tl_some, tl_none, List.cons_append, List.nil_append, ofI_t0, ofI_t1, Int.add_zero, Int.zero_add, x138_0, x138_1, x138_2]
  refine m_isJ (by omega) hM0.1 (by rw [hM0.2.1.2.2]; exact hJ) hx ?_
  rw [hM0.2.1.2.2]
  by_cases q0 : 0 ≤ x ∧ x < J
  · rw [if_pos q0]
    simp (disch := omega) only [wr_id, wr_m1, sd_t, nl_I, nl_R, nl_none, c1_I, c1_R, sh_0, sh_1, sh_2, sh_3, sh_4, true_and, and_true, ldA_A, ldB_B, ldS_S, stA_A, stB_B, aL_A, aL_B, aL_S, aC_A, hRd_eq, hRd_ne, cp6, cp8, tl_some, tl_none, List.cons_append, List.nil_append, ofI_t0, ofI_t1, Int.add_zero, Int.zero_add, x138_3, x138_6, x138_7]
    refine ⟨fun _ => ?_, fun q => by first | omega | exact absurd rfl q | exact absurd trivial q | exact absurd q (by omega)⟩
    refine m_rk (by omega) c hB (fun h1 z g c1 cR b1 hSG hN e1 e2 o1 => ?_)
    have hsc := hSG.sc
    obtain ⟨a1, ⟨z0, z1, z2, z7, z9, z10, z24, z29, z35⟩, ⟨r1, a3, a3b⟩, ⟨r2, a4, a4b⟩, ⟨r3, a5, a5b⟩, a6, ⟨r4, a7, a7b, a7c⟩, a8, a9, a10, a11, ⟨r5, a12, a12b⟩, ⟨a13, a13b⟩, a14⟩ := cR
    have kk := k2 q0.1 q0.2 h1 c1 o1
    have w3 := a3b x q0.1 q0.2
    have w4 := a4b x q0.1 q0.2
    have w9 := hsc.2.2.2.1 x q0.1 q0.2
    have hu := TV_ge (rD_tv hB x)
    have hwr : wr y = y := wr_id (by omega) (by omega)
    unfold joF at kk
    simp (disch := omega) only [wr_id, wr_m1, sd_t, nl_I, nl_R, nl_none, c1_I, c1_R, sh_0, sh_1, sh_2, sh_3, sh_4, true_and, and_true, ldA_A, ldB_B, ldS_S, stA_A, stB_B, aL_A, aL_B, aL_S, aC_A, hRd_eq, hRd_ne, cp6, cp8, tl_some, tl_none, List.cons_append, List.nil_append, ofI_t0, ofI_t1, Int.add_zero, Int.zero_add, x138_8]
    refine x138_9 (fun q => ?_) (fun q => ?_) (fun q => ?_) (fun q => ?_) (fun q => ?_)
    · rw [hwr] at q
      rw [if_pos q] at kk
      simp (disch := omega) only [wr_id, wr_m1, sd_t, nl_I, nl_R, nl_none, c1_I, c1_R, sh_0, sh_1, sh_2, sh_3, sh_4, true_and, and_true, ldA_A, ldB_B, ldS_S, stA_A, stB_B, aL_A, aL_B, aL_S, aC_A, hRd_eq, hRd_ne, cp6, cp8, tl_some, tl_none, List.cons_append, List.nil_append, ofI_t0, ofI_t1, Int.add_zero, Int.zero_add, x138_10, x138_11, x138_12, x138_13, x138_14, x138_15, x138_16, gf11_0, pf11_0, gf11_1, pf11_1, gf11_2, pf11_2, gf11_3, gf11_4, gf11_5, gf11_6, gf11_7, pf11_7, gf11_8, gf11_9, pf11_9, gf11_10, pf11_10, gf11_11, pf11_11, gf11_12, pf11_12, gf11_13, pf11_13, gf11_14, gf11_15, pf11_15, gf11_16, gf11_17, pf11_17, gf11_18, gf11_19, gf11_20, gf11_21, gf11_22, gf11_23, gf11_24, pf11_24, gf11_25, gf11_26, gf11_27, gf11_28, pf11_28, gf11_29, pf11_29, gf11_30, gf11_31, gf11_32, pf11_32, gf11_33, gf11_34, gf11_35, pf11_35, gf11_36, gf11_37, gf11_38, gf11_39, uN_eq, uN_ne, a1, b1, w9]
      exact ⟨by omega, kk⟩
    · rw [hwr] at q
      rw [if_neg (by omega), if_pos q] at kk
      simp (disch := omega) only [wr_id, wr_m1, sd_t, nl_I, nl_R, nl_none, c1_I, c1_R, sh_0, sh_1, sh_2, sh_3, sh_4, true_and, and_true, ldA_A, ldB_B, ldS_S, stA_A, stB_B, aL_A, aL_B, aL_S, aC_A, hRd_eq, hRd_ne, cp6, cp8, tl_some, tl_none, List.cons_append, List.nil_append, ofI_t0, ofI_t1, Int.add_zero, Int.zero_add, x138_17, x138_18, x138_19, x138_20, x138_21, gf11_0, pf11_0, gf11_1, pf11_1, gf11_2, pf11_2, gf11_3, gf11_4, gf11_5, gf11_6, gf11_7, pf11_7, gf11_8, gf11_9, pf11_9, gf11_10, pf11_10, gf11_11, pf11_11, gf11_12, pf11_12, gf11_13, pf11_13, gf11_14, gf11_15, pf11_15, gf11_16, gf11_17, pf11_17, gf11_18, gf11_19, gf11_20, gf11_21, gf11_22, gf11_23, gf11_24, pf11_24, gf11_25, gf11_26, gf11_27, gf11_28, pf11_28, gf11_29, pf11_29, gf11_30, gf11_31, gf11_32, pf11_32, gf11_33, gf11_34, gf11_35, pf11_35, gf11_36, gf11_37, gf11_38, gf11_39, uN_eq, uN_ne, a1, a3, w3]
      exact ⟨by omega, kk⟩
    · rw [hwr] at q
      rw [if_neg (by omega), if_neg (by omega), if_pos q] at kk
      simp (disch := omega) only [wr_id, wr_m1, sd_t, nl_I, nl_R, nl_none, c1_I, c1_R, sh_0, sh_1, sh_2, sh_3, sh_4, true_and, and_true, ldA_A, ldB_B, ldS_S, stA_A, stB_B, aL_A, aL_B, aL_S, aC_A, hRd_eq, hRd_ne, cp6, cp8, tl_some, tl_none, List.cons_append, List.nil_append, ofI_t0, ofI_t1, Int.add_zero, Int.zero_add, x138_22, x138_23, x138_24, x138_25, x138_26, gf11_0, pf11_0, gf11_1, pf11_1, gf11_2, pf11_2, gf11_3, gf11_4, gf11_5, gf11_6, gf11_7, pf11_7, gf11_8, gf11_9, pf11_9, gf11_10, pf11_10, gf11_11, pf11_11, gf11_12, pf11_12, gf11_13, pf11_13, gf11_14, gf11_15, pf11_15, gf11_16, gf11_17, pf11_17, gf11_18, gf11_19, gf11_20, gf11_21, gf11_22, gf11_23, gf11_24, pf11_24, gf11_25, gf11_26, gf11_27, gf11_28, pf11_28, gf11_29, pf11_29, gf11_30, gf11_31, gf11_32, pf11_32, gf11_33, gf11_34, gf11_35, pf11_35, gf11_36, gf11_37, gf11_38, gf11_39, uN_eq, uN_ne, a1, a4, w4]
      exact ⟨by omega, kk⟩
    · rw [hwr] at q
      rw [if_neg (by omega), if_neg (by omega), if_neg (by omega), if_pos q] at kk
      unfold en at kk
      simp (disch := omega) only [wr_id, wr_m1, sd_t, nl_I, nl_R, nl_none, c1_I, c1_R, sh_0, sh_1, sh_2, sh_3, sh_4, true_and, and_true, ldA_A, ldB_B, ldS_S, stA_A, stB_B, aL_A, aL_B, aL_S, aC_A, hRd_eq, hRd_ne, cp6, cp8, tl_some, tl_none, List.cons_append, List.nil_append, ofI_t0, ofI_t1, Int.add_zero, Int.zero_add, x138_27, x138_28, x138_29, x138_30, x138_31, x138_32, x138_33, x138_34, x138_35, x138_36, x138_37, x138_38, x138_39, gf11_0, pf11_0, gf11_1, pf11_1, gf11_2, pf11_2, gf11_3, gf11_4, gf11_5, gf11_6, gf11_7, pf11_7, gf11_8, gf11_9, pf11_9, gf11_10, pf11_10, gf11_11, pf11_11, gf11_12, pf11_12, gf11_13, pf11_13, gf11_14, gf11_15, pf11_15, gf11_16, gf11_17, pf11_17, gf11_18, gf11_19, gf11_20, gf11_21, gf11_22, gf11_23, gf11_24, pf11_24, gf11_25, gf11_26, gf11_27, gf11_28, pf11_28, gf11_29, pf11_29, gf11_30, gf11_31, gf11_32, pf11_32, gf11_33, gf11_34, gf11_35, pf11_35, gf11_36, gf11_37, gf11_38, gf11_39, uN_eq, uN_ne, a1, e2]
      refine ⟨by omega, fun q2 => ⟨by omega, ?_⟩, fun q2 => ?_⟩
      · rw [if_neg q2] at kk; exact kk
      · rw [if_pos (by omega)] at kk; exact kk
    · rw [hwr] at q
      rw [if_neg (by omega), if_neg (by omega), if_neg (by omega), if_neg (by omega)] at kk
      simp (disch := omega) only [wr_id, wr_m1, sd_t, nl_I, nl_R, nl_none, c1_I, c1_R, sh_0, sh_1, sh_2, sh_3, sh_4, true_and, and_true, ldA_A, ldB_B, ldS_S, stA_A, stB_B, aL_A, aL_B, aL_S, aC_A, hRd_eq, hRd_ne, cp6, cp8, tl_some, tl_none, List.cons_append, List.nil_append, ofI_t0, ofI_t1, Int.add_zero, Int.zero_add, x138_40, x138_41]
      exact kk
  · rw [if_neg q0]
    simp (disch := omega) only [wr_id, wr_m1, sd_t, nl_I, nl_R, nl_none, c1_I, c1_R, sh_0, sh_1, sh_2, sh_3, sh_4, true_and, and_true, ldA_A, ldB_B, ldS_S, stA_A, stB_B, aL_A, aL_B, aL_S, aC_A, hRd_eq, hRd_ne, cp6, cp8, tl_some, tl_none, List.cons_append, List.nil_append, ofI_t0, ofI_t1, Int.add_zero, Int.zero_add, x138_3, x138_4, x138_5]
    exact ⟨fun q => by first | omega | exact absurd rfl q | exact absurd trivial q | exact absurd q (by omega), fun _ => k1 q0⟩
theorem l_judge {z : Nat → Int} {D : Int → Int} (h1 : hRd h 156 = oM z) (z35 : z 35 = bt) (hbt : 0 ≤ bt ∧ bt ≤ 15) (h169 : hRd h 169 = cA 8 D) (hD : TVF D) (h177 : hRd h 177 = cA 15 bj) (h178 : hRd h 178 = cA 15 bm) (hb : ∀ i, 0 ≤ i → i < bt → 0 ≤ bj i ∧ bj i < 8 ∧ -1 ≤ bm i ∧ bm i ≤ 999) : ∀ (m : Nat) (k : Int) (l2 : Option Value), (m : Int) = bt - k → 0 ≤ k → Q (some (vI (fwF (fun j => en (D j)) bj bm m k))) h → WPC d 176 5 [some (.ref 156), some (vI k), l2] [] h Q := by
  intro m
  induction m with
  | zero =>
    intro k l2 hm hk kk
    rw [WPC_iff]
    simp (disch := omega) only [wr_id, wr_m1, sd_t, nl_I, nl_R, nl_none, c1_I, c1_R, sh_0, sh_1, sh_2, sh_3, sh_4, true_and, and_true, ldA_A, ldB_B, ldS_S, stA_A, stB_B, aL_A, aL_B, aL_S, aC_A, hRd_eq, hRd_ne, cp6, cp8, tl_some, tl_none, List.cons_append, List.nil_append, ofI_t0, ofI_t1, Int.add_zero, Int.zero_add, x176_5, x176_6, x176_7, x176_8, x176_38, x176_39, gf11_0, pf11_0, gf11_1, pf11_1, gf11_2, pf11_2, gf11_3, gf11_4, gf11_5, gf11_6, gf11_7, pf11_7, gf11_8, gf11_9, pf11_9, gf11_10, pf11_10, gf11_11, pf11_11, gf11_12, pf11_12, gf11_13, pf11_13, gf11_14, gf11_15, pf11_15, gf11_16, gf11_17, pf11_17, gf11_18, gf11_19, gf11_20, gf11_21, gf11_22, gf11_23, gf11_24, pf11_24, gf11_25, gf11_26, gf11_27, gf11_28, pf11_28, gf11_29, pf11_29, gf11_30, gf11_31, gf11_32, pf11_32, gf11_33, gf11_34, gf11_35, pf11_35, gf11_36, gf11_37, gf11_38, gf11_39, uN_eq, uN_ne, h1]
    exact ⟨fun _ => kk, fun q => by omega⟩
  | succ m ih =>
    intro k l2 hm hk kk
    have hk1 := hb k hk (by omega)
    have hd := TV_ge (hD (bj k))
    have hen := en_b (hD (bj k))
    rw [fwF] at kk
    have go : ∀ v, v = en (D (bj k)) → WP d 176 27 [some (.ref 156), some (vI k), l2] [vI v] h Q := fun v hv => by
      simp (disch := omega) only [wr_id, wr_m1, sd_t, nl_I, nl_R, nl_none, c1_I, c1_R, sh_0, sh_1, sh_2, sh_3, sh_4, true_and, and_true, ldA_A, ldB_B, ldS_S, stA_A, stB_B, aL_A, aL_B, aL_S, aC_A, hRd_eq, hRd_ne, cp6, cp8, tl_some, tl_none, List.cons_append, List.nil_append, ofI_t0, ofI_t1, Int.add_zero, Int.zero_add, x176_4, x176_27, x176_28, x176_29, x176_30, x176_31, x176_32, x176_33, x176_34, x176_35, x176_36, x176_37, gf11_0, pf11_0, gf11_1, pf11_1, gf11_2, pf11_2, gf11_3, gf11_4, gf11_5, gf11_6, gf11_7, pf11_7, gf11_8, gf11_9, pf11_9, gf11_10, pf11_10, gf11_11, pf11_11, gf11_12, pf11_12, gf11_13, pf11_13, gf11_14, gf11_15, pf11_15, gf11_16, gf11_17, pf11_17, gf11_18, gf11_19, gf11_20, gf11_21, gf11_22, gf11_23, gf11_24, pf11_24, gf11_25, gf11_26, gf11_27, gf11_28, pf11_28, gf11_29, pf11_29, gf11_30, gf11_31, gf11_32, pf11_32, gf11_33, gf11_34, gf11_35, pf11_35, gf11_36, gf11_37, gf11_38, gf11_39, uN_eq, uN_ne, h1, h178]
      refine ⟨by omega, fun q => ?_, fun q => ?_⟩
      · rw [if_pos (by omega)] at kk
        exact ih (k + 1) _ (by omega) (by omega) kk
      · rw [if_neg (by omega)] at kk
        exact kk
    unfold en at go
    rw [WPC_iff]
    simp (disch := omega) only [wr_id, wr_m1, sd_t, nl_I, nl_R, nl_none, c1_I, c1_R, sh_0, sh_1, sh_2, sh_3, sh_4, true_and, and_true, ldA_A, ldB_B, ldS_S, stA_A, stB_B, aL_A, aL_B, aL_S, aC_A, hRd_eq, hRd_ne, cp6, cp8, tl_some, tl_none, List.cons_append, List.nil_append, ofI_t0, ofI_t1, Int.add_zero, Int.zero_add, x176_5, x176_6, x176_7, x176_8, x176_9, x176_10, x176_11, x176_12, x176_13, x176_14, x176_15, x176_16, x176_17, x176_18, x176_19, x176_20, x176_21, x176_22, x176_23, x176_24, x176_25, x176_26, gf11_0, pf11_0, gf11_1, pf11_1, gf11_2, pf11_2, gf11_3, gf11_4, gf11_5, gf11_6, gf11_7, pf11_7, gf11_8, gf11_9, pf11_9, gf11_10, pf11_10, gf11_11, pf11_11, gf11_12, pf11_12, gf11_13, pf11_13, gf11_14, gf11_15, pf11_15, gf11_16, gf11_17, pf11_17, gf11_18, gf11_19, gf11_20, gf11_21, gf11_22, gf11_23, gf11_24, pf11_24, gf11_25, gf11_26, gf11_27, gf11_28, pf11_28, gf11_29, pf11_29, gf11_30, gf11_31, gf11_32, pf11_32, gf11_33, gf11_34, gf11_35, pf11_35, gf11_36, gf11_37, gf11_38, gf11_39, uN_eq, uN_ne, h1, h169, h177]
    refine ⟨fun q => by omega, fun _ => ⟨by omega, by omega, fun q => ⟨by omega, by omega, go _ ?_⟩, fun q => go _ ?_⟩⟩
    · rw [if_neg q]
    · rw [if_pos (by omega)]
theorem m_judge (hd : 5 ≤ d) (c : MI f n pl M P J wt tk bh S Hs kp sd im s ct ea la bt bj bm h) (hB : BD f n pl M P J wt tk bh S Hs kp sd im s ct ea la bt bj bm) (kk : ∀ h1, MI f n pl M P J wt tk bh S Hs kp sd im s ct ea la bt bj bm h1 → Out 156 180 h h1 → Q (some (vI (fwF (fun j => en (rD M J wt tk bh S j)) bj bm bt.toNat 0))) h1) : CALL d 176 [.ref 156] h Q := by
  obtain ⟨zz0, g0, cR0, -, -, hM0, -⟩ := c.go hB
  have hbb := hB.2.2.2.2.2.2.2.2.2
  refine cl176 (by omega) hM0.1 ?_
  simp (disch := omega) only [wr_id, wr_m1, sd_t, nl_I, nl_R, nl_none, c1_I, c1_R, sh_0, sh_1, sh_2, sh_3, sh_4, true_and, and_true, ldA_A, ldB_B, ldS_S, stA_A, stB_B, aL_A, aL_B, aL_S, aC_A, hRd_eq, hRd_ne, cp6, cp8, tl_some, tl_none, List.cons_append, List.nil_append, ofI_t0, ofI_t1, Int.add_zero, Int.zero_add, x176_0, x176_1]
  refine m_rk (by omega) c hB (fun h1 z g c1 cR b1 hSG hN e1 e2 o1 => ?_)
  obtain ⟨a1, ⟨z0, z1, z2, z7, z9, z10, z24, z29, z35⟩, ⟨r1, a3, a3b⟩, ⟨r2, a4, a4b⟩, ⟨r3, a5, a5b⟩, a6, ⟨r4, a7, a7b, a7c⟩, a8, a9, a10, a11, ⟨r5, a12, a12b⟩, ⟨a13, a13b⟩, a14⟩ := cR
  simp (disch := omega) only [wr_id, wr_m1, sd_t, nl_I, nl_R, nl_none, c1_I, c1_R, sh_0, sh_1, sh_2, sh_3, sh_4, true_and, and_true, ldA_A, ldB_B, ldS_S, stA_A, stB_B, aL_A, aL_B, aL_S, aC_A, hRd_eq, hRd_ne, cp6, cp8, tl_some, tl_none, List.cons_append, List.nil_append, ofI_t0, ofI_t1, Int.add_zero, Int.zero_add, x176_2, x176_3, x176_4]
  exact l_judge a1 z35 hbb.1 e2 (rD_tv hB) a10 a11 hbb.2.1 bt.toNat 0 _ (by omega) (by omega) (kk h1 c1 o1)
end
