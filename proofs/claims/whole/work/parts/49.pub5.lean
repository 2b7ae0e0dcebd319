-- THE CLASS'S OWN METHODS: what is told
def rU (M J : Int) (wt tk bh : Int → Int) (S : SS) : Int → Int := recU M J S.2.2.2.1 S.2.1 wt S.2.2.1 tk bh S.1
def rD (M J : Int) (wt tk bh : Int → Int) (S : SS) : Int → Int := recD M J S.2.2.2.1 S.2.1 wt S.2.2.1 tk bh S.1
section
variable {d : Nat} {f wt tk bh kp sd ea la bj bm : Int → Int} {n pl M P J s ct bt : Int} {S : SS} {Hs : List SS} {im : Int → SS} {h : LHeap} {Q : Option Value → LHeap → Prop} {x y x1 x2 : Int}
theorem CI.cap (c : CI f n pl M P J wt tk bh S Hs kp sd im s ct ea la bt bj bm h) : CapH h M P J S.2.1 wt S.2.2.1 tk bh ∧ Scr h := by
  obtain ⟨-, -, -, c4, ⟨wk0, dr0, i1, i2, i3, i4, i5, i6⟩, ⟨e1, e2, e3, e4⟩, c7, -⟩ := c
  exact ⟨⟨c4, i1, ⟨_, _, e1⟩, e3, i3, e4, i5, i6⟩, c7⟩
theorem rU_tv (hB : BD f n pl M P J wt tk bh S Hs kp sd im s ct ea la bt bj bm) : TVF (rU M J wt tk bh S) := TVF_recU hB.2.1 hB.2.2.1.1
theorem rD_tv (hB : BD f n pl M P J wt tk bh S Hs kp sd im s ct ea la bt bj bm) : TVF (rD M J wt tk bh S) := TVF_recD hB.2.1 hB.2.2.1.1
theorem c_rk (hd : 6 ≤ d) (c : CI f n pl M P J wt tk bh S Hs kp sd im s ct ea la bt bj bm h) (hB : BD f n pl M P J wt tk bh S Hs kp sd im s ct ea la bt bj bm) (kk : ∀ h1, CI f n pl M P J wt tk bh S Hs kp sd im s ct ea la bt bj bm h1 → hRd h1 22 = cA 6 (fun q => en (rU M J wt tk bh S q)) → hRd h1 23 = cA 8 (fun q => en (rD M J wt tk bh S q)) → Out 22 24 h h1 → Q none h1) : CALL d 4 [.ref 10] h Q := by
  obtain ⟨hC, ⟨U, s1⟩, ⟨D, s2⟩, ⟨I, s3⟩⟩ := c.cap
  obtain ⟨e1, ⟨g, e2, e2b, e2c⟩, e3, e4⟩ := c.c17
  exact s_reckonNow hd hC e1 hB.2.1 s1 s2 s3 e2 e2b e2c (fun p hp => (hB.2.2.1.1 p hp).2) (fun I1 => kk _ (c.sK hK_out hK_scr) hK_22 hK_23 hK_out)
theorem c_judge (hd : 7 ≤ d) (c : CI f n pl M P J wt tk bh S Hs kp sd im s ct ea la bt bj bm h) (hB : BD f n pl M P J wt tk bh S Hs kp sd im s ct ea la bt bj bm) (kk : ∀ h1, CI f n pl M P J wt tk bh S Hs kp sd im s ct ea la bt bj bm h1 → Out 1 155 h h1 → Q (some (vI (fwF (fun j => en (rD M J wt tk bh S j)) bj bm bt.toNat 0))) h1) : CALL d 95 [.ref 1] h Q := by
  have a1 := c.w
  have hb := hB.2.2.2.2.2.2.2.2.2
  refine cl95 (by omega) a1 ?_
  simp (disch := omega) only [wr_id, wr_m1, sd_t, nl_I, nl_R, nl_none, c1_I, c1_R, sh_0, sh_1, sh_2, sh_3, sh_4, true_and, and_true, ldA_A, ldB_B, ldS_S, stA_A, stB_B, aL_A, aL_B, aL_S, aC_A, hRd_eq, hRd_ne, cp6, cp8, tl_some, tl_none, List.cons_append, List.nil_append, ofI_t0, ofI_t1, Int.add_zero, Int.zero_add, x95_0, x95_1, x95_2, x95_3, x95_4, x95_5, x95_6, x95_7, x95_8, gf10_1, gf10_8, a1]
  refine c_rk (by omega) c hB (fun h1 c1 e22 e23 o1 => ?_)
  have a11 := c1.w
  simp (disch := omega) only [wr_id, wr_m1, sd_t, nl_I, nl_R, nl_none, c1_I, c1_R, sh_0, sh_1, sh_2, sh_3, sh_4, true_and, and_true, ldA_A, ldB_B, ldS_S, stA_A, stB_B, aL_A, aL_B, aL_S, aC_A, hRd_eq, hRd_ne, cp6, cp8, tl_some, tl_none, List.cons_append, List.nil_append, ofI_t0, ofI_t1, Int.add_zero, Int.zero_add, x95_0, x95_1, x95_2, x95_3, x95_4, x95_5, x95_6, x95_7, x95_8, gf10_1, gf10_8, a11]
  refine s_fw (by omega) c1.2.2.2.2.2.2.2.2.2.2.2 c1.2.2.2.1 e23 (rD_tv hB) hb.2.1 hb.1 ?_
  simp (disch := omega) only [wr_id, wr_m1, sd_t, nl_I, nl_R, nl_none, c1_I, c1_R, sh_0, sh_1, sh_2, sh_3, sh_4, true_and, and_true, ldA_A, ldB_B, ldS_S, stA_A, stB_B, aL_A, aL_B, aL_S, aC_A, hRd_eq, hRd_ne, cp6, cp8, tl_some, tl_none, List.cons_append, List.nil_append, ofI_t0, ofI_t1, Int.add_zero, Int.zero_add, x95_0, x95_1, x95_2, x95_3, x95_4, x95_5, x95_6, x95_7, x95_8, gf10_1, gf10_8]
  exact kk h1 c1 (o1.widen (by omega) (by omega))
theorem c_bread (hd : 7 ≤ d) (c : CI f n pl M P J wt tk bh S Hs kp sd im s ct ea la bt bj bm h) (hB : BD f n pl M P J wt tk bh S Hs kp sd im s ct ea la bt bj bm) (hx : -2147483648 ≤ x ∧ x ≤ 2147483647) (k1 : ¬ (0 ≤ x ∧ x < J) → Q (some (vI (-1000000001))) h) (k2 : 0 ≤ x → x < J → ∀ h1, CI f n pl M P J wt tk bh S Hs kp sd im s ct ea la bt bj bm h1 → Out 1 155 h h1 → Q (some (vI ((if rD M J wt tk bh S x = 1000000 then M else rD M J wt tk bh S x) - (if recD M J 63 S.2.1 wt S.2.2.1 tk bh S.1 x = 1000000 then M else recD M J 63 S.2.1 wt S.2.2.1 tk bh S.1 x)))) h1) : CALL d 87 [.ref 1, vI x] h Q := by
  have a1 := c.w
  have hJ := hB.2.1.2.2.1
  refine cl87 (by omega) a1 ?_
  simp (disch := omega) only [wr_id, wr_m1, sd_t, nl_I, nl_R, nl_none, c1_I, c1_R, sh_0, sh_1, sh_2, sh_3, sh_4, true_and, and_true, ldA_A, ldB_B, ldS_S, stA_A, stB_B, aL_A, aL_B, aL_S, aC_A, hRd_eq, hRd_ne, cp6, cp8, tl_some, tl_none, List.cons_append, List.nil_append, ofI_t0, ofI_t1, Int.add_zero, Int.zero_add, x87_0, x87_1, x87_2]
  refine c_isJ (by omega) c hB hx ?_
  by_cases q : 0 ≤ x ∧ x < J
  · rw [if_pos q]
    simp (disch := omega) only [wr_id, wr_m1, sd_t, nl_I, nl_R, nl_none, c1_I, c1_R, sh_0, sh_1, sh_2, sh_3, sh_4, true_and, and_true, ldA_A, ldB_B, ldS_S, stA_A, stB_B, aL_A, aL_B, aL_S, aC_A, hRd_eq, hRd_ne, cp6, cp8, tl_some, tl_none, List.cons_append, List.nil_append, ofI_t0, ofI_t1, Int.add_zero, Int.zero_add, x87_0, x87_1, x87_2, x87_3, x87_4, x87_5, x87_6, x87_7, x87_8, x87_9, x87_10, x87_11, x87_12, x87_13, x87_14, x87_15, x87_16, x87_17, x87_18, x87_19, x87_20, x87_21, x87_22, x87_23, x87_24, x87_25, x87_26, x87_27, x87_28, x87_29, x87_30, x87_31, x87_32, x87_33, x87_34, x87_35, gf10_1, gf1_3, gf10_3, gf7_0, a1]
    refine ⟨fun _ => ?_, fun z => by omega⟩
    refine c_rk (by omega) c hB (fun h1 c1 e22 e23 o1 => ?_)
    have a11 := c1.w
    obtain ⟨hC1, hs1⟩ := c1.cap
    have h10 := hC1.1
    have hv := rD_tv hB x
    have hb := en_b hv
    simp (disch := omega) only [wr_id, wr_m1, sd_t, nl_I, nl_R, nl_none, c1_I, c1_R, sh_0, sh_1, sh_2, sh_3, sh_4, true_and, and_true, ldA_A, ldB_B, ldS_S, stA_A, stB_B, aL_A, aL_B, aL_S, aC_A, hRd_eq, hRd_ne, cp6, cp8, tl_some, tl_none, List.cons_append, List.nil_append, ofI_t0, ofI_t1, Int.add_zero, Int.zero_add, x87_0, x87_1, x87_2, x87_3, x87_4, x87_5, x87_6, x87_7, x87_8, x87_9, x87_10, x87_11, x87_12, x87_13, x87_14, x87_15, x87_16, x87_17, x87_18, x87_19, x87_20, x87_21, x87_22, x87_23, x87_24, x87_25, x87_26, x87_27, x87_28, x87_29, x87_30, x87_31, x87_32, x87_33, x87_34, x87_35, gf10_1, gf1_3, gf10_3, gf7_0, a11, h10, e23]
    refine ⟨⟨by omega, by omega⟩, ?_⟩
    refine s_orMornings (by omega) hC1 (by omega) (by omega) ?_
    have e1 := c1.c17
    simp (disch := omega) only [wr_id, wr_m1, sd_t, nl_I, nl_R, nl_none, c1_I, c1_R, sh_0, sh_1, sh_2, sh_3, sh_4, true_and, and_true, ldA_A, ldB_B, ldS_S, stA_A, stB_B, aL_A, aL_B, aL_S, aC_A, hRd_eq, hRd_ne, cp6, cp8, tl_some, tl_none, List.cons_append, List.nil_append, ofI_t0, ofI_t1, Int.add_zero, Int.zero_add, x87_0, x87_1, x87_2, x87_3, x87_4, x87_5, x87_6, x87_7, x87_8, x87_9, x87_10, x87_11, x87_12, x87_13, x87_14, x87_15, x87_16, x87_17, x87_18, x87_19, x87_20, x87_21, x87_22, x87_23, x87_24, x87_25, x87_26, x87_27, x87_28, x87_29, x87_30, x87_31, x87_32, x87_33, x87_34, x87_35, gf10_1, gf1_3, gf10_3, gf7_0, a11, e1.1]
    refine p_reckon (by omega) hC1 hB.2.1 hs1 e1.2.1 (by omega) (fun p hp => (hB.2.2.1.1 p hp).2) (fun h2 f22 f23 s2 o2 => ?_)
    have c2 := c1.sK o2 s2
    have a12 := c2.w
    obtain ⟨hC2, -⟩ := c2.cap
    have h10b := hC2.1
    have hv2 : TV (recD M J 63 S.2.1 wt S.2.2.1 tk bh S.1 x) := TVF_recD hB.2.1 hB.2.2.1.1 x
    have hb2 := en_b hv2
    simp (disch := omega) only [wr_id, wr_m1, sd_t, nl_I, nl_R, nl_none, c1_I, c1_R, sh_0, sh_1, sh_2, sh_3, sh_4, true_and, and_true, ldA_A, ldB_B, ldS_S, stA_A, stB_B, aL_A, aL_B, aL_S, aC_A, hRd_eq, hRd_ne, cp6, cp8, tl_some, tl_none, List.cons_append, List.nil_append, ofI_t0, ofI_t1, Int.add_zero, Int.zero_add, x87_0, x87_1, x87_2, x87_3, x87_4, x87_5, x87_6, x87_7, x87_8, x87_9, x87_10, x87_11, x87_12, x87_13, x87_14, x87_15, x87_16, x87_17, x87_18, x87_19, x87_20, x87_21, x87_22, x87_23, x87_24, x87_25, x87_26, x87_27, x87_28, x87_29, x87_30, x87_31, x87_32, x87_33, x87_34, x87_35, gf10_1, gf1_3, gf10_3, gf7_0, a12, h10b, f23]
    refine ⟨⟨by omega, by omega⟩, ?_⟩
    refine s_orMornings (by omega) hC2 (by omega) (by omega) ?_
    simp (disch := omega) only [wr_id, wr_m1, sd_t, nl_I, nl_R, nl_none, c1_I, c1_R, sh_0, sh_1, sh_2, sh_3, sh_4, true_and, and_true, ldA_A, ldB_B, ldS_S, stA_A, stB_B, aL_A, aL_B, aL_S, aC_A, hRd_eq, hRd_ne, cp6, cp8, tl_some, tl_none, List.cons_append, List.nil_append, ofI_t0, ofI_t1, Int.add_zero, Int.zero_add, x87_0, x87_1, x87_2, x87_3, x87_4, x87_5, x87_6, x87_7, x87_8, x87_9, x87_10, x87_11, x87_12, x87_13, x87_14, x87_15, x87_16, x87_17, x87_18, x87_19, x87_20, x87_21, x87_22, x87_23, x87_24, x87_25, x87_26, x87_27, x87_28, x87_29, x87_30, x87_31, x87_32, x87_33, x87_34, x87_35, gf10_1, gf1_3, gf10_3, gf7_0]
    have t1 : (if en (rD M J wt tk bh S x) = -1 then M else en (rD M J wt tk bh S x)) = (if rD M J wt tk bh S x = 1000000 then M else rD M J wt tk bh S x) := by
      by_cases e : rD M J wt tk bh S x = 1000000
      · rw [if_pos e, if_pos (by omega)]
      · rw [if_neg e, if_neg (by omega)]; omega
    have t2 : (if en (recD M J 63 S.2.1 wt S.2.2.1 tk bh S.1 x) = -1 then M else en (recD M J 63 S.2.1 wt S.2.2.1 tk bh S.1 x)) = (if recD M J 63 S.2.1 wt S.2.2.1 tk bh S.1 x = 1000000 then M else recD M J 63 S.2.1 wt S.2.2.1 tk bh S.1 x) := by
      by_cases e : recD M J 63 S.2.1 wt S.2.2.1 tk bh S.1 x = 1000000
      · rw [if_pos e, if_pos (by omega)]
      · rw [if_neg e, if_neg (by omega)]; omega
    rw [t1, t2]
    exact k2 q.1 q.2 h2 c2 ((o1.trans o2).widen (by omega) (by omega))
  · rw [if_neg q]
    simp (disch := omega) only [wr_id, wr_m1, sd_t, nl_I, nl_R, nl_none, c1_I, c1_R, sh_0, sh_1, sh_2, sh_3, sh_4, true_and, and_true, ldA_A, ldB_B, ldS_S, stA_A, stB_B, aL_A, aL_B, aL_S, aC_A, hRd_eq, hRd_ne, cp6, cp8, tl_some, tl_none, List.cons_append, List.nil_append, ofI_t0, ofI_t1, Int.add_zero, Int.zero_add, x87_0, x87_1, x87_2, x87_3, x87_4, x87_5, x87_6, x87_7, x87_8, x87_9, x87_10, x87_11, x87_12, x87_13, x87_14, x87_15, x87_16, x87_17, x87_18, x87_19, x87_20, x87_21, x87_22, x87_23, x87_24, x87_25, x87_26, x87_27, x87_28, x87_29, x87_30, x87_31, x87_32, x87_33, x87_34, x87_35, gf10_1, gf1_3, gf10_3, gf7_0]
    exact ⟨fun z => by first | omega | exact absurd trivial z | exact absurd rfl z, fun _ => k1 q⟩
end
