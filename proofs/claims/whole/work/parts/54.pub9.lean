-- THE CLASS'S OWN METHODS: orders, the city
theorem txF_b {f : Int → Int} {n : Int} : ∀ (m : Nat) (a : Int) (D : CC), (txF f n m a D).1 = 0 ∨ 1 ≤ (txF f n m a D).1 ∧ (txF f n m a D).1 ≤ 4 := by
  intro m
  induction m with
  | zero => intro a D; exact Or.inl rfl
  | succ m ih =>
    intro a D
    rw [txF]
    split
    · split
      · exact ih _ _
      · exact clF_b
    · exact Or.inl rfl
section
variable {d : Nat} {f wt tk bh kp sd ea la bj bm : Int → Int} {n pl M P J s ct bt : Int} {S : SS} {Hs : List SS} {im : Int → SS} {h : LHeap} {Q : Option Value → LHeap → Prop} {x y w : Int}
theorem c_sv (hd : 7 ≤ d) (c : CI f n pl M P J wt tk bh S Hs kp sd im s ct ea la bt bj bm h) (hB : BD f n pl M P J wt tk bh S Hs kp sd im s ct ea la bt bj bm) (kk : ∀ h1, CI f n pl M P J wt tk bh S Hs kp sd im s ct ea la bt bj bm h1 → (∃ T1, WnAt ct ea la T1 (svA M J wt tk bh S ct ea la).1 (svA M J wt tk bh S ct ea la).2.1 (svA M J wt tk bh S ct ea la).2.2 h1) → Out 1 155 h h1 → Q none h1) : CALL d 65 [.ref 146, .ref 10] h Q := by
  obtain ⟨T, tot, su, pa, hw⟩ := c.2.2.2.2.2.2.2.2.2.2.1
  obtain ⟨hC, -⟩ := c.cap
  obtain ⟨e1, e2, e3, e4⟩ := c.c17
  have hct := hB.2.2.2.2.2.2.2.1
  have hs := hB.2.2.2.2.2.2.2.2.1
  exact s_survey hd hC e1 hB.2.1 e2 (line_prs e2.prs hB.2.2.1.1) hct hs hw (fun h1 ⟨T1, hw1⟩ o1 => kk h1 (c.sV o1 hw1) ⟨T1, hw1⟩ o1.lo)
theorem svA_b : SuB (svA M J wt tk bh S ct ea la).2.1 ∧ PaB (svA M J wt tk bh S ct ea la).1 (svA M J wt tk bh S ct ea la).2.2 ∧ 0 ≤ (svA M J wt tk bh S ct ea la).1 ∧ (svA M J wt tk bh S ct ea la).1 ≤ 720 := by
  have := svF_b M J S.2.2.2.1 S.2.1 wt S.2.2.1 tk bh ct ea la 720 (lineL (memF S.1 0) P6) 0 (fun _ => -1) (fun _ => 0) line6 (fun p => ⟨by show (-1 : Int) ≤ -1; omega, by show (-1 : Int) ≤ 5; omega⟩) (fun x => ⟨by show (0 : Int) ≤ 0; omega, by show (0 : Int) ≤ 36 * 0; omega⟩)
  exact ⟨this.2.2.1, this.2.2.2, this.1, by have := this.2.1; show (svF M J S.2.2.2.1 S.2.1 wt S.2.2.1 tk bh ct ea la 720 (lineL (memF S.1 0) P6) 0 (fun _ => -1) (fun _ => 0)).1 ≤ 720; omega⟩
theorem c_orders (hd : 8 ≤ d) (c : CI f n pl M P J wt tk bh S Hs kp sd im s ct ea la bt bj bm h) (hB : BD f n pl M P J wt tk bh S Hs kp sd im s ct ea la bt bj bm) (hx : -2147483648 ≤ x ∧ x ≤ 2147483647) (k1 : ¬ x = -1 → ¬ (0 ≤ x ∧ x < P) → Q (some (vI (-1000000001))) h) (k2 : x = -1 → ∀ h1, CI f n pl M P J wt tk bh S Hs kp sd im s ct ea la bt bj bm h1 → Out 1 155 h h1 → Q (some (vI (svA M J wt tk bh S ct ea la).1)) h1) (k3 : 0 ≤ x → x < P → ∀ h1, CI f n pl M P J wt tk bh S Hs kp sd im s ct ea la bt bj bm h1 → Out 1 155 h h1 → Q (some (vI ((svA M J wt tk bh S ct ea la).2.1 x))) h1) : CALL d 91 [.ref 1, vI x] h Q := by
  have a1 := c.w
  have hP := hB.2.1.2.1
  have go : (x = -1 ∨ 0 ≤ x ∧ x < P) → WP (d - 1) 91 9 [some (.ref 1), some (vI x)] [] h Q := by
    intro hq
    simp (disch := omega) only [wr_id, wr_m1, sd_t, nl_I, nl_R, nl_none, c1_I, c1_R, sh_0, sh_1, sh_2, sh_3, sh_4, true_and, and_true, ldA_A, ldB_B, ldS_S, stA_A, stB_B, aL_A, aL_B, aL_S, aC_A, hRd_eq, hRd_ne, cp6, cp8, tl_some, tl_none, List.cons_append, List.nil_append, ofI_t0, ofI_t1, Int.add_zero, Int.zero_add, x91_9, x91_10, x91_11, x91_12, x91_13, gf0_0, gf0_1, gf0_2, gf1_0, gf1_1, gf1_2, gf1_3, gf1_4, gf2_0, gf2_1, gf2_2, gf2_3, gf2_4, gf2_5, gf2_6, gf2_7, gf3_0, gf3_1, gf3_2, gf4_0, gf4_1, gf4_2, gf5_0, gf5_1, gf5_2, gf5_3, gf5_4, gf5_5, gf5_6, gf6_0, gf6_1, gf7_0, gf7_1, gf7_2, gf7_3, gf7_4, gf8_0, gf8_1, gf8_2, gf8_3, gf8_4, gf9_0, gf9_1, gf9_2, gf9_3, gf9_4, gf9_5, gf9_6, gf10_0, gf10_1, gf10_2, gf10_3, gf10_4, gf10_5, gf10_6, gf10_7, gf10_8, gf10_9, a1]
    refine c_sv (by omega) c hB (fun h1 c1 ⟨T1, hw1⟩ o1 => ?_)
    have a11 := c1.w
    have w1 := hw1.1
    have hb := svA_b (M := M) (J := J) (wt := wt) (tk := tk) (bh := bh) (S := S) (ct := ct) (ea := ea) (la := la)
    simp (disch := omega) only [wr_id, wr_m1, sd_t, nl_I, nl_R, nl_none, c1_I, c1_R, sh_0, sh_1, sh_2, sh_3, sh_4, true_and, and_true, ldA_A, ldB_B, ldS_S, stA_A, stB_B, aL_A, aL_B, aL_S, aC_A, hRd_eq, hRd_ne, cp6, cp8, tl_some, tl_none, List.cons_append, List.nil_append, ofI_t0, ofI_t1, Int.add_zero, Int.zero_add, x91_14, x91_15, x91_16, x91_17, x91_18, x91_19, x91_20, x91_21, x91_22, x91_23, x91_24, gf0_0, gf0_1, gf0_2, gf1_0, gf1_1, gf1_2, gf1_3, gf1_4, gf2_0, gf2_1, gf2_2, gf2_3, gf2_4, gf2_5, gf2_6, gf2_7, gf3_0, gf3_1, gf3_2, gf4_0, gf4_1, gf4_2, gf5_0, gf5_1, gf5_2, gf5_3, gf5_4, gf5_5, gf5_6, gf6_0, gf6_1, gf7_0, gf7_1, gf7_2, gf7_3, gf7_4, gf8_0, gf8_1, gf8_2, gf8_3, gf8_4, gf9_0, gf9_1, gf9_2, gf9_3, gf9_4, gf9_5, gf9_6, gf10_0, gf10_1, gf10_2, gf10_3, gf10_4, gf10_5, gf10_6, gf10_7, gf10_8, gf10_9, w1, a11]
    refine ⟨fun z => ?_, fun z => ?_⟩
    · refine s_sureOf (by omega) hw1 hx hb.1 ?_
      rw [if_pos (by omega)]
      simp (disch := omega) only [wr_id, wr_m1, sd_t, nl_I, nl_R, nl_none, c1_I, c1_R, sh_0, sh_1, sh_2, sh_3, sh_4, true_and, and_true, ldA_A, ldB_B, ldS_S, stA_A, stB_B, aL_A, aL_B, aL_S, aC_A, hRd_eq, hRd_ne, cp6, cp8, tl_some, tl_none, List.cons_append, List.nil_append, ofI_t0, ofI_t1, Int.add_zero, Int.zero_add, x91_25]
      exact k3 (by omega) (by omega) h1 c1 o1
    · simp (disch := omega) only [wr_id, wr_m1, sd_t, nl_I, nl_R, nl_none, c1_I, c1_R, sh_0, sh_1, sh_2, sh_3, sh_4, true_and, and_true, ldA_A, ldB_B, ldS_S, stA_A, stB_B, aL_A, aL_B, aL_S, aC_A, hRd_eq, hRd_ne, cp6, cp8, tl_some, tl_none, List.cons_append, List.nil_append, ofI_t0, ofI_t1, Int.add_zero, Int.zero_add, x91_25]
      exact k2 (by omega) h1 c1 o1
  refine cl91 (by omega) a1 ?_
  simp (disch := omega) only [wr_id, wr_m1, sd_t, nl_I, nl_R, nl_none, c1_I, c1_R, sh_0, sh_1, sh_2, sh_3, sh_4, true_and, and_true, ldA_A, ldB_B, ldS_S, stA_A, stB_B, aL_A, aL_B, aL_S, aC_A, hRd_eq, hRd_ne, cp6, cp8, tl_some, tl_none, List.cons_append, List.nil_append, ofI_t0, ofI_t1, Int.add_zero, Int.zero_add, x91_0, x91_1, x91_2, x91_3, x91_4, x91_5]
  refine ⟨fun z => go (Or.inl z), fun z => ?_⟩
  refine c_isP (by omega) c hB hx ?_
  by_cases q : 0 ≤ x ∧ x < P
  · rw [if_pos q]
    simp (disch := omega) only [wr_id, wr_m1, sd_t, nl_I, nl_R, nl_none, c1_I, c1_R, sh_0, sh_1, sh_2, sh_3, sh_4, true_and, and_true, ldA_A, ldB_B, ldS_S, stA_A, stB_B, aL_A, aL_B, aL_S, aC_A, hRd_eq, hRd_ne, cp6, cp8, tl_some, tl_none, List.cons_append, List.nil_append, ofI_t0, ofI_t1, Int.add_zero, Int.zero_add, x91_6, x91_7, x91_8]
    exact ⟨fun _ => go (Or.inr q), fun z => by omega⟩
  · rw [if_neg q]
    simp (disch := omega) only [wr_id, wr_m1, sd_t, nl_I, nl_R, nl_none, c1_I, c1_R, sh_0, sh_1, sh_2, sh_3, sh_4, true_and, and_true, ldA_A, ldB_B, ldS_S, stA_A, stB_B, aL_A, aL_B, aL_S, aC_A, hRd_eq, hRd_ne, cp6, cp8, tl_some, tl_none, List.cons_append, List.nil_append, ofI_t0, ofI_t1, Int.add_zero, Int.zero_add, x91_6, x91_7, x91_8]
    exact ⟨fun z => by first | omega | exact absurd trivial z | exact absurd rfl z, fun _ => k1 z q⟩
theorem c_look (hd : 8 ≤ d) (c : CI f n pl M P J wt tk bh S Hs kp sd im s ct ea la bt bj bm h) (hB : BD f n pl M P J wt tk bh S Hs kp sd im s ct ea la bt bj bm) (kk : ∀ h1, CI f n pl M P J wt tk bh S Hs kp sd im s ct ea la bt bj bm h1 → Out 1 155 h h1 → Q (some (vI (bpO (svA M J wt tk bh S ct ea la).1 (svA M J wt tk bh S ct ea la).2.2 P.toNat 0 (-1, (svA M J wt tk bh S ct ea la).1)).1)) h1) : CALL d 92 [.ref 1] h Q := by
  have a1 := c.w
  refine cl92 (by omega) a1 ?_
  simp (disch := omega) only [wr_id, wr_m1, sd_t, nl_I, nl_R, nl_none, c1_I, c1_R, sh_0, sh_1, sh_2, sh_3, sh_4, true_and, and_true, ldA_A, ldB_B, ldS_S, stA_A, stB_B, aL_A, aL_B, aL_S, aC_A, hRd_eq, hRd_ne, cp6, cp8, tl_some, tl_none, List.cons_append, List.nil_append, ofI_t0, ofI_t1, Int.add_zero, Int.zero_add, x92_0, x92_1, x92_2, x92_3, x92_4, gf0_0, gf0_1, gf0_2, gf1_0, gf1_1, gf1_2, gf1_3, gf1_4, gf2_0, gf2_1, gf2_2, gf2_3, gf2_4, gf2_5, gf2_6, gf2_7, gf3_0, gf3_1, gf3_2, gf4_0, gf4_1, gf4_2, gf5_0, gf5_1, gf5_2, gf5_3, gf5_4, gf5_5, gf5_6, gf6_0, gf6_1, gf7_0, gf7_1, gf7_2, gf7_3, gf7_4, gf8_0, gf8_1, gf8_2, gf8_3, gf8_4, gf9_0, gf9_1, gf9_2, gf9_3, gf9_4, gf9_5, gf9_6, gf10_0, gf10_1, gf10_2, gf10_3, gf10_4, gf10_5, gf10_6, gf10_7, gf10_8, gf10_9, a1]
  refine c_sv (by omega) c hB (fun h1 c1 ⟨T1, hw1⟩ o1 => ?_)
  have a11 := c1.w
  obtain ⟨wk0, dr0, i1, i2⟩ := c1.2.2.2.2.1
  have hb := svA_b (M := M) (J := J) (wt := wt) (tk := tk) (bh := bh) (S := S) (ct := ct) (ea := ea) (la := la)
  simp (disch := omega) only [wr_id, wr_m1, sd_t, nl_I, nl_R, nl_none, c1_I, c1_R, sh_0, sh_1, sh_2, sh_3, sh_4, true_and, and_true, ldA_A, ldB_B, ldS_S, stA_A, stB_B, aL_A, aL_B, aL_S, aC_A, hRd_eq, hRd_ne, cp6, cp8, tl_some, tl_none, List.cons_append, List.nil_append, ofI_t0, ofI_t1, Int.add_zero, Int.zero_add, x92_5, x92_6, x92_7, x92_8, x92_9, x92_10, gf0_0, gf0_1, gf0_2, gf1_0, gf1_1, gf1_2, gf1_3, gf1_4, gf2_0, gf2_1, gf2_2, gf2_3, gf2_4, gf2_5, gf2_6, gf2_7, gf3_0, gf3_1, gf3_2, gf4_0, gf4_1, gf4_2, gf5_0, gf5_1, gf5_2, gf5_3, gf5_4, gf5_5, gf5_6, gf6_0, gf6_1, gf7_0, gf7_1, gf7_2, gf7_3, gf7_4, gf8_0, gf8_1, gf8_2, gf8_3, gf8_4, gf9_0, gf9_1, gf9_2, gf9_3, gf9_4, gf9_5, gf9_6, gf10_0, gf10_1, gf10_2, gf10_3, gf10_4, gf10_5, gf10_6, gf10_7, gf10_8, gf10_9, a11, i1]
  refine s_bestPair (by omega) hw1 hb.2.1 hb.2.2 hB.2.1.2.1 ?_
  simp (disch := omega) only [wr_id, wr_m1, sd_t, nl_I, nl_R, nl_none, c1_I, c1_R, sh_0, sh_1, sh_2, sh_3, sh_4, true_and, and_true, ldA_A, ldB_B, ldS_S, stA_A, stB_B, aL_A, aL_B, aL_S, aC_A, hRd_eq, hRd_ne, cp6, cp8, tl_some, tl_none, List.cons_append, List.nil_append, ofI_t0, ofI_t1, Int.add_zero, Int.zero_add, x92_11]
  exact kk h1 c1 o1
theorem c_city (hd : 9 ≤ d) (c : CI f n pl M P J wt tk bh S Hs kp sd im s ct ea la bt bj bm h) (hB : BD f n pl M P J wt tk bh S Hs kp sd im s ct ea la bt bj bm) (kk : ∀ D0 : CC, (∀ i, -1 ≤ D0.2.2.2.2.1 i ∧ D0.2.2.2.2.1 i ≤ 7) → (¬ (txF f n n.toNat 0 (clr D0)).1 = 0 → ∀ h1, CI f (0) ((txF f n n.toNat 0 (clr D0)).2.1) M P J wt tk bh S Hs kp sd im s ct ea la bt bj bm h1 → Out 1 155 h h1 → Q (some (vI (-10 - (txF f n n.toNat 0 (clr D0)).1))) h1) ∧ ((txF f n n.toNat 0 (clr D0)).1 = 0 → DB (txF f n n.toNat 0 (clr D0)).2.2 → ∀ h1, CI f (0) (-1) ((txF f n n.toNat 0 (clr D0)).2.2.1) ((txF f n n.toNat 0 (clr D0)).2.2.2.1) ((txF f n n.toNat 0 (clr D0)).2.2.2.2.1) ((txF f n n.toNat 0 (clr D0)).2.2.2.2.2.2.1) ((txF f n n.toNat 0 (clr D0)).2.2.2.2.2.2.2.2.1) ((txF f n n.toNat 0 (clr D0)).2.2.2.2.2.2.2.2.2) ((lineL (zshl 1 (txF f n n.toNat 0 (clr D0)).2.2.2.1 - 1) P6, (txF f n n.toNat 0 (clr D0)).2.2.2.2.2.1, (txF f n n.toNat 0 (clr D0)).2.2.2.2.2.2.2.1, 0, 0)) ([]) (fun _ => 0) sd im s (0) ea la (0) bj bm h1 → Out 1 155 h h1 → Q (some (vI (txF f n n.toNat 0 (clr D0)).2.2.2.1)) h1)) : CALL d 72 [.ref 1] h Q := by
  have a1 := c.w
  obtain ⟨tr, ra, rna, r1⟩ := c.2.1
  obtain ⟨D0, d1, d2⟩ := c.2.2.1
  obtain ⟨k1, k2⟩ := kk D0 d2
  have hb := txF_b (f := f) (n := n) n.toNat 0 (clr D0)
  refine cl72 (by omega) a1 ?_
  simp (disch := omega) only [wr_id, wr_m1, sd_t, nl_I, nl_R, nl_none, c1_I, c1_R, sh_0, sh_1, sh_2, sh_3, sh_4, true_and, and_true, ldA_A, ldB_B, ldS_S, stA_A, stB_B, aL_A, aL_B, aL_S, aC_A, hRd_eq, hRd_ne, cp6, cp8, tl_some, tl_none, List.cons_append, List.nil_append, ofI_t0, ofI_t1, Int.add_zero, Int.zero_add, x72_0, x72_1, x72_2, gf0_0, gf0_1, gf0_2, gf1_0, gf1_1, gf1_2, gf1_3, gf1_4, gf2_0, gf2_1, gf2_2, gf2_3, gf2_4, gf2_5, gf2_6, gf2_7, gf3_0, gf3_1, gf3_2, gf4_0, gf4_1, gf4_2, gf5_0, gf5_1, gf5_2, gf5_3, gf5_4, gf5_5, gf5_6, gf6_0, gf6_1, gf7_0, gf7_1, gf7_2, gf7_3, gf7_4, gf8_0, gf8_1, gf8_2, gf8_3, gf8_4, gf9_0, gf9_1, gf9_2, gf9_3, gf9_4, gf9_5, gf9_6, gf10_0, gf10_1, gf10_2, gf10_3, gf10_4, gf10_5, gf10_6, gf10_7, gf10_8, gf10_9, a1]
  refine s_text (by omega) hB.1 r1 d1 d2 ?_
  generalize txF f n n.toNat 0 (clr D0) = r at k1 k2 hb
  intro h1 D1 ra1 rna1 r2 d3 d4 e o1
  have r21 := r2.1
  have c1 := c.sR o1 r2 d3 d4.2
  have a11 := c1.w
  simp (disch := omega) only [wr_id, wr_m1, sd_t, nl_I, nl_R, nl_none, c1_I, c1_R, sh_0, sh_1, sh_2, sh_3, sh_4, true_and, and_true, ldA_A, ldB_B, ldS_S, stA_A, stB_B, aL_A, aL_B, aL_S, aC_A, hRd_eq, hRd_ne, cp6, cp8, tl_some, tl_none, List.cons_append, List.nil_append, ofI_t0, ofI_t1, Int.add_zero, Int.zero_add, x72_3, x72_4, x72_5, x72_6, x72_7, x72_8, x72_9, x72_10, x72_11, x72_12, gf0_0, gf0_1, gf0_2, gf1_0, gf1_1, gf1_2, gf1_3, gf1_4, gf2_0, gf2_1, gf2_2, gf2_3, gf2_4, gf2_5, gf2_6, gf2_7, gf3_0, gf3_1, gf3_2, gf4_0, gf4_1, gf4_2, gf5_0, gf5_1, gf5_2, gf5_3, gf5_4, gf5_5, gf5_6, gf6_0, gf6_1, gf7_0, gf7_1, gf7_2, gf7_3, gf7_4, gf8_0, gf8_1, gf8_2, gf8_3, gf8_4, gf9_0, gf9_1, gf9_2, gf9_3, gf9_4, gf9_5, gf9_6, gf10_0, gf10_1, gf10_2, gf10_3, gf10_4, gf10_5, gf10_6, gf10_7, gf10_8, gf10_9, a11, r21]
  refine ⟨fun z => ?_, fun z => ?_⟩
  · rw [if_pos z] at c1
    have e1 := e z
    have k2 := k2 z (by rw [← e1]; exact d4)
    rw [← e1] at k2
    obtain ⟨wk0, dr0, i1⟩ := c1.2.2.2.2.1
    simp (disch := omega) only [wr_id, wr_m1, sd_t, nl_I, nl_R, nl_none, c1_I, c1_R, sh_0, sh_1, sh_2, sh_3, sh_4, true_and, and_true, ldA_A, ldB_B, ldS_S, stA_A, stB_B, aL_A, aL_B, aL_S, aC_A, hRd_eq, hRd_ne, cp6, cp8, tl_some, tl_none, List.cons_append, List.nil_append, ofI_t0, ofI_t1, Int.add_zero, Int.zero_add, x72_13, x72_14, x72_15, x72_16, x72_17, x72_18, gf0_0, gf0_1, gf0_2, gf1_0, gf1_1, gf1_2, gf1_3, gf1_4, gf2_0, gf2_1, gf2_2, gf2_3, gf2_4, gf2_5, gf2_6, gf2_7, gf3_0, gf3_1, gf3_2, gf4_0, gf4_1, gf4_2, gf5_0, gf5_1, gf5_2, gf5_3, gf5_4, gf5_5, gf5_6, gf6_0, gf6_1, gf7_0, gf7_1, gf7_2, gf7_3, gf7_4, gf8_0, gf8_1, gf8_2, gf8_3, gf8_4, gf9_0, gf9_1, gf9_2, gf9_3, gf9_4, gf9_5, gf9_6, gf10_0, gf10_1, gf10_2, gf10_3, gf10_4, gf10_5, gf10_6, gf10_7, gf10_8, gf10_9, a11, r21]
    refine s_Ci_become (by omega) i1 d3 (by omega) (by omega) (by omega) (fun h2 i2 o2 => ?_)
    have c2 := c1.sC (o2.widen (by omega) (by omega)) i2
    have a12 := c2.w
    simp (disch := omega) only [wr_id, wr_m1, sd_t, nl_I, nl_R, nl_none, c1_I, c1_R, sh_0, sh_1, sh_2, sh_3, sh_4, true_and, and_true, ldA_A, ldB_B, ldS_S, stA_A, stB_B, aL_A, aL_B, aL_S, aC_A, hRd_eq, hRd_ne, cp6, cp8, tl_some, tl_none, List.cons_append, List.nil_append, ofI_t0, ofI_t1, Int.add_zero, Int.zero_add, x72_19, x72_20, x72_21, x72_22, x72_23, gf0_0, gf0_1, gf0_2, gf1_0, gf1_1, gf1_2, gf1_3, gf1_4, gf2_0, gf2_1, gf2_2, gf2_3, gf2_4, gf2_5, gf2_6, gf2_7, gf3_0, gf3_1, gf3_2, gf4_0, gf4_1, gf4_2, gf5_0, gf5_1, gf5_2, gf5_3, gf5_4, gf5_5, gf5_6, gf6_0, gf6_1, gf7_0, gf7_1, gf7_2, gf7_3, gf7_4, gf8_0, gf8_1, gf8_2, gf8_3, gf8_4, gf9_0, gf9_1, gf9_2, gf9_3, gf9_4, gf9_5, gf9_6, gf10_0, gf10_1, gf10_2, gf10_3, gf10_4, gf10_5, gf10_6, gf10_7, gf10_8, gf10_9, a12]
    refine s_St_begin (by omega) c2.2.2.2.2.2.1 i2 (by omega) (by omega) (by omega) (fun h3 s3 o3 => ?_)
    have c3 := c2.sS (o3.widen (by omega) (by omega)) s3
    have a13 := c3.w
    simp (disch := omega) only [wr_id, wr_m1, sd_t, nl_I, nl_R, nl_none, c1_I, c1_R, sh_0, sh_1, sh_2, sh_3, sh_4, true_and, and_true, ldA_A, ldB_B, ldS_S, stA_A, stB_B, aL_A, aL_B, aL_S, aC_A, hRd_eq, hRd_ne, cp6, cp8, tl_some, tl_none, List.cons_append, List.nil_append, ofI_t0, ofI_t1, Int.add_zero, Int.zero_add, x72_24, x72_25, x72_26, gf0_0, gf0_1, gf0_2, gf1_0, gf1_1, gf1_2, gf1_3, gf1_4, gf2_0, gf2_1, gf2_2, gf2_3, gf2_4, gf2_5, gf2_6, gf2_7, gf3_0, gf3_1, gf3_2, gf4_0, gf4_1, gf4_2, gf5_0, gf5_1, gf5_2, gf5_3, gf5_4, gf5_5, gf5_6, gf6_0, gf6_1, gf7_0, gf7_1, gf7_2, gf7_3, gf7_4, gf8_0, gf8_1, gf8_2, gf8_3, gf8_4, gf9_0, gf9_1, gf9_2, gf9_3, gf9_4, gf9_5, gf9_6, gf10_0, gf10_1, gf10_2, gf10_3, gf10_4, gf10_5, gf10_6, gf10_7, gf10_8, gf10_9, a13]
    refine s_hForget (by omega) c3.2.2.2.2.2.2.2.1 (fun h4 s4 o4 => ?_)
    have c4 := c3.sH (o4.widen (by omega) (by omega)) s4
    have a14 := c4.w
    simp (disch := omega) only [wr_id, wr_m1, sd_t, nl_I, nl_R, nl_none, c1_I, c1_R, sh_0, sh_1, sh_2, sh_3, sh_4, true_and, and_true, ldA_A, ldB_B, ldS_S, stA_A, stB_B, aL_A, aL_B, aL_S, aC_A, hRd_eq, hRd_ne, cp6, cp8, tl_some, tl_none, List.cons_append, List.nil_append, ofI_t0, ofI_t1, Int.add_zero, Int.zero_add, x72_27, x72_28, x72_29, gf0_0, gf0_1, gf0_2, gf1_0, gf1_1, gf1_2, gf1_3, gf1_4, gf2_0, gf2_1, gf2_2, gf2_3, gf2_4, gf2_5, gf2_6, gf2_7, gf3_0, gf3_1, gf3_2, gf4_0, gf4_1, gf4_2, gf5_0, gf5_1, gf5_2, gf5_3, gf5_4, gf5_5, gf5_6, gf6_0, gf6_1, gf7_0, gf7_1, gf7_2, gf7_3, gf7_4, gf8_0, gf8_1, gf8_2, gf8_3, gf8_4, gf9_0, gf9_1, gf9_2, gf9_3, gf9_4, gf9_5, gf9_6, gf10_0, gf10_1, gf10_2, gf10_3, gf10_4, gf10_5, gf10_6, gf10_7, gf10_8, gf10_9, a14]
    refine s_iForget (by omega) c4.2.2.2.2.2.2.2.2.1 (fun h5 s5 o5 => ?_)
    have c5 := c4.sI (o5.widen (by omega) (by omega)) s5
    have a15 := c5.w
    obtain ⟨T, tot, su, pa, w1, w2, w3, w4, w5, w6, w7⟩ := c5.2.2.2.2.2.2.2.2.2.2.1
    have o6 : Out 146 152 h5 (hWr h5 146 (oWin 147 148 0 149 tot 151 152)) := Out.refl.wr (by omega) (by omega)
    have c6 := c5.sW o6 ⟨hRd_eq, by rw [hRd_ne (by omega)]; exact w2, by rw [hRd_ne (by omega)]; exact w3, w4.out (Out.refl.wr (lo := 146) (hi := 146) (by omega) (by omega)) (by omega), by rw [hRd_ne (by omega)]; exact w5, by rw [hRd_ne (by omega)]; exact w6, w7.out (Out.refl.wr (lo := 146) (hi := 146) (by omega) (by omega)) (by omega)⟩
    have b0 := c5.2.2.2.2.2.2.2.2.2.2.2.1
    obtain ⟨wk5, dr5, j5, -⟩ := c5.2.2.2.2.1
    obtain ⟨b1, b2, b3⟩ := c6.2.2.2.2.2.2.2.2.2.2.2
    have o7 : Out 153 155 (hWr h5 146 (oWin 147 148 0 149 tot 151 152)) (hWr (hWr h5 146 (oWin 147 148 0 149 tot 151 152)) 153 (oBook 154 155 0)) := Out.refl.wr (by omega) (by omega)
    have c7 := c6.sB o7 ⟨hRd_eq, by rw [hRd_ne (by omega)]; exact b2, by rw [hRd_ne (by omega)]; exact b3⟩
    simp (disch := omega) only [wr_id, wr_m1, sd_t, nl_I, nl_R, nl_none, c1_I, c1_R, sh_0, sh_1, sh_2, sh_3, sh_4, true_and, and_true, ldA_A, ldB_B, ldS_S, stA_A, stB_B, aL_A, aL_B, aL_S, aC_A, hRd_eq, hRd_ne, cp6, cp8, tl_some, tl_none, List.cons_append, List.nil_append, ofI_t0, ofI_t1, Int.add_zero, Int.zero_add, x72_30, x72_31, x72_32, x72_33, x72_34, x72_35, x72_36, x72_37, x72_38, x72_39, x72_40, x72_41, gf0_0, gf0_1, gf0_2, gf1_0, gf1_1, gf1_2, gf1_3, gf1_4, gf2_0, gf2_1, gf2_2, gf2_3, gf2_4, gf2_5, gf2_6, gf2_7, gf3_0, gf3_1, gf3_2, gf4_0, gf4_1, gf4_2, gf5_0, gf5_1, gf5_2, gf5_3, gf5_4, gf5_5, gf5_6, gf6_0, gf6_1, gf7_0, gf7_1, gf7_2, gf7_3, gf7_4, gf8_0, gf8_1, gf8_2, gf8_3, gf8_4, gf9_0, gf9_1, gf9_2, gf9_3, gf9_4, gf9_5, gf9_6, gf10_0, gf10_1, gf10_2, gf10_3, gf10_4, gf10_5, gf10_6, gf10_7, gf10_8, gf10_9, pf9_2, pf0_2, a15, w1, b0, j5]
    exact k2 _ c7 ((((((o1.widen (by omega) (by omega)).trans (o2.widen (by omega) (by omega))).trans (o3.widen (by omega) (by omega))).trans (o4.widen (by omega) (by omega))).trans (o5.widen (by omega) (by omega))).trans (o6.widen (by omega) (by omega))|>.trans (o7.widen (by omega) (by omega)))
  · rw [if_neg z] at c1
    exact k1 z h1 c1 (o1.widen (by omega) (by omega))
end
