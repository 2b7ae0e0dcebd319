-- THE CLASS'S OWN METHODS: those that change one thing
section
variable {d : Nat} {f wt tk bh kp sd ea la bj bm : Int → Int} {n pl M P J s ct bt : Int} {S : SS} {Hs : List SS} {im : Int → SS} {h : LHeap} {Q : Option Value → LHeap → Prop} {x y x1 x2 : Int}
theorem CI.w (c : CI f n pl M P J wt tk bh S Hs kp sd im s ct ea la bt bj bm h) : hRd h 1 = oWake 2 10 11 17 25 127 141 146 153 s := c.1
theorem c_feed (hd : 2 ≤ d) (c : CI f n pl M P J wt tk bh S Hs kp sd im s ct ea la bt bj bm h) (hB : BD f n pl M P J wt tk bh S Hs kp sd im s ct ea la bt bj bm) (hx : -2147483648 ≤ x ∧ x ≤ 2147483647) (k1 : ¬ (0 ≤ x ∧ x ≤ 255) → Q (some (vI (-1000000002))) h) (k2 : 0 ≤ x → x ≤ 255 → n = 220 → Q (some (vI (-1000000004))) h) (k3 : 0 ≤ x → x ≤ 255 → n < 220 → ∀ h1, CI (uA f n x) (n + 1) pl M P J wt tk bh S Hs kp sd im s ct ea la bt bj bm h1 → Out 1 155 h h1 → Q (some (vI (n + 1))) h1) : CALL d 71 [.ref 1, vI x] h Q := by
  have a1 := c.w
  obtain ⟨tr, a, na, r⟩ := c.2.1
  obtain ⟨D, r2, r3⟩ := c.2.2.1
  have hn := hB.1.1
  refine cl71 (by omega) a1 ?_
  simp (disch := omega) only [wr_id, wr_m1, sd_t, nl_I, nl_R, nl_none, c1_I, c1_R, sh_0, sh_1, sh_2, sh_3, sh_4, true_and, and_true, ldA_A, ldB_B, ldS_S, stA_A, stB_B, aL_A, aL_B, aL_S, aC_A, hRd_eq, hRd_ne, cp6, cp8, tl_some, tl_none, List.cons_append, List.nil_append, ofI_t0, ofI_t1, Int.add_zero, Int.zero_add, x71_0, x71_1, x71_2, x71_3, x71_4, x71_5, x71_6, x71_7, x71_8, x71_9, x71_10, gf10_0, a1]
  refine ⟨fun z => k1 (by omega), fun z => ⟨fun z2 => ?_, fun z2 => k1 (by omega)⟩⟩
  refine s_rdApp (by omega) hn r (fun e => ?_) (fun e h1 r1 o1 => ?_)
  · simp (disch := omega) only [wr_id, wr_m1, sd_t, nl_I, nl_R, nl_none, c1_I, c1_R, sh_0, sh_1, sh_2, sh_3, sh_4, true_and, and_true, ldA_A, ldB_B, ldS_S, stA_A, stB_B, aL_A, aL_B, aL_S, aC_A, hRd_eq, hRd_ne, cp6, cp8, tl_some, tl_none, List.cons_append, List.nil_append, ofI_t0, ofI_t1, Int.add_zero, Int.zero_add, x71_0, x71_1, x71_2, x71_3, x71_4, x71_5, x71_6, x71_7, x71_8, x71_9, x71_10, x71_11, x71_12, x71_13, x71_14, x71_15, x71_16, x71_17, gf10_0, gf5_2]
    exact ⟨fun _ => k2 (by omega) (by omega) e, fun z => by first | omega | exact absurd trivial z | exact absurd rfl z⟩
  · have a11 : hRd h1 1 = oWake 2 10 11 17 25 127 141 146 153 s := by rw [o1.2.2 _ (by omega)]; exact a1
    have r11 := r1.1
    simp (disch := omega) only [wr_id, wr_m1, sd_t, nl_I, nl_R, nl_none, c1_I, c1_R, sh_0, sh_1, sh_2, sh_3, sh_4, true_and, and_true, ldA_A, ldB_B, ldS_S, stA_A, stB_B, aL_A, aL_B, aL_S, aC_A, hRd_eq, hRd_ne, cp6, cp8, tl_some, tl_none, List.cons_append, List.nil_append, ofI_t0, ofI_t1, Int.add_zero, Int.zero_add, x71_0, x71_1, x71_2, x71_3, x71_4, x71_5, x71_6, x71_7, x71_8, x71_9, x71_10, x71_11, x71_12, x71_13, x71_14, x71_15, x71_16, x71_17, gf10_0, gf5_2, a11, r11]
    refine ⟨fun z => by omega, fun _ => ?_⟩
    exact k3 (by omega) (by omega) e h1 (c.sR (o1.widen (by omega) (by omega)) r1 (r2.out o1 (by omega)) r3) (o1.widen (by omega) (by omega))
theorem c_fault (hd : 1 ≤ d) (c : CI f n pl M P J wt tk bh S Hs kp sd im s ct ea la bt bj bm h) (kk : Q (some (vI pl)) h) : CALL d 73 [.ref 1] h Q := by
  have a1 := c.w
  obtain ⟨tr, a, na, r⟩ := c.2.1
  have r1 := r.1
  refine cl73 (by omega) a1 ?_
  simp (disch := omega) only [wr_id, wr_m1, sd_t, nl_I, nl_R, nl_none, c1_I, c1_R, sh_0, sh_1, sh_2, sh_3, sh_4, true_and, and_true, ldA_A, ldB_B, ldS_S, stA_A, stB_B, aL_A, aL_B, aL_S, aC_A, hRd_eq, hRd_ne, cp6, cp8, tl_some, tl_none, List.cons_append, List.nil_append, ofI_t0, ofI_t1, Int.add_zero, Int.zero_add, x73_0, x73_1, x73_2, x73_3, gf10_0, gf5_4, a1, r1]
  exact kk
theorem c_seed (hd : 1 ≤ d) (c : CI f n pl M P J wt tk bh S Hs kp sd im s ct ea la bt bj bm h) (hx : -2147483648 ≤ x ∧ x ≤ 2147483647) (k1 : x < 0 → Q (some (vI (-1000000002))) h) (k2 : 0 ≤ x → ∀ h1, CI f n pl M P J wt tk bh S Hs kp sd im (x) ct ea la bt bj bm h1 → Out 1 155 h h1 → Q (some (vI s)) h1) : CALL d 96 [.ref 1, vI x] h Q := by
  have a1 := c.w
  refine cl96 (by omega) a1 ?_
  simp (disch := omega) only [wr_id, wr_m1, sd_t, nl_I, nl_R, nl_none, c1_I, c1_R, sh_0, sh_1, sh_2, sh_3, sh_4, true_and, and_true, ldA_A, ldB_B, ldS_S, stA_A, stB_B, aL_A, aL_B, aL_S, aC_A, hRd_eq, hRd_ne, cp6, cp8, tl_some, tl_none, List.cons_append, List.nil_append, ofI_t0, ofI_t1, Int.add_zero, Int.zero_add, x96_0, x96_1, x96_2, x96_3, x96_4, x96_5, x96_6, x96_7, x96_8, x96_9, x96_10, x96_11, gf10_9, pf10_9, a1]
  refine ⟨fun z => ?_, fun z => k1 (by omega)⟩
  have o : Out 1 1 h (hWr h 1 (tWake x)) := Out.refl.wr (by omega) (by omega)
  exact k2 (by omega) _ (c.s1 o hRd_eq) (o.widen (by omega) (by omega))
theorem c_write (hd : 3 ≤ d) (c : CI f n pl M P J wt tk bh S Hs kp sd im s ct ea la bt bj bm h) (hB : BD f n pl M P J wt tk bh S Hs kp sd im s ct ea la bt bj bm) (hx : -2147483648 ≤ x ∧ x ≤ 2147483647) (hy : -2147483648 ≤ y ∧ y ≤ 2147483647) (k1 : ¬ (0 ≤ x ∧ x < J) → Q (some (vI (-1000000001))) h) (k2 : 0 ≤ x → x < J → ¬ (-1 ≤ y ∧ y ≤ 999) → Q (some (vI (-1000000002))) h) (k3 : 0 ≤ x → x < J → -1 ≤ y → y ≤ 999 → bt = 15 → Q (some (vI (-1000000004))) h) (k4 : 0 ≤ x → x < J → -1 ≤ y → y ≤ 999 → bt < 15 → ∀ h1, CI f n pl M P J wt tk bh S Hs kp sd im s ct ea la (bt + 1) (uA bj bt x) (uA bm bt y) h1 → Out 1 155 h h1 → Q (some (vI (bt + 1))) h1) : CALL d 93 [.ref 1, vI x, vI y] h Q := by
  have a1 := c.w
  have c0 := c
  obtain ⟨-, -, -, -, ⟨wk0, dr0, c5⟩, -, -, -, -, -, -, c12⟩ := c
  obtain ⟨-, hCB, -, -, -, -, -, -, -, hbt, -⟩ := hB
  have hJ := hCB.2.2.1
  refine cl93 (by omega) a1 ?_
  simp (disch := omega) only [wr_id, wr_m1, sd_t, nl_I, nl_R, nl_none, c1_I, c1_R, sh_0, sh_1, sh_2, sh_3, sh_4, true_and, and_true, ldA_A, ldB_B, ldS_S, stA_A, stB_B, aL_A, aL_B, aL_S, aC_A, hRd_eq, hRd_ne, cp6, cp8, tl_some, tl_none, List.cons_append, List.nil_append, ofI_t0, ofI_t1, Int.add_zero, Int.zero_add, x93_0, x93_1, x93_2]
  refine s_isJob (by omega) c0.1 c5 hJ hx ?_
  by_cases q : 0 ≤ x ∧ x < J
  · rw [if_pos q]
    simp (disch := omega) only [wr_id, wr_m1, sd_t, nl_I, nl_R, nl_none, c1_I, c1_R, sh_0, sh_1, sh_2, sh_3, sh_4, true_and, and_true, ldA_A, ldB_B, ldS_S, stA_A, stB_B, aL_A, aL_B, aL_S, aC_A, hRd_eq, hRd_ne, cp6, cp8, tl_some, tl_none, List.cons_append, List.nil_append, ofI_t0, ofI_t1, Int.add_zero, Int.zero_add, x93_0, x93_1, x93_2, x93_3, x93_4, x93_5, x93_6, x93_7, x93_8, x93_9, x93_10, x93_11, x93_12, x93_13, x93_14, x93_15, x93_16, x93_17, x93_18, x93_19, x93_20, x93_21, x93_22, x93_23, x93_24, x93_25, gf10_8, gf0_2, a1]
    refine ⟨fun _ => ⟨fun z => k2 q.1 q.2 (by omega), fun z => ⟨fun z2 => ?_, fun z2 => k2 q.1 q.2 (by omega)⟩⟩, fun z => by omega⟩
    refine s_bkApp (by omega) c12 hbt (fun e => ?_) (fun e h1 b1 o1 => ?_)
    · simp (disch := omega) only [wr_id, wr_m1, sd_t, nl_I, nl_R, nl_none, c1_I, c1_R, sh_0, sh_1, sh_2, sh_3, sh_4, true_and, and_true, ldA_A, ldB_B, ldS_S, stA_A, stB_B, aL_A, aL_B, aL_S, aC_A, hRd_eq, hRd_ne, cp6, cp8, tl_some, tl_none, List.cons_append, List.nil_append, ofI_t0, ofI_t1, Int.add_zero, Int.zero_add, x93_0, x93_1, x93_2, x93_3, x93_4, x93_5, x93_6, x93_7, x93_8, x93_9, x93_10, x93_11, x93_12, x93_13, x93_14, x93_15, x93_16, x93_17, x93_18, x93_19, x93_20, x93_21, x93_22, x93_23, x93_24, x93_25, gf10_8, gf0_2]
      exact ⟨fun _ => k3 q.1 q.2 (by omega) (by omega) e, fun z => by first | omega | exact absurd trivial z | exact absurd rfl z⟩
    · have a11 : hRd h1 1 = oWake 2 10 11 17 25 127 141 146 153 s := by rw [o1.2.2 _ (by omega)]; exact a1
      have b11 := b1.1
      simp (disch := omega) only [wr_id, wr_m1, sd_t, nl_I, nl_R, nl_none, c1_I, c1_R, sh_0, sh_1, sh_2, sh_3, sh_4, true_and, and_true, ldA_A, ldB_B, ldS_S, stA_A, stB_B, aL_A, aL_B, aL_S, aC_A, hRd_eq, hRd_ne, cp6, cp8, tl_some, tl_none, List.cons_append, List.nil_append, ofI_t0, ofI_t1, Int.add_zero, Int.zero_add, x93_0, x93_1, x93_2, x93_3, x93_4, x93_5, x93_6, x93_7, x93_8, x93_9, x93_10, x93_11, x93_12, x93_13, x93_14, x93_15, x93_16, x93_17, x93_18, x93_19, x93_20, x93_21, x93_22, x93_23, x93_24, x93_25, gf10_8, gf0_2, a11, b11]
      exact ⟨fun z => by omega, fun _ => k4 q.1 q.2 (by omega) (by omega) e h1 (c0.sB o1 b1) (o1.widen (by omega) (by omega))⟩
  · rw [if_neg q]
    simp (disch := omega) only [wr_id, wr_m1, sd_t, nl_I, nl_R, nl_none, c1_I, c1_R, sh_0, sh_1, sh_2, sh_3, sh_4, true_and, and_true, ldA_A, ldB_B, ldS_S, stA_A, stB_B, aL_A, aL_B, aL_S, aC_A, hRd_eq, hRd_ne, cp6, cp8, tl_some, tl_none, List.cons_append, List.nil_append, ofI_t0, ofI_t1, Int.add_zero, Int.zero_add, x93_0, x93_1, x93_2, x93_3, x93_4, x93_5, x93_6, x93_7, x93_8, x93_9, x93_10, x93_11, x93_12, x93_13, x93_14, x93_15, x93_16, x93_17, x93_18, x93_19, x93_20, x93_21, x93_22, x93_23, x93_24, x93_25, gf10_8, gf0_2]
    exact ⟨fun z => by first | omega | exact absurd trivial z | exact absurd rfl z, fun _ => k1 q⟩
theorem c_tear (hd : 1 ≤ d) (c : CI f n pl M P J wt tk bh S Hs kp sd im s ct ea la bt bj bm h) (hB : BD f n pl M P J wt tk bh S Hs kp sd im s ct ea la bt bj bm) (kk : ∀ h1, CI f n pl M P J wt tk bh S Hs kp sd im s (0) ea la (0) bj bm h1 → Out 1 155 h h1 → Q (some (vI (ct + bt))) h1) : CALL d 94 [.ref 1] h Q := by
  have a1 := c.w
  have c0 := c
  obtain ⟨-, -, -, -, -, -, -, -, -, -, ⟨T, tot, su, pa, w1, w2, w3, w4, w5, w6, w7⟩, b1, b2, b3⟩ := c
  obtain ⟨-, -, -, -, -, -, -, hct, -, hbt, -⟩ := hB
  refine cl94 (by omega) a1 ?_
  simp (disch := omega) only [wr_id, wr_m1, sd_t, nl_I, nl_R, nl_none, c1_I, c1_R, sh_0, sh_1, sh_2, sh_3, sh_4, true_and, and_true, ldA_A, ldB_B, ldS_S, stA_A, stB_B, aL_A, aL_B, aL_S, aC_A, hRd_eq, hRd_ne, cp6, cp8, tl_some, tl_none, List.cons_append, List.nil_append, ofI_t0, ofI_t1, Int.add_zero, Int.zero_add, x94_0, x94_1, x94_2, x94_3, x94_4, x94_5, x94_6, x94_7, x94_8, x94_9, x94_10, x94_11, x94_12, x94_13, x94_14, x94_15, x94_16, x94_17, gf10_7, gf9_2, gf10_8, gf0_2, pf9_2, pf0_2, a1, w1, b1]
  have o1 : Out 146 152 h (hWr h 146 (oWin 147 148 0 149 tot 151 152)) := Out.refl.wr (by omega) (by omega)
  have d1 := c0.sW o1 ⟨hRd_eq, by rw [hRd_ne (by omega)]; exact w2, by rw [hRd_ne (by omega)]; exact w3, w4.out (Out.refl.wr (lo := 146) (hi := 146) (by omega) (by omega)) (by omega), by rw [hRd_ne (by omega)]; exact w5, by rw [hRd_ne (by omega)]; exact w6, w7.out (Out.refl.wr (lo := 146) (hi := 146) (by omega) (by omega)) (by omega)⟩
  have o2 : Out 153 155 (hWr h 146 (oWin 147 148 0 149 tot 151 152)) (hWr (hWr h 146 (oWin 147 148 0 149 tot 151 152)) 153 (oBook 154 155 0)) := Out.refl.wr (by omega) (by omega)
  exact kk _ (d1.sB o2 ⟨hRd_eq, by rw [hRd_ne (by omega), hRd_ne (by omega)]; exact b2, by rw [hRd_ne (by omega), hRd_ne (by omega)]; exact b3⟩) ((o1.widen (by omega) (by omega)).trans (o2.widen (by omega) (by omega)))
end
