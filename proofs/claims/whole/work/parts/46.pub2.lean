-- THE CLASS'S OWN METHODS: those that are undone
section
variable {d : Nat} {f wt tk bh kp sd ea la bj bm : Int → Int} {n pl M P J s ct bt : Int} {S : SS} {Hs : List SS} {im : Int → SS} {h : LHeap} {Q : Option Value → LHeap → Prop} {x y x1 x2 : Int}
theorem c_isP (hd : 1 ≤ d) (c : CI f n pl M P J wt tk bh S Hs kp sd im s ct ea la bt bj bm h) (hB : BD f n pl M P J wt tk bh S Hs kp sd im s ct ea la bt bj bm) (hx : -2147483648 ≤ x ∧ x ≤ 2147483647) (kk : Q (some (vI (if 0 ≤ x ∧ x < P then 1 else 0))) h) : CALL d 99 [.ref 1, vI x] h Q := by
  obtain ⟨c1, -, -, -, ⟨wk0, dr0, c5⟩, -⟩ := c
  exact s_isPerson hd c1 c5 hB.2.1.2.1 hx kk
theorem c_isJ (hd : 1 ≤ d) (c : CI f n pl M P J wt tk bh S Hs kp sd im s ct ea la bt bj bm h) (hB : BD f n pl M P J wt tk bh S Hs kp sd im s ct ea la bt bj bm) (hx : -2147483648 ≤ x ∧ x ≤ 2147483647) (kk : Q (some (vI (if 0 ≤ x ∧ x < J then 1 else 0))) h) : CALL d 100 [.ref 1, vI x] h Q := by
  obtain ⟨c1, -, -, -, ⟨wk0, dr0, c5⟩, -⟩ := c
  exact s_isJob hd c1 c5 hB.2.1.2.2.1 hx kk
theorem c_rem (hd : 4 ≤ d) (c : CI f n pl M P J wt tk bh S Hs kp sd im s ct ea la bt bj bm h) (kk : ∀ h1, CI f n pl M P J wt tk bh S ((S :: Hs).take 20) kp sd im s ct ea la bt bj bm h1 → Out 25 126 h h1 → Q none h1) : CALL d 22 [.ref 25, .ref 17] h Q := by
  have c0 := c
  obtain ⟨-, -, -, -, -, c6, -, c8, -⟩ := c
  exact s_remember hd c8 c6 (Or.inl (by omega)) (fun h1 n1 o1 => kk h1 (c0.sH o1 n1) o1)
theorem CI.stW {w : Int → Int} (c : CI f n pl M P J wt tk bh S Hs kp sd im s ct ea la bt bj bm h) : CI f n pl M P J wt tk bh ((S.1, w, S.2.2)) Hs kp sd im s ct ea la bt bj bm (hWr h 20 (cA 6 w)) := by
  have c0 := c
  obtain ⟨-, -, -, -, -, ⟨e1, ⟨g, e2, e3, e4⟩, e5, e6⟩, -⟩ := c
  exact c0.sS (Out.refl.wr (by omega) (by omega)) ⟨by rw [hRd_ne (by omega)]; exact e1, ⟨g, by rw [hRd_ne (by omega)]; exact e2, by rw [hRd_ne (by omega)]; exact e3, e4⟩, hRd_eq, by rw [hRd_ne (by omega)]; exact e6⟩
theorem CI.stD {w : Int → Int} (c : CI f n pl M P J wt tk bh S Hs kp sd im s ct ea la bt bj bm h) : CI f n pl M P J wt tk bh ((S.1, S.2.1, w, S.2.2.2)) Hs kp sd im s ct ea la bt bj bm (hWr h 21 (cA 8 w)) := by
  have c0 := c
  obtain ⟨-, -, -, -, -, ⟨e1, ⟨g, e2, e3, e4⟩, e5, e6⟩, -⟩ := c
  exact c0.sS (Out.refl.wr (by omega) (by omega)) ⟨by rw [hRd_ne (by omega)]; exact e1, ⟨g, by rw [hRd_ne (by omega)]; exact e2, by rw [hRd_ne (by omega)]; exact e3, e4⟩, by rw [hRd_ne (by omega)]; exact e5, hRd_eq⟩
theorem CI.stX {sh mo : Int} (c : CI f n pl M P J wt tk bh S Hs kp sd im s ct ea la bt bj bm h) : CI f n pl M P J wt tk bh ((S.1, S.2.1, S.2.2.1, sh, mo)) Hs kp sd im s ct ea la bt bj bm (hWr h 17 (oState 18 20 21 sh mo)) := by
  have c0 := c
  obtain ⟨-, -, -, -, -, ⟨e1, ⟨g, e2, e3, e4⟩, e5, e6⟩, -⟩ := c
  exact c0.sS (Out.refl.wr (by omega) (by omega)) ⟨hRd_eq, ⟨g, by rw [hRd_ne (by omega)]; exact e2, by rw [hRd_ne (by omega)]; exact e3, e4⟩, by rw [hRd_ne (by omega)]; exact e5, by rw [hRd_ne (by omega)]; exact e6⟩
theorem CI.stL {L : List Int} {h1 : LHeap} (c : CI f n pl M P J wt tk bh S Hs kp sd im s ct ea la bt bj bm h) (r : Rw 18 L h1) (o : Out 18 19 h h1) : CI f n pl M P J wt tk bh ((L, S.2)) Hs kp sd im s ct ea la bt bj bm h1 := by
  have c0 := c
  obtain ⟨-, -, -, -, -, ⟨e1, ⟨g, e2, e3, e4⟩, e5, e6⟩, -⟩ := c
  exact c0.sS (o.widen (by omega) (by omega)) ⟨by rw [o.2.2 _ (by omega)]; exact e1, r, by rw [o.2.2 _ (by omega)]; exact e5, by rw [o.2.2 _ (by omega)]; exact e6⟩
theorem CI.c17 (c : CI f n pl M P J wt tk bh S Hs kp sd im s ct ea la bt bj bm h) : hRd h 17 = oState 18 20 21 S.2.2.2.1 S.2.2.2.2 ∧ Rw 18 S.1 h ∧ hRd h 20 = cA 6 S.2.1 ∧ hRd h 21 = cA 8 S.2.2.1 := by
  obtain ⟨-, -, -, -, -, ⟨e1, e2, e5, e6⟩, -⟩ := c
  exact ⟨e1, e2, e5, e6⟩
theorem c_hand (hd : 5 ≤ d) (c : CI f n pl M P J wt tk bh S Hs kp sd im s ct ea la bt bj bm h) (hB : BD f n pl M P J wt tk bh S Hs kp sd im s ct ea la bt bj bm) (hx : -2147483648 ≤ x ∧ x ≤ 2147483647) (hy : -2147483648 ≤ y ∧ y ≤ 2147483647) (k1 : ¬ ((0 ≤ x ∧ x < J) ∧ 0 ≤ y ∧ y < P) → Q (some (vI (-1000000001))) h) (k2 : 0 ≤ x → x < J → 0 ≤ y → y < P → ∀ h1, CI f n pl M P J wt tk bh ((S.1, S.2.1, uA S.2.2.1 x y, S.2.2.2)) ((S :: Hs).take 20) kp sd im s ct ea la bt bj bm h1 → Out 1 155 h h1 → Q (some (vI (S.2.2.1 x))) h1) : CALL d 80 [.ref 1, vI x, vI y] h Q := by
  have a1 := c.w
  have hJ := hB.2.1.2.2.1
  refine cl80 (by omega) a1 ?_
  simp (disch := omega) only [wr_id, wr_m1, sd_t, nl_I, nl_R, nl_none, c1_I, c1_R, sh_0, sh_1, sh_2, sh_3, sh_4, true_and, and_true, ldA_A, ldB_B, ldS_S, stA_A, stB_B, aL_A, aL_B, aL_S, aC_A, hRd_eq, hRd_ne, cp6, cp8, tl_some, tl_none, List.cons_append, List.nil_append, ofI_t0, ofI_t1, Int.add_zero, Int.zero_add, x80_0, x80_1, x80_2]
  refine c_isJ (by omega) c hB hx ?_
  by_cases q : 0 ≤ x ∧ x < J
  · rw [if_pos q]
    simp (disch := omega) only [wr_id, wr_m1, sd_t, nl_I, nl_R, nl_none, c1_I, c1_R, sh_0, sh_1, sh_2, sh_3, sh_4, true_and, and_true, ldA_A, ldB_B, ldS_S, stA_A, stB_B, aL_A, aL_B, aL_S, aC_A, hRd_eq, hRd_ne, cp6, cp8, tl_some, tl_none, List.cons_append, List.nil_append, ofI_t0, ofI_t1, Int.add_zero, Int.zero_add, x80_3, x80_4, x80_5, x80_6]
    refine ⟨fun z => by omega, fun _ => ?_⟩
    refine c_isP (by omega) c hB hy ?_
    by_cases q2 : 0 ≤ y ∧ y < P
    · rw [if_pos q2]
      simp (disch := omega) only [wr_id, wr_m1, sd_t, nl_I, nl_R, nl_none, c1_I, c1_R, sh_0, sh_1, sh_2, sh_3, sh_4, true_and, and_true, ldA_A, ldB_B, ldS_S, stA_A, stB_B, aL_A, aL_B, aL_S, aC_A, hRd_eq, hRd_ne, cp6, cp8, tl_some, tl_none, List.cons_append, List.nil_append, ofI_t0, ofI_t1, Int.add_zero, Int.zero_add, x80_0, x80_1, x80_2, x80_3, x80_4, x80_5, x80_6, x80_7, x80_8, x80_9, x80_10, x80_11, x80_12, x80_13, x80_14, x80_15, x80_16, x80_17, x80_18, x80_19, x80_20, x80_21, x80_22, x80_23, x80_24, x80_25, x80_26, x80_27, x80_28, gf10_4, gf10_3, gf7_2, a1]
      refine ⟨fun _ => ?_, fun z => by omega⟩
      refine c_rem (by omega) c (fun h1 c1 o1 => ?_)
      have a11 := c1.w
      obtain ⟨e1, e2, e3, e4⟩ := c1.c17
      simp (disch := omega) only [wr_id, wr_m1, sd_t, nl_I, nl_R, nl_none, c1_I, c1_R, sh_0, sh_1, sh_2, sh_3, sh_4, true_and, and_true, ldA_A, ldB_B, ldS_S, stA_A, stB_B, aL_A, aL_B, aL_S, aC_A, hRd_eq, hRd_ne, cp6, cp8, tl_some, tl_none, List.cons_append, List.nil_append, ofI_t0, ofI_t1, Int.add_zero, Int.zero_add, x80_0, x80_1, x80_2, x80_3, x80_4, x80_5, x80_6, x80_7, x80_8, x80_9, x80_10, x80_11, x80_12, x80_13, x80_14, x80_15, x80_16, x80_17, x80_18, x80_19, x80_20, x80_21, x80_22, x80_23, x80_24, x80_25, x80_26, x80_27, x80_28, gf10_4, gf10_3, gf7_2, a11, e1, e4]
      refine ⟨⟨by omega, by omega⟩, ⟨by omega, by omega⟩, ?_⟩
      exact k2 q.1 q.2 q2.1 q2.2 _ c1.stD ((o1.widen (by omega) (by omega)).wr (by omega) (by omega))
    · rw [if_neg q2]
      simp (disch := omega) only [wr_id, wr_m1, sd_t, nl_I, nl_R, nl_none, c1_I, c1_R, sh_0, sh_1, sh_2, sh_3, sh_4, true_and, and_true, ldA_A, ldB_B, ldS_S, stA_A, stB_B, aL_A, aL_B, aL_S, aC_A, hRd_eq, hRd_ne, cp6, cp8, tl_some, tl_none, List.cons_append, List.nil_append, ofI_t0, ofI_t1, Int.add_zero, Int.zero_add, x80_0, x80_1, x80_2, x80_3, x80_4, x80_5, x80_6, x80_7, x80_8, x80_9, x80_10, x80_11, x80_12, x80_13, x80_14, x80_15, x80_16, x80_17, x80_18, x80_19, x80_20, x80_21, x80_22, x80_23, x80_24, x80_25, x80_26, x80_27, x80_28, gf10_4, gf10_3, gf7_2]
      exact ⟨fun z => by first | omega | exact absurd trivial z | exact absurd rfl z, fun _ => k1 (fun z => q2 z.2)⟩
  · rw [if_neg q]
    simp (disch := omega) only [wr_id, wr_m1, sd_t, nl_I, nl_R, nl_none, c1_I, c1_R, sh_0, sh_1, sh_2, sh_3, sh_4, true_and, and_true, ldA_A, ldB_B, ldS_S, stA_A, stB_B, aL_A, aL_B, aL_S, aC_A, hRd_eq, hRd_ne, cp6, cp8, tl_some, tl_none, List.cons_append, List.nil_append, ofI_t0, ofI_t1, Int.add_zero, Int.zero_add, x80_0, x80_1, x80_2, x80_3, x80_4, x80_5, x80_6, x80_7, x80_8, x80_9, x80_10, x80_11, x80_12, x80_13, x80_14, x80_15, x80_16, x80_17, x80_18, x80_19, x80_20, x80_21, x80_22, x80_23, x80_24, x80_25, x80_26, x80_27, x80_28, gf10_4, gf10_3, gf7_2]
    exact ⟨fun _ => k1 (fun z => q z.1), fun z => by first | omega | exact absurd trivial z | exact absurd rfl z⟩
theorem c_wake (hd : 5 ≤ d) (c : CI f n pl M P J wt tk bh S Hs kp sd im s ct ea la bt bj bm h) (hB : BD f n pl M P J wt tk bh S Hs kp sd im s ct ea la bt bj bm) (hx : -2147483648 ≤ x ∧ x ≤ 2147483647) (hy : -2147483648 ≤ y ∧ y ≤ 2147483647) (k1 : ¬ (0 ≤ x ∧ x < P) → Q (some (vI (-1000000001))) h) (k2 : 0 ≤ x → x < P → ¬ (0 ≤ y ∧ y ≤ 999) → Q (some (vI (-1000000002))) h) (k3 : 0 ≤ x → x < P → 0 ≤ y → y ≤ 999 → ∀ h1, CI f n pl M P J wt tk bh ((S.1, uA S.2.1 x y, S.2.2)) ((S :: Hs).take 20) kp sd im s ct ea la bt bj bm h1 → Out 1 155 h h1 → Q (some (vI (S.2.1 x))) h1) : CALL d 82 [.ref 1, vI x, vI y] h Q := by
  have a1 := c.w
  have hP := hB.2.1.2.1
  refine cl82 (by omega) a1 ?_
  simp (disch := omega) only [wr_id, wr_m1, sd_t, nl_I, nl_R, nl_none, c1_I, c1_R, sh_0, sh_1, sh_2, sh_3, sh_4, true_and, and_true, ldA_A, ldB_B, ldS_S, stA_A, stB_B, aL_A, aL_B, aL_S, aC_A, hRd_eq, hRd_ne, cp6, cp8, tl_some, tl_none, List.cons_append, List.nil_append, ofI_t0, ofI_t1, Int.add_zero, Int.zero_add, x82_0, x82_1, x82_2]
  refine c_isP (by omega) c hB hx ?_
  by_cases q : 0 ≤ x ∧ x < P
  · rw [if_pos q]
    simp (disch := omega) only [wr_id, wr_m1, sd_t, nl_I, nl_R, nl_none, c1_I, c1_R, sh_0, sh_1, sh_2, sh_3, sh_4, true_and, and_true, ldA_A, ldB_B, ldS_S, stA_A, stB_B, aL_A, aL_B, aL_S, aC_A, hRd_eq, hRd_ne, cp6, cp8, tl_some, tl_none, List.cons_append, List.nil_append, ofI_t0, ofI_t1, Int.add_zero, Int.zero_add, x82_0, x82_1, x82_2, x82_3, x82_4, x82_5, x82_6, x82_7, x82_8, x82_9, x82_10, x82_11, x82_12, x82_13, x82_14, x82_15, x82_16, x82_17, x82_18, x82_19, x82_20, x82_21, x82_22, x82_23, x82_24, x82_25, x82_26, x82_27, x82_28, x82_29, x82_30, x82_31, gf10_4, gf10_3, gf7_1, a1]
    refine ⟨fun _ => ⟨fun z => k2 q.1 q.2 (by omega), fun z => ⟨fun z2 => ?_, fun z2 => k2 q.1 q.2 (by omega)⟩⟩, fun z => by omega⟩
    refine c_rem (by omega) c (fun h1 c1 o1 => ?_)
    have a11 := c1.w
    obtain ⟨e1, e2, e3, e4⟩ := c1.c17
    simp (disch := omega) only [wr_id, wr_m1, sd_t, nl_I, nl_R, nl_none, c1_I, c1_R, sh_0, sh_1, sh_2, sh_3, sh_4, true_and, and_true, ldA_A, ldB_B, ldS_S, stA_A, stB_B, aL_A, aL_B, aL_S, aC_A, hRd_eq, hRd_ne, cp6, cp8, tl_some, tl_none, List.cons_append, List.nil_append, ofI_t0, ofI_t1, Int.add_zero, Int.zero_add, x82_0, x82_1, x82_2, x82_3, x82_4, x82_5, x82_6, x82_7, x82_8, x82_9, x82_10, x82_11, x82_12, x82_13, x82_14, x82_15, x82_16, x82_17, x82_18, x82_19, x82_20, x82_21, x82_22, x82_23, x82_24, x82_25, x82_26, x82_27, x82_28, x82_29, x82_30, x82_31, gf10_4, gf10_3, gf7_1, a11, e1, e3]
    refine ⟨⟨by omega, by omega⟩, ⟨by omega, by omega⟩, ?_⟩
    exact k3 q.1 q.2 (by omega) (by omega) _ c1.stW ((o1.widen (by omega) (by omega)).wr (by omega) (by omega))
  · rw [if_neg q]
    simp (disch := omega) only [wr_id, wr_m1, sd_t, nl_I, nl_R, nl_none, c1_I, c1_R, sh_0, sh_1, sh_2, sh_3, sh_4, true_and, and_true, ldA_A, ldB_B, ldS_S, stA_A, stB_B, aL_A, aL_B, aL_S, aC_A, hRd_eq, hRd_ne, cp6, cp8, tl_some, tl_none, List.cons_append, List.nil_append, ofI_t0, ofI_t1, Int.add_zero, Int.zero_add, x82_0, x82_1, x82_2, x82_3, x82_4, x82_5, x82_6, x82_7, x82_8, x82_9, x82_10, x82_11, x82_12, x82_13, x82_14, x82_15, x82_16, x82_17, x82_18, x82_19, x82_20, x82_21, x82_22, x82_23, x82_24, x82_25, x82_26, x82_27, x82_28, x82_29, x82_30, x82_31, gf10_4, gf10_3, gf7_1]
    exact ⟨fun z => by first | omega | exact absurd trivial z | exact absurd rfl z, fun _ => k1 q⟩
theorem c_dismiss (hd : 5 ≤ d) (c : CI f n pl M P J wt tk bh S Hs kp sd im s ct ea la bt bj bm h) (hB : BD f n pl M P J wt tk bh S Hs kp sd im s ct ea la bt bj bm) (hx : -2147483648 ≤ x ∧ x ≤ 2147483647) (k1 : ¬ (0 ≤ x ∧ x < P) → Q (some (vI (-1000000001))) h) (k2 : 0 ≤ x → x < P → pfrom S.1 x 0 = -1 → Q (some (vI (-1000000003))) h) (k3 : 0 ≤ x → x < P → ¬ pfrom S.1 x 0 = -1 → ∀ h1, CI f n pl M P J wt tk bh ((outL S.1 x, S.2)) ((S :: Hs).take 20) kp sd im s ct ea la bt bj bm h1 → Out 1 155 h h1 → Q (some (vI (outL S.1 x).length)) h1) : CALL d 81 [.ref 1, vI x] h Q := by
  have a1 := c.w
  have hP := hB.2.1.2.1
  have hg := pfrom_ge S.1 x 0 (by omega)
  refine cl81 (by omega) a1 ?_
  simp (disch := omega) only [wr_id, wr_m1, sd_t, nl_I, nl_R, nl_none, c1_I, c1_R, sh_0, sh_1, sh_2, sh_3, sh_4, true_and, and_true, ldA_A, ldB_B, ldS_S, stA_A, stB_B, aL_A, aL_B, aL_S, aC_A, hRd_eq, hRd_ne, cp6, cp8, tl_some, tl_none, List.cons_append, List.nil_append, ofI_t0, ofI_t1, Int.add_zero, Int.zero_add, x81_0, x81_1, x81_2]
  refine c_isP (by omega) c hB hx ?_
  by_cases q : 0 ≤ x ∧ x < P
  · rw [if_pos q]
    obtain ⟨e1, e2, e3, e4⟩ := c.c17
    have hlen := e2.len
    simp (disch := omega) only [wr_id, wr_m1, sd_t, nl_I, nl_R, nl_none, c1_I, c1_R, sh_0, sh_1, sh_2, sh_3, sh_4, true_and, and_true, ldA_A, ldB_B, ldS_S, stA_A, stB_B, aL_A, aL_B, aL_S, aC_A, hRd_eq, hRd_ne, cp6, cp8, tl_some, tl_none, List.cons_append, List.nil_append, ofI_t0, ofI_t1, Int.add_zero, Int.zero_add, x81_0, x81_1, x81_2, x81_3, x81_4, x81_5, x81_6, x81_7, x81_8, x81_9, x81_10, x81_11, x81_12, x81_13, x81_14, x81_15, x81_16, x81_17, x81_18, x81_19, x81_20, x81_21, x81_22, x81_23, x81_24, x81_25, x81_26, x81_27, x81_28, x81_29, gf10_3, gf7_0, gf10_4, gf6_1, a1, e1]
    refine ⟨fun _ => ?_, fun z => by omega⟩
    refine p_placeOf (by omega) e2 (by omega) (by omega) ?_
    simp (disch := omega) only [wr_id, wr_m1, sd_t, nl_I, nl_R, nl_none, c1_I, c1_R, sh_0, sh_1, sh_2, sh_3, sh_4, true_and, and_true, ldA_A, ldB_B, ldS_S, stA_A, stB_B, aL_A, aL_B, aL_S, aC_A, hRd_eq, hRd_ne, cp6, cp8, tl_some, tl_none, List.cons_append, List.nil_append, ofI_t0, ofI_t1, Int.add_zero, Int.zero_add, x81_0, x81_1, x81_2, x81_3, x81_4, x81_5, x81_6, x81_7, x81_8, x81_9, x81_10, x81_11, x81_12, x81_13, x81_14, x81_15, x81_16, x81_17, x81_18, x81_19, x81_20, x81_21, x81_22, x81_23, x81_24, x81_25, x81_26, x81_27, x81_28, x81_29, gf10_3, gf7_0, gf10_4, gf6_1, a1, e1]
    refine ⟨fun z => ?_, fun z => k2 q.1 q.2 (by omega)⟩
    refine c_rem (by omega) c (fun h1 c1 o1 => ?_)
    have a11 := c1.w
    obtain ⟨f1, f2, f3, f4⟩ := c1.c17
    simp (disch := omega) only [wr_id, wr_m1, sd_t, nl_I, nl_R, nl_none, c1_I, c1_R, sh_0, sh_1, sh_2, sh_3, sh_4, true_and, and_true, ldA_A, ldB_B, ldS_S, stA_A, stB_B, aL_A, aL_B, aL_S, aC_A, hRd_eq, hRd_ne, cp6, cp8, tl_some, tl_none, List.cons_append, List.nil_append, ofI_t0, ofI_t1, Int.add_zero, Int.zero_add, x81_0, x81_1, x81_2, x81_3, x81_4, x81_5, x81_6, x81_7, x81_8, x81_9, x81_10, x81_11, x81_12, x81_13, x81_14, x81_15, x81_16, x81_17, x81_18, x81_19, x81_20, x81_21, x81_22, x81_23, x81_24, x81_25, x81_26, x81_27, x81_28, x81_29, gf10_3, gf7_0, gf10_4, gf6_1, a11, f1]
    refine p_takeOut (by omega) f2 (by omega) (by omega) (fun h2 r2 o2 => ?_)
    have c2 := c1.stL r2 o2
    have a12 := c2.w
    obtain ⟨g1, ⟨gg, g2, g2b⟩, g3, g4⟩ := c2.c17
    simp (disch := omega) only [wr_id, wr_m1, sd_t, nl_I, nl_R, nl_none, c1_I, c1_R, sh_0, sh_1, sh_2, sh_3, sh_4, true_and, and_true, ldA_A, ldB_B, ldS_S, stA_A, stB_B, aL_A, aL_B, aL_S, aC_A, hRd_eq, hRd_ne, cp6, cp8, tl_some, tl_none, List.cons_append, List.nil_append, ofI_t0, ofI_t1, Int.add_zero, Int.zero_add, x81_0, x81_1, x81_2, x81_3, x81_4, x81_5, x81_6, x81_7, x81_8, x81_9, x81_10, x81_11, x81_12, x81_13, x81_14, x81_15, x81_16, x81_17, x81_18, x81_19, x81_20, x81_21, x81_22, x81_23, x81_24, x81_25, x81_26, x81_27, x81_28, x81_29, gf10_3, gf7_0, gf10_4, gf6_1, a12, g1, g2]
    exact k3 q.1 q.2 (by omega) h2 c2 ((o1.widen (by omega) (by omega)).trans (o2.widen (by omega) (by omega)))
  · rw [if_neg q]
    simp (disch := omega) only [wr_id, wr_m1, sd_t, nl_I, nl_R, nl_none, c1_I, c1_R, sh_0, sh_1, sh_2, sh_3, sh_4, true_and, and_true, ldA_A, ldB_B, ldS_S, stA_A, stB_B, aL_A, aL_B, aL_S, aC_A, hRd_eq, hRd_ne, cp6, cp8, tl_some, tl_none, List.cons_append, List.nil_append, ofI_t0, ofI_t1, Int.add_zero, Int.zero_add, x81_0, x81_1, x81_2, x81_3, x81_4, x81_5, x81_6, x81_7, x81_8, x81_9, x81_10, x81_11, x81_12, x81_13, x81_14, x81_15, x81_16, x81_17, x81_18, x81_19, x81_20, x81_21, x81_22, x81_23, x81_24, x81_25, x81_26, x81_27, x81_28, x81_29, gf10_3, gf7_0, gf10_4, gf6_1]
    exact ⟨fun z => by first | omega | exact absurd trivial z | exact absurd rfl z, fun _ => k1 q⟩
theorem c_order (hd : 3 ≤ d) (c : CI f n pl M P J wt tk bh S Hs kp sd im s ct ea la bt bj bm h) (hx : -2147483648 ≤ x ∧ x ≤ 2147483647) (kk : Q (some (vI (if 0 ≤ x ∧ x < S.1.length then fL S.1 x else -1))) h) : CALL d 77 [.ref 1, vI x] h Q := by
  have a1 := c.w
  obtain ⟨e1, ⟨g, e2, e2b, e2c⟩, e3, e4⟩ := c.c17
  have hlen := e2c.2.1
  refine cl77 (by omega) a1 ?_
  simp (disch := omega) only [wr_id, wr_m1, sd_t, nl_I, nl_R, nl_none, c1_I, c1_R, sh_0, sh_1, sh_2, sh_3, sh_4, true_and, and_true, ldA_A, ldB_B, ldS_S, stA_A, stB_B, aL_A, aL_B, aL_S, aC_A, hRd_eq, hRd_ne, cp6, cp8, tl_some, tl_none, List.cons_append, List.nil_append, ofI_t0, ofI_t1, Int.add_zero, Int.zero_add, x77_0, x77_1, x77_2, x77_3, x77_4, x77_5, gf10_3, gf7_0, a1, e1]
  refine s_Row_at (by omega) e2 e2b (by omega) (by omega) (by omega) (by omega) ?_
  simp (disch := omega) only [wr_id, wr_m1, sd_t, nl_I, nl_R, nl_none, c1_I, c1_R, sh_0, sh_1, sh_2, sh_3, sh_4, true_and, and_true, ldA_A, ldB_B, ldS_S, stA_A, stB_B, aL_A, aL_B, aL_S, aC_A, hRd_eq, hRd_ne, cp6, cp8, tl_some, tl_none, List.cons_append, List.nil_append, ofI_t0, ofI_t1, Int.add_zero, Int.zero_add, x77_0, x77_1, x77_2, x77_3, x77_4, x77_5, gf10_3, gf7_0]
  by_cases q : 0 ≤ x ∧ x < S.1.length
  · rw [if_pos q] at kk ⊢
    rw [e2c.ag.1 x q.1 q.2]
    exact kk
  · rw [if_neg q] at kk ⊢
    exact kk
end
