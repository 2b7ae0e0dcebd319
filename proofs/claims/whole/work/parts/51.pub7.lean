-- THE CLASS'S OWN METHODS: tried
section
variable {d : Nat} {f wt tk bh kp sd ea la bj bm : Int → Int} {n pl M P J s ct bt : Int} {S : SS} {Hs : List SS} {im : Int → SS} {h : LHeap} {Q : Option Value → LHeap → Prop} {x y w : Int}
theorem CI.tr (c : CI f n pl M P J wt tk bh S Hs kp sd im s ct ea la bt bj bm h) : ∃ T B fw bp ha, TrAt T B fw bp ha h := c.2.2.2.2.2.2.2.2.2.1
theorem OT.lo {h1 : LHeap} (o : OT h h1) : Out 1 155 h h1 := ⟨o.1, o.2.1, fun a ha => o.2.2 a (by omega)⟩
theorem OW.lo {h1 : LHeap} (o : OW h h1) : Out 1 155 h h1 := ⟨o.1, o.2.1, fun a ha => o.2.2 a (by omega)⟩
theorem c_harm (hd : 8 ≤ d) (c : CI f n pl M P J wt tk bh S Hs kp sd im s ct ea la bt bj bm h) (hB : BD f n pl M P J wt tk bh S Hs kp sd im s ct ea la bt bj bm) (hx : -2147483648 ≤ x ∧ x ≤ 2147483647) (hy : -2147483648 ≤ y ∧ y ≤ 2147483647) (k1 : ¬ (0 ≤ x ∧ x < P) → Q (some (vI (-1000000001))) h) (k2 : 0 ≤ x → x < P → ¬ (0 ≤ y ∧ y ≤ 1) → Q (some (vI (-1000000002))) h) (k3 : 0 ≤ x → x < P → 0 ≤ y → y ≤ 1 → pfrom S.1 x 0 = -1 → ∀ h1, CI f n pl M P J wt tk bh S Hs kp sd im s ct ea la bt bj bm h1 → Out 1 155 h h1 → Q (some (vI (-1))) h1) (k4 : 0 ≤ x → x < P → 0 ≤ y → y ≤ 1 → ¬ pfrom S.1 x 0 = -1 → ∀ h1, CI f n pl M P J wt tk bh S Hs kp sd im s ct ea la bt bj bm h1 → Out 1 155 h h1 → Q (some (vI (if y = 0 then (hpF M J S.2.2.2.1 S.2.1 wt S.2.2.1 tk bh S.1 x S.1.length 0 (-1) (-1)).1 else (hpF M J S.2.2.2.1 S.2.1 wt S.2.2.1 tk bh S.1 x S.1.length 0 (-1) (-1)).2))) h1) : CALL d 86 [.ref 1, vI x, vI y] h Q := by
  have a1 := c.w
  have hP := hB.2.1.2.1
  refine cl86 (by omega) a1 ?_
  simp (disch := omega) only [wr_id, wr_m1, sd_t, nl_I, nl_R, nl_none, c1_I, c1_R, sh_0, sh_1, sh_2, sh_3, sh_4, true_and, and_true, ldA_A, ldB_B, ldS_S, stA_A, stB_B, aL_A, aL_B, aL_S, aC_A, hRd_eq, hRd_ne, cp6, cp8, tl_some, tl_none, List.cons_append, List.nil_append, ofI_t0, ofI_t1, Int.add_zero, Int.zero_add, x86_0, x86_1, x86_2]
  refine c_isP (by omega) c hB hx ?_
  by_cases q : 0 ≤ x ∧ x < P
  · rw [if_pos q]
    obtain ⟨T, B, fw, bp, ha, hT⟩ := c.tr
    obtain ⟨hC, -⟩ := c.cap
    obtain ⟨e1, e2, e3, e4⟩ := c.c17
    have go : 0 ≤ y → y ≤ 1 → CALL (d - 1) 60 [.ref 141, .ref 10, vI x] h (fun v h1 => WP (d - 1) 86 19 [some (.ref 1), some (vI x), some (vI y)] (v.toList ++ []) h1 Q) := by
      intro y0 y1
      refine p_places (by omega) hC e1 hB.2.1 e2 hB.2.2.1.1 (by omega) hT (fun z h1 ⟨T1, hT1⟩ o1 => ?_) (fun z h1 ⟨T1, hT1⟩ o1 => ?_)
      · have c1 := c.sT o1 hT1
        have a11 := c1.w
        have t1 := hT1.1
        have fin := k3 q.1 q.2 y0 y1 z h1 c1 o1.lo
        simp (disch := omega) only [wr_id, wr_m1, sd_t, nl_I, nl_R, nl_none, c1_I, c1_R, sh_0, sh_1, sh_2, sh_3, sh_4, true_and, and_true, ldA_A, ldB_B, ldS_S, stA_A, stB_B, aL_A, aL_B, aL_S, aC_A, hRd_eq, hRd_ne, cp6, cp8, tl_some, tl_none, List.cons_append, List.nil_append, ofI_t0, ofI_t1, Int.add_zero, Int.zero_add, x86_19, x86_20, x86_21, x86_22, x86_23, x86_24, x86_25, x86_26, x86_27, x86_28, gf0_0, gf0_1, gf0_2, gf1_0, gf1_1, gf1_2, gf1_3, gf1_4, gf2_0, gf2_1, gf2_2, gf2_3, gf2_4, gf2_5, gf2_6, gf2_7, gf3_0, gf3_1, gf3_2, gf4_0, gf4_1, gf4_2, gf5_0, gf5_1, gf5_2, gf5_3, gf5_4, gf5_5, gf5_6, gf6_0, gf6_1, gf7_0, gf7_1, gf7_2, gf7_3, gf7_4, gf8_0, gf8_1, gf8_2, gf8_3, gf8_4, gf9_0, gf9_1, gf9_2, gf9_3, gf9_4, gf9_5, gf9_6, gf10_0, gf10_1, gf10_2, gf10_3, gf10_4, gf10_5, gf10_6, gf10_7, gf10_8, gf10_9, t1, a11]
        exact ⟨fun _ => fin, fun _ => fin⟩
      · have c1 := c.sT o1 hT1
        have a11 := c1.w
        have t1 := hT1.1
        have fin := k4 q.1 q.2 y0 y1 z h1 c1 o1.lo
        simp (disch := omega) only [wr_id, wr_m1, sd_t, nl_I, nl_R, nl_none, c1_I, c1_R, sh_0, sh_1, sh_2, sh_3, sh_4, true_and, and_true, ldA_A, ldB_B, ldS_S, stA_A, stB_B, aL_A, aL_B, aL_S, aC_A, hRd_eq, hRd_ne, cp6, cp8, tl_some, tl_none, List.cons_append, List.nil_append, ofI_t0, ofI_t1, Int.add_zero, Int.zero_add, x86_19, x86_20, x86_21, x86_22, x86_23, x86_24, x86_25, x86_26, x86_27, x86_28, gf0_0, gf0_1, gf0_2, gf1_0, gf1_1, gf1_2, gf1_3, gf1_4, gf2_0, gf2_1, gf2_2, gf2_3, gf2_4, gf2_5, gf2_6, gf2_7, gf3_0, gf3_1, gf3_2, gf4_0, gf4_1, gf4_2, gf5_0, gf5_1, gf5_2, gf5_3, gf5_4, gf5_5, gf5_6, gf6_0, gf6_1, gf7_0, gf7_1, gf7_2, gf7_3, gf7_4, gf8_0, gf8_1, gf8_2, gf8_3, gf8_4, gf9_0, gf9_1, gf9_2, gf9_3, gf9_4, gf9_5, gf9_6, gf10_0, gf10_1, gf10_2, gf10_3, gf10_4, gf10_5, gf10_6, gf10_7, gf10_8, gf10_9, t1, a11]
        refine ⟨fun z0 => ?_, fun z0 => ?_⟩
        · rw [if_neg (by omega)] at fin; exact fin
        · rw [if_pos (by omega)] at fin; exact fin
    simp (disch := omega) only [wr_id, wr_m1, sd_t, nl_I, nl_R, nl_none, c1_I, c1_R, sh_0, sh_1, sh_2, sh_3, sh_4, true_and, and_true, ldA_A, ldB_B, ldS_S, stA_A, stB_B, aL_A, aL_B, aL_S, aC_A, hRd_eq, hRd_ne, cp6, cp8, tl_some, tl_none, List.cons_append, List.nil_append, ofI_t0, ofI_t1, Int.add_zero, Int.zero_add, x86_3, x86_4, x86_5, x86_6, x86_7, x86_8, x86_9, x86_10, x86_11, x86_12, x86_13, x86_14, x86_15, x86_16, x86_17, x86_18, gf0_0, gf0_1, gf0_2, gf1_0, gf1_1, gf1_2, gf1_3, gf1_4, gf2_0, gf2_1, gf2_2, gf2_3, gf2_4, gf2_5, gf2_6, gf2_7, gf3_0, gf3_1, gf3_2, gf4_0, gf4_1, gf4_2, gf5_0, gf5_1, gf5_2, gf5_3, gf5_4, gf5_5, gf5_6, gf6_0, gf6_1, gf7_0, gf7_1, gf7_2, gf7_3, gf7_4, gf8_0, gf8_1, gf8_2, gf8_3, gf8_4, gf9_0, gf9_1, gf9_2, gf9_3, gf9_4, gf9_5, gf9_6, gf10_0, gf10_1, gf10_2, gf10_3, gf10_4, gf10_5, gf10_6, gf10_7, gf10_8, gf10_9, a1]
    refine ⟨fun _ => ⟨fun z => go (by omega) (by omega), fun z => ⟨fun z2 => go (by omega) (by omega), fun z2 => k2 q.1 q.2 (by omega)⟩⟩, fun z => by omega⟩
  · rw [if_neg q]
    simp (disch := omega) only [wr_id, wr_m1, sd_t, nl_I, nl_R, nl_none, c1_I, c1_R, sh_0, sh_1, sh_2, sh_3, sh_4, true_and, and_true, ldA_A, ldB_B, ldS_S, stA_A, stB_B, aL_A, aL_B, aL_S, aC_A, hRd_eq, hRd_ne, cp6, cp8, tl_some, tl_none, List.cons_append, List.nil_append, ofI_t0, ofI_t1, Int.add_zero, Int.zero_add, x86_3, x86_4, x86_5]
    exact ⟨fun z => by first | omega | exact absurd trivial z | exact absurd rfl z, fun _ => k1 q⟩
theorem c_free (hd : 9 ≤ d) (c : CI f n pl M P J wt tk bh S Hs kp sd im s ct ea la bt bj bm h) (hB : BD f n pl M P J wt tk bh S Hs kp sd im s ct ea la bt bj bm) (hx : -2147483648 ≤ x ∧ x ≤ 2147483647) (k1 : ¬ (0 ≤ x ∧ x ≤ 1) → Q (some (vI (-1000000002))) h) (k2 : 0 ≤ x → x ≤ 1 → ∀ h1, CI f n pl M P J wt tk bh S Hs kp sd im s ct ea la bt bj bm h1 → Out 1 155 h h1 → Q (some (vI (if x = 0 then bcF (frF M J S.2.2.2.1 S.2.1 wt S.2.2.1 tk bh S.1 (memF S.1 0) (memF S.1 0).toNat 0 (memF S.1 0)) else frF M J S.2.2.2.1 S.2.1 wt S.2.2.1 tk bh S.1 (memF S.1 0) (memF S.1 0).toNat 0 (memF S.1 0)))) h1) : CALL d 88 [.ref 1, vI x] h Q := by
  have a1 := c.w
  obtain ⟨T, B, fw, bp, ha, hT⟩ := c.tr
  obtain ⟨hC, -⟩ := c.cap
  obtain ⟨e1, e2, e3, e4⟩ := c.c17
  have go : 0 ≤ x → x ≤ 1 → CALL (d - 1) 61 [.ref 141, .ref 10] h (fun v h1 => WP (d - 1) 88 12 [some (.ref 1), some (vI x), none] (v.toList ++ []) h1 Q) := by
    intro x0 x1
    refine p_free (by omega) hC e1 hB.2.1 e2 hB.2.2.1.1 hT (fun h1 ⟨T1, hT1⟩ o1 => ?_)
    have c1 := c.sT o1 hT1
    have fin := k2 x0 x1 h1 c1 o1.lo
    simp (disch := omega) only [wr_id, wr_m1, sd_t, nl_I, nl_R, nl_none, c1_I, c1_R, sh_0, sh_1, sh_2, sh_3, sh_4, true_and, and_true, ldA_A, ldB_B, ldS_S, stA_A, stB_B, aL_A, aL_B, aL_S, aC_A, hRd_eq, hRd_ne, cp6, cp8, tl_some, tl_none, List.cons_append, List.nil_append, ofI_t0, ofI_t1, Int.add_zero, Int.zero_add, x88_12, x88_13, x88_14, x88_15, x88_16, x88_17, x88_18, x88_19]
    refine ⟨fun z0 => ?_, fun z0 => ?_⟩
    · rw [if_neg (by omega)] at fin; exact fin
    · rw [if_pos (by omega)] at fin
      refine s_bitCount (by omega) ?_
      simp (disch := omega) only [wr_id, wr_m1, sd_t, nl_I, nl_R, nl_none, c1_I, c1_R, sh_0, sh_1, sh_2, sh_3, sh_4, true_and, and_true, ldA_A, ldB_B, ldS_S, stA_A, stB_B, aL_A, aL_B, aL_S, aC_A, hRd_eq, hRd_ne, cp6, cp8, tl_some, tl_none, List.cons_append, List.nil_append, ofI_t0, ofI_t1, Int.add_zero, Int.zero_add, x88_17, x88_18, x88_19]
      exact fin
  refine cl88 (by omega) a1 ?_
  simp (disch := omega) only [wr_id, wr_m1, sd_t, nl_I, nl_R, nl_none, c1_I, c1_R, sh_0, sh_1, sh_2, sh_3, sh_4, true_and, and_true, ldA_A, ldB_B, ldS_S, stA_A, stB_B, aL_A, aL_B, aL_S, aC_A, hRd_eq, hRd_ne, cp6, cp8, tl_some, tl_none, List.cons_append, List.nil_append, ofI_t0, ofI_t1, Int.add_zero, Int.zero_add, x88_0, x88_1, x88_2, x88_3, x88_4, x88_5, x88_6, x88_7, x88_8, x88_9, x88_10, x88_11, gf0_0, gf0_1, gf0_2, gf1_0, gf1_1, gf1_2, gf1_3, gf1_4, gf2_0, gf2_1, gf2_2, gf2_3, gf2_4, gf2_5, gf2_6, gf2_7, gf3_0, gf3_1, gf3_2, gf4_0, gf4_1, gf4_2, gf5_0, gf5_1, gf5_2, gf5_3, gf5_4, gf5_5, gf5_6, gf6_0, gf6_1, gf7_0, gf7_1, gf7_2, gf7_3, gf7_4, gf8_0, gf8_1, gf8_2, gf8_3, gf8_4, gf9_0, gf9_1, gf9_2, gf9_3, gf9_4, gf9_5, gf9_6, gf10_0, gf10_1, gf10_2, gf10_3, gf10_4, gf10_5, gf10_6, gf10_7, gf10_8, gf10_9, a1]
  exact ⟨fun z => go (by omega) (by omega), fun z => ⟨fun z2 => go (by omega) (by omega), fun z2 => k1 (by omega)⟩⟩
end
