-- THE CLASS'S OWN METHODS: ranks, eyes, images, draws
/-- the seed after n mornings of draws, and who wakes when -/
def drNF (M P : Int) : Nat → Int → (Int → Int) → (Int → Int) × Int
  | 0, s, w => (w, s)
  | n + 1, s, w => drNF M P n (drMF M P.toNat 0 s w).2 (drMF M P.toNat 0 s w).1
def odF (q : Int) : Nat → Int → Int
  | 0, o => o
  | n + 1, o => odF q n (zldiv (o * (100 - q)) 100)
theorem drMF_b {M : Int} (hM : 0 < M) : ∀ (n : Nat) (p s : Int) (w : Int → Int), 0 ≤ s ∧ s ≤ 2147483647 → 0 ≤ (drMF M n p s w).2 ∧ (drMF M n p s w).2 ≤ 2147483647 := by
  intro n
  induction n with
  | zero => intro p s w h; exact h
  | succ n ih =>
    intro p s w h
    have := nxS_b s
    rw [drMF]
    exact ih _ _ _ ⟨this.1, by omega⟩
section
variable {d : Nat} {f wt tk bh kp sd ea la bj bm : Int → Int} {n pl M P J s ct bt : Int} {S : SS} {Hs : List SS} {im : Int → SS} {h : LHeap} {Q : Option Value → LHeap → Prop} {x y x1 x2 : Int}
theorem c_rank (hd : 5 ≤ d) (c : CI f n pl M P J wt tk bh S Hs kp sd im s ct ea la bt bj bm h) (hB : BD f n pl M P J wt tk bh S Hs kp sd im s ct ea la bt bj bm) (hx : -2147483648 ≤ x ∧ x ≤ 2147483647) (hy : -2147483648 ≤ y ∧ y ≤ 2147483647) (k1 : ¬ (0 ≤ x ∧ x < P) → Q (some (vI (-1000000001))) h) (k2 : 0 ≤ x → x < P → ¬ (0 ≤ y ∧ y < S.1.length) → Q (some (vI (-1000000002))) h) (k3 : 0 ≤ x → x < P → 0 ≤ y → y < S.1.length → pfrom S.1 x 0 = -1 → Q (some (vI (-1000000003))) h) (k4 : 0 ≤ x → x < P → 0 ≤ y → y < S.1.length → ¬ pfrom S.1 x 0 = -1 → ∀ h1, CI f n pl M P J wt tk bh ((insL (outL S.1 x) y x, S.2)) ((S :: Hs).take 20) kp sd im s ct ea la bt bj bm h1 → Out 1 155 h h1 → Q (some (vI (pfrom S.1 x 0))) h1) : CALL d 78 [.ref 1, vI x, vI y] h Q := by
  have a1 := c.w
  have hP := hB.2.1.2.1
  have hg := pfrom_ge S.1 x 0 (by omega)
  refine cl78 (by omega) a1 ?_
  simp (disch := omega) only [wr_id, wr_m1, sd_t, nl_I, nl_R, nl_none, c1_I, c1_R, sh_0, sh_1, sh_2, sh_3, sh_4, true_and, and_true, ldA_A, ldB_B, ldS_S, stA_A, stB_B, aL_A, aL_B, aL_S, aC_A, hRd_eq, hRd_ne, cp6, cp8, tl_some, tl_none, List.cons_append, List.nil_append, ofI_t0, ofI_t1, Int.add_zero, Int.zero_add, x78_0, x78_1, x78_2]
  refine c_isP (by omega) c hB hx ?_
  by_cases q : 0 ≤ x ∧ x < P
  · rw [if_pos q]
    obtain ⟨e1, e2, e3, e4⟩ := c.c17
    have hlen := e2.len
    obtain ⟨gg, e2a, e2b⟩ := e2
    have e2 : Rw 18 S.1 h := ⟨gg, e2a, e2b⟩
    simp (disch := omega) only [wr_id, wr_m1, sd_t, nl_I, nl_R, nl_none, c1_I, c1_R, sh_0, sh_1, sh_2, sh_3, sh_4, true_and, and_true, ldA_A, ldB_B, ldS_S, stA_A, stB_B, aL_A, aL_B, aL_S, aC_A, hRd_eq, hRd_ne, cp6, cp8, tl_some, tl_none, List.cons_append, List.nil_append, ofI_t0, ofI_t1, Int.add_zero, Int.zero_add, x78_0, x78_1, x78_2, x78_3, x78_4, x78_5, x78_6, x78_7, x78_8, x78_9, x78_10, x78_11, x78_12, x78_13, x78_14, x78_15, x78_16, x78_17, x78_18, x78_19, x78_20, x78_21, x78_22, x78_23, x78_24, x78_25, x78_26, x78_27, x78_28, x78_29, x78_30, x78_31, x78_32, x78_33, x78_34, x78_35, x78_36, x78_37, x78_38, x78_39, x78_40, x78_41, x78_42, x78_43, x78_44, gf10_3, gf7_0, gf6_1, gf10_4, a1, e1, e2a]
    refine ⟨fun _ => ⟨fun z => k2 q.1 q.2 (by omega), fun z => ⟨fun z2 => ?_, fun z2 => k2 q.1 q.2 (by omega)⟩⟩, fun z => by omega⟩
    refine p_placeOf (by omega) e2 (by omega) (by omega) ?_
    simp (disch := omega) only [wr_id, wr_m1, sd_t, nl_I, nl_R, nl_none, c1_I, c1_R, sh_0, sh_1, sh_2, sh_3, sh_4, true_and, and_true, ldA_A, ldB_B, ldS_S, stA_A, stB_B, aL_A, aL_B, aL_S, aC_A, hRd_eq, hRd_ne, cp6, cp8, tl_some, tl_none, List.cons_append, List.nil_append, ofI_t0, ofI_t1, Int.add_zero, Int.zero_add, x78_0, x78_1, x78_2, x78_3, x78_4, x78_5, x78_6, x78_7, x78_8, x78_9, x78_10, x78_11, x78_12, x78_13, x78_14, x78_15, x78_16, x78_17, x78_18, x78_19, x78_20, x78_21, x78_22, x78_23, x78_24, x78_25, x78_26, x78_27, x78_28, x78_29, x78_30, x78_31, x78_32, x78_33, x78_34, x78_35, x78_36, x78_37, x78_38, x78_39, x78_40, x78_41, x78_42, x78_43, x78_44, gf10_3, gf7_0, gf6_1, gf10_4, a1, e1]
    refine ⟨fun z => ?_, fun z => k3 q.1 q.2 (by omega) (by omega) (by omega)⟩
    refine c_rem (by omega) c (fun h1 c1 o1 => ?_)
    have a11 := c1.w
    obtain ⟨f1, f2, f3, f4⟩ := c1.c17
    simp (disch := omega) only [wr_id, wr_m1, sd_t, nl_I, nl_R, nl_none, c1_I, c1_R, sh_0, sh_1, sh_2, sh_3, sh_4, true_and, and_true, ldA_A, ldB_B, ldS_S, stA_A, stB_B, aL_A, aL_B, aL_S, aC_A, hRd_eq, hRd_ne, cp6, cp8, tl_some, tl_none, List.cons_append, List.nil_append, ofI_t0, ofI_t1, Int.add_zero, Int.zero_add, x78_0, x78_1, x78_2, x78_3, x78_4, x78_5, x78_6, x78_7, x78_8, x78_9, x78_10, x78_11, x78_12, x78_13, x78_14, x78_15, x78_16, x78_17, x78_18, x78_19, x78_20, x78_21, x78_22, x78_23, x78_24, x78_25, x78_26, x78_27, x78_28, x78_29, x78_30, x78_31, x78_32, x78_33, x78_34, x78_35, x78_36, x78_37, x78_38, x78_39, x78_40, x78_41, x78_42, x78_43, x78_44, gf10_3, gf7_0, gf6_1, gf10_4, a11, f1]
    refine p_takeOut (by omega) f2 (by omega) (by omega) (fun h2 r2 o2 => ?_)
    have c2 := c1.stL r2 o2
    have a12 := c2.w
    obtain ⟨g1, g2, g3, g4⟩ := c2.c17
    have hol : (outL S.1 x).length = S.1.length - 1 := by
      unfold outL delL
      rw [if_neg z, List.length_eraseIdx, if_pos (by omega)]
    simp (disch := omega) only [wr_id, wr_m1, sd_t, nl_I, nl_R, nl_none, c1_I, c1_R, sh_0, sh_1, sh_2, sh_3, sh_4, true_and, and_true, ldA_A, ldB_B, ldS_S, stA_A, stB_B, aL_A, aL_B, aL_S, aC_A, hRd_eq, hRd_ne, cp6, cp8, tl_some, tl_none, List.cons_append, List.nil_append, ofI_t0, ofI_t1, Int.add_zero, Int.zero_add, x78_0, x78_1, x78_2, x78_3, x78_4, x78_5, x78_6, x78_7, x78_8, x78_9, x78_10, x78_11, x78_12, x78_13, x78_14, x78_15, x78_16, x78_17, x78_18, x78_19, x78_20, x78_21, x78_22, x78_23, x78_24, x78_25, x78_26, x78_27, x78_28, x78_29, x78_30, x78_31, x78_32, x78_33, x78_34, x78_35, x78_36, x78_37, x78_38, x78_39, x78_40, x78_41, x78_42, x78_43, x78_44, gf10_3, gf7_0, gf6_1, gf10_4, a12, g1]
    refine p_putIn (by omega) r2 (by omega) (by omega) (by omega) (by omega) (fun h3 r3 o3 => ?_)
    have c3 := c2.stL r3 o3
    simp (disch := omega) only [wr_id, wr_m1, sd_t, nl_I, nl_R, nl_none, c1_I, c1_R, sh_0, sh_1, sh_2, sh_3, sh_4, true_and, and_true, ldA_A, ldB_B, ldS_S, stA_A, stB_B, aL_A, aL_B, aL_S, aC_A, hRd_eq, hRd_ne, cp6, cp8, tl_some, tl_none, List.cons_append, List.nil_append, ofI_t0, ofI_t1, Int.add_zero, Int.zero_add, x78_0, x78_1, x78_2, x78_3, x78_4, x78_5, x78_6, x78_7, x78_8, x78_9, x78_10, x78_11, x78_12, x78_13, x78_14, x78_15, x78_16, x78_17, x78_18, x78_19, x78_20, x78_21, x78_22, x78_23, x78_24, x78_25, x78_26, x78_27, x78_28, x78_29, x78_30, x78_31, x78_32, x78_33, x78_34, x78_35, x78_36, x78_37, x78_38, x78_39, x78_40, x78_41, x78_42, x78_43, x78_44, gf10_3, gf7_0, gf6_1, gf10_4]
    exact k4 q.1 q.2 (by omega) (by omega) (by omega) h3 c3 (((o1.widen (by omega) (by omega)).trans (o2.widen (by omega) (by omega))).trans (o3.widen (by omega) (by omega)))
  · rw [if_neg q]
    simp (disch := omega) only [wr_id, wr_m1, sd_t, nl_I, nl_R, nl_none, c1_I, c1_R, sh_0, sh_1, sh_2, sh_3, sh_4, true_and, and_true, ldA_A, ldB_B, ldS_S, stA_A, stB_B, aL_A, aL_B, aL_S, aC_A, hRd_eq, hRd_ne, cp6, cp8, tl_some, tl_none, List.cons_append, List.nil_append, ofI_t0, ofI_t1, Int.add_zero, Int.zero_add, x78_0, x78_1, x78_2, x78_3, x78_4, x78_5, x78_6, x78_7, x78_8, x78_9, x78_10, x78_11, x78_12, x78_13, x78_14, x78_15, x78_16, x78_17, x78_18, x78_19, x78_20, x78_21, x78_22, x78_23, x78_24, x78_25, x78_26, x78_27, x78_28, x78_29, x78_30, x78_31, x78_32, x78_33, x78_34, x78_35, x78_36, x78_37, x78_38, x78_39, x78_40, x78_41, x78_42, x78_43, x78_44, gf10_3, gf7_0, gf6_1, gf10_4]
    exact ⟨fun z => by first | omega | exact absurd trivial z | exact absurd rfl z, fun _ => k1 q⟩
theorem c_eyes (hd : 5 ≤ d) (c : CI f n pl M P J wt tk bh S Hs kp sd im s ct ea la bt bj bm h) (hB : BD f n pl M P J wt tk bh S Hs kp sd im s ct ea la bt bj bm) (hx : -2147483648 ≤ x ∧ x ≤ 2147483647) (hy : -2147483648 ≤ y ∧ y ≤ 2147483647) (k1 : ¬ (0 ≤ x ∧ x < P) → Q (some (vI (-1000000001))) h) (k2 : 0 ≤ x → x < P → ∀ h1, CI f n pl M P J wt tk bh ((S.1, S.2.1, S.2.2.1, (if y = 0 then zand S.2.2.2.1 (zxor (zshl 1 x) (-1)) else zor S.2.2.2.1 (zshl 1 x)), S.2.2.2.2)) ((S :: Hs).take 20) kp sd im s ct ea la bt bj bm h1 → Out 1 155 h h1 → Q (some (vI (zand (zshr S.2.2.2.1 x) 1))) h1) : CALL d 79 [.ref 1, vI x, vI y] h Q := by
  have a1 := c.w
  have hP := hB.2.1.2.1
  refine cl79 (by omega) a1 ?_
  simp (disch := omega) only [wr_id, wr_m1, sd_t, nl_I, nl_R, nl_none, c1_I, c1_R, sh_0, sh_1, sh_2, sh_3, sh_4, true_and, and_true, ldA_A, ldB_B, ldS_S, stA_A, stB_B, aL_A, aL_B, aL_S, aC_A, hRd_eq, hRd_ne, cp6, cp8, tl_some, tl_none, List.cons_append, List.nil_append, ofI_t0, ofI_t1, Int.add_zero, Int.zero_add, x79_0, x79_1, x79_2]
  refine c_isP (by omega) c hB hx ?_
  by_cases q : 0 ≤ x ∧ x < P
  · rw [if_pos q]
    simp (disch := omega) only [wr_id, wr_m1, sd_t, nl_I, nl_R, nl_none, c1_I, c1_R, sh_0, sh_1, sh_2, sh_3, sh_4, true_and, and_true, ldA_A, ldB_B, ldS_S, stA_A, stB_B, aL_A, aL_B, aL_S, aC_A, hRd_eq, hRd_ne, cp6, cp8, tl_some, tl_none, List.cons_append, List.nil_append, ofI_t0, ofI_t1, Int.add_zero, Int.zero_add, x79_0, x79_1, x79_2, x79_3, x79_4, x79_5, x79_6, x79_7, x79_8, x79_9, x79_10, x79_11, x79_12, x79_13, x79_14, x79_15, x79_16, x79_17, x79_18, x79_19, x79_20, x79_21, x79_22, x79_23, x79_24, x79_25, x79_26, x79_27, x79_28, x79_29, x79_30, x79_31, x79_32, x79_33, x79_34, x79_35, x79_36, x79_37, x79_38, x79_39, x79_40, x79_41, x79_42, gf10_4, gf10_3, gf7_3, pf7_3, a1]
    refine ⟨fun _ => ?_, fun z => by omega⟩
    refine c_rem (by omega) c (fun h1 c1 o1 => ?_)
    have a11 := c1.w
    obtain ⟨f1, f2, f3, f4⟩ := c1.c17
    simp (disch := omega) only [wr_id, wr_m1, sd_t, nl_I, nl_R, nl_none, c1_I, c1_R, sh_0, sh_1, sh_2, sh_3, sh_4, true_and, and_true, ldA_A, ldB_B, ldS_S, stA_A, stB_B, aL_A, aL_B, aL_S, aC_A, hRd_eq, hRd_ne, cp6, cp8, tl_some, tl_none, List.cons_append, List.nil_append, ofI_t0, ofI_t1, Int.add_zero, Int.zero_add, x79_0, x79_1, x79_2, x79_3, x79_4, x79_5, x79_6, x79_7, x79_8, x79_9, x79_10, x79_11, x79_12, x79_13, x79_14, x79_15, x79_16, x79_17, x79_18, x79_19, x79_20, x79_21, x79_22, x79_23, x79_24, x79_25, x79_26, x79_27, x79_28, x79_29, x79_30, x79_31, x79_32, x79_33, x79_34, x79_35, x79_36, x79_37, x79_38, x79_39, x79_40, x79_41, x79_42, gf10_4, gf10_3, gf7_3, pf7_3, a11, f1]
    have hz := z_bit (zshr S.2.2.2.1 x) 1
    refine ⟨fun z => ?_, fun z => ?_⟩
    · rw [if_pos (by omega)] at k2
      exact k2 q.1 q.2 _ c1.stX ((o1.widen (by omega) (by omega)).wr (by omega) (by omega))
    · rw [if_neg (by omega)] at k2
      exact k2 q.1 q.2 _ c1.stX ((o1.widen (by omega) (by omega)).wr (by omega) (by omega))
  · rw [if_neg q]
    simp (disch := omega) only [wr_id, wr_m1, sd_t, nl_I, nl_R, nl_none, c1_I, c1_R, sh_0, sh_1, sh_2, sh_3, sh_4, true_and, and_true, ldA_A, ldB_B, ldS_S, stA_A, stB_B, aL_A, aL_B, aL_S, aC_A, hRd_eq, hRd_ne, cp6, cp8, tl_some, tl_none, List.cons_append, List.nil_append, ofI_t0, ofI_t1, Int.add_zero, Int.zero_add, x79_0, x79_1, x79_2, x79_3, x79_4, x79_5, x79_6, x79_7, x79_8, x79_9, x79_10, x79_11, x79_12, x79_13, x79_14, x79_15, x79_16, x79_17, x79_18, x79_19, x79_20, x79_21, x79_22, x79_23, x79_24, x79_25, x79_26, x79_27, x79_28, x79_29, x79_30, x79_31, x79_32, x79_33, x79_34, x79_35, x79_36, x79_37, x79_38, x79_39, x79_40, x79_41, x79_42, gf10_4, gf10_3, gf7_3, pf7_3]
    exact ⟨fun z => by first | omega | exact absurd trivial z | exact absurd rfl z, fun _ => k1 q⟩
theorem c_keep (hd : 5 ≤ d) (c : CI f n pl M P J wt tk bh S Hs kp sd im s ct ea la bt bj bm h) (hx : -2147483648 ≤ x ∧ x ≤ 2147483647) (k1 : ¬ (0 ≤ x ∧ x < 2) → Q (some (vI (-1000000001))) h) (k2 : 0 ≤ x → x < 2 → ∀ h1, CI f n pl M P J wt tk bh S ([]) (uA kp x 1) (uA sd x s) (uS im x S) s ct ea la bt bj bm h1 → Out 1 155 h h1 → Q (some (vI 1)) h1) : CALL d 97 [.ref 1, vI x] h Q := by
  have a1 := c.w
  have c0 := c
  obtain ⟨-, -, -, -, -, c6, -, c8, c9, -⟩ := c
  refine cl97 (by omega) a1 ?_
  simp (disch := omega) only [wr_id, wr_m1, sd_t, nl_I, nl_R, nl_none, c1_I, c1_R, sh_0, sh_1, sh_2, sh_3, sh_4, true_and, and_true, ldA_A, ldB_B, ldS_S, stA_A, stB_B, aL_A, aL_B, aL_S, aC_A, hRd_eq, hRd_ne, cp6, cp8, tl_some, tl_none, List.cons_append, List.nil_append, ofI_t0, ofI_t1, Int.add_zero, Int.zero_add, x97_0, x97_1, x97_2, x97_3, x97_4, x97_5, x97_6, x97_7, x97_8, x97_9, x97_10, x97_11, x97_12, x97_13, x97_14, x97_15, x97_16, x97_17, x97_18, x97_19, gf10_5, gf10_3, gf10_9, gf10_4, a1]
  refine ⟨fun z => k1 (by omega), fun z => ⟨fun z2 => ?_, fun z2 => k1 (by omega)⟩⟩
  refine s_store (by omega) c9 c6 (by omega) (by omega) (by omega) (fun h1 n1 o1 => ?_)
  have c1 := c0.sI o1 n1
  have a11 := c1.w
  simp (disch := omega) only [wr_id, wr_m1, sd_t, nl_I, nl_R, nl_none, c1_I, c1_R, sh_0, sh_1, sh_2, sh_3, sh_4, true_and, and_true, ldA_A, ldB_B, ldS_S, stA_A, stB_B, aL_A, aL_B, aL_S, aC_A, hRd_eq, hRd_ne, cp6, cp8, tl_some, tl_none, List.cons_append, List.nil_append, ofI_t0, ofI_t1, Int.add_zero, Int.zero_add, x97_0, x97_1, x97_2, x97_3, x97_4, x97_5, x97_6, x97_7, x97_8, x97_9, x97_10, x97_11, x97_12, x97_13, x97_14, x97_15, x97_16, x97_17, x97_18, x97_19, gf10_5, gf10_3, gf10_9, gf10_4, a11]
  refine s_hForget (by omega) (c8.out o1 (by omega)) (fun h2 n2 o2 => ?_)
  simp (disch := omega) only [wr_id, wr_m1, sd_t, nl_I, nl_R, nl_none, c1_I, c1_R, sh_0, sh_1, sh_2, sh_3, sh_4, true_and, and_true, ldA_A, ldB_B, ldS_S, stA_A, stB_B, aL_A, aL_B, aL_S, aC_A, hRd_eq, hRd_ne, cp6, cp8, tl_some, tl_none, List.cons_append, List.nil_append, ofI_t0, ofI_t1, Int.add_zero, Int.zero_add, x97_0, x97_1, x97_2, x97_3, x97_4, x97_5, x97_6, x97_7, x97_8, x97_9, x97_10, x97_11, x97_12, x97_13, x97_14, x97_15, x97_16, x97_17, x97_18, x97_19, gf10_5, gf10_3, gf10_9, gf10_4]
  exact k2 (by omega) (by omega) h2 (c1.sH (o2.widen (by omega) (by omega)) n2) ((o1.widen (by omega) (by omega)).trans (o2.widen (by omega) (by omega)))
theorem c_goBack (hd : 5 ≤ d) (c : CI f n pl M P J wt tk bh S Hs kp sd im s ct ea la bt bj bm h) (hx : -2147483648 ≤ x ∧ x ≤ 2147483647) (k1 : ¬ (0 ≤ x ∧ x < 2) → Q (some (vI (-1000000001))) h) (k2 : 0 ≤ x → x < 2 → kp x = 0 → Q (some (vI (-1000000003))) h) (k3 : 0 ≤ x → x < 2 → kp x = 1 → ∀ h1, CI f n pl M P J wt tk bh (im x) ([]) kp sd im (sd x) ct ea la bt bj bm h1 → Out 1 155 h h1 → Q (some (vI 1)) h1) : CALL d 98 [.ref 1, vI x] h Q := by
  have a1 := c.w
  have c0 := c
  obtain ⟨-, -, -, -, -, c6, -, c8, c9, -⟩ := c
  have c9' := c9
  obtain ⟨i1, i2, i3, i4, i5, i6⟩ := c9
  refine cl98 (by omega) a1 ?_
  have hk := i5 x
  by_cases q : ¬ (0 ≤ x ∧ x < 2)
  · simp (disch := omega) only [wr_id, wr_m1, sd_t, nl_I, nl_R, nl_none, c1_I, c1_R, sh_0, sh_1, sh_2, sh_3, sh_4, true_and, and_true, ldA_A, ldB_B, ldS_S, stA_A, stB_B, aL_A, aL_B, aL_S, aC_A, hRd_eq, hRd_ne, cp6, cp8, tl_some, tl_none, List.cons_append, List.nil_append, ofI_t0, ofI_t1, Int.add_zero, Int.zero_add, x98_0, x98_1, x98_2, x98_3, x98_4, x98_5, x98_6]
    exact ⟨fun _ => k1 q, fun z => ⟨fun z2 => by omega, fun _ => k1 q⟩⟩
  have hk := hk (by omega) (by omega)
  simp (disch := omega) only [wr_id, wr_m1, sd_t, nl_I, nl_R, nl_none, c1_I, c1_R, sh_0, sh_1, sh_2, sh_3, sh_4, true_and, and_true, ldA_A, ldB_B, ldS_S, stA_A, stB_B, aL_A, aL_B, aL_S, aC_A, hRd_eq, hRd_ne, cp6, cp8, tl_some, tl_none, List.cons_append, List.nil_append, ofI_t0, ofI_t1, Int.add_zero, Int.zero_add, x98_0, x98_1, x98_2, x98_3, x98_4, x98_5, x98_6, x98_7, x98_8, x98_9, x98_10, x98_11, x98_12, x98_13, x98_14, x98_15, x98_16, x98_17, x98_18, x98_19, x98_20, x98_21, x98_22, x98_23, x98_24, x98_25, x98_26, x98_27, x98_28, x98_29, x98_30, x98_31, x98_32, gf10_5, gf4_2, gf10_3, gf4_1, pf10_9, gf10_4, a1, i1, i4]
  refine ⟨fun z => k1 (by omega), fun z => ⟨fun z2 => ⟨⟨by omega, by omega⟩, fun z3 => ?_, fun z3 => k2 (by omega) (by omega) (by omega)⟩, fun z2 => k1 (by omega)⟩⟩
  refine s_restore (by omega) c9' c6 (by omega) (by omega) (by omega) (fun h1 n1 o1 => ?_)
  have c1 := c0.sS (o1.widen (by omega) (by omega)) n1
  have a11 := c1.w
  have i11 : hRd h1 127 = oImg 128 129 130 := by rw [o1.2.2 _ (by omega)]; exact i1
  have i31 : hRd h1 129 = cA 2 sd := by rw [o1.2.2 _ (by omega)]; exact i3
  simp (disch := omega) only [wr_id, wr_m1, sd_t, nl_I, nl_R, nl_none, c1_I, c1_R, sh_0, sh_1, sh_2, sh_3, sh_4, true_and, and_true, ldA_A, ldB_B, ldS_S, stA_A, stB_B, aL_A, aL_B, aL_S, aC_A, hRd_eq, hRd_ne, cp6, cp8, tl_some, tl_none, List.cons_append, List.nil_append, ofI_t0, ofI_t1, Int.add_zero, Int.zero_add, x98_0, x98_1, x98_2, x98_3, x98_4, x98_5, x98_6, x98_7, x98_8, x98_9, x98_10, x98_11, x98_12, x98_13, x98_14, x98_15, x98_16, x98_17, x98_18, x98_19, x98_20, x98_21, x98_22, x98_23, x98_24, x98_25, x98_26, x98_27, x98_28, x98_29, x98_30, x98_31, x98_32, gf10_5, gf4_2, gf10_3, gf4_1, pf10_9, gf10_4, a11, i11, i31]
  refine ⟨⟨by omega, by omega⟩, ?_⟩
  have o2 : Out 1 1 h1 (hWr h1 1 (tWake (sd x))) := Out.refl.wr (by omega) (by omega)
  have c2 := c1.s1 (s1 := sd x) o2 hRd_eq
  refine s_hForget (d := d - 1) (by omega) (c2.2.2.2.2.2.2.2.1) (fun h3 n3 o3 => ?_)
  simp (disch := omega) only [wr_id, wr_m1, sd_t, nl_I, nl_R, nl_none, c1_I, c1_R, sh_0, sh_1, sh_2, sh_3, sh_4, true_and, and_true, ldA_A, ldB_B, ldS_S, stA_A, stB_B, aL_A, aL_B, aL_S, aC_A, hRd_eq, hRd_ne, cp6, cp8, tl_some, tl_none, List.cons_append, List.nil_append, ofI_t0, ofI_t1, Int.add_zero, Int.zero_add, x98_0, x98_1, x98_2, x98_3, x98_4, x98_5, x98_6, x98_7, x98_8, x98_9, x98_10, x98_11, x98_12, x98_13, x98_14, x98_15, x98_16, x98_17, x98_18, x98_19, x98_20, x98_21, x98_22, x98_23, x98_24, x98_25, x98_26, x98_27, x98_28, x98_29, x98_30, x98_31, x98_32, gf10_5, gf4_2, gf10_3, gf4_1, pf10_9, gf10_4]
  exact k3 (by omega) (by omega) (by omega) h3 (c2.sH (o3.widen (by omega) (by omega)) n3) (((o1.widen (by omega) (by omega)).trans (o2.widen (by omega) (by omega))).trans (o3.widen (by omega) (by omega)))
theorem c_see (hd : 3 ≤ d) (c : CI f n pl M P J wt tk bh S Hs kp sd im s ct ea la bt bj bm h) (hB : BD f n pl M P J wt tk bh S Hs kp sd im s ct ea la bt bj bm) (hx : -2147483648 ≤ x ∧ x ≤ 2147483647) (hy : -2147483648 ≤ y ∧ y ≤ 2147483647) (k1 : ¬ ((0 ≤ x ∧ x < P) ∧ (0 ≤ y ∧ y < P) ∧ ¬ x = y) → Q (some (vI (-1000000001))) h) (k2 : (0 ≤ x ∧ x < P) → (0 ≤ y ∧ y < P) → ¬ x = y → ct = 6 → Q (some (vI (-1000000004))) h) (k3 : (0 ≤ x ∧ x < P) → (0 ≤ y ∧ y < P) → ¬ x = y → ct < 6 → ∀ h1, CI f n pl M P J wt tk bh S Hs kp sd im s (ct + 1) (uA ea ct x) (uA la ct y) bt bj bm h1 → Out 1 155 h h1 → Q (some (vI (ct + 1))) h1) : CALL d 90 [.ref 1, vI x, vI y] h Q := by
  have a1 := c.w
  have c0 := c
  have hct := hB.2.2.2.2.2.2.2.1
  obtain ⟨-, -, -, -, -, -, -, -, -, -, ⟨T, tot, su, pa, w1, w2, w3, w4, w5, w6, w7⟩, -⟩ := c
  refine cl90 (by omega) a1 ?_
  simp (disch := omega) only [wr_id, wr_m1, sd_t, nl_I, nl_R, nl_none, c1_I, c1_R, sh_0, sh_1, sh_2, sh_3, sh_4, true_and, and_true, ldA_A, ldB_B, ldS_S, stA_A, stB_B, aL_A, aL_B, aL_S, aC_A, hRd_eq, hRd_ne, cp6, cp8, tl_some, tl_none, List.cons_append, List.nil_append, ofI_t0, ofI_t1, Int.add_zero, Int.zero_add, x90_0, x90_1, x90_2]
  refine c_isP (by omega) c0 hB hx ?_
  by_cases q : 0 ≤ x ∧ x < P
  · rw [if_pos q]
    simp (disch := omega) only [wr_id, wr_m1, sd_t, nl_I, nl_R, nl_none, c1_I, c1_R, sh_0, sh_1, sh_2, sh_3, sh_4, true_and, and_true, ldA_A, ldB_B, ldS_S, stA_A, stB_B, aL_A, aL_B, aL_S, aC_A, hRd_eq, hRd_ne, cp6, cp8, tl_some, tl_none, List.cons_append, List.nil_append, ofI_t0, ofI_t1, Int.add_zero, Int.zero_add, x90_3, x90_4, x90_5, x90_6]
    refine ⟨fun z => by omega, fun _ => ?_⟩
    refine c_isP (by omega) c0 hB hy ?_
    by_cases q2 : 0 ≤ y ∧ y < P
    · rw [if_pos q2]
      simp (disch := omega) only [wr_id, wr_m1, sd_t, nl_I, nl_R, nl_none, c1_I, c1_R, sh_0, sh_1, sh_2, sh_3, sh_4, true_and, and_true, ldA_A, ldB_B, ldS_S, stA_A, stB_B, aL_A, aL_B, aL_S, aC_A, hRd_eq, hRd_ne, cp6, cp8, tl_some, tl_none, List.cons_append, List.nil_append, ofI_t0, ofI_t1, Int.add_zero, Int.zero_add, x90_0, x90_1, x90_2, x90_3, x90_4, x90_5, x90_6, x90_7, x90_8, x90_9, x90_10, x90_11, x90_12, x90_13, x90_14, x90_15, x90_16, x90_17, x90_18, x90_19, x90_20, x90_21, x90_22, x90_23, x90_24, gf10_7, gf9_2, a1]
      refine ⟨fun z => by omega, fun _ => ⟨fun z => ?_, fun z => k1 (fun z2 => z2.2.2 (by omega))⟩⟩
      refine s_winApp (tt := 0) (by omega) w1 w2 w3 hct (fun e => ?_) (fun e => ?_)
      · simp (disch := omega) only [wr_id, wr_m1, sd_t, nl_I, nl_R, nl_none, c1_I, c1_R, sh_0, sh_1, sh_2, sh_3, sh_4, true_and, and_true, ldA_A, ldB_B, ldS_S, stA_A, stB_B, aL_A, aL_B, aL_S, aC_A, hRd_eq, hRd_ne, cp6, cp8, tl_some, tl_none, List.cons_append, List.nil_append, ofI_t0, ofI_t1, Int.add_zero, Int.zero_add, x90_0, x90_1, x90_2, x90_3, x90_4, x90_5, x90_6, x90_7, x90_8, x90_9, x90_10, x90_11, x90_12, x90_13, x90_14, x90_15, x90_16, x90_17, x90_18, x90_19, x90_20, x90_21, x90_22, x90_23, x90_24, gf10_7, gf9_2]
        exact ⟨fun _ => k2 q q2 z e, fun z => by first | omega | exact absurd trivial z | exact absurd rfl z⟩
      · have o1 : Out 146 152 h (hWr (hWr (hWr h 146 (oWin 147 148 (ct + 1) 149 tot 151 152)) 147 (cA 6 (uA ea ct x))) 148 (cA 6 (uA la ct y))) := ((Out.refl.wr (by omega) (by omega)).wr (by omega) (by omega)).wr (by omega) (by omega)
        have o2 : Out 146 148 h (hWr (hWr (hWr h 146 (oWin 147 148 (ct + 1) 149 tot 151 152)) 147 (cA 6 (uA ea ct x))) 148 (cA 6 (uA la ct y))) := ((Out.refl.wr (by omega) (by omega)).wr (by omega) (by omega)).wr (by omega) (by omega)
        have e1 : hRd (hWr (hWr (hWr h 146 (oWin 147 148 (ct + 1) 149 tot 151 152)) 147 (cA 6 (uA ea ct x))) 148 (cA 6 (uA la ct y))) 146 = oWin 147 148 (ct + 1) 149 tot 151 152 := by rw [hRd_ne (by omega), hRd_ne (by omega), hRd_eq]
        have c1 := c0.sW (T1 := T) (tot1 := tot) (su1 := su) (pa1 := pa) o1 ⟨e1, by rw [hRd_ne (by omega), hRd_eq], hRd_eq, w4.out o2 (by omega), by rw [o2.2.2 _ (by omega)]; exact w5, by rw [o2.2.2 _ (by omega)]; exact w6, w7.out o2 (by omega)⟩
        have a12 := c1.w
        simp (disch := omega) only [wr_id, wr_m1, sd_t, nl_I, nl_R, nl_none, c1_I, c1_R, sh_0, sh_1, sh_2, sh_3, sh_4, true_and, and_true, ldA_A, ldB_B, ldS_S, stA_A, stB_B, aL_A, aL_B, aL_S, aC_A, hRd_eq, hRd_ne, cp6, cp8, tl_some, tl_none, List.cons_append, List.nil_append, ofI_t0, ofI_t1, Int.add_zero, Int.zero_add, x90_18, x90_19, x90_20, x90_21, x90_22, x90_24, gf10_7, gf9_2, a1]
        exact ⟨fun z => by first | omega | exact absurd rfl z, fun _ => k3 q q2 z e _ c1 (o1.widen (by omega) (by omega))⟩
    · rw [if_neg q2]
      simp (disch := omega) only [wr_id, wr_m1, sd_t, nl_I, nl_R, nl_none, c1_I, c1_R, sh_0, sh_1, sh_2, sh_3, sh_4, true_and, and_true, ldA_A, ldB_B, ldS_S, stA_A, stB_B, aL_A, aL_B, aL_S, aC_A, hRd_eq, hRd_ne, cp6, cp8, tl_some, tl_none, List.cons_append, List.nil_append, ofI_t0, ofI_t1, Int.add_zero, Int.zero_add, x90_0, x90_1, x90_2, x90_3, x90_4, x90_5, x90_6, x90_7, x90_8, x90_9, x90_10, x90_11, x90_12, x90_13, x90_14, x90_15, x90_16, x90_17, x90_18, x90_19, x90_20, x90_21, x90_22, x90_23, x90_24, gf10_7, gf9_2]
      exact ⟨fun _ => k1 (fun z => q2 z.2.1), fun z => by first | omega | exact absurd trivial z | exact absurd rfl z⟩
  · rw [if_neg q]
    simp (disch := omega) only [wr_id, wr_m1, sd_t, nl_I, nl_R, nl_none, c1_I, c1_R, sh_0, sh_1, sh_2, sh_3, sh_4, true_and, and_true, ldA_A, ldB_B, ldS_S, stA_A, stB_B, aL_A, aL_B, aL_S, aC_A, hRd_eq, hRd_ne, cp6, cp8, tl_some, tl_none, List.cons_append, List.nil_append, ofI_t0, ofI_t1, Int.add_zero, Int.zero_add, x90_0, x90_1, x90_2, x90_3, x90_4, x90_5, x90_6, x90_7, x90_8, x90_9, x90_10, x90_11, x90_12, x90_13, x90_14, x90_15, x90_16, x90_17, x90_18, x90_19, x90_20, x90_21, x90_22, x90_23, x90_24, gf10_7, gf9_2]
    exact ⟨fun _ => k1 (fun z => q z.1), fun z => by first | omega | exact absurd trivial z | exact absurd rfl z⟩
theorem c_undo0 (hd : 3 ≤ d) (c : CI f n pl M P J wt tk bh S ([]) kp sd im s ct ea la bt bj bm h) (kk : Q (some (vI (-1000000003))) h) : CALL d 84 [.ref 1] h Q := by
  have a1 := c.w
  refine cl84 (by omega) a1 ?_
  simp (disch := omega) only [wr_id, wr_m1, sd_t, nl_I, nl_R, nl_none, c1_I, c1_R, sh_0, sh_1, sh_2, sh_3, sh_4, true_and, and_true, ldA_A, ldB_B, ldS_S, stA_A, stB_B, aL_A, aL_B, aL_S, aC_A, hRd_eq, hRd_ne, cp6, cp8, tl_some, tl_none, List.cons_append, List.nil_append, ofI_t0, ofI_t1, Int.add_zero, Int.zero_add, x84_0, x84_1, x84_2, x84_3, x84_4, x84_5, x84_6, x84_7, x84_8, x84_9, x84_10, x84_11, gf10_4, gf10_3, gf3_2, a1]
  refine s_takeBack0 (by omega) c.2.2.2.2.2.2.2.1 ?_
  simp (disch := omega) only [wr_id, wr_m1, sd_t, nl_I, nl_R, nl_none, c1_I, c1_R, sh_0, sh_1, sh_2, sh_3, sh_4, true_and, and_true, ldA_A, ldB_B, ldS_S, stA_A, stB_B, aL_A, aL_B, aL_S, aC_A, hRd_eq, hRd_ne, cp6, cp8, tl_some, tl_none, List.cons_append, List.nil_append, ofI_t0, ofI_t1, Int.add_zero, Int.zero_add, x84_0, x84_1, x84_2, x84_3, x84_4, x84_5, x84_6, x84_7, x84_8, x84_9, x84_10, x84_11, gf10_4, gf10_3, gf3_2]
  exact ⟨fun _ => kk, fun z => by first | omega | exact absurd trivial z | exact absurd rfl z⟩
theorem c_undo {S1 : SS} {H1 : List SS} (hd : 5 ≤ d) (c : CI f n pl M P J wt tk bh S (S1 :: H1) kp sd im s ct ea la bt bj bm h) (kk : ∀ h1, CI f n pl M P J wt tk bh (S1) (H1) kp sd im s ct ea la bt bj bm h1 → Out 1 155 h h1 → Q (some (vI H1.length)) h1) : CALL d 84 [.ref 1] h Q := by
  have a1 := c.w
  refine cl84 (by omega) a1 ?_
  simp (disch := omega) only [wr_id, wr_m1, sd_t, nl_I, nl_R, nl_none, c1_I, c1_R, sh_0, sh_1, sh_2, sh_3, sh_4, true_and, and_true, ldA_A, ldB_B, ldS_S, stA_A, stB_B, aL_A, aL_B, aL_S, aC_A, hRd_eq, hRd_ne, cp6, cp8, tl_some, tl_none, List.cons_append, List.nil_append, ofI_t0, ofI_t1, Int.add_zero, Int.zero_add, x84_0, x84_1, x84_2, x84_3, x84_4, x84_5, x84_6, x84_7, x84_8, x84_9, x84_10, x84_11, gf10_4, gf10_3, gf3_2, a1]
  refine s_takeBack (by omega) c.2.2.2.2.2.2.2.1 c.2.2.2.2.2.1 (by omega) (fun h1 h2 n1 n2 o1 o2 => ?_)
  have o3 : Out 1 155 h h2 := (o1.widen (by omega) (by omega)).trans (o2.widen (by omega) (by omega))
  have a12 : hRd h2 1 = oWake 2 10 11 17 25 127 141 146 153 s := by rw [o2.2.2 _ (by omega), o1.2.2 _ (by omega)]; exact a1
  have n0 : HiAt H1 h1 := n1.agree (fun q hq => (o2.2.2 q (by omega)).symm)
  obtain ⟨nx, t1, t2⟩ := n1
  simp (disch := omega) only [wr_id, wr_m1, sd_t, nl_I, nl_R, nl_none, c1_I, c1_R, sh_0, sh_1, sh_2, sh_3, sh_4, true_and, and_true, ldA_A, ldB_B, ldS_S, stA_A, stB_B, aL_A, aL_B, aL_S, aC_A, hRd_eq, hRd_ne, cp6, cp8, tl_some, tl_none, List.cons_append, List.nil_append, ofI_t0, ofI_t1, Int.add_zero, Int.zero_add, x84_0, x84_1, x84_2, x84_3, x84_4, x84_5, x84_6, x84_7, x84_8, x84_9, x84_10, x84_11, gf10_4, gf10_3, gf3_2, a12, t1]
  exact ⟨fun z => by omega, fun _ => kk h2 ((c.sH o1 n0).sS (o2.widen (by omega) (by omega)) n2) o3⟩
end
