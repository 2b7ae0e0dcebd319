-- THE CLASS'S OWN METHODS: drift, sleep, what is told
section
variable {d : Nat} {f wt tk bh kp sd ea la bj bm : Int → Int} {n pl M P J s ct bt : Int} {S : SS} {Hs : List SS} {im : Int → SS} {h : LHeap} {Q : Option Value → LHeap → Prop} {x y x1 x2 : Int}
theorem drNF_b {M P : Int} (hM : 0 < M) : ∀ (n : Nat) (s : Int) (w : Int → Int), 0 ≤ s ∧ s ≤ 2147483647 → 0 ≤ (drNF M P n s w).2 ∧ (drNF M P n s w).2 ≤ 2147483647 := by
  intro n
  induction n with
  | zero => intro s w h; exact h
  | succ n ih =>
    intro s w h
    rw [drNF]
    exact ih _ _ (drMF_b hM _ _ _ _ h)
theorem l_drift (hd : 4 ≤ d) (hM : 0 < M ∧ M ≤ 999) (hP : 0 ≤ P ∧ P ≤ 6) (hx : x ≤ 40) : ∀ (m : Nat) (k s : Int) (w : Int → Int) (h : LHeap), (m : Int) = x - k → 0 ≤ k → 0 ≤ s ∧ s ≤ 2147483647 → CI f n pl M P J wt tk bh ((S.1, w, S.2.2)) Hs kp sd im s ct ea la bt bj bm h → (∀ h1, CI f n pl M P J wt tk bh ((S.1, (drNF M P m s w).1, S.2.2)) Hs kp sd im ((drNF M P m s w).2) ct ea la bt bj bm h1 → Out 1 155 h h1 → WP d 83 36 [some (.ref 1), some (vI x), some (vI x)] [] h1 Q) → WPC d 83 29 [some (.ref 1), some (vI x), some (vI k)] [] h Q := by
  intro m
  induction m with
  | zero =>
    intro k s w h hn hk hs c kk
    have : k = x := by omega
    subst this
    rw [WPC_iff]
    simp (disch := omega) only [wr_id, wr_m1, sd_t, nl_I, nl_R, nl_none, c1_I, c1_R, sh_0, sh_1, sh_2, sh_3, sh_4, true_and, and_true, ldA_A, ldB_B, ldS_S, stA_A, stB_B, aL_A, aL_B, aL_S, aC_A, hRd_eq, hRd_ne, cp6, cp8, tl_some, tl_none, List.cons_append, List.nil_append, ofI_t0, ofI_t1, Int.add_zero, Int.zero_add, x83_29, x83_30, x83_31]
    exact ⟨fun _ => kk h c Out.refl, fun z => by first | omega | exact absurd (by omega) z⟩
  | succ m ih =>
    intro k s w h hn hk hs c kk
    rw [drNF] at kk
    have hb := drMF_b hM.1 P.toNat 0 s w hs
    obtain ⟨wk0, dr0, c5⟩ := c.2.2.2.2.1
    rw [WPC_iff]
    simp (disch := omega) only [wr_id, wr_m1, sd_t, nl_I, nl_R, nl_none, c1_I, c1_R, sh_0, sh_1, sh_2, sh_3, sh_4, true_and, and_true, ldA_A, ldB_B, ldS_S, stA_A, stB_B, aL_A, aL_B, aL_S, aC_A, hRd_eq, hRd_ne, cp6, cp8, tl_some, tl_none, List.cons_append, List.nil_append, ofI_t0, ofI_t1, Int.add_zero, Int.zero_add, x83_29, x83_30, x83_31, x83_32, x83_33]
    refine ⟨fun z => by omega, fun _ => ?_⟩
    refine s_drawM (S := (S.1, w, S.2.2)) (m := 0) (by omega) c.1 c5 c.2.2.2.2.2.1 hM hP hs ?_
    have o1 : Out 1 1 h (hWr h 1 (tWake (drMF M P.toNat 0 s w).2)) := Out.refl.wr (by omega) (by omega)
    have c1 := (c.s1 o1 hRd_eq).stW (w := (drMF M P.toNat 0 s w).1)
    simp (disch := omega) only [wr_id, wr_m1, sd_t, nl_I, nl_R, nl_none, c1_I, c1_R, sh_0, sh_1, sh_2, sh_3, sh_4, true_and, and_true, ldA_A, ldB_B, ldS_S, stA_A, stB_B, aL_A, aL_B, aL_S, aC_A, hRd_eq, hRd_ne, cp6, cp8, tl_some, tl_none, List.cons_append, List.nil_append, ofI_t0, ofI_t1, Int.add_zero, Int.zero_add, x83_34, x83_35, x83_28]
    exact ih (k + 1) _ _ _ (by omega) (by omega) hb c1 (fun h1 c2 o2 => kk h1 c2 (((o1.widen (by omega) (by omega)).wr (by omega) (by omega)).trans o2))
theorem c_drift (hd : 5 ≤ d) (c : CI f n pl M P J wt tk bh S Hs kp sd im s ct ea la bt bj bm h) (hB : BD f n pl M P J wt tk bh S Hs kp sd im s ct ea la bt bj bm) (hx : -2147483648 ≤ x ∧ x ≤ 2147483647) (k1 : ¬ (1 ≤ x ∧ x ≤ 40) → Q (some (vI (-1000000002))) h) (k2 : 1 ≤ x → x ≤ 40 → M = 0 → Q (some (vI (-1000000003))) h) (k3 : 1 ≤ x → x ≤ 40 → ¬ M = 0 → 9000 < S.2.2.2.2 → Q (some (vI (-1000000004))) h) (k4 : 1 ≤ x → x ≤ 40 → ¬ M = 0 → S.2.2.2.2 ≤ 9000 → ∀ h1, CI f n pl M P J wt tk bh ((S.1, (drNF M P x.toNat s S.2.1).1, S.2.2.1, S.2.2.2.1, S.2.2.2.2 + x)) ((S :: Hs).take 20) kp sd im ((drNF M P x.toNat s S.2.1).2) ct ea la bt bj bm h1 → Out 1 155 h h1 → Q (some (vI (S.2.2.2.2 + x))) h1) : CALL d 83 [.ref 1, vI x] h Q := by
  have a1 := c.w
  have hM := hB.2.1.1
  have hP := hB.2.1.2.1
  have hs := hB.2.2.2.2.2.2.1
  have hmo := hB.2.2.1.2.2.2.2.2
  obtain ⟨wk0, dr0, c5, -⟩ := c.2.2.2.2.1
  obtain ⟨e1, -⟩ := c.c17
  refine cl83 (by omega) a1 ?_
  simp (disch := omega) only [wr_id, wr_m1, sd_t, nl_I, nl_R, nl_none, c1_I, c1_R, sh_0, sh_1, sh_2, sh_3, sh_4, true_and, and_true, ldA_A, ldB_B, ldS_S, stA_A, stB_B, aL_A, aL_B, aL_S, aC_A, hRd_eq, hRd_ne, cp6, cp8, tl_some, tl_none, List.cons_append, List.nil_append, ofI_t0, ofI_t1, Int.add_zero, Int.zero_add, x83_0, x83_1, x83_2, x83_3, x83_4, x83_5, x83_6, x83_7, x83_8, x83_9, x83_10, x83_11, x83_12, x83_13, x83_14, x83_15, x83_16, x83_17, x83_18, x83_19, x83_20, x83_21, x83_22, x83_23, x83_24, x83_25, gf10_3, gf10_4, gf2_0, gf7_4, gf10_2, a1, c5, e1]
  refine ⟨fun z => k1 (by omega), fun z => ⟨fun z2 => ⟨fun z3 => ⟨fun z4 => ?_, fun z4 => k3 (by omega) (by omega) z3 (by omega)⟩, fun z3 => k2 (by omega) (by omega) (by omega)⟩, fun z2 => k1 (by omega)⟩⟩
  refine c_rem (by omega) c (fun h1 c1 o1 => ?_)
  simp (disch := omega) only [wr_id, wr_m1, sd_t, nl_I, nl_R, nl_none, c1_I, c1_R, sh_0, sh_1, sh_2, sh_3, sh_4, true_and, and_true, ldA_A, ldB_B, ldS_S, stA_A, stB_B, aL_A, aL_B, aL_S, aC_A, hRd_eq, hRd_ne, cp6, cp8, tl_some, tl_none, List.cons_append, List.nil_append, ofI_t0, ofI_t1, Int.add_zero, Int.zero_add, x83_26, x83_27, x83_28]
  refine l_drift (S := S) (by omega) ⟨by omega, by omega⟩ hP z2 x.toNat 0 s S.2.1 h1 (by omega) (by omega) hs c1 (fun h2 c2 o2 => ?_)
  have a12 := c2.w
  have e2 := c2.c17.1
  simp (disch := omega) only [wr_id, wr_m1, sd_t, nl_I, nl_R, nl_none, c1_I, c1_R, sh_0, sh_1, sh_2, sh_3, sh_4, true_and, and_true, ldA_A, ldB_B, ldS_S, stA_A, stB_B, aL_A, aL_B, aL_S, aC_A, hRd_eq, hRd_ne, cp6, cp8, tl_some, tl_none, List.cons_append, List.nil_append, ofI_t0, ofI_t1, Int.add_zero, Int.zero_add, x83_36, x83_37, x83_38, x83_39, x83_40, x83_41, x83_42, x83_43, x83_44, x83_45, x83_46, gf10_3, gf7_4, pf7_4, a12, e2]
  exact k4 (by omega) (by omega) z3 (by omega) _ c2.stX (((o1.widen (by omega) (by omega)).trans o2).wr (by omega) (by omega))
theorem l_sleeps (hy : 0 ≤ y ∧ y ≤ 100) (hx : 0 ≤ x ∧ x ≤ 60) : ∀ (m : Nat) (k o : Int), (m : Int) = x - k → 0 ≤ k → Q (some (vI (odF y m o))) h → WPC d 89 17 [some (.ref 1), some (vI x), some (vI y), some (vL o), none, some (vI k)] [] h Q := by
  intro m
  induction m with
  | zero =>
    intro k o hn hk kk
    rw [WPC_iff]
    simp (disch := omega) only [wr_id, wr_m1, sd_t, nl_I, nl_R, nl_none, c1_I, c1_R, sh_0, sh_1, sh_2, sh_3, sh_4, true_and, and_true, ldA_A, ldB_B, ldS_S, stA_A, stB_B, aL_A, aL_B, aL_S, aC_A, hRd_eq, hRd_ne, cp6, cp8, tl_some, tl_none, List.cons_append, List.nil_append, ofI_t0, ofI_t1, Int.add_zero, Int.zero_add, x89_17, x89_18, x89_19, x89_31, x89_32, x89_33]
    exact ⟨fun _ => kk, fun z => by first | omega | exact absurd (by omega) z⟩
  | succ m ih =>
    intro k o hn hk kk
    rw [odF] at kk
    have h100 : ¬ wl 100 = 0 := by rw [wl_id (by omega) (by omega)]; omega
    rw [WPC_iff]
    simp (disch := omega) only [wr_id, wr_m1, sd_t, nl_I, nl_R, nl_none, c1_I, c1_R, sh_0, sh_1, sh_2, sh_3, sh_4, true_and, and_true, ldA_A, ldB_B, ldS_S, stA_A, stB_B, aL_A, aL_B, aL_S, aC_A, hRd_eq, hRd_ne, cp6, cp8, tl_some, tl_none, List.cons_append, List.nil_append, ofI_t0, ofI_t1, Int.add_zero, Int.zero_add, x89_17, x89_18, x89_19, x89_20, x89_21, x89_22, x89_23, x89_24, x89_25, x89_26, x89_27, x89_28, x89_29, x89_30, x89_16, h100, not_false_eq_true]
    exact ⟨fun z => by omega, fun _ => ih (k + 1) _ (by omega) (by omega) kk⟩
theorem c_sleeps (hd : 2 ≤ d) (c : CI f n pl M P J wt tk bh S Hs kp sd im s ct ea la bt bj bm h) (hx : -2147483648 ≤ x ∧ x ≤ 2147483647) (hy : -2147483648 ≤ y ∧ y ≤ 2147483647) (k1 : ¬ ((0 ≤ x ∧ x ≤ 60) ∧ 0 ≤ y ∧ y ≤ 100) → Q (some (vI (-1000000002))) h) (k2 : (0 ≤ x ∧ x ≤ 60) → (0 ≤ y ∧ y ≤ 100) → Q (some (vI (odF y x.toNat 1000000000))) h) : CALL d 89 [.ref 1, vI x, vI y] h Q := by
  have a1 := c.w
  refine cl89 (by omega) a1 ?_
  simp (disch := omega) only [wr_id, wr_m1, sd_t, nl_I, nl_R, nl_none, c1_I, c1_R, sh_0, sh_1, sh_2, sh_3, sh_4, true_and, and_true, ldA_A, ldB_B, ldS_S, stA_A, stB_B, aL_A, aL_B, aL_S, aC_A, hRd_eq, hRd_ne, cp6, cp8, tl_some, tl_none, List.cons_append, List.nil_append, ofI_t0, ofI_t1, Int.add_zero, Int.zero_add, x89_0, x89_1, x89_2, x89_3, x89_4, x89_5, x89_6, x89_7, x89_8, x89_9, x89_10, x89_11, x89_12, x89_13, x89_14, x89_15, x89_16]
  refine ⟨fun z => k1 (by omega), fun z => ⟨fun z2 => k1 (by omega), fun z2 => ⟨fun z3 => k1 (by omega), fun z3 => ⟨fun z4 => ?_, fun z4 => k1 (by omega)⟩⟩⟩⟩
  exact l_sleeps (by omega) (by omega) x.toNat 0 _ (by omega) (by omega) (k2 (by omega) (by omega))
end
