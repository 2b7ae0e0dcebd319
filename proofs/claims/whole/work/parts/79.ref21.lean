-- THE REFERENCE: drift
section
variable {d : Nat} {Q : Option Value → LHeap → Prop} {M P x : Int}
theorem l_dr1 {l2 : Option Value} {kk2 : Int} (hd : 1 ≤ d) (hM : 0 < M ∧ M ≤ 999) (hP : 0 ≤ P ∧ P ≤ 6) : ∀ (m : Nat) (p s : Int) (w g1 : Int → Int) (zz : Nat → Int) (h : LHeap), (m : Int) = P - p → 0 ≤ p → zz 0 = M → zz 1 = P → zz 7 = s → 0 ≤ s ∧ s ≤ 2147483647 → hRd h 156 = oM zz → hRd h 160 = cA 24 g1 → (∀ i, 0 ≤ i → i < P → g1 (17 + i) = w i) → (∀ (h1 : LHeap) (g2 : Int → Int) (zq : Nat → Int) (p1 : Int), hRd h1 156 = oM zq → (∀ i, ¬ i = 7 → zq i = zz i) → zq 7 = (drMF M m p s w).2 → hRd h1 160 = cA 24 g2 → (∀ i, ¬ (17 ≤ i ∧ i < 17 + P) → g2 i = g1 i) → (∀ i, 0 ≤ i → i < P → g2 (17 + i) = (drMF M m p s w).1 i) → h1.1 = h.1 → h1.2.1 = h.2.1 → (∀ a, ¬ (a = 156 ∨ a = 160) → hRd h1 a = hRd h a) → WP d 150 48 [some (.ref 156), some (vI x), some (vI kk2), some (vI p1)] [] h1 Q) → WPC d 150 32 [some (.ref 156), some (vI x), some (vI kk2), some (vI p)] [] h Q := by
  intro m
  induction m with
  | zero =>
    intro p s w g1 zz h hm hp hz0 hz1 hz7 hs h1 hg hw kk
    rw [WPC_iff]
    simp (disch := omega) only [wr_id, wr_m1, sd_t, nl_I, nl_R, nl_none, c1_I, c1_R, sh_0, sh_1, sh_2, sh_3, sh_4, true_and, and_true, ldA_A, ldB_B, ldS_S, stA_A, stB_B, aL_A, aL_B, aL_S, aC_A, hRd_eq, hRd_ne, cp6, cp8, tl_some, tl_none, List.cons_append, List.nil_append, ofI_t0, ofI_t1, Int.add_zero, Int.zero_add, x150_32, x150_33, x150_34, x150_35, gf11_0, pf11_0, gf11_1, pf11_1, gf11_2, pf11_2, gf11_3, gf11_4, gf11_5, gf11_6, gf11_7, pf11_7, gf11_8, gf11_9, pf11_9, gf11_10, pf11_10, gf11_11, pf11_11, gf11_12, pf11_12, gf11_13, pf11_13, gf11_14, gf11_15, pf11_15, gf11_16, gf11_17, pf11_17, gf11_18, gf11_19, gf11_20, gf11_21, gf11_22, gf11_23, gf11_24, pf11_24, gf11_25, gf11_26, gf11_27, gf11_28, pf11_28, gf11_29, pf11_29, gf11_30, gf11_31, gf11_32, pf11_32, gf11_33, gf11_34, gf11_35, pf11_35, gf11_36, gf11_37, gf11_38, gf11_39, uN_eq, uN_ne, h1]
    exact ⟨fun _ => kk h g1 zz p h1 (fun _ _ => rfl) hz7 hg (fun _ _ => rfl) hw rfl rfl (fun _ _ => rfl), fun q => by omega⟩
  | succ m ih =>
    intro p s w g1 zz h hm hp hz0 hz1 hz7 hs h1 hg hw kk
    have hnb := nxS_b s
    rw [drMF] at kk
    rw [WPC_iff]
    simp (disch := omega) only [wr_id, wr_m1, sd_t, nl_I, nl_R, nl_none, c1_I, c1_R, sh_0, sh_1, sh_2, sh_3, sh_4, true_and, and_true, ldA_A, ldB_B, ldS_S, stA_A, stB_B, aL_A, aL_B, aL_S, aC_A, hRd_eq, hRd_ne, cp6, cp8, tl_some, tl_none, List.cons_append, List.nil_append, ofI_t0, ofI_t1, Int.add_zero, Int.zero_add, x150_32, x150_33, x150_34, x150_35, x150_36, x150_37, x150_38, x150_39, x150_40, x150_41, x150_42, x150_43, x150_44, gf11_0, pf11_0, gf11_1, pf11_1, gf11_2, pf11_2, gf11_3, gf11_4, gf11_5, gf11_6, gf11_7, pf11_7, gf11_8, gf11_9, pf11_9, gf11_10, pf11_10, gf11_11, pf11_11, gf11_12, pf11_12, gf11_13, pf11_13, gf11_14, gf11_15, pf11_15, gf11_16, gf11_17, pf11_17, gf11_18, gf11_19, gf11_20, gf11_21, gf11_22, gf11_23, gf11_24, pf11_24, gf11_25, gf11_26, gf11_27, gf11_28, pf11_28, gf11_29, pf11_29, gf11_30, gf11_31, gf11_32, pf11_32, gf11_33, gf11_34, gf11_35, pf11_35, gf11_36, gf11_37, gf11_38, gf11_39, uN_eq, uN_ne, h1, hz0]
    refine ⟨fun q => by omega, fun _ => ?_⟩
    refine m_draw hd h1 (by omega) hM ?_
    rw [hz7]
    simp (disch := omega) only [wr_id, wr_m1, sd_t, nl_I, nl_R, nl_none, c1_I, c1_R, sh_0, sh_1, sh_2, sh_3, sh_4, true_and, and_true, ldA_A, ldB_B, ldS_S, stA_A, stB_B, aL_A, aL_B, aL_S, aC_A, hRd_eq, hRd_ne, cp6, cp8, tl_some, tl_none, List.cons_append, List.nil_append, ofI_t0, ofI_t1, Int.add_zero, Int.zero_add, x150_31, x150_45, x150_46, x150_47, gf11_0, pf11_0, gf11_1, pf11_1, gf11_2, pf11_2, gf11_3, gf11_4, gf11_5, gf11_6, gf11_7, pf11_7, gf11_8, gf11_9, pf11_9, gf11_10, pf11_10, gf11_11, pf11_11, gf11_12, pf11_12, gf11_13, pf11_13, gf11_14, gf11_15, pf11_15, gf11_16, gf11_17, pf11_17, gf11_18, gf11_19, gf11_20, gf11_21, gf11_22, gf11_23, gf11_24, pf11_24, gf11_25, gf11_26, gf11_27, gf11_28, pf11_28, gf11_29, pf11_29, gf11_30, gf11_31, gf11_32, pf11_32, gf11_33, gf11_34, gf11_35, pf11_35, gf11_36, gf11_37, gf11_38, gf11_39, uN_eq, uN_ne, hg]
    refine ⟨by omega, ?_⟩
    refine ih (p + 1) (nxS s) (uA w p (drw s M)) (uA g1 (17 + p) (drw s M)) (uN zz 7 (nxS s)) _ (by omega) (by omega) hz0 hz1 uN_eq (by omega) (by rw [hRd_ne (by omega)]; exact hRd_eq) hRd_eq (fun i i0 i1 => ?_) (fun h2 g2 zq p1 e1 e2 e3 e4 e5 e6 e7 e8 e9 => ?_)
    · by_cases e : i = p
      · rw [e, uA_eq, uA_eq]
      · rw [uA_ne (by omega), uA_ne e]; exact hw i i0 i1
    · refine kk h2 g2 zq p1 e1 (fun i hi => (e2 i hi).trans (uN_ne hi)) e3 e4 (fun i hi => (e5 i hi).trans (uA_ne (by omega))) e6 e7 e8 (fun a ha => by rw [e9 a ha, hRd_ne (by omega), hRd_ne (by omega)])
theorem l_dr2 (hd : 1 ≤ d) (hM : 0 < M ∧ M ≤ 999) (hP : 0 ≤ P ∧ P ≤ 6) (hx : 0 ≤ x ∧ x ≤ 40) : ∀ (m : Nat) (k s mo : Int) (w g1 : Int → Int) (zz : Nat → Int) (h : LHeap) (l3 : Option Value), (m : Int) = x - k → 0 ≤ k → zz 0 = M → zz 1 = P → zz 7 = s → 0 ≤ s ∧ s ≤ 2147483647 → hRd h 156 = oM zz → hRd h 160 = cA 24 g1 → (∀ i, 0 ≤ i → i < P → g1 (17 + i) = w i) → g1 23 = mo → 0 ≤ mo → mo + (m : Int) ≤ 10000 → (∀ (h1 : LHeap) (g2 : Int → Int) (zq : Nat → Int), hRd h1 156 = oM zq → (∀ i, ¬ i = 7 → zq i = zz i) → zq 7 = (drNF M P m s w).2 → hRd h1 160 = cA 24 g2 → (∀ i, ¬ ((17 ≤ i ∧ i < 17 + P) ∨ i = 23) → g2 i = g1 i) → g2 23 = mo + (m : Int) → (∀ i, 0 ≤ i → i < P → g2 (17 + i) = (drNF M P m s w).1 i) → h1.1 = h.1 → h1.2.1 = h.2.1 → (∀ a, ¬ (a = 156 ∨ a = 160) → hRd h1 a = hRd h a) → Q (some (vI (mo + (m : Int)))) h1) → WPC d 150 26 [some (.ref 156), some (vI x), some (vI k), l3] [] h Q := by
  intro m
  induction m with
  | zero =>
    intro k s mo w g1 zz h l3 hm hk hz0 hz1 hz7 hs h1 hg hw h23 hmo hmo2 kk
    have kk := kk h g1 zz h1 (fun _ _ => rfl) hz7 hg (fun _ _ => rfl) (by omega) hw rfl rfl (fun _ _ => rfl)
    rw [show mo + ((0 : Nat) : Int) = mo by omega] at kk
    rw [WPC_iff]
    simp (disch := omega) only [wr_id, wr_m1, sd_t, nl_I, nl_R, nl_none, c1_I, c1_R, sh_0, sh_1, sh_2, sh_3, sh_4, true_and, and_true, ldA_A, ldB_B, ldS_S, stA_A, stB_B, aL_A, aL_B, aL_S, aC_A, hRd_eq, hRd_ne, cp6, cp8, tl_some, tl_none, List.cons_append, List.nil_append, ofI_t0, ofI_t1, Int.add_zero, Int.zero_add, x150_26, x150_27, x150_28, x150_58, x150_59, x150_60, x150_61, x150_62, gf11_0, pf11_0, gf11_1, pf11_1, gf11_2, pf11_2, gf11_3, gf11_4, gf11_5, gf11_6, gf11_7, pf11_7, gf11_8, gf11_9, pf11_9, gf11_10, pf11_10, gf11_11, pf11_11, gf11_12, pf11_12, gf11_13, pf11_13, gf11_14, gf11_15, pf11_15, gf11_16, gf11_17, pf11_17, gf11_18, gf11_19, gf11_20, gf11_21, gf11_22, gf11_23, gf11_24, pf11_24, gf11_25, gf11_26, gf11_27, gf11_28, pf11_28, gf11_29, pf11_29, gf11_30, gf11_31, gf11_32, pf11_32, gf11_33, gf11_34, gf11_35, pf11_35, gf11_36, gf11_37, gf11_38, gf11_39, uN_eq, uN_ne, h1, hg, h23]
    exact ⟨fun _ => ⟨by omega, kk⟩, fun q => by omega⟩
  | succ m ih =>
    intro k s mo w g1 zz h l3 hm hk hz0 hz1 hz7 hs h1 hg hw h23 hmo hmo2 kk
    rw [drNF] at kk
    have hdb := drMF_b hM.1 P.toNat 0 s w hs
    rw [WPC_iff]
    simp (disch := omega) only [wr_id, wr_m1, sd_t, nl_I, nl_R, nl_none, c1_I, c1_R, sh_0, sh_1, sh_2, sh_3, sh_4, true_and, and_true, ldA_A, ldB_B, ldS_S, stA_A, stB_B, aL_A, aL_B, aL_S, aC_A, hRd_eq, hRd_ne, cp6, cp8, tl_some, tl_none, List.cons_append, List.nil_append, ofI_t0, ofI_t1, Int.add_zero, Int.zero_add, x150_26, x150_27, x150_28, x150_29, x150_30, x150_31]
    refine ⟨fun q => by omega, fun _ => ?_⟩
    refine l_dr1 (l2 := none) hd hM hP P.toNat 0 s w g1 zz h (by omega) (by omega) hz0 hz1 hz7 hs h1 hg hw (fun h2 g2 zq p1 e1 e2 e3 e4 e5 e6 e7 e8 e9 => ?_)
    have g23 : g2 23 = mo := (e5 23 (by omega)).trans h23
    simp (disch := omega) only [wr_id, wr_m1, sd_t, nl_I, nl_R, nl_none, c1_I, c1_R, sh_0, sh_1, sh_2, sh_3, sh_4, true_and, and_true, ldA_A, ldB_B, ldS_S, stA_A, stB_B, aL_A, aL_B, aL_S, aC_A, hRd_eq, hRd_ne, cp6, cp8, tl_some, tl_none, List.cons_append, List.nil_append, ofI_t0, ofI_t1, Int.add_zero, Int.zero_add, x150_25, x150_48, x150_49, x150_50, x150_51, x150_52, x150_53, x150_54, x150_55, x150_56, x150_57, gf11_0, pf11_0, gf11_1, pf11_1, gf11_2, pf11_2, gf11_3, gf11_4, gf11_5, gf11_6, gf11_7, pf11_7, gf11_8, gf11_9, pf11_9, gf11_10, pf11_10, gf11_11, pf11_11, gf11_12, pf11_12, gf11_13, pf11_13, gf11_14, gf11_15, pf11_15, gf11_16, gf11_17, pf11_17, gf11_18, gf11_19, gf11_20, gf11_21, gf11_22, gf11_23, gf11_24, pf11_24, gf11_25, gf11_26, gf11_27, gf11_28, pf11_28, gf11_29, pf11_29, gf11_30, gf11_31, gf11_32, pf11_32, gf11_33, gf11_34, gf11_35, pf11_35, gf11_36, gf11_37, gf11_38, gf11_39, uN_eq, uN_ne, e1, e4, g23]
    refine ⟨by omega, by omega, ?_⟩
    refine ih (k + 1) _ (mo + 1) (drMF M P.toNat 0 s w).1 (uA g2 23 (mo + 1)) zq _ _ (by omega) (by omega) ((e2 0 (by omega)).trans hz0) ((e2 1 (by omega)).trans hz1) e3 hdb (by rw [hRd_ne (by omega)]; exact e1) hRd_eq (fun i i0 i1 => by rw [uA_ne (by omega)]; exact e6 i i0 i1) uA_eq (by omega) (by omega) (fun h3 g3 zr f1 f2 f3 f4 f5 f6 f7 f8 f9 f10 => ?_)
    have kk := kk h3 g3 zr f1 (fun i hi => (f2 i hi).trans (e2 i hi)) f3 f4 (fun i hi => by rw [f5 i hi, uA_ne (by omega), e5 i (by omega)]) (by rw [f6]; omega) f7 (f8.trans e7) (f9.trans e8) (fun a ha => by rw [f10 a ha, hRd_ne (by omega)]; exact e9 a ha)
    rw [show mo + 1 + (m : Int) = mo + ((m + 1 : Nat) : Int) by omega]
    exact kk
end
section
variable {d : Nat} {f wt tk bh kp sd ea la bj bm : Int → Int} {n pl M P J s ct bt : Int} {S : SS} {Hs : List SS} {im : Int → SS} {h : LHeap} {Q : Option Value → LHeap → Prop} {x y : Int}
theorem m_drift (hd : 2 ≤ d) (c : MI f n pl M P J wt tk bh S Hs kp sd im s ct ea la bt bj bm h) (hB : BD f n pl M P J wt tk bh S Hs kp sd im s ct ea la bt bj bm) (hx : -2147483648 ≤ x ∧ x ≤ 2147483647) (k1 : ¬ (1 ≤ x ∧ x ≤ 40) → Q (some (vI (-1000000002))) h) (k2 : 1 ≤ x → x ≤ 40 → M = 0 → Q (some (vI (-1000000003))) h) (k3 : 1 ≤ x → x ≤ 40 → ¬ M = 0 → 9000 < S.2.2.2.2 → Q (some (vI (-1000000004))) h) (k4 : 1 ≤ x → x ≤ 40 → ¬ M = 0 → S.2.2.2.2 ≤ 9000 → ∀ h1, MI f n pl M P J wt tk bh ((S.1, (drNF M P x.toNat s S.2.1).1, S.2.2.1, S.2.2.2.1, S.2.2.2.2 + x)) ((S :: Hs).take 20) kp sd im ((drNF M P x.toNat s S.2.1).2) ct ea la bt bj bm h1 → Out 156 180 h h1 → Q (some (vI (S.2.2.2.2 + x))) h1) : CALL d 150 [.ref 156, vI x] h Q := by
  obtain ⟨zz0, g0, cR0, h160, hSG0, hM0, hS0, hN0, h80, -⟩ := c.go hB
  have hP := hB.2.1.2.1
  have hM6 := hB.2.1.1
  have hs := hB.2.2.2.2.2.2.1
  have hmo := hB.2.2.1.2.2.2.2.2
  have a10 := hM0.1
  have z00 := hM0.2.1.1
  have g23 : g0 23 = S.2.2.2.2 := by
    have := hSG0.2.2.2.2.2.2
    rwa [Int.zero_add] at this
  refine cl150 (by omega) a10 ?_
  simp (disch := omega) only [wr_id, wr_m1, sd_t, nl_I, nl_R, nl_none, c1_I, c1_R, sh_0, sh_1, sh_2, sh_3, sh_4, true_and, and_true, ldA_A, ldB_B, ldS_S, stA_A, stB_B, aL_A, aL_B, aL_S, aC_A, hRd_eq, hRd_ne, cp6, cp8, tl_some, tl_none, List.cons_append, List.nil_append, ofI_t0, ofI_t1, Int.add_zero, Int.zero_add, x150_0, x150_1, x150_2, x150_3, x150_4]
  refine m_in (by omega) (by omega) (by omega) (by omega) ?_
  by_cases q : 1 ≤ x ∧ x ≤ 40
  · rw [if_pos q]
    by_cases q2 : M = 0
    · simp (disch := omega) only [wr_id, wr_m1, sd_t, nl_I, nl_R, nl_none, c1_I, c1_R, sh_0, sh_1, sh_2, sh_3, sh_4, true_and, and_true, ldA_A, ldB_B, ldS_S, stA_A, stB_B, aL_A, aL_B, aL_S, aC_A, hRd_eq, hRd_ne, cp6, cp8, tl_some, tl_none, List.cons_append, List.nil_append, ofI_t0, ofI_t1, Int.add_zero, Int.zero_add, x150_5, x150_8, x150_9, x150_10, x150_11, x150_12, gf11_0, pf11_0, gf11_1, pf11_1, gf11_2, pf11_2, gf11_3, gf11_4, gf11_5, gf11_6, gf11_7, pf11_7, gf11_8, gf11_9, pf11_9, gf11_10, pf11_10, gf11_11, pf11_11, gf11_12, pf11_12, gf11_13, pf11_13, gf11_14, gf11_15, pf11_15, gf11_16, gf11_17, pf11_17, gf11_18, gf11_19, gf11_20, gf11_21, gf11_22, gf11_23, gf11_24, pf11_24, gf11_25, gf11_26, gf11_27, gf11_28, pf11_28, gf11_29, pf11_29, gf11_30, gf11_31, gf11_32, pf11_32, gf11_33, gf11_34, gf11_35, pf11_35, gf11_36, gf11_37, gf11_38, gf11_39, uN_eq, uN_ne, a10, z00]
      exact ⟨fun _ => ⟨fun q => absurd q2 q, fun _ => k2 q.1 q.2 q2⟩, fun q => by first | omega | exact absurd rfl q | exact absurd trivial q | exact absurd q (by omega)⟩
    · by_cases q3 : 9000 < S.2.2.2.2
      · simp (disch := omega) only [wr_id, wr_m1, sd_t, nl_I, nl_R, nl_none, c1_I, c1_R, sh_0, sh_1, sh_2, sh_3, sh_4, true_and, and_true, ldA_A, ldB_B, ldS_S, stA_A, stB_B, aL_A, aL_B, aL_S, aC_A, hRd_eq, hRd_ne, cp6, cp8, tl_some, tl_none, List.cons_append, List.nil_append, ofI_t0, ofI_t1, Int.add_zero, Int.zero_add, x150_5, x150_8, x150_9, x150_10, x150_13, x150_14, x150_15, x150_16, x150_17, x150_18, x150_19, x150_20, gf11_0, pf11_0, gf11_1, pf11_1, gf11_2, pf11_2, gf11_3, gf11_4, gf11_5, gf11_6, gf11_7, pf11_7, gf11_8, gf11_9, pf11_9, gf11_10, pf11_10, gf11_11, pf11_11, gf11_12, pf11_12, gf11_13, pf11_13, gf11_14, gf11_15, pf11_15, gf11_16, gf11_17, pf11_17, gf11_18, gf11_19, gf11_20, gf11_21, gf11_22, gf11_23, gf11_24, pf11_24, gf11_25, gf11_26, gf11_27, gf11_28, pf11_28, gf11_29, pf11_29, gf11_30, gf11_31, gf11_32, pf11_32, gf11_33, gf11_34, gf11_35, pf11_35, gf11_36, gf11_37, gf11_38, gf11_39, uN_eq, uN_ne, a10, z00, h160, g23]
        exact ⟨fun _ => ⟨fun _ => ⟨by omega, fun q => by first | omega | exact absurd rfl q | exact absurd trivial q | exact absurd q (by omega), fun _ => k3 q.1 q.2 q2 q3⟩, fun q => absurd q2 (by omega)⟩, fun q => by first | omega | exact absurd rfl q | exact absurd trivial q | exact absurd q (by omega)⟩
      · simp (disch := omega) only [wr_id, wr_m1, sd_t, nl_I, nl_R, nl_none, c1_I, c1_R, sh_0, sh_1, sh_2, sh_3, sh_4, true_and, and_true, ldA_A, ldB_B, ldS_S, stA_A, stB_B, aL_A, aL_B, aL_S, aC_A, hRd_eq, hRd_ne, cp6, cp8, tl_some, tl_none, List.cons_append, List.nil_append, ofI_t0, ofI_t1, Int.add_zero, Int.zero_add, x150_5, x150_8, x150_9, x150_10, x150_13, x150_14, x150_15, x150_16, x150_17, x150_18, x150_21, x150_22, gf11_0, pf11_0, gf11_1, pf11_1, gf11_2, pf11_2, gf11_3, gf11_4, gf11_5, gf11_6, gf11_7, pf11_7, gf11_8, gf11_9, pf11_9, gf11_10, pf11_10, gf11_11, pf11_11, gf11_12, pf11_12, gf11_13, pf11_13, gf11_14, gf11_15, pf11_15, gf11_16, gf11_17, pf11_17, gf11_18, gf11_19, gf11_20, gf11_21, gf11_22, gf11_23, gf11_24, pf11_24, gf11_25, gf11_26, gf11_27, gf11_28, pf11_28, gf11_29, pf11_29, gf11_30, gf11_31, gf11_32, pf11_32, gf11_33, gf11_34, gf11_35, pf11_35, gf11_36, gf11_37, gf11_38, gf11_39, uN_eq, uN_ne, a10, z00, h160, g23]
        refine ⟨fun _ => ⟨fun _ => ⟨by omega, fun _ => ?_, fun q => by first | omega | exact absurd rfl q | exact absurd trivial q | exact absurd q (by omega)⟩, fun q => absurd q2 (by omega)⟩, fun q => by first | omega | exact absurd rfl q | exact absurd trivial q | exact absurd q (by omega)⟩
        refine m_rem (by omega) c hB (fun h1 z g cR b1 hSG o1 => ?_)
        have a1 := cR.1
        have hsc := hSG.sc
        have hN := hSG.nr hB.2.2.1.1 hP.2 hB.2.2.1.2.1
        have g6 := hN.g6
        obtain ⟨-, -, s7, s8, -, -, s23⟩ := hSG
        rw [Int.zero_add] at s7 s8 s23
        simp (disch := omega) only [wr_id, wr_m1, sd_t, nl_I, nl_R, nl_none, c1_I, c1_R, sh_0, sh_1, sh_2, sh_3, sh_4, true_and, and_true, ldA_A, ldB_B, ldS_S, stA_A, stB_B, aL_A, aL_B, aL_S, aC_A, hRd_eq, hRd_ne, cp6, cp8, tl_some, tl_none, List.cons_append, List.nil_append, ofI_t0, ofI_t1, Int.add_zero, Int.zero_add, x150_23, x150_24, x150_25]
        refine l_dr2 (by omega) (M := M) (P := P) ⟨by omega, hM6.2⟩ hP (by omega) x.toNat 0 s S.2.2.2.2 S.2.1 g z h1 _ (by omega) (by omega) cR.2.1.1 cR.2.1.2.1 cR.2.1.2.2.2.1 hs a1 b1 (fun i i0 i1 => hsc.2.2.2.2 i i0 i1) s23 hmo.1 (by omega) (fun h2 g2 zq e1 e2 e3 e4 e5 e6 e7 e8 e9 e10 => ?_)
        rw [show S.2.2.2.2 + (x.toNat : Int) = S.2.2.2.2 + x by omega] at e6 ⊢
        obtain ⟨a1, ⟨z0, z1, z2, z7, z9, z10, z24, z29, z35⟩, ⟨r1, a3, a3b⟩, ⟨r2, a4, a4b⟩, ⟨r3, a5, a5b⟩, a6, ⟨r4, a7, a7b, a7c⟩, a8, a9, a10, a11, ⟨r5, a12, a12b⟩, ⟨a13, a13b⟩, a14⟩ := cR
        have k := e10
        refine k4 q.1 q.2 q2 (by omega) h2 ⟨zq, g2, ⟨e1, ⟨(e2 0 (by omega)).trans z0, (e2 1 (by omega)).trans z1, (e2 2 (by omega)).trans z2, e3, (e2 9 (by omega)).trans z9, (e2 10 (by omega)).trans z10, (e2 24 (by omega)).trans z24, (e2 29 (by omega)).trans z29, (e2 35 (by omega)).trans z35⟩, ⟨r1, by rw [k _ (by omega)]; exact a3, a3b⟩, ⟨r2, by rw [k _ (by omega)]; exact a4, a4b⟩, ⟨r3, by rw [k _ (by omega)]; exact a5, a5b⟩, by rw [k _ (by omega)]; exact a6, ⟨r4, by rw [k _ (by omega)]; exact a7, a7b, a7c⟩, by rw [k _ (by omega)]; exact a8, by rw [k _ (by omega)]; exact a9, by rw [k _ (by omega)]; exact a10, by rw [k _ (by omega)]; exact a11, ⟨r5, by rw [k _ (by omega)]; exact a12, a12b⟩, ⟨by rw [k _ (by omega)]; exact a13, a13b⟩, a14.agree (fun q hq => k q (by omega))⟩, e4, ?_⟩ ⟨e8.trans o1.1, e9.trans o1.2.1, fun a ha => (e10 a (by omega)).trans (o1.2.2 a ha)⟩
        exact SG.mk0 ((hN.ri.same (fun i i0 i1 => e5 i (by omega))).nr (e5 6 (by omega))) ((e5 7 (by omega)).trans s7) ((e5 8 (by omega)).trans s8) (fun j j0 j1 => (e5 (9 + j) (by have := hB.2.1.2.2.1; omega)).trans (hsc.2.2.2.1 j j0 j1)) e7 e6
  · rw [if_neg q]
    simp (disch := omega) only [wr_id, wr_m1, sd_t, nl_I, nl_R, nl_none, c1_I, c1_R, sh_0, sh_1, sh_2, sh_3, sh_4, true_and, and_true, ldA_A, ldB_B, ldS_S, stA_A, stB_B, aL_A, aL_B, aL_S, aC_A, hRd_eq, hRd_ne, cp6, cp8, tl_some, tl_none, List.cons_append, List.nil_append, ofI_t0, ofI_t1, Int.add_zero, Int.zero_add, x150_5, x150_6, x150_7]
    exact ⟨fun q => by first | omega | exact absurd rfl q | exact absurd trivial q | exact absurd q (by omega), fun _ => k1 q⟩
end
