-- THE READER: jobs
section
variable {d : Nat} {h h0 : LHeap} {Q : Option Value → LHeap → Prop} {f wk wt dr tk bh : Int → Int} {n tr pl a na M P J w : Int} {D : CC}
theorem s_rdJob (hd : 5 ≤ d) (hT : TxB f n) (hr : RdAt f n 0 (-1) a na h) (h0 : 0 ≤ a ∧ a ≤ n) (hw : a = w + 1) (hc : CiC 4 D h) (hD : DB D) (kk : PC Q h f n a (cJ f n w D)) : CALL d 35 [.ref 2, vI w] h Q := by
  obtain ⟨M, P, J, wk, wt, dr, tk, bh⟩ := D
  have hP := hD.1.2.1
  have hJ := hD.1.2.2.1
  have hc4 : hRd h 4 = oCity M P J 5 6 7 8 9 := hc.1
  simp only at hP hJ
  have hb := nB_b (f := f) h0.2
  have hb2 := nB_b (f := f) hb.2.2
  have hb3 := nB_b (f := f) hb2.2.2
  have hn := hT.1
  have g4 : ∀ h2, Out 2 2 h h2 → hRd h2 4 = oCity M P J 5 6 7 8 9 := fun h2 o => by rw [o.2.2 _ (by omega)]; exact hc4
  -- behind a fault
  have t41 : ∀ (tr pl : Int) (h2 : LHeap) (a2 na2 : Int) (l2 l3 l4 : Option Value), 1 ≤ tr ∧ tr ≤ 4 → RdAt f n tr pl a2 na2 h2 → a ≤ a2 → a2 ≤ n → Out 2 2 h h2 → FP Q h f n a tr pl → WP (d - 1) 35 41 [some (.ref 2), some (vI w), l2, l3, l4] [] h2 Q := by
    intro tr pl h2 a2 na2 l2 l3 l4 ht hr2 g1 g2 o hf
    simp (disch := omega) only [wr_id, wr_m1, sd_t, nl_I, nl_R, nl_none, c1_I, c1_R, sh_0, sh_1, sh_2, sh_3, sh_4, true_and, and_true, ldA_A, ldB_B, ldS_S, stA_A, stB_B, aL_A, aL_B, aL_S, aC_A, hRd_eq, hRd_ne, cp6, cp8, tl_some, tl_none, List.cons_append, List.nil_append, ofI_t0, ofI_t1, Int.add_zero, Int.zero_add, x35_41, x35_42]
    refine s_endT (by omega) hT hr2 ht ⟨by omega, g2⟩ (fun h3 a3 g3 g4 hr3 o3 => ?_)
    have hr31 := hr3.1
    simp (disch := omega) only [wr_id, wr_m1, sd_t, nl_I, nl_R, nl_none, c1_I, c1_R, sh_0, sh_1, sh_2, sh_3, sh_4, true_and, and_true, ldA_A, ldB_B, ldS_S, stA_A, stB_B, aL_A, aL_B, aL_S, aC_A, hRd_eq, hRd_ne, cp6, cp8, tl_some, tl_none, List.cons_append, List.nil_append, ofI_t0, ofI_t1, Int.add_zero, Int.zero_add, x35_43, x35_44, x35_45, x35_57, gf5_3, hr31]
    exact ⟨fun z => hf h3 _ a3 na2 hr3 (hc.out (o.trans o3) (by omega)) hD (by omega) g4 ((o.trans o3).widen (by omega) (by omega)), fun z => by omega⟩
  have t28 : ∀ (tr pl : Int) (h2 : LHeap) (a2 na2 x : Int) (l2 l3 : Option Value), 1 ≤ tr ∧ tr ≤ 4 → 0 ≤ x ∧ x ≤ 999 → RdAt f n tr pl a2 na2 h2 → a ≤ a2 → a2 ≤ n → Out 2 2 h h2 → FP Q h f n a tr pl → WP (d - 1) 35 28 [some (.ref 2), some (vI w), l2, l3, some (vI x)] [] h2 Q := by
    intro tr pl h2 a2 na2 x l2 l3 ht hx hr2 g1 g2 o hf
    have hr21 := hr2.1
    have hc24 := g4 h2 o
    simp (disch := omega) only [wr_id, wr_m1, sd_t, nl_I, nl_R, nl_none, c1_I, c1_R, sh_0, sh_1, sh_2, sh_3, sh_4, true_and, and_true, ldA_A, ldB_B, ldS_S, stA_A, stB_B, aL_A, aL_B, aL_S, aC_A, hRd_eq, hRd_ne, cp6, cp8, tl_some, tl_none, List.cons_append, List.nil_append, ofI_t0, ofI_t1, Int.add_zero, Int.zero_add, x35_28, x35_29, x35_30, x35_31, x35_32, x35_33, x35_34, x35_35, x35_36, x35_37, x35_38, x35_39, x35_40, gf5_1, gf5_6, gf2_2, hr21, hc24]
    refine ⟨fun _ => t41 tr pl h2 a2 na2 _ _ _ ht hr2 g1 g2 o hf, fun _ => ⟨fun _ => t41 tr pl h2 a2 na2 _ _ _ ht hr2 g1 g2 o hf, fun _ => ?_⟩⟩
    refine s_blame (by omega) hr2 (by omega) (fun z => by omega) (fun _ => ?_)
    simp only [Option.toList_none, List.nil_append]
    exact t41 tr pl h2 a2 na2 _ _ _ ht hr2 g1 g2 o hf
  have t23 : ∀ (tr pl : Int) (h2 : LHeap) (a2 na2 x2 x3 : Int) (l4 : Option Value), 1 ≤ tr ∧ tr ≤ 4 → RdAt f n tr pl a2 na2 h2 → a ≤ a2 → a2 ≤ n → Out 2 2 h h2 → FP Q h f n a tr pl → WP (d - 1) 35 23 [some (.ref 2), some (vI w), some (vI x2), some (vI x3), l4] [] h2 Q := by
    intro tr pl h2 a2 na2 x2 x3 l4 ht hr2 g1 g2 o hf
    have hs := sk_b (f := f) g2
    simp (disch := omega) only [wr_id, wr_m1, sd_t, nl_I, nl_R, nl_none, c1_I, c1_R, sh_0, sh_1, sh_2, sh_3, sh_4, true_and, and_true, ldA_A, ldB_B, ldS_S, stA_A, stB_B, aL_A, aL_B, aL_S, aC_A, hRd_eq, hRd_ne, cp6, cp8, tl_some, tl_none, List.cons_append, List.nil_append, ofI_t0, ofI_t1, Int.add_zero, Int.zero_add, x35_23, x35_24, x35_25, x35_26]
    refine s_numT (by omega) hT hr2 ht ⟨by omega, g2⟩ (fun h3 hr3 o3 => ?_)
    simp (disch := omega) only [wr_id, wr_m1, sd_t, nl_I, nl_R, nl_none, c1_I, c1_R, sh_0, sh_1, sh_2, sh_3, sh_4, true_and, and_true, ldA_A, ldB_B, ldS_S, stA_A, stB_B, aL_A, aL_B, aL_S, aC_A, hRd_eq, hRd_ne, cp6, cp8, tl_some, tl_none, List.cons_append, List.nil_append, ofI_t0, ofI_t1, Int.add_zero, Int.zero_add, x35_27]
    exact t28 tr pl h3 _ _ 0 _ _ ht (by omega) hr3 (by omega) hs.2 (o.trans o3) hf
  have t18 : ∀ (tr pl : Int) (h2 : LHeap) (a2 na2 x2 : Int) (l3 l4 : Option Value), 1 ≤ tr ∧ tr ≤ 4 → RdAt f n tr pl a2 na2 h2 → a ≤ a2 → a2 ≤ n → Out 2 2 h h2 → FP Q h f n a tr pl → WP (d - 1) 35 18 [some (.ref 2), some (vI w), some (vI x2), l3, l4] [] h2 Q := by
    intro tr pl h2 a2 na2 x2 l3 l4 ht hr2 g1 g2 o hf
    have hs := sk_b (f := f) g2
    simp (disch := omega) only [wr_id, wr_m1, sd_t, nl_I, nl_R, nl_none, c1_I, c1_R, sh_0, sh_1, sh_2, sh_3, sh_4, true_and, and_true, ldA_A, ldB_B, ldS_S, stA_A, stB_B, aL_A, aL_B, aL_S, aC_A, hRd_eq, hRd_ne, cp6, cp8, tl_some, tl_none, List.cons_append, List.nil_append, ofI_t0, ofI_t1, Int.add_zero, Int.zero_add, x35_18, x35_19, x35_20, x35_21]
    refine s_numT (by omega) hT hr2 ht ⟨by omega, g2⟩ (fun h3 hr3 o3 => ?_)
    simp (disch := omega) only [wr_id, wr_m1, sd_t, nl_I, nl_R, nl_none, c1_I, c1_R, sh_0, sh_1, sh_2, sh_3, sh_4, true_and, and_true, ldA_A, ldB_B, ldS_S, stA_A, stB_B, aL_A, aL_B, aL_S, aC_A, hRd_eq, hRd_ne, cp6, cp8, tl_some, tl_none, List.cons_append, List.nil_append, ofI_t0, ofI_t1, Int.add_zero, Int.zero_add, x35_22]
    exact t23 tr pl h3 _ _ _ _ _ ht hr3 (by omega) hs.2 (o.trans o3) hf
  refine cl35 (by omega) hr.1 ?_
  have hr1 := hr.1
  simp (disch := omega) only [wr_id, wr_m1, sd_t, nl_I, nl_R, nl_none, c1_I, c1_R, sh_0, sh_1, sh_2, sh_3, sh_4, true_and, and_true, ldA_A, ldB_B, ldS_S, stA_A, stB_B, aL_A, aL_B, aL_S, aC_A, hRd_eq, hRd_ne, cp6, cp8, tl_some, tl_none, List.cons_append, List.nil_append, ofI_t0, ofI_t1, Int.add_zero, Int.zero_add, x35_0, x35_1, x35_2, x35_3, x35_4, x35_5, x35_6, x35_7, x35_8, gf5_1, gf2_2, hr1, hc4]
  unfold cJ at kk
  simp only at kk
  subst hw
  refine ⟨fun z => ?_, fun z => ?_⟩
  · rw [if_pos z] at kk
    simp (disch := omega) only [wr_id, wr_m1, sd_t, nl_I, nl_R, nl_none, c1_I, c1_R, sh_0, sh_1, sh_2, sh_3, sh_4, true_and, and_true, ldA_A, ldB_B, ldS_S, stA_A, stB_B, aL_A, aL_B, aL_S, aC_A, hRd_eq, hRd_ne, cp6, cp8, tl_some, tl_none, List.cons_append, List.nil_append, ofI_t0, ofI_t1, Int.add_zero, Int.zero_add, x35_9, x35_10, x35_11, x35_12, x35_13, x35_14, x35_15, x35_16, gf5_1, gf2_1, hr1, hc4]
    refine s_num (by omega) hT (by omega) (by omega) hr h0 (fun h2 hr2 o2 => ?_)
    have hk := nK_b f n 0 (P - 1) (w + 1)
    simp (disch := omega) only [wr_id, wr_m1, sd_t, nl_I, nl_R, nl_none, c1_I, c1_R, sh_0, sh_1, sh_2, sh_3, sh_4, true_and, and_true, ldA_A, ldB_B, ldS_S, stA_A, stB_B, aL_A, aL_B, aL_S, aC_A, hRd_eq, hRd_ne, cp6, cp8, tl_some, tl_none, List.cons_append, List.nil_append, ofI_t0, ofI_t1, Int.add_zero, Int.zero_add, x35_17]
    by_cases e : ¬ nK f n 0 (P - 1) (w + 1) = 0
    · rw [if_neg e] at hr2
      exact t18 _ _ h2 _ _ _ _ _ (by omega) hr2 (by omega) (by omega) o2 (kk.nu.1 e)
    have e : nK f n 0 (P - 1) (w + 1) = 0 := by omega
    have kk := kk.nu.2 e
    rw [e, if_pos rfl] at hr2
    simp (disch := omega) only [wr_id, wr_m1, sd_t, nl_I, nl_R, nl_none, c1_I, c1_R, sh_0, sh_1, sh_2, sh_3, sh_4, true_and, and_true, ldA_A, ldB_B, ldS_S, stA_A, stB_B, aL_A, aL_B, aL_S, aC_A, hRd_eq, hRd_ne, cp6, cp8, tl_some, tl_none, List.cons_append, List.nil_append, ofI_t0, ofI_t1, Int.add_zero, Int.zero_add, x35_18, x35_19, x35_20, x35_21]
    refine s_num (by omega) hT (by omega) (by omega) hr2 (by omega) (fun h3 hr3 o3 => ?_)
    have hk2 := nK_b f n 1 99 (nB f n (w + 1))
    simp (disch := omega) only [wr_id, wr_m1, sd_t, nl_I, nl_R, nl_none, c1_I, c1_R, sh_0, sh_1, sh_2, sh_3, sh_4, true_and, and_true, ldA_A, ldB_B, ldS_S, stA_A, stB_B, aL_A, aL_B, aL_S, aC_A, hRd_eq, hRd_ne, cp6, cp8, tl_some, tl_none, List.cons_append, List.nil_append, ofI_t0, ofI_t1, Int.add_zero, Int.zero_add, x35_22]
    by_cases e2 : ¬ nK f n 1 99 (nB f n (w + 1)) = 0
    · rw [if_neg e2] at hr3
      exact t23 _ _ h3 _ _ _ _ _ (by omega) hr3 (by omega) (by omega) (o2.trans o3) (kk.nu.1 e2)
    have e2 : nK f n 1 99 (nB f n (w + 1)) = 0 := by omega
    have kk := kk.nu.2 e2
    rw [e2, if_pos rfl] at hr3
    simp (disch := omega) only [wr_id, wr_m1, sd_t, nl_I, nl_R, nl_none, c1_I, c1_R, sh_0, sh_1, sh_2, sh_3, sh_4, true_and, and_true, ldA_A, ldB_B, ldS_S, stA_A, stB_B, aL_A, aL_B, aL_S, aC_A, hRd_eq, hRd_ne, cp6, cp8, tl_some, tl_none, List.cons_append, List.nil_append, ofI_t0, ofI_t1, Int.add_zero, Int.zero_add, x35_23, x35_24, x35_25, x35_26]
    refine s_num (by omega) hT (by omega) (by omega) hr3 (by omega) (fun h4 hr4 o4 => ?_)
    have hk3 := nK_b f n 0 999 (nB f n (nB f n (w + 1)))
    have hv3 := nV_b (f := f) (n := n) (a := nB f n (nB f n (w + 1))) hn.2 (by omega)
    simp (disch := omega) only [wr_id, wr_m1, sd_t, nl_I, nl_R, nl_none, c1_I, c1_R, sh_0, sh_1, sh_2, sh_3, sh_4, true_and, and_true, ldA_A, ldB_B, ldS_S, stA_A, stB_B, aL_A, aL_B, aL_S, aC_A, hRd_eq, hRd_ne, cp6, cp8, tl_some, tl_none, List.cons_append, List.nil_append, ofI_t0, ofI_t1, Int.add_zero, Int.zero_add, x35_27]
    by_cases e3 : ¬ nK f n 0 999 (nB f n (nB f n (w + 1))) = 0
    · rw [if_neg e3] at hr4
      exact t28 _ _ h4 _ _ _ _ _ (by omega) hv3 hr4 (by omega) (by omega) ((o2.trans o3).trans o4) (kk.nu.1 e3)
    have e3 : nK f n 0 999 (nB f n (nB f n (w + 1))) = 0 := by omega
    have kk := kk.nu.2 e3
    rw [e3, if_pos rfl] at hr4
    have o4 := (o2.trans o3).trans o4
    have hc4b := g4 h4 o4
    have hr41 := hr4.1
    have hkv := nK_v e
    have hkv2 := nK_v e2
    -- all three stand
    have good : (nV f n (nB f n (nB f n (w + 1))) = 9 ∨ nV f n (nB f n (nB f n (w + 1))) < J) → WP (d - 1) 35 41 [some (.ref 2), some (vI w), some (vI (nV f n (w + 1))), some (vI (nV f n (nB f n (w + 1)))), some (vI (nV f n (nB f n (nB f n (w + 1)))))] [] h4 Q := by
      intro g
      rw [if_pos g] at kk
      have kk := PC.en kk
      have hs := sk_b (f := f) hb3.2.2
      simp (disch := omega) only [wr_id, wr_m1, sd_t, nl_I, nl_R, nl_none, c1_I, c1_R, sh_0, sh_1, sh_2, sh_3, sh_4, true_and, and_true, ldA_A, ldB_B, ldS_S, stA_A, stB_B, aL_A, aL_B, aL_S, aC_A, hRd_eq, hRd_ne, cp6, cp8, tl_some, tl_none, List.cons_append, List.nil_append, ofI_t0, ofI_t1, Int.add_zero, Int.zero_add, x35_41, x35_42]
      refine s_end (by omega) hT hr4 ⟨by omega, hb3.2.2⟩ (fun g1 g2 h5 hr5 o5 => ?_) (fun g1 h5 hr5 o5 => ?_)
      · have hr51 := hr5.1
        have hc5 := hc.out (o4.trans o5) (by omega)
        simp (disch := omega) only [wr_id, wr_m1, sd_t, nl_I, nl_R, nl_none, c1_I, c1_R, sh_0, sh_1, sh_2, sh_3, sh_4, true_and, and_true, ldA_A, ldB_B, ldS_S, stA_A, stB_B, aL_A, aL_B, aL_S, aC_A, hRd_eq, hRd_ne, cp6, cp8, tl_some, tl_none, List.cons_append, List.nil_append, ofI_t0, ofI_t1, Int.add_zero, Int.zero_add, x35_43, x35_44, x35_45, x35_46, x35_47, x35_48, x35_49, x35_50, x35_51, x35_52, x35_53, x35_54, x35_55, x35_56, gf5_3, gf5_1, hr51]
        refine ⟨fun z => by first | omega | exact absurd trivial z, fun _ => ⟨fun z9 => ?_, fun z9 => ?_⟩⟩
        · rw [if_neg z9] at kk
          refine s_Ci_addJ (by omega) hc5 (by omega) ⟨hJ.1, z⟩ (fun h6 hc6 o6 => ?_)
          simp (disch := omega) only [wr_id, wr_m1, sd_t, nl_I, nl_R, nl_none, c1_I, c1_R, sh_0, sh_1, sh_2, sh_3, sh_4, true_and, and_true, ldA_A, ldB_B, ldS_S, stA_A, stB_B, aL_A, aL_B, aL_S, aC_A, hRd_eq, hRd_ne, cp6, cp8, tl_some, tl_none, List.cons_append, List.nil_append, ofI_t0, ofI_t1, Int.add_zero, Int.zero_add, x35_57]
          exact kk.2 g1 g2 h6 _ (hr5.out o6 (by omega)) hc6 (db_addJ hD z (by simp only; omega) (by omega) (by simp only; omega)) (by omega) (by omega) (((o4.trans o5).widen (by omega) (by omega)).trans (o6.widen (by omega) (by omega)))
        · have z9 : nV f n (nB f n (nB f n (w + 1))) = 9 := by omega
          rw [if_pos z9] at kk
          refine s_Ci_addJ (by omega) hc5 (by omega) ⟨hJ.1, z⟩ (fun h6 hc6 o6 => ?_)
          simp (disch := omega) only [wr_id, wr_m1, sd_t, nl_I, nl_R, nl_none, c1_I, c1_R, sh_0, sh_1, sh_2, sh_3, sh_4, true_and, and_true, ldA_A, ldB_B, ldS_S, stA_A, stB_B, aL_A, aL_B, aL_S, aC_A, hRd_eq, hRd_ne, cp6, cp8, tl_some, tl_none, List.cons_append, List.nil_append, ofI_t0, ofI_t1, Int.add_zero, Int.zero_add, x35_57]
          exact kk.2 g1 g2 h6 _ (hr5.out o6 (by omega)) hc6 (db_addJ hD z (by simp only; omega) (by omega) (by simp only; omega)) (by omega) (by omega) (((o4.trans o5).widen (by omega) (by omega)).trans (o6.widen (by omega) (by omega)))
      · have hr51 := hr5.1
        simp (disch := omega) only [wr_id, wr_m1, sd_t, nl_I, nl_R, nl_none, c1_I, c1_R, sh_0, sh_1, sh_2, sh_3, sh_4, true_and, and_true, ldA_A, ldB_B, ldS_S, stA_A, stB_B, aL_A, aL_B, aL_S, aC_A, hRd_eq, hRd_ne, cp6, cp8, tl_some, tl_none, List.cons_append, List.nil_append, ofI_t0, ofI_t1, Int.add_zero, Int.zero_add, x35_43, x35_44, x35_45, x35_57, gf5_3, hr51]
        refine ⟨fun z => ?_, fun z => by first | omega | exact absurd (by omega) z⟩
        exact kk.1 g1 h5 _ _ _ hr5 (hc.out (o4.trans o5) (by omega)) hD (by omega) (by omega) ((o4.trans o5).widen (by omega) (by omega))
    simp (disch := omega) only [wr_id, wr_m1, sd_t, nl_I, nl_R, nl_none, c1_I, c1_R, sh_0, sh_1, sh_2, sh_3, sh_4, true_and, and_true, ldA_A, ldB_B, ldS_S, stA_A, stB_B, aL_A, aL_B, aL_S, aC_A, hRd_eq, hRd_ne, cp6, cp8, tl_some, tl_none, List.cons_append, List.nil_append, ofI_t0, ofI_t1, Int.add_zero, Int.zero_add, x35_28, x35_29, x35_30, x35_31, x35_32, x35_33, x35_34, x35_35, x35_36, x35_37, x35_38, x35_39, x35_40, gf5_1, gf5_6, gf2_2, hr41, hc4b]
    refine ⟨fun g => good (Or.inl (by omega)), fun g => ⟨fun g2 => good (Or.inr (by omega)), fun g2 => ?_⟩⟩
    rw [if_neg (by omega)] at kk
    refine s_blame (by omega) hr4 (by omega) (fun _ => ?_) (fun z => absurd rfl z)
    simp only [Option.toList_none, List.nil_append]
    exact t41 2 _ _ _ _ _ _ _ (by omega) (hr4.at 2 _) (by omega) (by omega) (o4.wr (by omega) (by omega)) (kk.1 (by show ¬ (2 : Int) = 0; omega))
  · rw [if_neg z] at kk
    refine s_blame (by omega) hr (by omega) (fun _ => ?_) (fun z => absurd rfl z)
    have r1 : RdAt f n 3 w (w + 1) na (hWr h 2 (oRead 3 4 n 3 w (w + 1) na)) := hr.at 3 w
    have o1 : Out 2 2 h (hWr h 2 (oRead 3 4 n 3 w (w + 1) na)) := Out.refl.wr (by omega) (by omega)
    have r11 := r1.1
    have c11 := g4 _ o1
    simp (disch := omega) only [wr_id, wr_m1, sd_t, nl_I, nl_R, nl_none, c1_I, c1_R, sh_0, sh_1, sh_2, sh_3, sh_4, true_and, and_true, ldA_A, ldB_B, ldS_S, stA_A, stB_B, aL_A, aL_B, aL_S, aC_A, hRd_eq, hRd_ne, cp6, cp8, tl_some, tl_none, List.cons_append, List.nil_append, ofI_t0, ofI_t1, Int.add_zero, Int.zero_add, x35_9, x35_10, x35_11, x35_12, x35_13, x35_14, x35_15, x35_16, gf5_1, gf2_1, r11, c11]
    refine s_numT (by omega) hT r1 (by omega) h0 (fun h2 hr2 o2 => ?_)
    simp (disch := omega) only [wr_id, wr_m1, sd_t, nl_I, nl_R, nl_none, c1_I, c1_R, sh_0, sh_1, sh_2, sh_3, sh_4, true_and, and_true, ldA_A, ldB_B, ldS_S, stA_A, stB_B, aL_A, aL_B, aL_S, aC_A, hRd_eq, hRd_ne, cp6, cp8, tl_some, tl_none, List.cons_append, List.nil_append, ofI_t0, ofI_t1, Int.add_zero, Int.zero_add, x35_17]
    have hs := sk_b (f := f) h0.2
    exact t18 3 w h2 _ _ _ _ _ (by omega) hr2 hs.1 hs.2 (o1.trans o2) (kk.1 (by show ¬ (3 : Int) = 0; omega))
end
