-- THE READER: who waits
section
variable {d : Nat} {h h0 : LHeap} {Q : Option Value → LHeap → Prop} {f wk wt dr tk bh : Int → Int} {n tr pl a na M P J w : Int} {D : CC}
theorem s_rdWait (hd : 5 ≤ d) (hT : TxB f n) (hr : RdAt f n 0 (-1) a na h) (h0 : 0 ≤ a ∧ a ≤ n) (hw : a = w + 1) (hc : CiC 4 D h) (hD : DB D) (kk : PC Q h f n a (cW f n w D)) : CALL d 36 [.ref 2] h Q := by
  obtain ⟨M, P, J, wk, wt, dr, tk, bh⟩ := D
  have hP := hD.1.2.1
  have hJ := hD.1.2.2.1
  have hwt := hD.2
  have hc4 : hRd h 4 = oCity M P J 5 6 7 8 9 := hc.1
  have hc6 : hRd h 6 = cA 6 wt := hc.2.2.1
  simp only at hP hJ hwt
  have hb := nB_b (f := f) h0.2
  have hb2 := nB_b (f := f) hb.2.2
  have hn := hT.1
  have g4 : ∀ h2, Out 2 2 h h2 → hRd h2 4 = oCity M P J 5 6 7 8 9 := fun h2 o => by rw [o.2.2 _ (by omega)]; exact hc4
  have g6 : ∀ h2, Out 2 2 h h2 → hRd h2 6 = cA 6 wt := fun h2 o => by rw [o.2.2 _ (by omega)]; exact hc6
  -- behind a fault
  have t30 : ∀ (tr pl : Int) (h2 : LHeap) (a2 na2 : Int) (l1 l2 : Option Value), 1 ≤ tr ∧ tr ≤ 4 → RdAt f n tr pl a2 na2 h2 → a ≤ a2 → a2 ≤ n → Out 2 2 h h2 → FP Q h f n a tr pl → WP (d - 1) 36 30 [some (.ref 2), l1, l2] [] h2 Q := by
    intro tr pl h2 a2 na2 l1 l2 ht hr2 g1 g2 o hf
    simp (disch := omega) only [wr_id, wr_m1, sd_t, nl_I, nl_R, nl_none, c1_I, c1_R, sh_0, sh_1, sh_2, sh_3, sh_4, true_and, and_true, ldA_A, ldB_B, ldS_S, stA_A, stB_B, aL_A, aL_B, aL_S, aC_A, hRd_eq, hRd_ne, cp6, cp8, tl_some, tl_none, List.cons_append, List.nil_append, ofI_t0, ofI_t1, Int.add_zero, Int.zero_add, x36_30, x36_31]
    refine s_endT (by omega) hT hr2 ht ⟨by omega, g2⟩ (fun h3 a3 g3 g4 hr3 o3 => ?_)
    have hr31 := hr3.1
    simp (disch := omega) only [wr_id, wr_m1, sd_t, nl_I, nl_R, nl_none, c1_I, c1_R, sh_0, sh_1, sh_2, sh_3, sh_4, true_and, and_true, ldA_A, ldB_B, ldS_S, stA_A, stB_B, aL_A, aL_B, aL_S, aC_A, hRd_eq, hRd_ne, cp6, cp8, tl_some, tl_none, List.cons_append, List.nil_append, ofI_t0, ofI_t1, Int.add_zero, Int.zero_add, x36_32, x36_33, x36_34, x36_47, gf5_3, hr31]
    exact ⟨fun z => hf h3 _ a3 na2 hr3 (hc.out (o.trans o3) (by omega)) hD (by omega) g4 ((o.trans o3).widen (by omega) (by omega)), fun z => by omega⟩
  have t21 : ∀ (tr pl : Int) (h2 : LHeap) (a2 na2 x1 : Int) (l2 : Option Value), 1 ≤ tr ∧ tr ≤ 4 → RdAt f n tr pl a2 na2 h2 → a ≤ a2 → a2 ≤ n → Out 2 2 h h2 → FP Q h f n a tr pl → WP (d - 1) 36 21 [some (.ref 2), some (vI x1), l2] [] h2 Q := by
    intro tr pl h2 a2 na2 x1 l2 ht hr2 g1 g2 o hf
    have hs := sk_b (f := f) g2
    have hr21 := hr2.1
    have hc24 := g4 h2 o
    simp (disch := omega) only [wr_id, wr_m1, sd_t, nl_I, nl_R, nl_none, c1_I, c1_R, sh_0, sh_1, sh_2, sh_3, sh_4, true_and, and_true, ldA_A, ldB_B, ldS_S, stA_A, stB_B, aL_A, aL_B, aL_S, aC_A, hRd_eq, hRd_ne, cp6, cp8, tl_some, tl_none, List.cons_append, List.nil_append, ofI_t0, ofI_t1, Int.add_zero, Int.zero_add, x36_21, x36_22, x36_23, x36_24, x36_25, x36_26, x36_27, x36_28, gf5_1, gf2_2, hr21, hc24]
    refine s_numT (by omega) hT hr2 ht ⟨by omega, g2⟩ (fun h3 hr3 o3 => ?_)
    simp (disch := omega) only [wr_id, wr_m1, sd_t, nl_I, nl_R, nl_none, c1_I, c1_R, sh_0, sh_1, sh_2, sh_3, sh_4, true_and, and_true, ldA_A, ldB_B, ldS_S, stA_A, stB_B, aL_A, aL_B, aL_S, aC_A, hRd_eq, hRd_ne, cp6, cp8, tl_some, tl_none, List.cons_append, List.nil_append, ofI_t0, ofI_t1, Int.add_zero, Int.zero_add, x36_29]
    exact t30 tr pl h3 _ _ _ _ ht hr3 (by omega) hs.2 (o.trans o3) hf
  refine cl36 (by omega) hr.1 ?_
  have hr1 := hr.1
  simp (disch := omega) only [wr_id, wr_m1, sd_t, nl_I, nl_R, nl_none, c1_I, c1_R, sh_0, sh_1, sh_2, sh_3, sh_4, true_and, and_true, ldA_A, ldB_B, ldS_S, stA_A, stB_B, aL_A, aL_B, aL_S, aC_A, hRd_eq, hRd_ne, cp6, cp8, tl_some, tl_none, List.cons_append, List.nil_append, ofI_t0, ofI_t1, Int.add_zero, Int.zero_add, x36_0, x36_1, x36_2, x36_3, x36_4, x36_5, x36_6, x36_7, gf5_1, gf2_1, hr1, hc4]
  unfold cW at kk
  simp only at kk
  subst hw
  refine s_num (by omega) hT (by omega) (by omega) hr h0 (fun h2 hr2 o2 => ?_)
  have hk := nK_b f n 0 (P - 1) (w + 1)
  have hv := nV_b (f := f) (n := n) (a := w + 1) hn.2 (by omega)
  have hwv := hwt (nV f n (w + 1))
  have hr21 := hr2.1
  have hc24 := g4 h2 o2
  have hc26 := g6 h2 o2
  have ho6 : oCity M P J 5 6 7 8 9 = oCity M P J 5 6 7 8 9 := rfl
  simp (disch := omega) only [wr_id, wr_m1, sd_t, nl_I, nl_R, nl_none, c1_I, c1_R, sh_0, sh_1, sh_2, sh_3, sh_4, true_and, and_true, ldA_A, ldB_B, ldS_S, stA_A, stB_B, aL_A, aL_B, aL_S, aC_A, hRd_eq, hRd_ne, cp6, cp8, tl_some, tl_none, List.cons_append, List.nil_append, ofI_t0, ofI_t1, Int.add_zero, Int.zero_add, x36_8, x36_9, x36_10, x36_11, x36_12, x36_13, gf5_1, gf2_4, hr21, hc24]
  refine s_valueAt (by omega) hc26 (by omega) (by omega) (by omega) ?_
  by_cases e : ¬ nK f n 0 (P - 1) (w + 1) = 0
  · rw [if_neg e] at hr2 hr21
    have hq : -1 ≤ (if 0 ≤ nV f n (w + 1) ∧ nV f n (w + 1) < 6 then wt (nV f n (w + 1)) else -1) ∧ (if 0 ≤ nV f n (w + 1) ∧ nV f n (w + 1) < 6 then wt (nV f n (w + 1)) else -1) ≤ 7 := by split <;> omega
    generalize hg : (if 0 ≤ nV f n (w + 1) ∧ nV f n (w + 1) < 6 then wt (nV f n (w + 1)) else -1) = g at hq ⊢
    simp (disch := omega) only [wr_id, wr_m1, sd_t, nl_I, nl_R, nl_none, c1_I, c1_R, sh_0, sh_1, sh_2, sh_3, sh_4, true_and, and_true, ldA_A, ldB_B, ldS_S, stA_A, stB_B, aL_A, aL_B, aL_S, aC_A, hRd_eq, hRd_ne, cp6, cp8, tl_some, tl_none, List.cons_append, List.nil_append, ofI_t0, ofI_t1, Int.add_zero, Int.zero_add, x36_14, x36_15, x36_16, x36_17, x36_18, x36_19, x36_20, gf5_6, hr21]
    refine ⟨fun _ => t21 _ _ h2 _ _ _ _ (by omega) hr2 (by omega) (by omega) o2 (kk.nu.1 e), fun _ => ?_⟩
    refine s_blame (by omega) hr2 (by omega) (fun z => by omega) (fun _ => ?_)
    simp only [Option.toList_none, List.nil_append]
    exact t21 _ _ h2 _ _ _ _ (by omega) hr2 (by omega) (by omega) o2 (kk.nu.1 e)
  have e : nK f n 0 (P - 1) (w + 1) = 0 := by omega
  have kk := kk.nu.2 e
  have hkv := nK_v e
  rw [e, if_pos rfl] at hr2 hr21
  rw [if_pos (by omega)]
  simp (disch := omega) only [wr_id, wr_m1, sd_t, nl_I, nl_R, nl_none, c1_I, c1_R, sh_0, sh_1, sh_2, sh_3, sh_4, true_and, and_true, ldA_A, ldB_B, ldS_S, stA_A, stB_B, aL_A, aL_B, aL_S, aC_A, hRd_eq, hRd_ne, cp6, cp8, tl_some, tl_none, List.cons_append, List.nil_append, ofI_t0, ofI_t1, Int.add_zero, Int.zero_add, x36_14, x36_15, x36_16, x36_17, x36_18, x36_19, x36_20, gf5_6, hr21]
  refine ⟨fun z => ?_, fun z => ?_⟩
  · rw [if_pos z] at kk
    simp (disch := omega) only [wr_id, wr_m1, sd_t, nl_I, nl_R, nl_none, c1_I, c1_R, sh_0, sh_1, sh_2, sh_3, sh_4, true_and, and_true, ldA_A, ldB_B, ldS_S, stA_A, stB_B, aL_A, aL_B, aL_S, aC_A, hRd_eq, hRd_ne, cp6, cp8, tl_some, tl_none, List.cons_append, List.nil_append, ofI_t0, ofI_t1, Int.add_zero, Int.zero_add, x36_21, x36_22, x36_23, x36_24, x36_25, x36_26, x36_27, x36_28, gf5_1, gf2_2, hr21, hc24]
    refine s_num (by omega) hT (by omega) (by omega) hr2 ⟨by omega, by omega⟩ (fun h3 hr3 o3 => ?_)
    have hk2 := nK_b f n 0 (J - 1) (nB f n (w + 1))
    simp (disch := omega) only [wr_id, wr_m1, sd_t, nl_I, nl_R, nl_none, c1_I, c1_R, sh_0, sh_1, sh_2, sh_3, sh_4, true_and, and_true, ldA_A, ldB_B, ldS_S, stA_A, stB_B, aL_A, aL_B, aL_S, aC_A, hRd_eq, hRd_ne, cp6, cp8, tl_some, tl_none, List.cons_append, List.nil_append, ofI_t0, ofI_t1, Int.add_zero, Int.zero_add, x36_29]
    by_cases e2 : ¬ nK f n 0 (J - 1) (nB f n (w + 1)) = 0
    · rw [if_neg e2] at hr3
      exact t30 _ _ h3 _ _ _ _ (by omega) hr3 (by omega) (by omega) (o2.trans o3) (kk.nu.1 e2)
    have e2 : nK f n 0 (J - 1) (nB f n (w + 1)) = 0 := by omega
    have kk := PC.en (kk.nu.2 e2)
    have hkv2 := nK_v e2
    have hs := sk_b (f := f) hb2.2.2
    rw [e2, if_pos rfl] at hr3
    have o3 := o2.trans o3
    simp (disch := omega) only [wr_id, wr_m1, sd_t, nl_I, nl_R, nl_none, c1_I, c1_R, sh_0, sh_1, sh_2, sh_3, sh_4, true_and, and_true, ldA_A, ldB_B, ldS_S, stA_A, stB_B, aL_A, aL_B, aL_S, aC_A, hRd_eq, hRd_ne, cp6, cp8, tl_some, tl_none, List.cons_append, List.nil_append, ofI_t0, ofI_t1, Int.add_zero, Int.zero_add, x36_30, x36_31]
    refine s_end (by omega) hT hr3 ⟨by omega, by omega⟩ (fun g1 g2 h5 hr5 o5 => ?_) (fun g1 h5 hr5 o5 => ?_)
    · have hr51 := hr5.1
      have hc5 := hc.out (o3.trans o5) (by omega)
      have hc54 := g4 h5 (o3.trans o5)
      have hc56 := g6 h5 (o3.trans o5)
      simp (disch := omega) only [wr_id, wr_m1, sd_t, nl_I, nl_R, nl_none, c1_I, c1_R, sh_0, sh_1, sh_2, sh_3, sh_4, true_and, and_true, ldA_A, ldB_B, ldS_S, stA_A, stB_B, aL_A, aL_B, aL_S, aC_A, hRd_eq, hRd_ne, cp6, cp8, tl_some, tl_none, List.cons_append, List.nil_append, ofI_t0, ofI_t1, Int.add_zero, Int.zero_add, x36_32, x36_33, x36_34, x36_35, x36_36, x36_37, x36_38, x36_39, gf5_3, gf5_1, gf2_4, hr51, hc54]
      refine ⟨fun z => by first | omega | exact absurd trivial z, fun _ => ?_⟩
      refine s_holds (by omega) hc56 (by omega) (by omega) (by omega) ?_
      rw [if_pos (by omega)]
      simp (disch := omega) only [wr_id, wr_m1, sd_t, nl_I, nl_R, nl_none, c1_I, c1_R, sh_0, sh_1, sh_2, sh_3, sh_4, true_and, and_true, ldA_A, ldB_B, ldS_S, stA_A, stB_B, aL_A, aL_B, aL_S, aC_A, hRd_eq, hRd_ne, cp6, cp8, tl_some, tl_none, List.cons_append, List.nil_append, ofI_t0, ofI_t1, Int.add_zero, Int.zero_add, x36_40, x36_41, x36_42, x36_43, x36_44, x36_45, x36_46, x36_47, gf5_1, gf2_4, hr51, hc54, hc56]
      refine ⟨fun z => by first | omega | exact absurd (by omega) z, fun _ => ⟨⟨by omega, by omega, by omega⟩, ?_⟩⟩
      have o6 : Out 6 6 h5 (hWr h5 6 (cA 6 (uA wt (nV f n (w + 1)) (nV f n (nB f n (w + 1)))))) := Out.refl.wr (by omega) (by omega)
      refine kk.2 g1 g2 _ _ (hr5.out o6 (by omega)) ?_ (db_addW hD (by simp only; omega)) (by omega) (by omega) (((o3.trans o5).widen (by omega) (by omega)).trans (o6.widen (by omega) (by omega)))
      obtain ⟨c1, c2, c3, c4, c5, c6⟩ := hc5
      exact ⟨by rw [hRd_ne (by omega)]; exact c1, by rw [hRd_ne (by omega)]; exact c2, hRd_eq, by rw [hRd_ne (by omega)]; exact c4, by rw [hRd_ne (by omega)]; exact c5, by rw [hRd_ne (by omega)]; exact c6⟩
    · have hr51 := hr5.1
      simp (disch := omega) only [wr_id, wr_m1, sd_t, nl_I, nl_R, nl_none, c1_I, c1_R, sh_0, sh_1, sh_2, sh_3, sh_4, true_and, and_true, ldA_A, ldB_B, ldS_S, stA_A, stB_B, aL_A, aL_B, aL_S, aC_A, hRd_eq, hRd_ne, cp6, cp8, tl_some, tl_none, List.cons_append, List.nil_append, ofI_t0, ofI_t1, Int.add_zero, Int.zero_add, x36_32, x36_33, x36_34, x36_47, gf5_3, hr51]
      refine ⟨fun z => ?_, fun z => by first | omega | exact absurd (by omega) z⟩
      exact kk.1 g1 h5 _ _ _ hr5 (hc.out (o3.trans o5) (by omega)) hD (by omega) (by omega) ((o3.trans o5).widen (by omega) (by omega))
  · rw [if_neg z] at kk
    refine s_blame (by omega) hr2 (by omega) (fun _ => ?_) (fun z => absurd rfl z)
    simp only [Option.toList_none, List.nil_append]
    exact t21 4 _ _ _ _ _ _ (by omega) (hr2.at 4 _) (by omega) (by omega) (o2.wr (by omega) (by omega)) (kk.1 (by show ¬ (4 : Int) = 0; omega))
end
