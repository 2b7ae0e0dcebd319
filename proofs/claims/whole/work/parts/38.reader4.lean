-- THE READER: persons
section
variable {d : Nat} {h h0 : LHeap} {Q : Option Value → LHeap → Prop} {f wk wt dr tk bh : Int → Int} {n tr pl a na M P J w : Int} {D : CC}
theorem db_addP {x : Int} (hD : DB D) (hP : D.2.1 < 6) (hx : 0 ≤ x ∧ x ≤ 999) : DB (addP D x) := by
  obtain ⟨M, P, J, wk, wt, dr, tk, bh⟩ := D
  obtain ⟨⟨b1, b2, b3, b4, b5⟩, b6⟩ := hD
  simp only at hP b1 b2 b3 b4 b5 b6
  unfold addP
  refine ⟨⟨b1, ⟨?_, ?_⟩, b3, fun p p0 p1 => ?_, fun j j0 j1 => ?_⟩, fun i => ?_⟩
  all_goals simp only at *
  · omega
  · omega
  · unfold uA
    by_cases e : p = P
    · rw [if_pos e, if_pos e]; omega
    · rw [if_neg e, if_neg e]; exact b4 p p0 (by omega)
  · have := b5 j j0 j1; omega
  · unfold uA
    split
    · omega
    · exact b6 i
theorem s_rdPerson (hd : 5 ≤ d) (hT : TxB f n) (hr : RdAt f n 0 (-1) a na h) (h0 : 0 ≤ a ∧ a ≤ n) (hw : a = w + 1) (hc : CiC 4 D h) (hD : DB D) (kk : PC Q h f n a (cP f n w D)) : CALL d 34 [.ref 2, vI w] h Q := by
  obtain ⟨M, P, J, wk, wt, dr, tk, bh⟩ := D
  have hP := hD.1.2.1
  have hc4 : hRd h 4 = oCity M P J 5 6 7 8 9 := hc.1
  simp only at hP
  have hb := nB_b (f := f) h0.2
  -- behind a fault
  have tm : ∀ (tr pl : Int) (h2 : LHeap) (a2 na2 : Int) (l2 : Option Value), 1 ≤ tr ∧ tr ≤ 4 → RdAt f n tr pl a2 na2 h2 → a ≤ a2 → a2 ≤ n → Out 2 2 h h2 → FP Q h f n a tr pl → WP (d - 1) 34 14 [some (.ref 2), some (vI w), l2] [] h2 Q := by
    intro tr pl h2 a2 na2 l2 ht hr2 g1 g2 o hf
    simp (disch := omega) only [wr_id, wr_m1, sd_t, nl_I, nl_R, nl_none, c1_I, c1_R, sh_0, sh_1, sh_2, sh_3, sh_4, true_and, and_true, ldA_A, ldB_B, ldS_S, stA_A, stB_B, aL_A, aL_B, aL_S, aC_A, hRd_eq, hRd_ne, cp6, cp8, tl_some, tl_none, List.cons_append, List.nil_append, ofI_t0, ofI_t1, Int.add_zero, Int.zero_add, x34_14, x34_15]
    refine s_endT (by omega) hT hr2 ht ⟨by omega, g2⟩ (fun h3 a3 g3 g4 hr3 o3 => ?_)
    have hr31 := hr3.1
    simp (disch := omega) only [wr_id, wr_m1, sd_t, nl_I, nl_R, nl_none, c1_I, c1_R, sh_0, sh_1, sh_2, sh_3, sh_4, true_and, and_true, ldA_A, ldB_B, ldS_S, stA_A, stB_B, aL_A, aL_B, aL_S, aC_A, hRd_eq, hRd_ne, cp6, cp8, tl_some, tl_none, List.cons_append, List.nil_append, ofI_t0, ofI_t1, Int.add_zero, Int.zero_add, x34_16, x34_17, x34_18, x34_23, gf5_3, hr31]
    exact ⟨fun z => hf h3 _ a3 na2 hr3 (hc.out (o.trans o3) (by omega)) hD (by omega) g4 ((o.trans o3).widen (by omega) (by omega)), fun z => by omega⟩
  refine cl34 (by omega) hr.1 ?_
  have hr1 := hr.1
  simp (disch := omega) only [wr_id, wr_m1, sd_t, nl_I, nl_R, nl_none, c1_I, c1_R, sh_0, sh_1, sh_2, sh_3, sh_4, true_and, and_true, ldA_A, ldB_B, ldS_S, stA_A, stB_B, aL_A, aL_B, aL_S, aC_A, hRd_eq, hRd_ne, cp6, cp8, tl_some, tl_none, List.cons_append, List.nil_append, ofI_t0, ofI_t1, Int.add_zero, Int.zero_add, x34_0, x34_1, x34_2, x34_3, x34_4, x34_5, x34_6, x34_7, x34_8, gf5_1, gf2_1, hr1, hc4]
  unfold cP at kk
  simp only at kk
  subst hw
  refine ⟨fun z => ?_, fun z => ?_⟩
  · rw [if_pos z] at kk
    simp (disch := omega) only [wr_id, wr_m1, sd_t, nl_I, nl_R, nl_none, c1_I, c1_R, sh_0, sh_1, sh_2, sh_3, sh_4, true_and, and_true, ldA_A, ldB_B, ldS_S, stA_A, stB_B, aL_A, aL_B, aL_S, aC_A, hRd_eq, hRd_ne, cp6, cp8, tl_some, tl_none, List.cons_append, List.nil_append, ofI_t0, ofI_t1, Int.add_zero, Int.zero_add, x34_9, x34_10, x34_11, x34_12]
    refine s_num (by omega) hT (by omega) (by omega) hr h0 (fun h2 hr2 o2 => ?_)
    have hk := nK_b f n 0 999 (w + 1)
    simp (disch := omega) only [wr_id, wr_m1, sd_t, nl_I, nl_R, nl_none, c1_I, c1_R, sh_0, sh_1, sh_2, sh_3, sh_4, true_and, and_true, ldA_A, ldB_B, ldS_S, stA_A, stB_B, aL_A, aL_B, aL_S, aC_A, hRd_eq, hRd_ne, cp6, cp8, tl_some, tl_none, List.cons_append, List.nil_append, ofI_t0, ofI_t1, Int.add_zero, Int.zero_add, x34_13]
    by_cases e : nK f n 0 999 (w + 1) = 0
    · have kk := PC.en (kk.nu.2 e)
      rw [e, if_pos rfl] at hr2
      simp (disch := omega) only [wr_id, wr_m1, sd_t, nl_I, nl_R, nl_none, c1_I, c1_R, sh_0, sh_1, sh_2, sh_3, sh_4, true_and, and_true, ldA_A, ldB_B, ldS_S, stA_A, stB_B, aL_A, aL_B, aL_S, aC_A, hRd_eq, hRd_ne, cp6, cp8, tl_some, tl_none, List.cons_append, List.nil_append, ofI_t0, ofI_t1, Int.add_zero, Int.zero_add, x34_14, x34_15]
      refine s_end (by omega) hT hr2 ⟨by omega, hb.2.2⟩ (fun g1 g2 h3 hr3 o3 => ?_) (fun g1 h3 hr3 o3 => ?_)
      · have hr31 := hr3.1
        have hs := sk_b (f := f) hb.2.2
        have hc3 := hc.out (o2.trans o3) (by omega)
        simp (disch := omega) only [wr_id, wr_m1, sd_t, nl_I, nl_R, nl_none, c1_I, c1_R, sh_0, sh_1, sh_2, sh_3, sh_4, true_and, and_true, ldA_A, ldB_B, ldS_S, stA_A, stB_B, aL_A, aL_B, aL_S, aC_A, hRd_eq, hRd_ne, cp6, cp8, tl_some, tl_none, List.cons_append, List.nil_append, ofI_t0, ofI_t1, Int.add_zero, Int.zero_add, x34_16, x34_17, x34_18, x34_19, x34_20, x34_21, x34_22, x34_23, gf5_3, gf5_1, hr31]
        refine ⟨fun z => by first | omega | exact absurd trivial z, fun _ => ?_⟩
        have hkv := nK_v e
        refine s_Ci_addP (by omega) hc3 (by omega) ⟨hP.1, z⟩ (fun h4 hc4 o4 => ?_)
        simp (disch := omega) only [wr_id, wr_m1, sd_t, nl_I, nl_R, nl_none, c1_I, c1_R, sh_0, sh_1, sh_2, sh_3, sh_4, true_and, and_true, ldA_A, ldB_B, ldS_S, stA_A, stB_B, aL_A, aL_B, aL_S, aC_A, hRd_eq, hRd_ne, cp6, cp8, tl_some, tl_none, List.cons_append, List.nil_append, ofI_t0, ofI_t1, Int.add_zero, Int.zero_add, x34_23]
        exact kk.2 g1 g2 h4 _ (hr3.out o4 (by omega)) hc4 (db_addP hD z (by omega)) (by omega) (by omega) (((o2.trans o3).widen (by omega) (by omega)).trans (o4.widen (by omega) (by omega)))
      · have hr31 := hr3.1
        have hs := sk_b (f := f) hb.2.2
        simp (disch := omega) only [wr_id, wr_m1, sd_t, nl_I, nl_R, nl_none, c1_I, c1_R, sh_0, sh_1, sh_2, sh_3, sh_4, true_and, and_true, ldA_A, ldB_B, ldS_S, stA_A, stB_B, aL_A, aL_B, aL_S, aC_A, hRd_eq, hRd_ne, cp6, cp8, tl_some, tl_none, List.cons_append, List.nil_append, ofI_t0, ofI_t1, Int.add_zero, Int.zero_add, x34_16, x34_17, x34_18, x34_23, gf5_3, hr31]
        refine ⟨fun z => ?_, fun z => by first | omega | exact absurd (by omega) z⟩
        exact kk.1 g1 h3 _ _ _ hr3 (hc.out (o2.trans o3) (by omega)) hD (by omega) (by omega) ((o2.trans o3).widen (by omega) (by omega))
    · rw [if_neg e] at hr2
      exact tm _ _ h2 _ _ _ (by omega) hr2 (by omega) (by omega) o2 (kk.nu.1 e)
  · rw [if_neg z] at kk
    refine s_blame (by omega) hr (by omega) (fun _ => ?_) (fun z => absurd rfl z)
    have r1 : RdAt f n 3 w (w + 1) na (hWr h 2 (oRead 3 4 n 3 w (w + 1) na)) := hr.at 3 w
    have o1 : Out 2 2 h (hWr h 2 (oRead 3 4 n 3 w (w + 1) na)) := Out.refl.wr (by omega) (by omega)
    simp (disch := omega) only [wr_id, wr_m1, sd_t, nl_I, nl_R, nl_none, c1_I, c1_R, sh_0, sh_1, sh_2, sh_3, sh_4, true_and, and_true, ldA_A, ldB_B, ldS_S, stA_A, stB_B, aL_A, aL_B, aL_S, aC_A, hRd_eq, hRd_ne, cp6, cp8, tl_some, tl_none, List.cons_append, List.nil_append, ofI_t0, ofI_t1, Int.add_zero, Int.zero_add, x34_9, x34_10, x34_11, x34_12]
    refine s_numT (by omega) hT r1 (by omega) h0 (fun h2 hr2 o2 => ?_)
    simp (disch := omega) only [wr_id, wr_m1, sd_t, nl_I, nl_R, nl_none, c1_I, c1_R, sh_0, sh_1, sh_2, sh_3, sh_4, true_and, and_true, ldA_A, ldB_B, ldS_S, stA_A, stB_B, aL_A, aL_B, aL_S, aC_A, hRd_eq, hRd_ne, cp6, cp8, tl_some, tl_none, List.cons_append, List.nil_append, ofI_t0, ofI_t1, Int.add_zero, Int.zero_add, x34_13]
    have hs := sk_b (f := f) h0.2
    exact tm 3 w h2 _ _ _ (by omega) hr2 hs.1 hs.2 (o1.trans o2) (kk.1 (by show ¬ (3 : Int) = 0; omega))
theorem db_addJ {x y z : Int} (hD : DB D) (hJ : D.2.2.1 < 8) (hx : 0 ≤ x ∧ x < D.2.1) (hy : 1 ≤ y ∧ y ≤ 99) (hz : -1 ≤ z ∧ z < D.2.2.1) : DB (addJ D x y z) := by
  obtain ⟨M, P, J, wk, wt, dr, tk, bh⟩ := D
  obtain ⟨⟨b1, b2, b3, b4, b5⟩, b6⟩ := hD
  simp only at hJ hx hz b1 b2 b3 b4 b5 b6
  unfold addJ
  refine ⟨⟨b1, b2, ⟨?_, ?_⟩, fun p p0 p1 => ?_, fun j j0 j1 => ?_⟩, b6⟩
  all_goals simp only at *
  · omega
  · omega
  · have := b4 p p0 p1; omega
  · unfold uA
    by_cases e : j = J
    · rw [if_pos e, if_pos e, if_pos e]; omega
    · rw [if_neg e, if_neg e, if_neg e]; exact b5 j j0 (by omega)
theorem db_addW {p j : Int} (hD : DB D) (hj : 0 ≤ j ∧ j < D.2.2.1) : DB (addW D p j) := by
  obtain ⟨M, P, J, wk, wt, dr, tk, bh⟩ := D
  obtain ⟨⟨b1, b2, b3, b4, b5⟩, b6⟩ := hD
  simp only at hj b1 b2 b3 b4 b5 b6
  unfold addW
  refine ⟨⟨b1, b2, b3, fun q p0 p1 => ?_, b5⟩, fun i => ?_⟩
  all_goals simp only at *
  · unfold uA
    have := b4 q p0 p1
    split
    · omega
    · omega
  · unfold uA
    split
    · omega
    · exact b6 i
end
