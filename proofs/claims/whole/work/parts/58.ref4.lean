-- THE REFERENCE: one round of the settling, what is done: the walk
section
variable {d : Nat} {h h0 : LHeap} {Q : Option Value → LHeap → Prop} {wk wt dr tk bh g D U : Int → Int} {M P J sh j b : Int} {z : Nat → Int} {L : List Int}
theorem l_mJobI (hd : 2 ≤ d) (h1 : hRd h 156 = oM z) (hJ : J ≤ 8) (hj : 0 ≤ j ∧ j < J) (hdr : ∀ j, 0 ≤ j → j < J → g (9 + j) = dr j ∧ 0 ≤ dr j ∧ dr j ≤ 5) (hD : TVF D) (h160 : hRd h 160 = cA 24 g) (h169 : hRd h 169 = cA 8 D) : ∀ (n : Nat) (i x : Int), (n : Int) = j - i → 0 ≤ i → TV x → (WP d 130 66 [some (.ref 156), some (vI b), some (vI j), some (vI (inF dr D (dr j) n i x)), some (vI j)] [] h Q) → WPC d 130 39 [some (.ref 156), some (vI b), some (vI j), some (vI x), some (vI i)] [] h Q := by
  have ej := hdr j hj.1 hj.2
  intro n
  induction n with
  | zero =>
    intro i x hn hi hx kk
    have : i = j := by omega
    subst this
    rw [WPC_iff]
    simp (disch := omega) only [wr_id, wr_m1, sd_t, nl_I, nl_R, nl_none, c1_I, c1_R, sh_0, sh_1, sh_2, sh_3, sh_4, true_and, and_true, ldA_A, ldB_B, ldS_S, stA_A, stB_B, aL_A, aL_B, aL_S, aC_A, hRd_eq, hRd_ne, cp6, cp8, tl_some, tl_none, List.cons_append, List.nil_append, ofI_t0, ofI_t1, Int.add_zero, Int.zero_add, x130_39, x130_40, x130_41]
    exact ⟨fun _ => kk, fun q => by first | omega | exact absurd (by omega) q⟩
  | succ n ih =>
    intro i x hn hi hx kk
    have ei := hdr i hi (by omega)
    have hDi := hD i
    have hx2 := hx
    unfold TV at hDi hx2
    rw [inF] at kk
    rw [WPC_iff]
    simp (disch := omega) only [wr_id, wr_m1, sd_t, nl_I, nl_R, nl_none, c1_I, c1_R, sh_0, sh_1, sh_2, sh_3, sh_4, true_and, and_true, ldA_A, ldB_B, ldS_S, stA_A, stB_B, aL_A, aL_B, aL_S, aC_A, hRd_eq, hRd_ne, cp6, cp8, tl_some, tl_none, List.cons_append, List.nil_append, ofI_t0, ofI_t1, Int.add_zero, Int.zero_add, x130_39, x130_40, x130_41, x130_42, x130_43, x130_44, x130_45, x130_46, x130_47, x130_48, x130_49, x130_50, x130_51, x130_52, x130_53, x130_54, x130_55, x130_56, x130_57, x130_58, x130_59, x130_60, gf11_0, pf11_0, gf11_1, pf11_1, gf11_2, pf11_2, gf11_3, gf11_4, gf11_5, gf11_6, gf11_7, pf11_7, gf11_8, gf11_9, pf11_9, gf11_10, pf11_10, gf11_11, pf11_11, gf11_12, pf11_12, gf11_13, pf11_13, gf11_14, gf11_15, pf11_15, gf11_16, gf11_17, pf11_17, gf11_18, gf11_19, gf11_20, gf11_21, gf11_22, gf11_23, gf11_24, pf11_24, gf11_25, gf11_26, gf11_27, gf11_28, pf11_28, gf11_29, pf11_29, gf11_30, gf11_31, gf11_32, pf11_32, gf11_33, gf11_34, gf11_35, pf11_35, gf11_36, gf11_37, gf11_38, gf11_39, uN_eq, uN_ne, h1, h160, h169]
    refine ⟨fun q => by omega, fun _ => ⟨by omega, by omega, fun q => ?_, fun q => ?_⟩⟩
    · rw [if_neg (by omega)] at kk
      simp (disch := omega) only [wr_id, wr_m1, sd_t, nl_I, nl_R, nl_none, c1_I, c1_R, sh_0, sh_1, sh_2, sh_3, sh_4, true_and, and_true, ldA_A, ldB_B, ldS_S, stA_A, stB_B, aL_A, aL_B, aL_S, aC_A, hRd_eq, hRd_ne, cp6, cp8, tl_some, tl_none, List.cons_append, List.nil_append, ofI_t0, ofI_t1, Int.add_zero, Int.zero_add, x130_62, x130_63, x130_64, x130_65, x130_38]
      exact ih (i + 1) x (by omega) (by omega) hx kk
    · rw [if_pos (by omega)] at kk
      refine ⟨by omega, ?_⟩
      refine m_later (by omega) (by omega) (by omega) ?_
      simp (disch := omega) only [wr_id, wr_m1, sd_t, nl_I, nl_R, nl_none, c1_I, c1_R, sh_0, sh_1, sh_2, sh_3, sh_4, true_and, and_true, ldA_A, ldB_B, ldS_S, stA_A, stB_B, aL_A, aL_B, aL_S, aC_A, hRd_eq, hRd_ne, cp6, cp8, tl_some, tl_none, List.cons_append, List.nil_append, ofI_t0, ofI_t1, Int.add_zero, Int.zero_add, x130_61, x130_62, x130_63, x130_64, x130_65, x130_38]
      exact ih (i + 1) _ (by omega) (by omega) (TV_mx hx (hD i)) kk
theorem l_mJobs (hd : 2 ≤ d) (hB : CapB M P J wk wt dr tk bh) (hS : SC P J L wk dr sh g) (hU : TVF U) : ∀ (n : Nat) (j b : Int) (I D : Int → Int) (h : LHeap) (l3 l4 : Option Value), (n : Int) = J - j → 0 ≤ j → (∀ q, I q = inF dr D q j.toNat 0 (U q)) → TVF D → (b = 0 ∨ b = 1) → MC M P J wt tk bh z h → hRd h 160 = cA 24 g → hRd h 168 = cA 6 U → hRd h 169 = cA 8 D → (∀ h1, hRd h1 169 = cA 8 (wrkF M dr tk bh n j I D) → Out 169 169 h h1 → Q (some (vI (wrkC M dr tk bh n j I D b))) h1) → WPC d 130 5 [some (.ref 156), some (vI b), some (vI j), l3, l4] [] h Q := by
  obtain ⟨s1, s2, s3, s4, s5⟩ := hS
  obtain ⟨b1, b2, b3, b4, b5⟩ := id hB
  intro n
  induction n with
  | zero =>
    intro j b I D h l3 l4 hn hj hI hD hb hM h160 h168 h169 kk
    obtain ⟨h1, hz, -⟩ := id hM
    rw [WPC_iff]
    simp (disch := omega) only [wr_id, wr_m1, sd_t, nl_I, nl_R, nl_none, c1_I, c1_R, sh_0, sh_1, sh_2, sh_3, sh_4, true_and, and_true, ldA_A, ldB_B, ldS_S, stA_A, stB_B, aL_A, aL_B, aL_S, aC_A, hRd_eq, hRd_ne, cp6, cp8, tl_some, tl_none, List.cons_append, List.nil_append, ofI_t0, ofI_t1, Int.add_zero, Int.zero_add, x130_5, x130_6, x130_7, x130_8, x130_94, x130_95, gf11_0, pf11_0, gf11_1, pf11_1, gf11_2, pf11_2, gf11_3, gf11_4, gf11_5, gf11_6, gf11_7, pf11_7, gf11_8, gf11_9, pf11_9, gf11_10, pf11_10, gf11_11, pf11_11, gf11_12, pf11_12, gf11_13, pf11_13, gf11_14, gf11_15, pf11_15, gf11_16, gf11_17, pf11_17, gf11_18, gf11_19, gf11_20, gf11_21, gf11_22, gf11_23, gf11_24, pf11_24, gf11_25, gf11_26, gf11_27, gf11_28, pf11_28, gf11_29, pf11_29, gf11_30, gf11_31, gf11_32, pf11_32, gf11_33, gf11_34, gf11_35, pf11_35, gf11_36, gf11_37, gf11_38, gf11_39, uN_eq, uN_ne, h1]
    exact ⟨fun _ => ⟨ofI_01 hb, kk h h169 Out.refl⟩, fun q => by omega⟩
  | succ n ih =>
    intro j b I D h l3 l4 hn hj hI hD hb hM h160 h168 h169 kk
    obtain ⟨h1, hz, ⟨t, h157, h157b⟩, ⟨w, h158, h158b⟩, -⟩ := id hM
    have hj5 := b5 j hj (by omega)
    have hwj := h158b j hj (by omega)
    have htj := h157b j hj (by omega)
    have hsj := s4 j hj (by omega)
    have hUj := hU (dr j)
    have hDb := hD (bh j)
    have hIj : TV (I (dr j)) := by rw [hI]; exact inF_tv hD _ _ _ (hU _)
    have hDj := hD j
    unfold TV at hUj hDb hDj
    rw [wrkF, wrkC] at kk
    have hdr : ∀ j, 0 ≤ j → j < J → g (9 + j) = dr j ∧ 0 ≤ dr j ∧ dr j ≤ 5 := fun j j0 j1 => ⟨s4 j j0 j1, (b5 j j0 j1).1, by have := (b5 j j0 j1).2.1; omega⟩
    -- behind the choice of what it is behind
    have st : ∀ x : Int, x = (if bh j < 0 then 0 else D (bh j)) → WP d 130 34 [some (.ref 156), some (vI b), some (vI j), some (vI (U (dr j))), l4] [vI x, vI (U (dr j))] h Q := by
      intro x hx
      have hxb : TV x := by rw [hx]; unfold TV; split <;> omega
      have hxb2 := hxb
      unfold TV at hxb2
      simp (disch := omega) only [wr_id, wr_m1, sd_t, nl_I, nl_R, nl_none, c1_I, c1_R, sh_0, sh_1, sh_2, sh_3, sh_4, true_and, and_true, ldA_A, ldB_B, ldS_S, stA_A, stB_B, aL_A, aL_B, aL_S, aC_A, hRd_eq, hRd_ne, cp6, cp8, tl_some, tl_none, List.cons_append, List.nil_append, ofI_t0, ofI_t1, Int.add_zero, Int.zero_add, x130_34]
      refine m_later (by omega) (by omega) (by omega) ?_
      simp (disch := omega) only [wr_id, wr_m1, sd_t, nl_I, nl_R, nl_none, c1_I, c1_R, sh_0, sh_1, sh_2, sh_3, sh_4, true_and, and_true, ldA_A, ldB_B, ldS_S, stA_A, stB_B, aL_A, aL_B, aL_S, aC_A, hRd_eq, hRd_ne, cp6, cp8, tl_some, tl_none, List.cons_append, List.nil_append, ofI_t0, ofI_t1, Int.add_zero, Int.zero_add, x130_35, x130_36, x130_37, x130_38]
      refine l_mJobI (by omega) h1 (by omega) ⟨hj, by omega⟩ hdr hD h160 h169 j.toNat 0 _ (by omega) (by omega) (TV_mx (hU _) hxb) ?_
      rw [inF_mx, ← hI]
      have hmx := TV_mx hIj hxb
      have hIj2 := hIj
      unfold TV at hmx hIj2
      have hge : I (dr j) ≤ mx (I (dr j)) x := by unfold mx; split <;> omega
      have ev : inT M (mx (I (dr j)) x + tk j) = wrkV M dr tk bh I D j := by rw [hx]; rfl
      have hV := TV_wrkV hB (I := I) (D := D) (fun q => by rw [hI]; exact inF_tv hD _ _ _ (hU _)) hD hj (by omega)
      have hV2 := hV
      unfold TV at hV2
      have hVge : I (dr j) ≤ wrkV M dr tk bh I D j := by rw [← ev]; unfold inT; split <;> omega
      simp (disch := omega) only [wr_id, wr_m1, sd_t, nl_I, nl_R, nl_none, c1_I, c1_R, sh_0, sh_1, sh_2, sh_3, sh_4, true_and, and_true, ldA_A, ldB_B, ldS_S, stA_A, stB_B, aL_A, aL_B, aL_S, aC_A, hRd_eq, hRd_ne, cp6, cp8, tl_some, tl_none, List.cons_append, List.nil_append, ofI_t0, ofI_t1, Int.add_zero, Int.zero_add, x130_66, x130_67, x130_68, x130_69, x130_70, x130_71, x130_72, x130_73, gf11_0, pf11_0, gf11_1, pf11_1, gf11_2, pf11_2, gf11_3, gf11_4, gf11_5, gf11_6, gf11_7, pf11_7, gf11_8, gf11_9, pf11_9, gf11_10, pf11_10, gf11_11, pf11_11, gf11_12, pf11_12, gf11_13, pf11_13, gf11_14, gf11_15, pf11_15, gf11_16, gf11_17, pf11_17, gf11_18, gf11_19, gf11_20, gf11_21, gf11_22, gf11_23, gf11_24, pf11_24, gf11_25, gf11_26, gf11_27, gf11_28, pf11_28, gf11_29, pf11_29, gf11_30, gf11_31, gf11_32, pf11_32, gf11_33, gf11_34, gf11_35, pf11_35, gf11_36, gf11_37, gf11_38, gf11_39, uN_eq, uN_ne, h1, h157, htj]
      refine ⟨by omega, ?_⟩
      refine m_inTime (by omega) h1 (by omega) (by omega) ?_
      rw [hz.1, ev]
      generalize hg : wrkV M dr tk bh I D j = v at kk hV hV2 hVge
      have nx : ∀ b1 : Int, b1 = (if b = 0 ∧ v = D j then 0 else 1) → WP d 130 87 [some (.ref 156), some (vI b1), some (vI j), some (vI (mx (I (dr j)) x)), some (vI v)] [] h Q := by
        intro b1 hb1
        rw [← hb1] at kk
        have h01 : b1 = 0 ∨ b1 = 1 := by rw [hb1]; split <;> omega
        have ow : Out 169 169 h (hWr h 169 (cA 8 (uA D j v))) := Out.refl.wr (by omega) (by omega)
        simp (disch := omega) only [wr_id, wr_m1, sd_t, nl_I, nl_R, nl_none, c1_I, c1_R, sh_0, sh_1, sh_2, sh_3, sh_4, true_and, and_true, ldA_A, ldB_B, ldS_S, stA_A, stB_B, aL_A, aL_B, aL_S, aC_A, hRd_eq, hRd_ne, cp6, cp8, tl_some, tl_none, List.cons_append, List.nil_append, ofI_t0, ofI_t1, Int.add_zero, Int.zero_add, x130_87, x130_88, x130_89, x130_90, x130_91, x130_92, x130_93, x130_4, gf11_0, pf11_0, gf11_1, pf11_1, gf11_2, pf11_2, gf11_3, gf11_4, gf11_5, gf11_6, gf11_7, pf11_7, gf11_8, gf11_9, pf11_9, gf11_10, pf11_10, gf11_11, pf11_11, gf11_12, pf11_12, gf11_13, pf11_13, gf11_14, gf11_15, pf11_15, gf11_16, gf11_17, pf11_17, gf11_18, gf11_19, gf11_20, gf11_21, gf11_22, gf11_23, gf11_24, pf11_24, gf11_25, gf11_26, gf11_27, gf11_28, pf11_28, gf11_29, pf11_29, gf11_30, gf11_31, gf11_32, pf11_32, gf11_33, gf11_34, gf11_35, pf11_35, gf11_36, gf11_37, gf11_38, gf11_39, uN_eq, uN_ne, h1, h169]
        refine ⟨by omega, ?_⟩
        refine ih (j + 1) b1 (uA I (dr j) v) (uA D j v) _ _ _ (by omega) (by omega) (fun q => ?_) (fun q => ?_) h01 (hM.out ow (by omega)) (by rw [hRd_ne (by omega)]; exact h160) (by rw [hRd_ne (by omega)]; exact h168) hRd_eq (fun h2 e2 o2 => kk h2 e2 (ow.trans o2))
        · rw [show (j + 1).toNat = j.toNat + 1 by omega, inF_last, inF_ext (D := D) (D1 := uA D j v) _ _ _ (fun k k0 k1 => by unfold uA; rw [if_neg (by omega)]), ← hI, show (0 : Int) + (j.toNat : Int) = j by omega]
          unfold uA
          rw [if_pos rfl]
          by_cases e : dr j = q
          · rw [if_pos e.symm, if_pos e, ← e]
            unfold mx
            split <;> omega
          · rw [if_neg (fun z => e z.symm), if_neg e]
        · unfold uA
          split
          · exact hV
          · exact hD q
      simp (disch := omega) only [wr_id, wr_m1, sd_t, nl_I, nl_R, nl_none, c1_I, c1_R, sh_0, sh_1, sh_2, sh_3, sh_4, true_and, and_true, ldA_A, ldB_B, ldS_S, stA_A, stB_B, aL_A, aL_B, aL_S, aC_A, hRd_eq, hRd_ne, cp6, cp8, tl_some, tl_none, List.cons_append, List.nil_append, ofI_t0, ofI_t1, Int.add_zero, Int.zero_add, x130_74, x130_75, x130_76, x130_77, x130_78, x130_79, x130_80, x130_81, x130_82, x130_83, x130_84, x130_85, x130_86, gf11_0, pf11_0, gf11_1, pf11_1, gf11_2, pf11_2, gf11_3, gf11_4, gf11_5, gf11_6, gf11_7, pf11_7, gf11_8, gf11_9, pf11_9, gf11_10, pf11_10, gf11_11, pf11_11, gf11_12, pf11_12, gf11_13, pf11_13, gf11_14, gf11_15, pf11_15, gf11_16, gf11_17, pf11_17, gf11_18, gf11_19, gf11_20, gf11_21, gf11_22, gf11_23, gf11_24, pf11_24, gf11_25, gf11_26, gf11_27, gf11_28, pf11_28, gf11_29, pf11_29, gf11_30, gf11_31, gf11_32, pf11_32, gf11_33, gf11_34, gf11_35, pf11_35, gf11_36, gf11_37, gf11_38, gf11_39, uN_eq, uN_ne, h1, h169]
      exact ⟨fun q => nx 1 (by rw [if_neg (fun z => q z.1)]), fun q => ⟨by omega, fun q2 => nx 0 (by rw [if_pos ⟨by omega, q2⟩]), fun q2 => nx 1 (by rw [if_neg (fun z => q2 z.2)])⟩⟩
    rw [WPC_iff]
    simp (disch := omega) only [wr_id, wr_m1, sd_t, nl_I, nl_R, nl_none, c1_I, c1_R, sh_0, sh_1, sh_2, sh_3, sh_4, true_and, and_true, ldA_A, ldB_B, ldS_S, stA_A, stB_B, aL_A, aL_B, aL_S, aC_A, hRd_eq, hRd_ne, cp6, cp8, tl_some, tl_none, List.cons_append, List.nil_append, ofI_t0, ofI_t1, Int.add_zero, Int.zero_add, x130_5, x130_6, x130_7, x130_8, x130_9, x130_10, x130_11, x130_12, x130_13, x130_14, x130_15, x130_16, x130_17, x130_18, x130_19, x130_20, x130_21, x130_22, x130_23, x130_24, x130_25, x130_26, x130_27, x130_28, x130_29, x130_30, x130_31, x130_32, x130_33, gf11_0, pf11_0, gf11_1, pf11_1, gf11_2, pf11_2, gf11_3, gf11_4, gf11_5, gf11_6, gf11_7, pf11_7, gf11_8, gf11_9, pf11_9, gf11_10, pf11_10, gf11_11, pf11_11, gf11_12, pf11_12, gf11_13, pf11_13, gf11_14, gf11_15, pf11_15, gf11_16, gf11_17, pf11_17, gf11_18, gf11_19, gf11_20, gf11_21, gf11_22, gf11_23, gf11_24, pf11_24, gf11_25, gf11_26, gf11_27, gf11_28, pf11_28, gf11_29, pf11_29, gf11_30, gf11_31, gf11_32, pf11_32, gf11_33, gf11_34, gf11_35, pf11_35, gf11_36, gf11_37, gf11_38, gf11_39, uN_eq, uN_ne, h1, h160, h168, h158, h169, hsj, hwj]
    refine ⟨fun q => by omega, fun _ => ⟨by omega, by omega, by omega, fun q => ⟨by omega, by omega, ?_⟩, fun q => ?_⟩⟩
    · exact st _ (by rw [if_neg (by omega)])
    · exact st _ (by rw [if_pos (by omega)])
end
