-- THE REFERENCE: one round of the settling, what is done: the walk
section
variable {d : Nat} {h h0 : LHeap} {Q : Option Value → LHeap → Prop} {wk wt dr tk bh g D U : Int → Int} {M P J sh j b : Int} {z : Nat → Int} {L : List Int}
theorem l_mJobI (hd : 2 ≤ d) (h1 : hRd h 156 = oM z) (hJ : J ≤ 8) (hj : 0 ≤ j ∧ j < J) (hdr : ∀ j, 0 ≤ j → j < J → g (9 + j) = dr j ∧ 0 ≤ dr j ∧ dr j ≤ 5) (hD : TVF D) (h160 : hRd h 160 = cA 24 g) (h169 : hRd h 169 = cA 8 D) : ∀ (n : Nat) (i x : Int), (n : Int) = j - i → 0 ≤ i → TV x → (WP d 130 66 [some (.ref 156), some (vI b), some (vI j), some (vI (inF dr D (dr j) n i x)), some (vI j)] [] h Q) → WPC d 130 39 [some (.ref 156), some (vI b), some (vI j), some (vI x), some (vI i)] [] h Q := by
  have ej := hdr j hj.1 hj.2
  intro n
  induction n with
  | zero =>
    intro i x hn hi hx kk
    have : i = j := by omega
    subst this
    rw [WPC_iff]
    simp (disch := omega) only [wr_id, wr_m1, sd_t, nl_I, nl_R, nl_none, c1_I, c1_R, sh_0, sh_1, sh_2, sh_3, sh_4, true_and, and_true, ldA_A, ldB_B, ldS_S, stA_A, stB_B, aL_A, aL_B, aL_S, aC_A, hRd_eq, hRd_ne, cp6, cp8, tl_some, tl_none, List.cons_append, List.nil_append, ofI_t0, ofI_t1, Int.add_zero, Int.zero_add, x130_39, x130_40, x130_41]
    exact ⟨fun _ => kk, fun q => by first | omega | exact absurd (by omega) q⟩
  | succ n ih =>
    intro i x hn hi hx kk
    have ei := hdr i hi (by omega)
    have hDi := hD i
    have hx2 := hx
    unfold TV at hDi hx2
    rw [inF] at kk
    rw [WPC_iff]
    simp (disch := omega) only [wr_id, wr_m1, sd_t, nl_I, nl_R, nl_none, c1_I, c1_R, sh_0, sh_1, sh_2, sh_3, sh_4, true_and, and_true, ldA_A, ldB_B, ldS_S, stA_A, stB_B, aL_A, aL_B, aL_S, aC_A, hRd_eq, hRd_ne, cp6, cp8, tl_some, tl_none, List.cons_append, List.nil_append, ofI_t0, ofI_t1, Int.add_zero, Int.zero_add, x130_39, x130_40, x130_41, x130_42, x130_43, x130_44, x130_45, x130_46, x130_47, x130_48, x130_49, x130_50, x130_51, x130_52, x130_53, x130_54, x130_55, x130_56, x130_57, x130_58, x130_59, x130_60, gf11_0, pf11_0, gf11_1, pf11_1, gf11_2, pf11_2, gf11_3, gf11_4, gf11_5, gf11_6, gf11_7, pf11_7, gf11_8, gf11_9, pf11_9, gf11_10, pf11_10, gf11_11, pf11_11, gf11_12, pf11_12, gf11_13, pf11_13, gf11_14, gf11_15, pf11_15, gf11_16, gf11_17, pf11_17, gf11_18, gf11_19, gf11_20, gf11_21, gf11_22, gf11_23, gf11_24, pf11_24, gf11_25, gf11_26, gf11_27, gf11_28, pf11_28, gf11_29, pf11_29, gf11_30, gf11_31, gf11_32, pf11_32, gf11_33, gf11_34, gf11_35, pf11_35, gf11_36, gf11_37, gf11_38, gf11_39, uN_eq, uN_ne, h1, h160, h169]
    refine ⟨fun q => by omega, fun _ => ⟨by omega, by omega, fun q => ?_, fun q => ?_⟩⟩
    · rw [if_neg (by omega)] at kk
      simp (disch := omega) only [wr_id, wr_m1, sd_t, nl_I, nl_R, nl_none, c1_I, c1_R, sh_0, sh_1, sh_2, sh_3, sh_4, true_and, and_true, ldA_A, ldB_B, ldS_S, stA_A, stB_B, aL_A, aL_B, aL_S, aC_A, hRd_eq, hRd_ne, cp6, cp8, tl_some, tl_none, List.cons_append, List.nil_append, ofI_t0, ofI_t1, Int.add_zero, Int.zero_add, x130_62, x130_63, x130_64, x130_65, x130_38]
      exact ih (i + 1) x (by omega) (by omega) hx kk
    · rw [if_pos (by omega)] at kk
      refine ⟨by omega, ?_⟩
      refine m_later (by omega) (by omega) (by omega) ?_
      simp (disch := omega) only [wr_id, wr_m1, sd_t, nl_I, nl_R, nl_none, c1_I, c1_R, sh_0, sh_1, sh_2, sh_3, sh_4, true_and, and_true, ldA_A, ldB_B, ldS_S, stA_A, stB_B, aL_A, aL_B, aL_S, aC_A, hRd_eq, hRd_ne, cp6, cp8, tl_some, tl_none, List.cons_append, List.nil_append, ofI_t0, ofI_t1, Int.add_zero, Int.zero_add, x130_61, x130_62, x130_63, x130_64, x130_65, x130_38]
      exact ih (i + 1) _ (by omega) (by omega) (TV_mx hx (hD i)) kk
end
