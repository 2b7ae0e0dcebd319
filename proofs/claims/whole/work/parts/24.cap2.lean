-- THE CAPITAL, going on: rouse, work, reckon
theorem z_bit (x y : Int) : -2147483648 ≤ zand x y ∧ zand x y ≤ 2147483647 := by
  unfold zand
  have h1 := Int32.le_toInt (Int32.ofInt x &&& Int32.ofInt y)
  have h2 := Int32.toInt_lt (Int32.ofInt x &&& Int32.ofInt y)
  omega
section
variable {d r c a n : Nat} {h : LHeap} {Q : Option Value → LHeap → Prop} {f wk wt dr tk bh U D I : Int → Int} {i p m M P J sh : Int} {L : List Int}
theorem TV_rouV {ab : Int} (hB : CapB M P J wk wt dr tk bh) (hD : TVF D) (h0 : 0 ≤ p) (hP : p < P) (hab : TV ab) : TV (rouV M sh wk wt D ab p) := by
  have h1 := TV_wkF hB hD h0 hP
  have h2 := TV_mx h1 hab
  have h3 := TV_ge h1
  have h4 := TV_ge h2
  unfold rouV
  split
  · exact TV_inT h4.1 hB.1.2
  · exact TV_inT h3.1 hB.1.2
theorem l_rouse (hd : 3 ≤ d) (hC : CapH h M P J wk wt dr tk bh) (hB : CapB M P J wk wt dr tk bh) (hD : TVF D) (hr : hRd h r = oRow c m) (hc : hRd h c = cA 6 f) (hrc : (r < 22 ∧ c < 22) ∨ (24 < r ∧ 24 < c)) : ∀ (S pre : List Int) (i ab : Int) (U : Int → Int) (l5 l6 : Option Value), RI f m (pre ++ S) → (∀ x ∈ S, x < P) → i = (pre.length : Int) → TV ab → TVF U → Q none (hK h (fun j => en (rouF M sh wk wt D S ab U j)) (fun j => en (D j)) I) → WPC d 6 5 [some (.ref 10), some (.ref r), some (vI sh), some (vI (en ab)), some (vI i), l5, l6] [] (hK h (fun j => en (U j)) (fun j => en (D j)) I) Q := by
  intro S
  have hrK : ∀ U D I : Int → Int, hRd (hK h U D I) r = oRow c m := fun U D I => by
    rcases hrc with q | q
    · rw [hK_lt q.1]; exact hr
    · rw [hK_gt q.1]; exact hr
  have hcK : ∀ U D I : Int → Int, hRd (hK h U D I) c = cA 6 f := fun U D I => by
    rcases hrc with q | q
    · rw [hK_lt q.2]; exact hc
    · rw [hK_gt q.2]; exact hc
  have h10K : ∀ U D I : Int → Int, hRd (hK h U D I) 10 = oCap 11 17 22 23 24 := fun U D I => hC.hK.1
  induction S with
  | nil =>
    intro pre i ab U l5 l6 hR hS hi hab hU kk
    have := hR.end
    rw [WPC_iff]
    simp (disch := omega) only [wr_id, wr_m1, sd_t, nl_I, nl_R, nl_none, c1_I, c1_R, sh_0, sh_1, sh_2, sh_3, sh_4, true_and, and_true, ldA_A, ldB_B, ldS_S, stA_A, stB_B, aL_A, aL_B, aL_S, aC_A, hRd_eq, hRd_ne, cp6, cp8, tl_some, tl_none, List.cons_append, List.nil_append, ofI_t0, ofI_t1, Int.add_zero, Int.zero_add, x6_0, x6_1, x6_2, x6_3, x6_4, x6_5, x6_6, x6_7, x6_8, x6_9, x6_10, x6_11, x6_12, x6_13, x6_14, x6_15, x6_16, x6_17, x6_18, x6_19, x6_20, x6_21, x6_22, x6_23, x6_24, x6_25, x6_26, x6_27, x6_28, x6_29, x6_30, x6_31, x6_32, x6_33, x6_34, x6_35, x6_36, x6_37, x6_38, x6_39, x6_40, x6_41, x6_42, x6_43, x6_44, x6_45, x6_46, x6_47, x6_48, x6_49, x6_50, x6_51, x6_52, x6_53, x6_54, x6_55, gf6_1, gf1_2, hrK]
    exact ⟨fun _ => kk, fun q => by omega⟩
  | cons p S ih =>
    intro pre i ab U l5 l6 hR hS hi hab hU kk
    have e := hR.at
    rw [← hi] at e
    have hpP := hS p List.mem_cons_self
    have hv := TV_rouV (sh := sh) hB hD e.2.1 hpP hab
    have hev := en_b hv
    have hab2 := en_b hab
    have hw := TV_wkF hB hD e.2.1 hpP
    have hew := en_b hw
    rw [WPC_iff]
    rw [rouF] at kk
    simp (disch := omega) only [wr_id, wr_m1, sd_t, nl_I, nl_R, nl_none, c1_I, c1_R, sh_0, sh_1, sh_2, sh_3, sh_4, true_and, and_true, ldA_A, ldB_B, ldS_S, stA_A, stB_B, aL_A, aL_B, aL_S, aC_A, hRd_eq, hRd_ne, cp6, cp8, tl_some, tl_none, List.cons_append, List.nil_append, ofI_t0, ofI_t1, Int.add_zero, Int.zero_add, x6_0, x6_1, x6_2, x6_3, x6_4, x6_5, x6_6, x6_7, x6_8, x6_9, x6_10, x6_11, x6_12, x6_13, x6_14, x6_15, x6_16, x6_17, x6_18, x6_19, x6_20, x6_21, x6_22, x6_23, x6_24, x6_25, x6_26, x6_27, x6_28, x6_29, x6_30, x6_31, x6_32, x6_33, x6_34, x6_35, x6_36, x6_37, x6_38, x6_39, x6_40, x6_41, x6_42, x6_43, x6_44, x6_45, x6_46, x6_47, x6_48, x6_49, x6_50, x6_51, x6_52, x6_53, x6_54, x6_55, gf6_1, gf1_2, hrK]
    refine ⟨fun q => by omega, fun _ => ?_⟩
    refine s_Row_at (by omega) (hrK _ _ _) (hcK _ _ _) (by omega) (by omega) (by omega) (by omega) ?_
    rw [if_pos (by omega), e.1]
    simp (disch := omega) only [wr_id, wr_m1, sd_t, nl_I, nl_R, nl_none, c1_I, c1_R, sh_0, sh_1, sh_2, sh_3, sh_4, true_and, and_true, ldA_A, ldB_B, ldS_S, stA_A, stB_B, aL_A, aL_B, aL_S, aC_A, hRd_eq, hRd_ne, cp6, cp8, tl_some, tl_none, List.cons_append, List.nil_append, ofI_t0, ofI_t1, Int.add_zero, Int.zero_add, x6_0, x6_1, x6_2, x6_3, x6_4, x6_5, x6_6, x6_7, x6_8, x6_9, x6_10, x6_11, x6_12, x6_13, x6_14, x6_15, x6_16, x6_17, x6_18, x6_19, x6_20, x6_21, x6_22, x6_23, x6_24, x6_25, x6_26, x6_27, x6_28, x6_29, x6_30, x6_31, x6_32, x6_33, x6_34, x6_35, x6_36, x6_37, x6_38, x6_39, x6_40, x6_41, x6_42, x6_43, x6_44, x6_45, x6_46, x6_47, x6_48, x6_49, x6_50, x6_51, x6_52, x6_53, x6_54, x6_55, gf6_1, gf1_2, hrK, h10K]
    refine s_holds (by omega) hK_22 (by omega) (by omega) (by omega) ?_
    rw [if_pos (by omega)]
    have hz := z_bit (zshr sh p) 1
    simp (disch := omega) only [wr_id, wr_m1, sd_t, nl_I, nl_R, nl_none, c1_I, c1_R, sh_0, sh_1, sh_2, sh_3, sh_4, true_and, and_true, ldA_A, ldB_B, ldS_S, stA_A, stB_B, aL_A, aL_B, aL_S, aC_A, hRd_eq, hRd_ne, cp6, cp8, tl_some, tl_none, List.cons_append, List.nil_append, ofI_t0, ofI_t1, Int.add_zero, Int.zero_add, x6_0, x6_1, x6_2, x6_3, x6_4, x6_5, x6_6, x6_7, x6_8, x6_9, x6_10, x6_11, x6_12, x6_13, x6_14, x6_15, x6_16, x6_17, x6_18, x6_19, x6_20, x6_21, x6_22, x6_23, x6_24, x6_25, x6_26, x6_27, x6_28, x6_29, x6_30, x6_31, x6_32, x6_33, x6_34, x6_35, x6_36, x6_37, x6_38, x6_39, x6_40, x6_41, x6_42, x6_43, x6_44, x6_45, x6_46, x6_47, x6_48, x6_49, x6_50, x6_51, x6_52, x6_53, x6_54, x6_55, gf6_1, gf1_2, hrK, h10K]
    refine ⟨fun _ => ⟨fun qs => ?_, fun qo => ?_⟩, fun q => by omega⟩
    · -- shut
      have qs2 : ¬ zand (zshr sh p) 1 = 0 := qs
      refine ⟨fun _ => ?_, fun q => absurd trivial q⟩
      refine s_wakesAt (by omega) hC hB hD e.2.1 hpP ?_
      simp (disch := omega) only [wr_id, wr_m1, sd_t, nl_I, nl_R, nl_none, c1_I, c1_R, sh_0, sh_1, sh_2, sh_3, sh_4, true_and, and_true, ldA_A, ldB_B, ldS_S, stA_A, stB_B, aL_A, aL_B, aL_S, aC_A, hRd_eq, hRd_ne, cp6, cp8, tl_some, tl_none, List.cons_append, List.nil_append, ofI_t0, ofI_t1, Int.add_zero, Int.zero_add, x6_0, x6_1, x6_2, x6_3, x6_4, x6_5, x6_6, x6_7, x6_8, x6_9, x6_10, x6_11, x6_12, x6_13, x6_14, x6_15, x6_16, x6_17, x6_18, x6_19, x6_20, x6_21, x6_22, x6_23, x6_24, x6_25, x6_26, x6_27, x6_28, x6_29, x6_30, x6_31, x6_32, x6_33, x6_34, x6_35, x6_36, x6_37, x6_38, x6_39, x6_40, x6_41, x6_42, x6_43, x6_44, x6_45, x6_46, x6_47, x6_48, x6_49, x6_50, x6_51, x6_52, x6_53, x6_54, x6_55, gf6_1, gf1_2, hrK, h10K]
      refine s_inMorning (by omega) hC.hK hB.1 hew.1 (by omega) ?_
      rw [en_inT hw hB.1.1 hB.1.2]
      have ev : rouV M sh wk wt D ab p = inT M (wkF wk wt D p) := by unfold rouV; rw [if_neg qs2]
      rw [← ev]
      simp (disch := omega) only [wr_id, wr_m1, sd_t, nl_I, nl_R, nl_none, c1_I, c1_R, sh_0, sh_1, sh_2, sh_3, sh_4, true_and, and_true, ldA_A, ldB_B, ldS_S, stA_A, stB_B, aL_A, aL_B, aL_S, aC_A, hRd_eq, hRd_ne, cp6, cp8, tl_some, tl_none, List.cons_append, List.nil_append, ofI_t0, ofI_t1, Int.add_zero, Int.zero_add, x6_0, x6_1, x6_2, x6_3, x6_4, x6_5, x6_6, x6_7, x6_8, x6_9, x6_10, x6_11, x6_12, x6_13, x6_14, x6_15, x6_16, x6_17, x6_18, x6_19, x6_20, x6_21, x6_22, x6_23, x6_24, x6_25, x6_26, x6_27, x6_28, x6_29, x6_30, x6_31, x6_32, x6_33, x6_34, x6_35, x6_36, x6_37, x6_38, x6_39, x6_40, x6_41, x6_42, x6_43, x6_44, x6_45, x6_46, x6_47, x6_48, x6_49, x6_50, x6_51, x6_52, x6_53, x6_54, x6_55, gf6_1, gf1_2, hrK, h10K, hK_22, hK_w22]
      refine ⟨⟨by omega, by omega, by omega⟩, fun _ => ?_, fun q => absurd trivial q⟩
      rw [en_uA]
      rw [if_neg qs2] at kk
      exact ih (pre ++ [p]) (i + 1) ab _ _ _ hR.snoc (fun x hx => hS x (List.mem_cons_of_mem _ hx)) (by simp; omega) hab (TV_uA hU hv) kk
    · -- open
      have qo2 : zand (zshr sh p) 1 = 0 := by omega
      refine ⟨fun q => by omega, fun _ => ?_⟩
      refine s_wakesAt (by omega) hC hB hD e.2.1 hpP ?_
      simp (disch := omega) only [wr_id, wr_m1, sd_t, nl_I, nl_R, nl_none, c1_I, c1_R, sh_0, sh_1, sh_2, sh_3, sh_4, true_and, and_true, ldA_A, ldB_B, ldS_S, stA_A, stB_B, aL_A, aL_B, aL_S, aC_A, hRd_eq, hRd_ne, cp6, cp8, tl_some, tl_none, List.cons_append, List.nil_append, ofI_t0, ofI_t1, Int.add_zero, Int.zero_add, x6_0, x6_1, x6_2, x6_3, x6_4, x6_5, x6_6, x6_7, x6_8, x6_9, x6_10, x6_11, x6_12, x6_13, x6_14, x6_15, x6_16, x6_17, x6_18, x6_19, x6_20, x6_21, x6_22, x6_23, x6_24, x6_25, x6_26, x6_27, x6_28, x6_29, x6_30, x6_31, x6_32, x6_33, x6_34, x6_35, x6_36, x6_37, x6_38, x6_39, x6_40, x6_41, x6_42, x6_43, x6_44, x6_45, x6_46, x6_47, x6_48, x6_49, x6_50, x6_51, x6_52, x6_53, x6_54, x6_55, gf6_1, gf1_2, hrK, h10K]
      refine s_laterOf (by omega) (by omega) (by omega) (by omega) (by omega) ?_
      rw [en_mx hw hab]
      have hmx := TV_mx hw hab
      have hem := en_b hmx
      simp (disch := omega) only [wr_id, wr_m1, sd_t, nl_I, nl_R, nl_none, c1_I, c1_R, sh_0, sh_1, sh_2, sh_3, sh_4, true_and, and_true, ldA_A, ldB_B, ldS_S, stA_A, stB_B, aL_A, aL_B, aL_S, aC_A, hRd_eq, hRd_ne, cp6, cp8, tl_some, tl_none, List.cons_append, List.nil_append, ofI_t0, ofI_t1, Int.add_zero, Int.zero_add, x6_0, x6_1, x6_2, x6_3, x6_4, x6_5, x6_6, x6_7, x6_8, x6_9, x6_10, x6_11, x6_12, x6_13, x6_14, x6_15, x6_16, x6_17, x6_18, x6_19, x6_20, x6_21, x6_22, x6_23, x6_24, x6_25, x6_26, x6_27, x6_28, x6_29, x6_30, x6_31, x6_32, x6_33, x6_34, x6_35, x6_36, x6_37, x6_38, x6_39, x6_40, x6_41, x6_42, x6_43, x6_44, x6_45, x6_46, x6_47, x6_48, x6_49, x6_50, x6_51, x6_52, x6_53, x6_54, x6_55, gf6_1, gf1_2, hrK, h10K]
      refine s_inMorning (by omega) hC.hK hB.1 hem.1 (by omega) ?_
      rw [en_inT hmx hB.1.1 hB.1.2]
      have ev : rouV M sh wk wt D ab p = inT M (mx (wkF wk wt D p) ab) := by unfold rouV; rw [if_pos qo2]
      rw [← ev]
      simp (disch := omega) only [wr_id, wr_m1, sd_t, nl_I, nl_R, nl_none, c1_I, c1_R, sh_0, sh_1, sh_2, sh_3, sh_4, true_and, and_true, ldA_A, ldB_B, ldS_S, stA_A, stB_B, aL_A, aL_B, aL_S, aC_A, hRd_eq, hRd_ne, cp6, cp8, tl_some, tl_none, List.cons_append, List.nil_append, ofI_t0, ofI_t1, Int.add_zero, Int.zero_add, x6_0, x6_1, x6_2, x6_3, x6_4, x6_5, x6_6, x6_7, x6_8, x6_9, x6_10, x6_11, x6_12, x6_13, x6_14, x6_15, x6_16, x6_17, x6_18, x6_19, x6_20, x6_21, x6_22, x6_23, x6_24, x6_25, x6_26, x6_27, x6_28, x6_29, x6_30, x6_31, x6_32, x6_33, x6_34, x6_35, x6_36, x6_37, x6_38, x6_39, x6_40, x6_41, x6_42, x6_43, x6_44, x6_45, x6_46, x6_47, x6_48, x6_49, x6_50, x6_51, x6_52, x6_53, x6_54, x6_55, gf6_1, gf1_2, hrK, h10K, hK_22, hK_w22]
      rw [en_uA]
      have e8 : uA U p (rouV M sh wk wt D ab p) p = rouV M sh wk wt D ab p := by unfold uA; rw [if_pos rfl]
      simp only [e8]
      rw [if_pos qo2] at kk
      refine ⟨⟨by omega, by omega, by omega⟩, fun q => by omega, fun _ => ⟨⟨by omega, by omega⟩, ?_⟩⟩
      exact ih (pre ++ [p]) (i + 1) _ _ _ _ hR.snoc (fun x hx => hS x (List.mem_cons_of_mem _ hx)) (by simp; omega) hv (TV_uA hU hv) kk
theorem s_rouse (hd : 4 ≤ d) (hC : CapH h M P J wk wt dr tk bh) (hB : CapB M P J wk wt dr tk bh) (hD : TVF D) (hU : TVF U) (hr : hRd h r = oRow c m) (hc : hRd h c = cA 6 f) (hrc : (r < 22 ∧ c < 22) ∨ (24 < r ∧ 24 < c)) (hR : RI f m L) (hL : ∀ x ∈ L, x < P) (kk : Q none (hK h (fun j => en (rouF M sh wk wt D L 0 U j)) (fun j => en (D j)) I)) : CALL d 6 [.ref 10, .ref r, vI sh] (hK h (fun j => en (U j)) (fun j => en (D j)) I) Q := by
  refine cl6 (by omega) hC.hK.1 ?_
  simp (disch := omega) only [wr_id, wr_m1, sd_t, nl_I, nl_R, nl_none, c1_I, c1_R, sh_0, sh_1, sh_2, sh_3, sh_4, true_and, and_true, ldA_A, ldB_B, ldS_S, stA_A, stB_B, aL_A, aL_B, aL_S, aC_A, hRd_eq, hRd_ne, cp6, cp8, tl_some, tl_none, List.cons_append, List.nil_append, ofI_t0, ofI_t1, Int.add_zero, Int.zero_add, x6_0, x6_1, x6_2, x6_3, x6_4, x6_5, x6_6, x6_7, x6_8, x6_9, x6_10, x6_11, x6_12, x6_13, x6_14, x6_15, x6_16, x6_17, x6_18, x6_19, x6_20, x6_21, x6_22, x6_23, x6_24, x6_25, x6_26, x6_27, x6_28, x6_29, x6_30, x6_31, x6_32, x6_33, x6_34, x6_35, x6_36, x6_37, x6_38, x6_39, x6_40, x6_41, x6_42, x6_43, x6_44, x6_45, x6_46, x6_47, x6_48, x6_49, x6_50, x6_51, x6_52, x6_53, x6_54, x6_55, gf6_1, gf1_2]
  exact l_rouse (by omega) hC hB hD hr hc hrc L [] 0 0 U none none hR hL rfl (Or.inl ⟨by omega, by omega⟩) hU kk
theorem TV_wrkV {j : Int} (hB : CapB M P J wk wt dr tk bh) (hI : TVF I) (hD : TVF D) (h0 : 0 ≤ j) (hJ : j < J) : TV (wrkV M dr tk bh I D j) := by
  have hb := hB.2.2.2.2 j h0 hJ
  unfold wrkV
  refine TV_inT ?_ hB.1.2
  have h1 : TV (mx (I (dr j)) (if bh j < 0 then 0 else D (bh j))) := TV_mx (hI _) (by split; exact Or.inl ⟨by omega, by omega⟩; exact hD _)
  have := TV_ge h1
  omega
theorem l_work (hd : 2 ≤ d) (hC : CapH h M P J wk wt dr tk bh) (hB : CapB M P J wk wt dr tk bh) : ∀ (n : Nat) (j cc : Int) (I D : Int → Int) (l3 l4 : Option Value), (n : Int) = J - j → 0 ≤ j → TVF I → TVF D → 0 ≤ cc → cc ≤ j → (∀ I1 : Int → Int, Q (some (vI (wrkN M dr tk bh n j I D cc))) (hK h U (fun q => en (wrkF M dr tk bh n j I D q)) I1)) → WPC d 8 13 [some (.ref 10), some (vI cc), some (vI j), l3, l4] [] (hK h U (fun q => en (D q)) (fun q => en (I q))) Q := by
  have h10K : ∀ U D I : Int → Int, hRd (hK h U D I) 10 = oCap 11 17 22 23 24 := fun U D I => hC.hK.1
  have h11K : ∀ U D I : Int → Int, hRd (hK h U D I) 11 = oCity M P J 12 13 14 15 16 := fun U D I => hC.hK.2.1
  obtain ⟨sh0, mo0, h17⟩ := hC.2.2.1
  have h17K : ∀ U D I : Int → Int, hRd (hK h U D I) 17 = oState 18 20 21 sh0 mo0 := fun U D I => by rw [hK_lt (by omega)]; exact h17
  have h21K : ∀ U D I : Int → Int, hRd (hK h U D I) 21 = cA 8 dr := fun U D I => hC.hK.2.2.2.2.2.1
  have h15K : ∀ U D I : Int → Int, hRd (hK h U D I) 15 = cA 8 tk := fun U D I => hC.hK.2.2.2.2.2.2.1
  have h16K : ∀ U D I : Int → Int, hRd (hK h U D I) 16 = cA 8 bh := fun U D I => hC.hK.2.2.2.2.2.2.2
  have hBJ := hB.2.2.1
  have hBP := hB.2.1
  have hBM := hB.1
  intro n
  induction n with
  | zero =>
    intro j cc I D l3 l4 hn h0 hI hD hc0 hc1 kk
    rw [WPC_iff]
    simp (disch := omega) only [wr_id, wr_m1, sd_t, nl_I, nl_R, nl_none, c1_I, c1_R, sh_0, sh_1, sh_2, sh_3, sh_4, true_and, and_true, ldA_A, ldB_B, ldS_S, stA_A, stB_B, aL_A, aL_B, aL_S, aC_A, hRd_eq, hRd_ne, cp6, cp8, tl_some, tl_none, List.cons_append, List.nil_append, ofI_t0, ofI_t1, Int.add_zero, Int.zero_add, x8_0, x8_1, x8_2, x8_3, x8_4, x8_5, x8_6, x8_7, x8_8, x8_9, x8_10, x8_11, x8_12, x8_13, x8_14, x8_15, x8_16, x8_17, x8_18, x8_19, x8_20, x8_21, x8_22, x8_23, x8_24, x8_25, x8_26, x8_27, x8_28, x8_29, x8_30, x8_31, x8_32, x8_33, x8_34, x8_35, x8_36, x8_37, x8_38, x8_39, x8_40, x8_41, x8_42, x8_43, x8_44, x8_45, x8_46, x8_47, x8_48, x8_49, x8_50, x8_51, x8_52, x8_53, x8_54, x8_55, x8_56, x8_57, x8_58, x8_59, x8_60, x8_61, x8_62, x8_63, x8_64, x8_65, x8_66, x8_67, x8_68, x8_69, x8_70, x8_71, x8_72, x8_73, x8_74, x8_75, x8_76, x8_77, x8_78, x8_79, x8_80, x8_81, x8_82, x8_83, x8_84, x8_85, x8_86, x8_87, x8_88, x8_89, x8_90, x8_91, gf1_2, gf1_4, gf1_0, gf2_2, gf1_1, gf7_2, gf2_7, gf1_3, gf2_6, h10K, h11K]
    exact ⟨fun _ => kk _, fun q => ⟨fun _ => kk _, fun q2 => by omega⟩⟩
  | succ n ih =>
    intro j cc I D l3 l4 hn h0 hI hD hc0 hc1 kk
    have hb := hB.2.2.2.2 j h0 (by omega)
    have hv := TV_wrkV hB hI hD h0 (by omega : j < J)
    have hev := en_b hv
    have hi1 := hI (dr j)
    have hei := en_b hi1
    rw [WPC_iff]
    simp only [wrkN, wrkF] at kk
    simp (disch := omega) only [wr_id, wr_m1, sd_t, nl_I, nl_R, nl_none, c1_I, c1_R, sh_0, sh_1, sh_2, sh_3, sh_4, true_and, and_true, ldA_A, ldB_B, ldS_S, stA_A, stB_B, aL_A, aL_B, aL_S, aC_A, hRd_eq, hRd_ne, cp6, cp8, tl_some, tl_none, List.cons_append, List.nil_append, ofI_t0, ofI_t1, Int.add_zero, Int.zero_add, x8_0, x8_1, x8_2, x8_3, x8_4, x8_5, x8_6, x8_7, x8_8, x8_9, x8_10, x8_11, x8_12, x8_13, x8_14, x8_15, x8_16, x8_17, x8_18, x8_19, x8_20, x8_21, x8_22, x8_23, x8_24, x8_25, x8_26, x8_27, x8_28, x8_29, x8_30, x8_31, x8_32, x8_33, x8_34, x8_35, x8_36, x8_37, x8_38, x8_39, x8_40, x8_41, x8_42, x8_43, x8_44, x8_45, x8_46, x8_47, x8_48, x8_49, x8_50, x8_51, x8_52, x8_53, x8_54, x8_55, x8_56, x8_57, x8_58, x8_59, x8_60, x8_61, x8_62, x8_63, x8_64, x8_65, x8_66, x8_67, x8_68, x8_69, x8_70, x8_71, x8_72, x8_73, x8_74, x8_75, x8_76, x8_77, x8_78, x8_79, x8_80, x8_81, x8_82, x8_83, x8_84, x8_85, x8_86, x8_87, x8_88, x8_89, x8_90, x8_91, gf1_2, gf1_4, gf1_0, gf2_2, gf1_1, gf7_2, gf2_7, gf1_3, gf2_6, h10K, h11K, h17K, h21K]
    refine ⟨fun q => by omega, fun _ => ⟨fun q => by omega, fun _ => ⟨by omega, ?_⟩⟩⟩
    refine s_valueAt (by omega) hK_24 (by omega) (by omega) (by omega) ?_
    rw [if_pos (by omega)]
    have e9 : ∀ x y : Int, uA (fun q => en (I q)) x (en y) = fun q => en (uA I x y q) := fun x y => en_uA
    have e9d : ∀ x y : Int, uA (fun q => en (D q)) x (en y) = fun q => en (uA D x y q) := fun x y => en_uA
    have e8 : uA D j (wrkV M dr tk bh I D j) j = wrkV M dr tk bh I D j := by unfold uA; rw [if_pos rfl]
    -- behind the making of the minute
    have tail : WP d 8 50 [some (.ref 10), some (vI cc), some (vI j), some (vI (dr j)), some (vI (en (mx (I (dr j)) (if bh j < 0 then 0 else D (bh j)))))] [] (hK h U (fun q => en (D q)) (fun q => en (I q))) Q := by
      have hm : TV (mx (I (dr j)) (if bh j < 0 then 0 else D (bh j))) := TV_mx hi1 (by split; exact Or.inl ⟨by omega, by omega⟩; exact hD _)
      have hem := en_b hm
      generalize hx : mx (I (dr j)) (if bh j < 0 then 0 else D (bh j)) = x at hm hem
      have ev : wrkV M dr tk bh I D j = inT M (x + tk j) := by unfold wrkV; rw [hx]
      have hxg := TV_ge hm
      have rest : WP d 8 67 [some (.ref 10), some (vI cc), some (vI j), some (vI (dr j)), some (vI (en x))] [vI (en (wrkV M dr tk bh I D j)), vI j, .ref 23] (hK h U (fun q => en (D q)) (fun q => en (I q))) Q := by
        simp (disch := omega) only [wr_id, wr_m1, sd_t, nl_I, nl_R, nl_none, c1_I, c1_R, sh_0, sh_1, sh_2, sh_3, sh_4, true_and, and_true, ldA_A, ldB_B, ldS_S, stA_A, stB_B, aL_A, aL_B, aL_S, aC_A, hRd_eq, hRd_ne, cp6, cp8, tl_some, tl_none, List.cons_append, List.nil_append, ofI_t0, ofI_t1, Int.add_zero, Int.zero_add, x8_0, x8_1, x8_2, x8_3, x8_4, x8_5, x8_6, x8_7, x8_8, x8_9, x8_10, x8_11, x8_12, x8_13, x8_14, x8_15, x8_16, x8_17, x8_18, x8_19, x8_20, x8_21, x8_22, x8_23, x8_24, x8_25, x8_26, x8_27, x8_28, x8_29, x8_30, x8_31, x8_32, x8_33, x8_34, x8_35, x8_36, x8_37, x8_38, x8_39, x8_40, x8_41, x8_42, x8_43, x8_44, x8_45, x8_46, x8_47, x8_48, x8_49, x8_50, x8_51, x8_52, x8_53, x8_54, x8_55, x8_56, x8_57, x8_58, x8_59, x8_60, x8_61, x8_62, x8_63, x8_64, x8_65, x8_66, x8_67, x8_68, x8_69, x8_70, x8_71, x8_72, x8_73, x8_74, x8_75, x8_76, x8_77, x8_78, x8_79, x8_80, x8_81, x8_82, x8_83, x8_84, x8_85, x8_86, x8_87, x8_88, x8_89, x8_90, x8_91, gf1_2, gf1_4, gf1_0, gf2_2, gf1_1, gf7_2, gf2_7, gf1_3, gf2_6, h10K, h11K, hK_23, hK_24, hK_w23]
        refine ⟨⟨by omega, by omega, by omega⟩, ?_⟩
        rw [e9d]
        refine s_holds (by omega) hK_24 (by omega) (by omega) (by omega) ?_
        rw [if_pos (by omega)]
        simp (disch := omega) only [wr_id, wr_m1, sd_t, nl_I, nl_R, nl_none, c1_I, c1_R, sh_0, sh_1, sh_2, sh_3, sh_4, true_and, and_true, ldA_A, ldB_B, ldS_S, stA_A, stB_B, aL_A, aL_B, aL_S, aC_A, hRd_eq, hRd_ne, cp6, cp8, tl_some, tl_none, List.cons_append, List.nil_append, ofI_t0, ofI_t1, Int.add_zero, Int.zero_add, x8_0, x8_1, x8_2, x8_3, x8_4, x8_5, x8_6, x8_7, x8_8, x8_9, x8_10, x8_11, x8_12, x8_13, x8_14, x8_15, x8_16, x8_17, x8_18, x8_19, x8_20, x8_21, x8_22, x8_23, x8_24, x8_25, x8_26, x8_27, x8_28, x8_29, x8_30, x8_31, x8_32, x8_33, x8_34, x8_35, x8_36, x8_37, x8_38, x8_39, x8_40, x8_41, x8_42, x8_43, x8_44, x8_45, x8_46, x8_47, x8_48, x8_49, x8_50, x8_51, x8_52, x8_53, x8_54, x8_55, x8_56, x8_57, x8_58, x8_59, x8_60, x8_61, x8_62, x8_63, x8_64, x8_65, x8_66, x8_67, x8_68, x8_69, x8_70, x8_71, x8_72, x8_73, x8_74, x8_75, x8_76, x8_77, x8_78, x8_79, x8_80, x8_81, x8_82, x8_83, x8_84, x8_85, x8_86, x8_87, x8_88, x8_89, x8_90, x8_91, gf1_2, gf1_4, gf1_0, gf2_2, gf1_1, gf7_2, gf2_7, gf1_3, gf2_6, h10K, h11K, hK_23, hK_24, hK_w23, hK_w24, e8, e9]
        refine ⟨fun q => by omega, fun _ => ⟨⟨by omega, by omega⟩, ⟨by omega, by omega, by omega⟩, ⟨by omega, by omega⟩, ?_⟩⟩
        refine ⟨fun q => ?_, fun q => ?_⟩
        · have q2 : wrkV M dr tk bh I D j = 1000000 := hev.2.2.1.mp q
          rw [if_pos q2] at kk
          exact ih (j + 1) cc _ _ _ _ (by omega) (by omega) (TV_uA hI hv) (TV_uA hD hv) hc0 (by omega) kk
        · have q2 : ¬ wrkV M dr tk bh I D j = 1000000 := fun z => q (hev.2.2.1.mpr z)
          rw [if_neg q2] at kk
          exact ih (j + 1) (cc + 1) _ _ _ _ (by omega) (by omega) (TV_uA hI hv) (TV_uA hD hv) (by omega) (by omega) kk
      simp (disch := omega) only [wr_id, wr_m1, sd_t, nl_I, nl_R, nl_none, c1_I, c1_R, sh_0, sh_1, sh_2, sh_3, sh_4, true_and, and_true, ldA_A, ldB_B, ldS_S, stA_A, stB_B, aL_A, aL_B, aL_S, aC_A, hRd_eq, hRd_ne, cp6, cp8, tl_some, tl_none, List.cons_append, List.nil_append, ofI_t0, ofI_t1, Int.add_zero, Int.zero_add, x8_50, x8_51, x8_52, x8_53, x8_54, x8_55, x8_56, x8_57, x8_58, x8_59, x8_60, x8_61, x8_62, x8_63, x8_64, x8_65, x8_66, gf1_0, gf1_3, gf2_6, h10K, h11K, h15K]
      refine ⟨fun q => ⟨by omega, ?_⟩, fun q => ?_⟩
      · have q2 : ¬ x = 1000000 := fun z => q (hem.2.2.1.mpr z)
        have q3 := hem.2.2.2 q2
        refine s_inMorning (by omega) hC.hK hB.1 (by omega) (by omega) ?_
        have e5 : (if en x + tk j < M then en x + tk j else -1) = en (wrkV M dr tk bh I D j) := by
          rw [ev, q3]
          unfold inT en
          unfold TV at hm
          split <;> split <;> omega
        rw [e5]
        simp (disch := omega) only [wr_id, wr_m1, sd_t, nl_I, nl_R, nl_none, c1_I, c1_R, sh_0, sh_1, sh_2, sh_3, sh_4, true_and, and_true, ldA_A, ldB_B, ldS_S, stA_A, stB_B, aL_A, aL_B, aL_S, aC_A, hRd_eq, hRd_ne, cp6, cp8, tl_some, tl_none, List.cons_append, List.nil_append, ofI_t0, ofI_t1, Int.add_zero, Int.zero_add]
        exact rest
      · have q2 : x = 1000000 := hem.2.2.1.mp (by omega)
        have e5 : (-1 : Int) = en (wrkV M dr tk bh I D j) := by
          rw [ev, q2]
          unfold inT en
          split <;> split <;> omega
        rw [e5]
        exact rest
    simp (disch := omega) only [wr_id, wr_m1, sd_t, nl_I, nl_R, nl_none, c1_I, c1_R, sh_0, sh_1, sh_2, sh_3, sh_4, true_and, and_true, ldA_A, ldB_B, ldS_S, stA_A, stB_B, aL_A, aL_B, aL_S, aC_A, hRd_eq, hRd_ne, cp6, cp8, tl_some, tl_none, List.cons_append, List.nil_append, ofI_t0, ofI_t1, Int.add_zero, Int.zero_add, x8_31, x8_32, x8_33, x8_34, x8_35, x8_36, x8_37, x8_38, x8_39, x8_40, x8_41, x8_42, x8_43, x8_44, x8_45, x8_46, x8_47, gf1_0, gf1_3, gf2_7, h10K, h11K, h16K]
    refine ⟨by omega, fun q => ?_, fun q => ⟨by omega, ?_⟩⟩
    · rw [if_pos (by omega)] at tail
      have e1 : mx (I (dr j)) 0 = I (dr j) := by have := TV_ge hi1; unfold mx; split <;> omega
      rw [e1] at tail
      exact tail
    · rw [if_neg (by omega)] at tail
      have hd1 := hD (bh j)
      have hed := en_b hd1
      refine s_valueAt (by omega) hK_23 (by omega) (by omega) (by omega) ?_
      rw [if_pos (by omega)]
      simp (disch := omega) only [wr_id, wr_m1, sd_t, nl_I, nl_R, nl_none, c1_I, c1_R, sh_0, sh_1, sh_2, sh_3, sh_4, true_and, and_true, ldA_A, ldB_B, ldS_S, stA_A, stB_B, aL_A, aL_B, aL_S, aC_A, hRd_eq, hRd_ne, cp6, cp8, tl_some, tl_none, List.cons_append, List.nil_append, ofI_t0, ofI_t1, Int.add_zero, Int.zero_add, x8_48]
      refine s_laterOf (by omega) (by omega) (by omega) (by omega) (by omega) ?_
      rw [en_mx hi1 hd1]
      simp (disch := omega) only [wr_id, wr_m1, sd_t, nl_I, nl_R, nl_none, c1_I, c1_R, sh_0, sh_1, sh_2, sh_3, sh_4, true_and, and_true, ldA_A, ldB_B, ldS_S, stA_A, stB_B, aL_A, aL_B, aL_S, aC_A, hRd_eq, hRd_ne, cp6, cp8, tl_some, tl_none, List.cons_append, List.nil_append, ofI_t0, ofI_t1, Int.add_zero, Int.zero_add, x8_49]
      exact tail
theorem s_work (hd : 3 ≤ d) (hC : CapH h M P J wk wt dr tk bh) (hB : CapB M P J wk wt dr tk bh) (hU : TVF U) (hD : TVF D) (kk : ∀ I1 : Int → Int, Q (some (vI (wrkN M dr tk bh J.toNat 0 U D 0))) (hK h (fun q => en (U q)) (fun q => en (wrkF M dr tk bh J.toNat 0 U D q)) I1)) : CALL d 8 [.ref 10] (hK h (fun q => en (U q)) (fun q => en (D q)) I) Q := by
  have h10K : ∀ U D I : Int → Int, hRd (hK h U D I) 10 = oCap 11 17 22 23 24 := fun U D I => hC.hK.1
  refine cl8 (by omega) hC.hK.1 ?_
  simp (disch := omega) only [wr_id, wr_m1, sd_t, nl_I, nl_R, nl_none, c1_I, c1_R, sh_0, sh_1, sh_2, sh_3, sh_4, true_and, and_true, ldA_A, ldB_B, ldS_S, stA_A, stB_B, aL_A, aL_B, aL_S, aC_A, hRd_eq, hRd_ne, cp6, cp8, tl_some, tl_none, List.cons_append, List.nil_append, ofI_t0, ofI_t1, Int.add_zero, Int.zero_add, x8_0, x8_1, x8_2, x8_3, x8_4, x8_5, x8_6, x8_7, x8_8, x8_9, x8_10, x8_11, x8_12, x8_13, x8_14, x8_15, x8_16, x8_17, x8_18, x8_19, x8_20, x8_21, x8_22, x8_23, x8_24, x8_25, x8_26, x8_27, x8_28, x8_29, x8_30, x8_31, x8_32, x8_33, x8_34, x8_35, x8_36, x8_37, x8_38, x8_39, x8_40, x8_41, x8_42, x8_43, x8_44, x8_45, x8_46, x8_47, x8_48, x8_49, x8_50, x8_51, x8_52, x8_53, x8_54, x8_55, x8_56, x8_57, x8_58, x8_59, x8_60, x8_61, x8_62, x8_63, x8_64, x8_65, x8_66, x8_67, x8_68, x8_69, x8_70, x8_71, x8_72, x8_73, x8_74, x8_75, x8_76, x8_77, x8_78, x8_79, x8_80, x8_81, x8_82, x8_83, x8_84, x8_85, x8_86, x8_87, x8_88, x8_89, x8_90, x8_91, gf1_2, gf1_4, gf1_0, gf2_2, gf1_1, gf7_2, gf2_7, gf1_3, gf2_6, h10K, hK_22, hK_24, hK_w24]
  refine ⟨by omega, ?_⟩
  exact l_work (by omega) hC hB J.toNat 0 0 U D none none (by have := hB.2.2.1; omega) (by omega) hU hD (by omega) (by omega) kk
end
