-- THE CAPITAL: reckon, and what is read off
/-- the reckoning, round by round: rounds left, how many are known, U, D -/
def recF (M J sh : Int) (wk wt dr tk bh : Int → Int) (L : List Int) : Nat → Int → (Int → Int) → (Int → Int) → (Int → Int) × (Int → Int)
  | 0, _, U, D => (U, D)
  | n + 1, kn, U, D =>
    if wrkN M dr tk bh J.toNat 0 (rouF M sh wk wt D L 0 U) D 0 = kn then (rouF M sh wk wt D L 0 U, wrkF M dr tk bh J.toNat 0 (rouF M sh wk wt D L 0 U) D)
    else recF M J sh wk wt dr tk bh L n (wrkN M dr tk bh J.toNat 0 (rouF M sh wk wt D L 0 U) D 0) (rouF M sh wk wt D L 0 U) (wrkF M dr tk bh J.toNat 0 (rouF M sh wk wt D L 0 U) D)
def nvF : Int → Int := fun _ => 1000000
def recU (M J sh : Int) (wk wt dr tk bh : Int → Int) (L : List Int) : Int → Int := (recF M J sh wk wt dr tk bh L 9 0 nvF nvF).1
def recD (M J sh : Int) (wk wt dr tk bh : Int → Int) (L : List Int) : Int → Int := (recF M J sh wk wt dr tk bh L 9 0 nvF nvF).2
theorem wrkN_b {M : Int} {dr tk bh : Int → Int} : ∀ (n : Nat) (j c : Int) (I D : Int → Int), c ≤ wrkN M dr tk bh n j I D c ∧ wrkN M dr tk bh n j I D c ≤ c + (n : Int) := by
  intro n
  induction n with
  | zero => intro j c I D; simp [wrkN]
  | succ n ih =>
    intro j c I D
    simp only [wrkN]
    split
    · have := ih (j + 1) c (uA I (dr j) (wrkV M dr tk bh I D j)) (uA D j (wrkV M dr tk bh I D j)); omega
    · have := ih (j + 1) (c + 1) (uA I (dr j) (wrkV M dr tk bh I D j)) (uA D j (wrkV M dr tk bh I D j)); omega
section
variable {d r c a n : Nat} {h : LHeap} {Q : Option Value → LHeap → Prop} {f wk wt dr tk bh U D I : Int → Int} {i p m M P J sh : Int} {L : List Int}
theorem TVF_rouF (hB : CapB M P J wk wt dr tk bh) (hD : TVF D) : ∀ (L : List Int) (ab : Int) (U : Int → Int), (∀ x ∈ L, 0 ≤ x ∧ x < P) → TV ab → TVF U → TVF (rouF M sh wk wt D L ab U) := by
  intro L
  induction L with
  | nil => intro ab U hL hab hU; exact hU
  | cons p L ih =>
    intro ab U hL hab hU
    have hp := hL p List.mem_cons_self
    have hv := TV_rouV (sh := sh) hB hD hp.1 hp.2 hab
    rw [rouF]
    refine ih _ _ (fun x hx => hL x (List.mem_cons_of_mem _ hx)) ?_ (TV_uA hU hv)
    split
    · exact hv
    · exact hab
theorem TVF_wrkF (hB : CapB M P J wk wt dr tk bh) : ∀ (n : Nat) (j : Int) (I D : Int → Int), 0 ≤ j → j + (n : Int) ≤ J → TVF I → TVF D → TVF (wrkF M dr tk bh n j I D) := by
  intro n
  induction n with
  | zero => intro j I D h0 hn hI hD; exact hD
  | succ n ih =>
    intro j I D h0 hn hI hD
    have hv := TV_wrkV hB hI hD h0 (by omega)
    rw [wrkF]
    exact ih (j + 1) _ _ (by omega) (by omega) (TV_uA hI hv) (TV_uA hD hv)
theorem l_reckon (hd : 4 ≤ d) (hC : CapH h M P J wk wt dr tk bh) (hB : CapB M P J wk wt dr tk bh) (hr : hRd h r = oRow c m) (hc : hRd h c = cA 6 f) (hrc : (r < 22 ∧ c < 22) ∨ (24 < r ∧ 24 < c)) (hR : RI f m L) (hL : ∀ x ∈ L, x < P) : ∀ (n : Nat) (rd kn : Int) (U D I : Int → Int) (l5 : Option Value), (n : Int) = 9 - rd → 0 ≤ rd → TVF U → TVF D → 0 ≤ kn → kn ≤ 8 → (∀ I1 : Int → Int, Q none (hK h (fun q => en ((recF M J sh wk wt dr tk bh L n kn U D).1 q)) (fun q => en ((recF M J sh wk wt dr tk bh L n kn U D).2 q)) I1)) → WPC d 5 13 [some (.ref 10), some (.ref r), some (vI sh), some (vI kn), some (vI rd), l5] [] (hK h (fun q => en (U q)) (fun q => en (D q)) I) Q := by
  have h10K : ∀ U D I : Int → Int, hRd (hK h U D I) 10 = oCap 11 17 22 23 24 := fun U D I => hC.hK.1
  have h11K : ∀ U D I : Int → Int, hRd (hK h U D I) 11 = oCity M P J 12 13 14 15 16 := fun U D I => hC.hK.2.1
  have hrK : ∀ U D I : Int → Int, hRd (hK h U D I) r = oRow c m := fun U D I => by
    rcases hrc with q | q
    · rw [hK_lt q.1]; exact hr
    · rw [hK_gt q.1]; exact hr
  have hm := hR.len
  have hL2 : ∀ x ∈ L, 0 ≤ x ∧ x < P := fun x hx => ⟨(hR.2.2.2 x hx).1, hL x hx⟩
  intro n
  induction n with
  | zero =>
    intro rd kn U D I l5 hn h0 hU hD hk0 hk1 kk
    rw [WPC_iff]
    simp (disch := omega) only [wr_id, wr_m1, sd_t, nl_I, nl_R, nl_none, c1_I, c1_R, sh_0, sh_1, sh_2, sh_3, sh_4, true_and, and_true, ldA_A, ldB_B, ldS_S, stA_A, stB_B, aL_A, aL_B, aL_S, aC_A, hRd_eq, hRd_ne, cp6, cp8, tl_some, tl_none, List.cons_append, List.nil_append, ofI_t0, ofI_t1, Int.add_zero, Int.zero_add, x5_0, x5_1, x5_2, x5_3, x5_4, x5_5, x5_6, x5_7, x5_8, x5_9, x5_10, x5_11, x5_12, x5_13, x5_14, x5_15, x5_16, x5_17, x5_18, x5_19, x5_20, x5_21, x5_22, x5_23, x5_24, x5_25, x5_26, x5_27, x5_28, x5_29, x5_30, x5_31, gf1_2, gf1_3]
    exact ⟨fun _ => kk _, fun q => by omega⟩
  | succ n ih =>
    intro rd kn U D I l5 hn h0 hU hD hk0 hk1 kk
    have b2 := wrkN_b (M := M) (dr := dr) (tk := tk) (bh := bh) J.toNat 0 0 (rouF M sh wk wt D L 0 U) D
    have hBJ := hB.2.2.1
    have hU1 := TVF_rouF (sh := sh) hB hD L 0 U hL2 (Or.inl ⟨by omega, by omega⟩) hU
    have hD1 := TVF_wrkF hB J.toNat 0 _ D (by omega) (by omega) hU1 hD
    rw [WPC_iff]
    simp (disch := omega) only [wr_id, wr_m1, sd_t, nl_I, nl_R, nl_none, c1_I, c1_R, sh_0, sh_1, sh_2, sh_3, sh_4, true_and, and_true, ldA_A, ldB_B, ldS_S, stA_A, stB_B, aL_A, aL_B, aL_S, aC_A, hRd_eq, hRd_ne, cp6, cp8, tl_some, tl_none, List.cons_append, List.nil_append, ofI_t0, ofI_t1, Int.add_zero, Int.zero_add, x5_0, x5_1, x5_2, x5_3, x5_4, x5_5, x5_6, x5_7, x5_8, x5_9, x5_10, x5_11, x5_12, x5_13, x5_14, x5_15, x5_16, x5_17, x5_18, x5_19, x5_20, x5_21, x5_22, x5_23, x5_24, x5_25, x5_26, x5_27, x5_28, x5_29, x5_30, x5_31, gf1_2, gf1_3]
    refine ⟨fun q => by omega, fun _ => ?_⟩
    refine s_rouse (by omega) hC hB hD hU hr hc hrc hR hL ?_
    simp (disch := omega) only [wr_id, wr_m1, sd_t, nl_I, nl_R, nl_none, c1_I, c1_R, sh_0, sh_1, sh_2, sh_3, sh_4, true_and, and_true, ldA_A, ldB_B, ldS_S, stA_A, stB_B, aL_A, aL_B, aL_S, aC_A, hRd_eq, hRd_ne, cp6, cp8, tl_some, tl_none, List.cons_append, List.nil_append, ofI_t0, ofI_t1, Int.add_zero, Int.zero_add, x5_0, x5_1, x5_2, x5_3, x5_4, x5_5, x5_6, x5_7, x5_8, x5_9, x5_10, x5_11, x5_12, x5_13, x5_14, x5_15, x5_16, x5_17, x5_18, x5_19, x5_20, x5_21, x5_22, x5_23, x5_24, x5_25, x5_26, x5_27, x5_28, x5_29, x5_30, x5_31, gf1_2, gf1_3]
    refine s_work (by omega) hC hB hU1 hD (fun I1 => ?_)
    simp (disch := omega) only [wr_id, wr_m1, sd_t, nl_I, nl_R, nl_none, c1_I, c1_R, sh_0, sh_1, sh_2, sh_3, sh_4, true_and, and_true, ldA_A, ldB_B, ldS_S, stA_A, stB_B, aL_A, aL_B, aL_S, aC_A, hRd_eq, hRd_ne, cp6, cp8, tl_some, tl_none, List.cons_append, List.nil_append, ofI_t0, ofI_t1, Int.add_zero, Int.zero_add, x5_0, x5_1, x5_2, x5_3, x5_4, x5_5, x5_6, x5_7, x5_8, x5_9, x5_10, x5_11, x5_12, x5_13, x5_14, x5_15, x5_16, x5_17, x5_18, x5_19, x5_20, x5_21, x5_22, x5_23, x5_24, x5_25, x5_26, x5_27, x5_28, x5_29, x5_30, x5_31, gf1_2, gf1_3, h10K, h11K, hrK]
    rw [recF] at kk
    refine ⟨fun q => ?_, fun q => ?_⟩
    · rw [if_neg (by omega)] at kk
      exact ih (rd + 1) _ _ _ _ _ (by omega) (by omega) hU1 hD1 (by omega) (by omega) kk
    · rw [if_pos (by omega)] at kk
      exact kk _
theorem s_reckon {U0 D0 I0 : Int → Int} (hd : 5 ≤ d) (hC : CapH h M P J wk wt dr tk bh) (hB : CapB M P J wk wt dr tk bh) (h22 : hRd h 22 = cA 6 U0) (h23 : hRd h 23 = cA 8 D0) (h24 : hRd h 24 = cA 6 I0) (hr : hRd h r = oRow c m) (hc : hRd h c = cA 6 f) (hrc : (r < 22 ∧ c < 22) ∨ (24 < r ∧ 24 < c)) (hR : RI f m L) (hL : ∀ x ∈ L, x < P) (kk : ∀ I1 : Int → Int, Q none (hK h (fun q => en (recU M J sh wk wt dr tk bh L q)) (fun q => en (recD M J sh wk wt dr tk bh L q)) I1)) : CALL d 5 [.ref 10, .ref r, vI sh] h Q := by
  have h10 := hC.1
  refine cl5 (by omega) h10 ?_
  simp (disch := omega) only [wr_id, wr_m1, sd_t, nl_I, nl_R, nl_none, c1_I, c1_R, sh_0, sh_1, sh_2, sh_3, sh_4, true_and, and_true, ldA_A, ldB_B, ldS_S, stA_A, stB_B, aL_A, aL_B, aL_S, aC_A, hRd_eq, hRd_ne, cp6, cp8, tl_some, tl_none, List.cons_append, List.nil_append, ofI_t0, ofI_t1, Int.add_zero, Int.zero_add, x5_0, x5_1, x5_2, x5_3, x5_4, x5_5, x5_6, x5_7, x5_8, x5_9, x5_10, x5_11, x5_12, x5_13, x5_14, x5_15, x5_16, x5_17, x5_18, x5_19, x5_20, x5_21, x5_22, x5_23, x5_24, x5_25, x5_26, x5_27, x5_28, x5_29, x5_30, x5_31, gf1_2, gf1_3, h10]
  refine s_fill (by omega) h22 (by omega) (by omega) ?_
  simp (disch := omega) only [wr_id, wr_m1, sd_t, nl_I, nl_R, nl_none, c1_I, c1_R, sh_0, sh_1, sh_2, sh_3, sh_4, true_and, and_true, ldA_A, ldB_B, ldS_S, stA_A, stB_B, aL_A, aL_B, aL_S, aC_A, hRd_eq, hRd_ne, cp6, cp8, tl_some, tl_none, List.cons_append, List.nil_append, ofI_t0, ofI_t1, Int.add_zero, Int.zero_add, x5_0, x5_1, x5_2, x5_3, x5_4, x5_5, x5_6, x5_7, x5_8, x5_9, x5_10, x5_11, x5_12, x5_13, x5_14, x5_15, x5_16, x5_17, x5_18, x5_19, x5_20, x5_21, x5_22, x5_23, x5_24, x5_25, x5_26, x5_27, x5_28, x5_29, x5_30, x5_31, gf1_2, gf1_3, h10]
  have h23b : hRd (hWr h 22 (cA 6 (fun _ => -1))) 23 = cA 8 D0 := by rw [hRd_gt (by omega)]; exact h23
  refine s_fill (by omega) h23b (by omega) (by omega) ?_
  simp (disch := omega) only [wr_id, wr_m1, sd_t, nl_I, nl_R, nl_none, c1_I, c1_R, sh_0, sh_1, sh_2, sh_3, sh_4, true_and, and_true, ldA_A, ldB_B, ldS_S, stA_A, stB_B, aL_A, aL_B, aL_S, aC_A, hRd_eq, hRd_ne, cp6, cp8, tl_some, tl_none, List.cons_append, List.nil_append, ofI_t0, ofI_t1, Int.add_zero, Int.zero_add, x5_0, x5_1, x5_2, x5_3, x5_4, x5_5, x5_6, x5_7, x5_8, x5_9, x5_10, x5_11, x5_12, x5_13, x5_14, x5_15, x5_16, x5_17, x5_18, x5_19, x5_20, x5_21, x5_22, x5_23, x5_24, x5_25, x5_26, x5_27, x5_28, x5_29, x5_30, x5_31, gf1_2, gf1_3, h10]
  have e : hWr (hWr h 22 (cA 6 (fun _ => -1))) 23 (cA 8 (fun _ => -1)) = hK h (fun q => en (nvF q)) (fun q => en (nvF q)) I0 := by
    unfold hK
    have e1 : (fun q => en (nvF q)) = fun _ => (-1 : Int) := by
      funext q
      unfold en nvF
      rw [if_pos rfl]
    rw [e1]
    rw [hWr_self (h := hWr (hWr h 22 _) 23 _) (a := 24)]
    rw [hRd_gt (by omega), hRd_gt (by omega)]
    exact h24
  rw [e]
  exact l_reckon (by omega) hC hB hr hc hrc hR hL 9 0 0 nvF nvF I0 none (by omega) (by omega) (fun _ => Or.inr rfl) (fun _ => Or.inr rfl) (by omega) (by omega) kk
theorem TVF_rec (hB : CapB M P J wk wt dr tk bh) (hL : ∀ x ∈ L, 0 ≤ x ∧ x < P) : ∀ (n : Nat) (kn : Int) (U D : Int → Int), TVF U → TVF D → TVF (recF M J sh wk wt dr tk bh L n kn U D).1 ∧ TVF (recF M J sh wk wt dr tk bh L n kn U D).2 := by
  intro n
  induction n with
  | zero => intro kn U D hU hD; exact ⟨hU, hD⟩
  | succ n ih =>
    intro kn U D hU hD
    have hBJ := hB.2.2.1
    have hU1 := TVF_rouF (sh := sh) hB hD L 0 U hL (Or.inl ⟨by omega, by omega⟩) hU
    have hD1 := TVF_wrkF hB J.toNat 0 _ D (by omega) (by omega) hU1 hD
    rw [recF]
    split
    · exact ⟨hU1, hD1⟩
    · exact ih _ _ _ hU1 hD1
theorem TVF_recU (hB : CapB M P J wk wt dr tk bh) (hL : ∀ x ∈ L, 0 ≤ x ∧ x < P) : TVF (recU M J sh wk wt dr tk bh L) := (TVF_rec hB hL 9 0 nvF nvF (fun _ => Or.inr rfl) (fun _ => Or.inr rfl)).1
theorem TVF_recD (hB : CapB M P J wk wt dr tk bh) (hL : ∀ x ∈ L, 0 ≤ x ∧ x < P) : TVF (recD M J sh wk wt dr tk bh L) := (TVF_rec hB hL 9 0 nvF nvF (fun _ => Or.inr rfl) (fun _ => Or.inr rfl)).2
end
