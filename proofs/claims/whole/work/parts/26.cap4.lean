-- THE CAPITAL: what is read off
def stF (U : Int → Int) : List Int → Int → Int
  | [], s => s
  | p :: L, s => stF U L (if U p = 1000000 then zor s (zshl 1 p) else s)
def udF (D : Int → Int) : Nat → Int → Int → Int
  | 0, _, s => s
  | n + 1, j, s => udF D n (j + 1) (if D j = 1000000 then zor s (zshl 1 j) else s)
def adF (D : Int → Int) (jobs t : Int) : Nat → Int → Int
  | 0, _ => 1
  | n + 1, j => if zand (zshr jobs j) 1 = 1 ∧ t < D j then 0 else adF D jobs t n (j + 1)
def suF (M but : Int) (U : Int → Int) : List Int → Int → Int
  | [], s => s
  | p :: L, s => suF M but U L (if p = but then s else s + (if U p = 1000000 then M else U p))
section
variable {d r c a n : Nat} {h : LHeap} {Q : Option Value → LHeap → Prop} {f wk wt dr tk bh U D I : Int → Int} {i p m M P J sh : Int} {L : List Int}
theorem l_stuckIn (hd : 3 ≤ d) (hU : TVF U) (h10 : hRd h 10 = oCap 11 17 22 23 24) (h22 : hRd h 22 = cA 6 (fun q => en (U q))) (hr : hRd h r = oRow c m) (hc : hRd h c = cA 6 f) : ∀ (S pre : List Int) (i s : Int) (l4 : Option Value), RI f m (pre ++ S) → i = (pre.length : Int) → Q (some (vI (stF U S s))) h → WPC d 11 5 [some (.ref 10), some (.ref r), some (vI s), some (vI i), l4] [] h Q := by
  intro S
  induction S with
  | nil =>
    intro pre i s l4 hR hi kk
    have := hR.end
    rw [WPC_iff]
    simp (disch := omega) only [wr_id, wr_m1, sd_t, nl_I, nl_R, nl_none, c1_I, c1_R, sh_0, sh_1, sh_2, sh_3, sh_4, true_and, and_true, ldA_A, ldB_B, ldS_S, stA_A, stB_B, aL_A, aL_B, aL_S, aC_A, hRd_eq, hRd_ne, cp6, cp8, tl_some, tl_none, List.cons_append, List.nil_append, ofI_t0, ofI_t1, Int.add_zero, Int.zero_add, x11_0, x11_1, x11_2, x11_3, x11_4, x11_5, x11_6, x11_7, x11_8, x11_9, x11_10, x11_11, x11_12, x11_13, x11_14, x11_15, x11_16, x11_17, x11_18, x11_19, x11_20, x11_21, x11_22, x11_23, x11_24, x11_25, x11_26, x11_27, x11_28, gf6_1, gf1_2, hr]
    exact ⟨fun _ => kk, fun q => by omega⟩
  | cons p S ih =>
    intro pre i s l4 hR hi kk
    have e := hR.at
    rw [← hi] at e
    have hup := en_b (hU p)
    rw [WPC_iff]
    rw [stF] at kk
    simp (disch := omega) only [wr_id, wr_m1, sd_t, nl_I, nl_R, nl_none, c1_I, c1_R, sh_0, sh_1, sh_2, sh_3, sh_4, true_and, and_true, ldA_A, ldB_B, ldS_S, stA_A, stB_B, aL_A, aL_B, aL_S, aC_A, hRd_eq, hRd_ne, cp6, cp8, tl_some, tl_none, List.cons_append, List.nil_append, ofI_t0, ofI_t1, Int.add_zero, Int.zero_add, x11_0, x11_1, x11_2, x11_3, x11_4, x11_5, x11_6, x11_7, x11_8, x11_9, x11_10, x11_11, x11_12, x11_13, x11_14, x11_15, x11_16, x11_17, x11_18, x11_19, x11_20, x11_21, x11_22, x11_23, x11_24, x11_25, x11_26, x11_27, x11_28, gf6_1, gf1_2, hr]
    refine ⟨fun q => by omega, fun _ => ?_⟩
    refine s_Row_at (by omega) hr hc (by omega) (by omega) (by omega) (by omega) ?_
    rw [if_pos (by omega), e.1]
    simp (disch := omega) only [wr_id, wr_m1, sd_t, nl_I, nl_R, nl_none, c1_I, c1_R, sh_0, sh_1, sh_2, sh_3, sh_4, true_and, and_true, ldA_A, ldB_B, ldS_S, stA_A, stB_B, aL_A, aL_B, aL_S, aC_A, hRd_eq, hRd_ne, cp6, cp8, tl_some, tl_none, List.cons_append, List.nil_append, ofI_t0, ofI_t1, Int.add_zero, Int.zero_add, x11_0, x11_1, x11_2, x11_3, x11_4, x11_5, x11_6, x11_7, x11_8, x11_9, x11_10, x11_11, x11_12, x11_13, x11_14, x11_15, x11_16, x11_17, x11_18, x11_19, x11_20, x11_21, x11_22, x11_23, x11_24, x11_25, x11_26, x11_27, x11_28, gf6_1, gf1_2, h10]
    refine s_valueAt (by omega) h22 (by omega) (by omega) (by omega) ?_
    rw [if_pos (by omega)]
    simp (disch := omega) only [wr_id, wr_m1, sd_t, nl_I, nl_R, nl_none, c1_I, c1_R, sh_0, sh_1, sh_2, sh_3, sh_4, true_and, and_true, ldA_A, ldB_B, ldS_S, stA_A, stB_B, aL_A, aL_B, aL_S, aC_A, hRd_eq, hRd_ne, cp6, cp8, tl_some, tl_none, List.cons_append, List.nil_append, ofI_t0, ofI_t1, Int.add_zero, Int.zero_add, x11_0, x11_1, x11_2, x11_3, x11_4, x11_5, x11_6, x11_7, x11_8, x11_9, x11_10, x11_11, x11_12, x11_13, x11_14, x11_15, x11_16, x11_17, x11_18, x11_19, x11_20, x11_21, x11_22, x11_23, x11_24, x11_25, x11_26, x11_27, x11_28, gf6_1, gf1_2]
    refine ⟨fun q => ?_, fun q => ?_⟩
    · rw [if_neg (fun z => q (hup.2.2.1.mpr z))] at kk
      exact ih (pre ++ [p]) (i + 1) _ _ hR.snoc (by simp; omega) kk
    · rw [if_pos (hup.2.2.1.mp (by omega))] at kk
      exact ih (pre ++ [p]) (i + 1) _ _ hR.snoc (by simp; omega) kk
theorem s_stuckIn (hd : 4 ≤ d) (hU : TVF U) (h10 : hRd h 10 = oCap 11 17 22 23 24) (h22 : hRd h 22 = cA 6 (fun q => en (U q))) (hr : hRd h r = oRow c m) (hc : hRd h c = cA 6 f) (hR : RI f m L) (kk : Q (some (vI (stF U L 0))) h) : CALL d 11 [.ref 10, .ref r] h Q := by
  refine cl11 (by omega) h10 ?_
  simp (disch := omega) only [wr_id, wr_m1, sd_t, nl_I, nl_R, nl_none, c1_I, c1_R, sh_0, sh_1, sh_2, sh_3, sh_4, true_and, and_true, ldA_A, ldB_B, ldS_S, stA_A, stB_B, aL_A, aL_B, aL_S, aC_A, hRd_eq, hRd_ne, cp6, cp8, tl_some, tl_none, List.cons_append, List.nil_append, ofI_t0, ofI_t1, Int.add_zero, Int.zero_add, x11_0, x11_1, x11_2, x11_3, x11_4, x11_5, x11_6, x11_7, x11_8, x11_9, x11_10, x11_11, x11_12, x11_13, x11_14, x11_15, x11_16, x11_17, x11_18, x11_19, x11_20, x11_21, x11_22, x11_23, x11_24, x11_25, x11_26, x11_27, x11_28, gf6_1, gf1_2]
  exact l_stuckIn (by omega) hU h10 h22 hr hc L [] 0 0 none hR rfl kk
theorem l_undone {z3 z4 z5 z6 z7 : Nat} (hD : TVF D) (h10 : hRd h 10 = oCap 11 17 22 23 24) (h11 : hRd h 11 = oCity M P J z3 z4 z5 z6 z7) (h23 : hRd h 23 = cA 8 (fun q => en (D q))) (hJ : 0 ≤ J ∧ J ≤ 8) : ∀ (n : Nat) (j s : Int), (n : Int) = J - j → 0 ≤ j → Q (some (vI (udF D n j s))) h → WPC d 12 5 [some (.ref 10), some (vI s), some (vI j)] [] h Q := by
  intro n
  induction n with
  | zero =>
    intro j s hn h0 kk
    rw [WPC_iff]
    simp (disch := omega) only [wr_id, wr_m1, sd_t, nl_I, nl_R, nl_none, c1_I, c1_R, sh_0, sh_1, sh_2, sh_3, sh_4, true_and, and_true, ldA_A, ldB_B, ldS_S, stA_A, stB_B, aL_A, aL_B, aL_S, aC_A, hRd_eq, hRd_ne, cp6, cp8, tl_some, tl_none, List.cons_append, List.nil_append, ofI_t0, ofI_t1, Int.add_zero, Int.zero_add, x12_0, x12_1, x12_2, x12_3, x12_4, x12_5, x12_6, x12_7, x12_8, x12_9, x12_10, x12_11, x12_12, x12_13, x12_14, x12_15, x12_16, x12_17, x12_18, x12_19, x12_20, x12_21, x12_22, x12_23, x12_24, x12_25, x12_26, x12_27, x12_28, gf1_0, gf2_2, gf1_3, h10, h11]
    exact ⟨fun _ => kk, fun q => ⟨fun _ => kk, fun q => by omega⟩⟩
  | succ n ih =>
    intro j s hn h0 kk
    have hup := en_b (hD j)
    rw [WPC_iff]
    rw [udF] at kk
    simp (disch := omega) only [wr_id, wr_m1, sd_t, nl_I, nl_R, nl_none, c1_I, c1_R, sh_0, sh_1, sh_2, sh_3, sh_4, true_and, and_true, ldA_A, ldB_B, ldS_S, stA_A, stB_B, aL_A, aL_B, aL_S, aC_A, hRd_eq, hRd_ne, cp6, cp8, tl_some, tl_none, List.cons_append, List.nil_append, ofI_t0, ofI_t1, Int.add_zero, Int.zero_add, x12_0, x12_1, x12_2, x12_3, x12_4, x12_5, x12_6, x12_7, x12_8, x12_9, x12_10, x12_11, x12_12, x12_13, x12_14, x12_15, x12_16, x12_17, x12_18, x12_19, x12_20, x12_21, x12_22, x12_23, x12_24, x12_25, x12_26, x12_27, x12_28, gf1_0, gf2_2, gf1_3, h10, h11, h23]
    refine ⟨fun q => by omega, fun _ => ⟨fun q => by omega, fun _ => ⟨by omega, fun q => ?_, fun q => ?_⟩⟩⟩
    · rw [if_neg (fun z => q (hup.2.2.1.mpr z))] at kk
      exact ih (j + 1) _ (by omega) (by omega) kk
    · rw [if_pos (hup.2.2.1.mp (by omega))] at kk
      exact ih (j + 1) _ (by omega) (by omega) kk
theorem s_undone {z3 z4 z5 z6 z7 : Nat} (hd : 1 ≤ d) (hD : TVF D) (h10 : hRd h 10 = oCap 11 17 22 23 24) (h11 : hRd h 11 = oCity M P J z3 z4 z5 z6 z7) (h23 : hRd h 23 = cA 8 (fun q => en (D q))) (hJ : 0 ≤ J ∧ J ≤ 8) (kk : Q (some (vI (udF D J.toNat 0 0))) h) : CALL d 12 [.ref 10] h Q := by
  refine cl12 (by omega) h10 ?_
  simp (disch := omega) only [wr_id, wr_m1, sd_t, nl_I, nl_R, nl_none, c1_I, c1_R, sh_0, sh_1, sh_2, sh_3, sh_4, true_and, and_true, ldA_A, ldB_B, ldS_S, stA_A, stB_B, aL_A, aL_B, aL_S, aC_A, hRd_eq, hRd_ne, cp6, cp8, tl_some, tl_none, List.cons_append, List.nil_append, ofI_t0, ofI_t1, Int.add_zero, Int.zero_add, x12_0, x12_1, x12_2, x12_3, x12_4, x12_5, x12_6, x12_7, x12_8, x12_9, x12_10, x12_11, x12_12, x12_13, x12_14, x12_15, x12_16, x12_17, x12_18, x12_19, x12_20, x12_21, x12_22, x12_23, x12_24, x12_25, x12_26, x12_27, x12_28, gf1_0, gf2_2, gf1_3]
  exact l_undone hD h10 h11 h23 hJ J.toNat 0 0 (by omega) (by omega) kk
theorem s_isEarlier {q : Int} (hd : 2 ≤ d) (hU : TVF U) (h10 : hRd h 10 = oCap 11 17 22 23 24) (h22 : hRd h 22 = cA 6 (fun q => en (U q))) (hp : 0 ≤ p ∧ p ≤ 5) (hq : 0 ≤ q ∧ q ≤ 5) (kk : Q (some (vI (if U p < U q then 1 else 0))) h) : CALL d 13 [.ref 10, vI p, vI q] h Q := by
  have hup := en_b (hU p)
  have huq := en_b (hU q)
  have tp := hU p
  have tq := hU q
  unfold TV at tp tq
  refine cl13 (by omega) h10 ?_
  simp (disch := omega) only [wr_id, wr_m1, sd_t, nl_I, nl_R, nl_none, c1_I, c1_R, sh_0, sh_1, sh_2, sh_3, sh_4, true_and, and_true, ldA_A, ldB_B, ldS_S, stA_A, stB_B, aL_A, aL_B, aL_S, aC_A, hRd_eq, hRd_ne, cp6, cp8, tl_some, tl_none, List.cons_append, List.nil_append, ofI_t0, ofI_t1, Int.add_zero, Int.zero_add, x13_0, x13_1, x13_2, x13_3, x13_4, x13_5, x13_6, x13_7, x13_8, x13_9, x13_10, x13_11, x13_12, x13_13, x13_14, x13_15, x13_16, x13_17, x13_18, x13_19, x13_20, x13_21, x13_22, gf1_2, h10]
  refine s_valueAt (by omega) h22 (by omega) (by omega) (by omega) ?_
  rw [if_pos (by omega)]
  simp (disch := omega) only [wr_id, wr_m1, sd_t, nl_I, nl_R, nl_none, c1_I, c1_R, sh_0, sh_1, sh_2, sh_3, sh_4, true_and, and_true, ldA_A, ldB_B, ldS_S, stA_A, stB_B, aL_A, aL_B, aL_S, aC_A, hRd_eq, hRd_ne, cp6, cp8, tl_some, tl_none, List.cons_append, List.nil_append, ofI_t0, ofI_t1, Int.add_zero, Int.zero_add, x13_0, x13_1, x13_2, x13_3, x13_4, x13_5, x13_6, x13_7, x13_8, x13_9, x13_10, x13_11, x13_12, x13_13, x13_14, x13_15, x13_16, x13_17, x13_18, x13_19, x13_20, x13_21, x13_22, gf1_2, h10]
  refine s_valueAt (by omega) h22 (by omega) (by omega) (by omega) ?_
  rw [if_pos (by omega)]
  simp (disch := omega) only [wr_id, wr_m1, sd_t, nl_I, nl_R, nl_none, c1_I, c1_R, sh_0, sh_1, sh_2, sh_3, sh_4, true_and, and_true, ldA_A, ldB_B, ldS_S, stA_A, stB_B, aL_A, aL_B, aL_S, aC_A, hRd_eq, hRd_ne, cp6, cp8, tl_some, tl_none, List.cons_append, List.nil_append, ofI_t0, ofI_t1, Int.add_zero, Int.zero_add, x13_0, x13_1, x13_2, x13_3, x13_4, x13_5, x13_6, x13_7, x13_8, x13_9, x13_10, x13_11, x13_12, x13_13, x13_14, x13_15, x13_16, x13_17, x13_18, x13_19, x13_20, x13_21, x13_22, gf1_2, h10]
  repeat' (first | (refine ⟨?_, ?_⟩) | intro _)
  all_goals first
    | (rw [if_pos (by omega)] at kk; exact kk)
    | (rw [if_neg (by omega)] at kk; exact kk)
theorem l_allDone {jobs t : Int} (hD : TVF D) (h10 : hRd h 10 = oCap 11 17 22 23 24) (h23 : hRd h 23 = cA 8 (fun q => en (D q))) (ht : 0 ≤ t ∧ t ≤ 999) : ∀ (n : Nat) (j : Int), (n : Int) = 8 - j → 0 ≤ j → Q (some (vI (adF D jobs t n j))) h → WPC d 14 3 [some (.ref 10), some (vI jobs), some (vI t), some (vI j)] [] h Q := by
  intro n
  induction n with
  | zero =>
    intro j hn h0 kk
    rw [WPC_iff]
    simp (disch := omega) only [wr_id, wr_m1, sd_t, nl_I, nl_R, nl_none, c1_I, c1_R, sh_0, sh_1, sh_2, sh_3, sh_4, true_and, and_true, ldA_A, ldB_B, ldS_S, stA_A, stB_B, aL_A, aL_B, aL_S, aC_A, hRd_eq, hRd_ne, cp6, cp8, tl_some, tl_none, List.cons_append, List.nil_append, ofI_t0, ofI_t1, Int.add_zero, Int.zero_add, x14_0, x14_1, x14_2, x14_3, x14_4, x14_5, x14_6, x14_7, x14_8, x14_9, x14_10, x14_11, x14_12, x14_13, x14_14, x14_15, x14_16, x14_17, x14_18, x14_19, x14_20, x14_21, x14_22, x14_23, x14_24, x14_25, x14_26, x14_27, x14_28, x14_29, x14_30, x14_31, x14_32, gf1_3, h10, h23]
    exact ⟨fun _ => kk, fun q => by omega⟩
  | succ n ih =>
    intro j hn h0 kk
    have hup := en_b (hD j)
    have tj := hD j
    unfold TV at tj
    have hz := z_bit (zshr jobs j) 1
    rw [WPC_iff]
    rw [adF] at kk
    simp (disch := omega) only [wr_id, wr_m1, sd_t, nl_I, nl_R, nl_none, c1_I, c1_R, sh_0, sh_1, sh_2, sh_3, sh_4, true_and, and_true, ldA_A, ldB_B, ldS_S, stA_A, stB_B, aL_A, aL_B, aL_S, aC_A, hRd_eq, hRd_ne, cp6, cp8, tl_some, tl_none, List.cons_append, List.nil_append, ofI_t0, ofI_t1, Int.add_zero, Int.zero_add, x14_0, x14_1, x14_2, x14_3, x14_4, x14_5, x14_6, x14_7, x14_8, x14_9, x14_10, x14_11, x14_12, x14_13, x14_14, x14_15, x14_16, x14_17, x14_18, x14_19, x14_20, x14_21, x14_22, x14_23, x14_24, x14_25, x14_26, x14_27, x14_28, x14_29, x14_30, x14_31, x14_32, gf1_3, h10, h23]
    refine ⟨fun q => by omega, fun _ => ⟨fun q => ?_, fun q => ⟨by omega, fun q2 => ?_, fun q2 => ⟨by omega, fun q3 => ?_, fun q3 => ?_⟩⟩⟩⟩
    · rw [if_neg (by omega)] at kk
      exact ih (j + 1) (by omega) (by omega) kk
    · rw [if_pos (by omega)] at kk
      exact kk
    · rw [if_neg (by omega)] at kk
      exact ih (j + 1) (by omega) (by omega) kk
    · rw [if_pos (by omega)] at kk
      exact kk
theorem s_allDone {jobs t : Int} (hd : 1 ≤ d) (hD : TVF D) (h10 : hRd h 10 = oCap 11 17 22 23 24) (h23 : hRd h 23 = cA 8 (fun q => en (D q))) (ht : 0 ≤ t ∧ t ≤ 999) (kk : Q (some (vI (adF D jobs t 8 0))) h) : CALL d 14 [.ref 10, vI jobs, vI t] h Q := by
  refine cl14 (by omega) h10 ?_
  simp (disch := omega) only [wr_id, wr_m1, sd_t, nl_I, nl_R, nl_none, c1_I, c1_R, sh_0, sh_1, sh_2, sh_3, sh_4, true_and, and_true, ldA_A, ldB_B, ldS_S, stA_A, stB_B, aL_A, aL_B, aL_S, aC_A, hRd_eq, hRd_ne, cp6, cp8, tl_some, tl_none, List.cons_append, List.nil_append, ofI_t0, ofI_t1, Int.add_zero, Int.zero_add, x14_0, x14_1, x14_2, x14_3, x14_4, x14_5, x14_6, x14_7, x14_8, x14_9, x14_10, x14_11, x14_12, x14_13, x14_14, x14_15, x14_16, x14_17, x14_18, x14_19, x14_20, x14_21, x14_22, x14_23, x14_24, x14_25, x14_26, x14_27, x14_28, x14_29, x14_30, x14_31, x14_32, gf1_3]
  exact l_allDone hD h10 h23 ht 8 0 (by omega) (by omega) kk
theorem l_upOthers {but : Int} (hd : 3 ≤ d) (hC : CapH h M P J wk wt dr tk bh) (hM : 0 ≤ M ∧ M ≤ 999) (hU : TVF U) (h22 : hRd h 22 = cA 6 (fun q => en (U q))) (hr : hRd h r = oRow c m) (hc : hRd h c = cA 6 f) (hb : -2147483648 ≤ but ∧ but ≤ 2147483647) : ∀ (S pre : List Int) (i s : Int) (l5 : Option Value), RI f m (pre ++ S) → i = (pre.length : Int) → Q (some (vI (suF M but U S s))) h → WPC d 15 5 [some (.ref 10), some (.ref r), some (vI but), some (vI s), some (vI i), l5] [] h Q := by
  have h10 := hC.1
  intro S
  induction S with
  | nil =>
    intro pre i s l5 hR hi kk
    have := hR.end
    rw [WPC_iff]
    simp (disch := omega) only [wr_id, wr_m1, sd_t, nl_I, nl_R, nl_none, c1_I, c1_R, sh_0, sh_1, sh_2, sh_3, sh_4, true_and, and_true, ldA_A, ldB_B, ldS_S, stA_A, stB_B, aL_A, aL_B, aL_S, aC_A, hRd_eq, hRd_ne, cp6, cp8, tl_some, tl_none, List.cons_append, List.nil_append, ofI_t0, ofI_t1, Int.add_zero, Int.zero_add, x15_0, x15_1, x15_2, x15_3, x15_4, x15_5, x15_6, x15_7, x15_8, x15_9, x15_10, x15_11, x15_12, x15_13, x15_14, x15_15, x15_16, x15_17, x15_18, x15_19, x15_20, x15_21, x15_22, x15_23, x15_24, x15_25, x15_26, x15_27, x15_28, gf6_1, gf1_2, hr]
    exact ⟨fun _ => kk, fun q => by omega⟩
  | cons p S ih =>
    intro pre i s l5 hR hi kk
    have e := hR.at
    rw [← hi] at e
    have hup := en_b (hU p)
    rw [WPC_iff]
    rw [suF] at kk
    simp (disch := omega) only [wr_id, wr_m1, sd_t, nl_I, nl_R, nl_none, c1_I, c1_R, sh_0, sh_1, sh_2, sh_3, sh_4, true_and, and_true, ldA_A, ldB_B, ldS_S, stA_A, stB_B, aL_A, aL_B, aL_S, aC_A, hRd_eq, hRd_ne, cp6, cp8, tl_some, tl_none, List.cons_append, List.nil_append, ofI_t0, ofI_t1, Int.add_zero, Int.zero_add, x15_0, x15_1, x15_2, x15_3, x15_4, x15_5, x15_6, x15_7, x15_8, x15_9, x15_10, x15_11, x15_12, x15_13, x15_14, x15_15, x15_16, x15_17, x15_18, x15_19, x15_20, x15_21, x15_22, x15_23, x15_24, x15_25, x15_26, x15_27, x15_28, gf6_1, gf1_2, hr]
    refine ⟨fun q => by omega, fun _ => ?_⟩
    refine s_Row_at (by omega) hr hc (by omega) (by omega) (by omega) (by omega) ?_
    rw [if_pos (by omega), e.1]
    simp (disch := omega) only [wr_id, wr_m1, sd_t, nl_I, nl_R, nl_none, c1_I, c1_R, sh_0, sh_1, sh_2, sh_3, sh_4, true_and, and_true, ldA_A, ldB_B, ldS_S, stA_A, stB_B, aL_A, aL_B, aL_S, aC_A, hRd_eq, hRd_ne, cp6, cp8, tl_some, tl_none, List.cons_append, List.nil_append, ofI_t0, ofI_t1, Int.add_zero, Int.zero_add, x15_0, x15_1, x15_2, x15_3, x15_4, x15_5, x15_6, x15_7, x15_8, x15_9, x15_10, x15_11, x15_12, x15_13, x15_14, x15_15, x15_16, x15_17, x15_18, x15_19, x15_20, x15_21, x15_22, x15_23, x15_24, x15_25, x15_26, x15_27, x15_28, gf6_1, gf1_2, h10]
    refine ⟨fun q => ?_, fun q => ?_⟩
    · rw [if_pos q] at kk
      exact ih (pre ++ [p]) (i + 1) _ _ hR.snoc (by simp; omega) kk
    · rw [if_neg q] at kk
      refine s_valueAt (by omega) h22 (by omega) (by omega) (by omega) ?_
      rw [if_pos (by omega)]
      simp (disch := omega) only [wr_id, wr_m1, sd_t, nl_I, nl_R, nl_none, c1_I, c1_R, sh_0, sh_1, sh_2, sh_3, sh_4, true_and, and_true, ldA_A, ldB_B, ldS_S, stA_A, stB_B, aL_A, aL_B, aL_S, aC_A, hRd_eq, hRd_ne, cp6, cp8, tl_some, tl_none, List.cons_append, List.nil_append, ofI_t0, ofI_t1, Int.add_zero, Int.zero_add, x15_0, x15_1, x15_2, x15_3, x15_4, x15_5, x15_6, x15_7, x15_8, x15_9, x15_10, x15_11, x15_12, x15_13, x15_14, x15_15, x15_16, x15_17, x15_18, x15_19, x15_20, x15_21, x15_22, x15_23, x15_24, x15_25, x15_26, x15_27, x15_28, gf6_1, gf1_2]
      refine s_orMornings (by omega) hC (by omega) (by omega) ?_
      simp (disch := omega) only [wr_id, wr_m1, sd_t, nl_I, nl_R, nl_none, c1_I, c1_R, sh_0, sh_1, sh_2, sh_3, sh_4, true_and, and_true, ldA_A, ldB_B, ldS_S, stA_A, stB_B, aL_A, aL_B, aL_S, aC_A, hRd_eq, hRd_ne, cp6, cp8, tl_some, tl_none, List.cons_append, List.nil_append, ofI_t0, ofI_t1, Int.add_zero, Int.zero_add, x15_0, x15_1, x15_2, x15_3, x15_4, x15_5, x15_6, x15_7, x15_8, x15_9, x15_10, x15_11, x15_12, x15_13, x15_14, x15_15, x15_16, x15_17, x15_18, x15_19, x15_20, x15_21, x15_22, x15_23, x15_24, x15_25, x15_26, x15_27, x15_28, gf6_1, gf1_2]
      have e4 : (if en (U p) = -1 then M else en (U p)) = (if U p = 1000000 then M else U p) := by
        by_cases z : U p = 1000000
        · rw [if_pos (hup.2.2.1.mpr z), if_pos z]
        · rw [if_neg (fun y => z (hup.2.2.1.mp y)), if_neg z, hup.2.2.2 z]
      rw [e4]
      exact ih (pre ++ [p]) (i + 1) _ _ hR.snoc (by simp; omega) kk
theorem s_upOthers {but : Int} (hd : 4 ≤ d) (hC : CapH h M P J wk wt dr tk bh) (hM : 0 ≤ M ∧ M ≤ 999) (hU : TVF U) (h22 : hRd h 22 = cA 6 (fun q => en (U q))) (hr : hRd h r = oRow c m) (hc : hRd h c = cA 6 f) (hb : -2147483648 ≤ but ∧ but ≤ 2147483647) (hR : RI f m L) (kk : Q (some (vI (suF M but U L 0))) h) : CALL d 15 [.ref 10, .ref r, vI but] h Q := by
  refine cl15 (by omega) hC.1 ?_
  simp (disch := omega) only [wr_id, wr_m1, sd_t, nl_I, nl_R, nl_none, c1_I, c1_R, sh_0, sh_1, sh_2, sh_3, sh_4, true_and, and_true, ldA_A, ldB_B, ldS_S, stA_A, stB_B, aL_A, aL_B, aL_S, aC_A, hRd_eq, hRd_ne, cp6, cp8, tl_some, tl_none, List.cons_append, List.nil_append, ofI_t0, ofI_t1, Int.add_zero, Int.zero_add, x15_0, x15_1, x15_2, x15_3, x15_4, x15_5, x15_6, x15_7, x15_8, x15_9, x15_10, x15_11, x15_12, x15_13, x15_14, x15_15, x15_16, x15_17, x15_18, x15_19, x15_20, x15_21, x15_22, x15_23, x15_24, x15_25, x15_26, x15_27, x15_28, gf6_1, gf1_2]
  exact l_upOthers (by omega) hC hM hU h22 hr hc hb L [] 0 0 none hR rfl kk
theorem s_reckonNow {U0 D0 I0 : Int → Int} {mo : Int} (hd : 6 ≤ d) (hC : CapH h M P J wk wt dr tk bh) (h17 : hRd h 17 = oState 18 20 21 sh mo) (hB : CapB M P J wk wt dr tk bh) (h22 : hRd h 22 = cA 6 U0) (h23 : hRd h 23 = cA 8 D0) (h24 : hRd h 24 = cA 6 I0) (hr : hRd h 18 = oRow 19 m) (hc : hRd h 19 = cA 6 f) (hR : RI f m L) (hL : ∀ x ∈ L, x < P) (kk : ∀ I1 : Int → Int, Q none (hK h (fun q => en (recU M J sh wk wt dr tk bh L q)) (fun q => en (recD M J sh wk wt dr tk bh L q)) I1)) : CALL d 4 [.ref 10] h Q := by
  have h10 := hC.1
  refine cl4 (by omega) h10 ?_
  simp (disch := omega) only [wr_id, wr_m1, sd_t, nl_I, nl_R, nl_none, c1_I, c1_R, sh_0, sh_1, sh_2, sh_3, sh_4, true_and, and_true, ldA_A, ldB_B, ldS_S, stA_A, stB_B, aL_A, aL_B, aL_S, aC_A, hRd_eq, hRd_ne, cp6, cp8, tl_some, tl_none, List.cons_append, List.nil_append, ofI_t0, ofI_t1, Int.add_zero, Int.zero_add, x4_0, x4_1, x4_2, x4_3, x4_4, x4_5, x4_6, x4_7, x4_8, gf1_1, gf7_0, gf7_3, h10, h17]
  refine s_reckon (by omega) hC hB h22 h23 h24 hr hc (by omega) hR hL (fun I1 => ?_)
  simp (disch := omega) only [wr_id, wr_m1, sd_t, nl_I, nl_R, nl_none, c1_I, c1_R, sh_0, sh_1, sh_2, sh_3, sh_4, true_and, and_true, ldA_A, ldB_B, ldS_S, stA_A, stB_B, aL_A, aL_B, aL_S, aC_A, hRd_eq, hRd_ne, cp6, cp8, tl_some, tl_none, List.cons_append, List.nil_append, ofI_t0, ofI_t1, Int.add_zero, Int.zero_add, x4_0, x4_1, x4_2, x4_3, x4_4, x4_5, x4_6, x4_7, x4_8, gf1_1, gf7_0, gf7_3]
  exact kk I1
end
