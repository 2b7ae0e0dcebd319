-- THE REFERENCE: what it reads off
/-- the row of numbers has the order L -/
def NR (L : List Int) (g : Int → Int) : Prop := RI g L.length L ∧ g 6 = L.length
theorem pfrom_nm {p : Int} : ∀ (S : List Int) (i : Int), ¬ p ∈ S → pfrom S p i = -1 := by
  intro S
  induction S with
  | nil => intro i _; rfl
  | cons a S ih =>
    intro i h
    rw [List.mem_cons] at h
    rw [pfrom, if_neg (fun e => h (Or.inl e.symm))]
    exact ih _ (fun e => h (Or.inr e))
theorem vI_zor0 {s : Int} : vI (zor s 0) = vI s := by
  unfold zor vI
  rw [Int32.ofInt_toInt]
  show Value.int (Int32.ofInt s ||| 0) = _
  rw [Int32.or_zero]
/-- the person's place, as the last one that is found -/
def plF (S : List Int) (p k x : Int) : Int := if pfrom S p k = -1 then x else pfrom S p k
theorem plF_c {S : List Int} {a p k x : Int} (hn : (a :: S).Nodup) (hk : 0 ≤ k) : plF (a :: S) p k x = plF S p (k + 1) (if a = p then k else x) := by
  obtain ⟨h1, h2⟩ := List.nodup_cons.mp hn
  unfold plF
  rw [pfrom]
  by_cases e : a = p
  · rw [if_pos e, if_pos e, if_neg (by omega), pfrom_nm S _ (by rw [← e]; exact h1), if_pos rfl]
  · rw [if_neg e, if_neg e]
theorem plF_0 {S : List Int} {p : Int} : plF S p 0 (-1) = pfrom S p 0 := by
  unfold plF
  split
  · rename_i e; rw [e]
  · rfl
theorem NR.g6 {L : List Int} {g : Int → Int} (h : NR L g) : g 6 = L.length ∧ 0 ≤ g 6 ∧ g 6 ≤ 6 := by
  have := h.1.2.1
  have := h.2
  omega
theorem NR.at {L S pre : List Int} {g : Int → Int} {a k : Int} (h : NR L g) (hp : pre ++ a :: S = L) (hk : k = (pre.length : Int)) : g k = a ∧ 0 ≤ a ∧ a ≤ 5 ∧ k < g 6 ∧ 0 ≤ k ∧ k ≤ 5 := by
  have e : pre.length < L.length := by rw [← hp]; simp
  have := h.g6
  refine ⟨?_, ?_, ?_, by omega, by omega, by omega⟩
  · rw [hk]; exact h.1.2.2.1 _ _ (by rw [← hp]; simp)
  · exact (h.1.2.2.2 a (by rw [← hp]; simp)).1
  · exact (h.1.2.2.2 a (by rw [← hp]; simp)).2
theorem SC.of {P J sh : Int} {L : List Int} {wk dr g : Int → Int} (h : NR L g) (h7 : g 7 = sh) (h9 : ∀ j, 0 ≤ j → j < J → g (9 + j) = dr j) (h17 : ∀ p, 0 ≤ p → p < P → g (17 + p) = wk p) : SC P J L wk dr sh g := ⟨h.1.2.2.1, h.2, h7, h9, h17⟩
section
variable {d : Nat} {h : LHeap} {Q : Option Value → LHeap → Prop} {wk wt dr tk bh g w D U ea la bj bm : Int → Int} {M P J sh x y s p t : Int} {z : Nat → Int} {L O : List Int}
theorem l_mplaceOf (h1 : hRd h 156 = oM z) (hg : hRd h 160 = cA 24 g) (hN : NR L g) (hp : -2147483648 ≤ p ∧ p ≤ 2147483647) : ∀ (S pre : List Int) (k x : Int), pre ++ S = L → k = (pre.length : Int) → S.Nodup → Q (some (vI (plF S p k x))) h → WPC d 135 5 [some (.ref 156), some (vI p), some (vI x), some (vI k)] [] h Q := by
  have g6 := hN.g6
  intro S
  induction S with
  | nil =>
    intro pre k x he hk hn kk
    rw [List.append_nil] at he
    subst he
    rw [WPC_iff]
    simp (disch := omega) only [wr_id, wr_m1, sd_t, nl_I, nl_R, nl_none, c1_I, c1_R, sh_0, sh_1, sh_2, sh_3, sh_4, true_and, and_true, ldA_A, ldB_B, ldS_S, stA_A, stB_B, aL_A, aL_B, aL_S, aC_A, hRd_eq, hRd_ne, cp6, cp8, tl_some, tl_none, List.cons_append, List.nil_append, ofI_t0, ofI_t1, Int.add_zero, Int.zero_add, x135_5, x135_6, x135_7, x135_8, x135_9, x135_10, x135_23, x135_24, gf11_0, pf11_0, gf11_1, pf11_1, gf11_2, pf11_2, gf11_3, gf11_4, gf11_5, gf11_6, gf11_7, pf11_7, gf11_8, gf11_9, pf11_9, gf11_10, pf11_10, gf11_11, pf11_11, gf11_12, pf11_12, gf11_13, pf11_13, gf11_14, gf11_15, pf11_15, gf11_16, gf11_17, pf11_17, gf11_18, gf11_19, gf11_20, gf11_21, gf11_22, gf11_23, gf11_24, pf11_24, gf11_25, gf11_26, gf11_27, gf11_28, pf11_28, gf11_29, pf11_29, gf11_30, gf11_31, gf11_32, pf11_32, gf11_33, gf11_34, gf11_35, pf11_35, gf11_36, gf11_37, gf11_38, gf11_39, uN_eq, uN_ne, h1, hg]
    exact ⟨by omega, fun _ => kk, fun q => by omega⟩
  | cons a S ih =>
    intro pre k x he hk hn kk
    have ha := hN.at he hk
    obtain ⟨n1, n2⟩ := List.nodup_cons.mp hn
    rw [plF_c hn (by omega)] at kk
    rw [WPC_iff]
    simp (disch := omega) only [wr_id, wr_m1, sd_t, nl_I, nl_R, nl_none, c1_I, c1_R, sh_0, sh_1, sh_2, sh_3, sh_4, true_and, and_true, ldA_A, ldB_B, ldS_S, stA_A, stB_B, aL_A, aL_B, aL_S, aC_A, hRd_eq, hRd_ne, cp6, cp8, tl_some, tl_none, List.cons_append, List.nil_append, ofI_t0, ofI_t1, Int.add_zero, Int.zero_add, x135_4, x135_5, x135_6, x135_7, x135_8, x135_9, x135_10, x135_11, x135_12, x135_13, x135_14, x135_15, x135_16, x135_17, x135_18, x135_19, x135_20, x135_21, x135_22, gf11_0, pf11_0, gf11_1, pf11_1, gf11_2, pf11_2, gf11_3, gf11_4, gf11_5, gf11_6, gf11_7, pf11_7, gf11_8, gf11_9, pf11_9, gf11_10, pf11_10, gf11_11, pf11_11, gf11_12, pf11_12, gf11_13, pf11_13, gf11_14, gf11_15, pf11_15, gf11_16, gf11_17, pf11_17, gf11_18, gf11_19, gf11_20, gf11_21, gf11_22, gf11_23, gf11_24, pf11_24, gf11_25, gf11_26, gf11_27, gf11_28, pf11_28, gf11_29, pf11_29, gf11_30, gf11_31, gf11_32, pf11_32, gf11_33, gf11_34, gf11_35, pf11_35, gf11_36, gf11_37, gf11_38, gf11_39, uN_eq, uN_ne, h1, hg, ha.1]
    refine ⟨by omega, fun q => by omega, fun _ => ⟨by omega, fun q => ?_, fun q => ?_⟩⟩
    · rw [if_neg q] at kk
      exact ih (pre ++ [a]) (k + 1) x (by rw [List.append_assoc]; exact he) (by rw [hk]; simp) n2 kk
    · rw [if_pos (by omega)] at kk
      exact ih (pre ++ [a]) (k + 1) k (by rw [List.append_assoc]; exact he) (by rw [hk]; simp) n2 kk
theorem m_placeOf (hd : 1 ≤ d) (h1 : hRd h 156 = oM z) (hg : hRd h 160 = cA 24 g) (hN : NR L g) (hn : L.Nodup) (hp : -2147483648 ≤ p ∧ p ≤ 2147483647) (kk : Q (some (vI (pfrom L p 0))) h) : CALL d 135 [.ref 156, vI p] h Q := by
  refine cl135 (by omega) h1 ?_
  simp (disch := omega) only [wr_id, wr_m1, sd_t, nl_I, nl_R, nl_none, c1_I, c1_R, sh_0, sh_1, sh_2, sh_3, sh_4, true_and, and_true, ldA_A, ldB_B, ldS_S, stA_A, stB_B, aL_A, aL_B, aL_S, aC_A, hRd_eq, hRd_ne, cp6, cp8, tl_some, tl_none, List.cons_append, List.nil_append, ofI_t0, ofI_t1, Int.add_zero, Int.zero_add, x135_0, x135_1, x135_2, x135_3, x135_4]
  exact l_mplaceOf h1 hg hN hp L [] 0 (-1) rfl rfl hn (by rw [plF_0]; exact kk)
theorem l_mwasPlace (h1 : hRd h 156 = oM z) (hg : hRd h 171 = cA 24 g) (hN : NR L g) (hp : -2147483648 ≤ p ∧ p ≤ 2147483647) : ∀ (S pre : List Int) (k x : Int), pre ++ S = L → k = (pre.length : Int) → S.Nodup → Q (some (vI (plF S p k x))) h → WPC d 157 5 [some (.ref 156), some (vI p), some (vI x), some (vI k)] [] h Q := by
  have g6 := hN.g6
  intro S
  induction S with
  | nil =>
    intro pre k x he hk hn kk
    rw [List.append_nil] at he
    subst he
    rw [WPC_iff]
    simp (disch := omega) only [wr_id, wr_m1, sd_t, nl_I, nl_R, nl_none, c1_I, c1_R, sh_0, sh_1, sh_2, sh_3, sh_4, true_and, and_true, ldA_A, ldB_B, ldS_S, stA_A, stB_B, aL_A, aL_B, aL_S, aC_A, hRd_eq, hRd_ne, cp6, cp8, tl_some, tl_none, List.cons_append, List.nil_append, ofI_t0, ofI_t1, Int.add_zero, Int.zero_add, x157_5, x157_6, x157_7, x157_8, x157_9, x157_10, x157_23, x157_24, gf11_0, pf11_0, gf11_1, pf11_1, gf11_2, pf11_2, gf11_3, gf11_4, gf11_5, gf11_6, gf11_7, pf11_7, gf11_8, gf11_9, pf11_9, gf11_10, pf11_10, gf11_11, pf11_11, gf11_12, pf11_12, gf11_13, pf11_13, gf11_14, gf11_15, pf11_15, gf11_16, gf11_17, pf11_17, gf11_18, gf11_19, gf11_20, gf11_21, gf11_22, gf11_23, gf11_24, pf11_24, gf11_25, gf11_26, gf11_27, gf11_28, pf11_28, gf11_29, pf11_29, gf11_30, gf11_31, gf11_32, pf11_32, gf11_33, gf11_34, gf11_35, pf11_35, gf11_36, gf11_37, gf11_38, gf11_39, uN_eq, uN_ne, h1, hg]
    exact ⟨by omega, fun _ => kk, fun q => by omega⟩
  | cons a S ih =>
    intro pre k x he hk hn kk
    have ha := hN.at he hk
    obtain ⟨n1, n2⟩ := List.nodup_cons.mp hn
    rw [plF_c hn (by omega)] at kk
    rw [WPC_iff]
    simp (disch := omega) only [wr_id, wr_m1, sd_t, nl_I, nl_R, nl_none, c1_I, c1_R, sh_0, sh_1, sh_2, sh_3, sh_4, true_and, and_true, ldA_A, ldB_B, ldS_S, stA_A, stB_B, aL_A, aL_B, aL_S, aC_A, hRd_eq, hRd_ne, cp6, cp8, tl_some, tl_none, List.cons_append, List.nil_append, ofI_t0, ofI_t1, Int.add_zero, Int.zero_add, x157_4, x157_5, x157_6, x157_7, x157_8, x157_9, x157_10, x157_11, x157_12, x157_13, x157_14, x157_15, x157_16, x157_17, x157_18, x157_19, x157_20, x157_21, x157_22, gf11_0, pf11_0, gf11_1, pf11_1, gf11_2, pf11_2, gf11_3, gf11_4, gf11_5, gf11_6, gf11_7, pf11_7, gf11_8, gf11_9, pf11_9, gf11_10, pf11_10, gf11_11, pf11_11, gf11_12, pf11_12, gf11_13, pf11_13, gf11_14, gf11_15, pf11_15, gf11_16, gf11_17, pf11_17, gf11_18, gf11_19, gf11_20, gf11_21, gf11_22, gf11_23, gf11_24, pf11_24, gf11_25, gf11_26, gf11_27, gf11_28, pf11_28, gf11_29, pf11_29, gf11_30, gf11_31, gf11_32, pf11_32, gf11_33, gf11_34, gf11_35, pf11_35, gf11_36, gf11_37, gf11_38, gf11_39, uN_eq, uN_ne, h1, hg, ha.1]
    refine ⟨by omega, fun q => by omega, fun _ => ⟨by omega, fun q => ?_, fun q => ?_⟩⟩
    · rw [if_neg q] at kk
      exact ih (pre ++ [a]) (k + 1) x (by rw [List.append_assoc]; exact he) (by rw [hk]; simp) n2 kk
    · rw [if_pos (by omega)] at kk
      exact ih (pre ++ [a]) (k + 1) k (by rw [List.append_assoc]; exact he) (by rw [hk]; simp) n2 kk
theorem m_wasPlace (hd : 1 ≤ d) (h1 : hRd h 156 = oM z) (hg : hRd h 171 = cA 24 g) (hN : NR L g) (hn : L.Nodup) (hp : -2147483648 ≤ p ∧ p ≤ 2147483647) (kk : Q (some (vI (pfrom L p 0))) h) : CALL d 157 [.ref 156, vI p] h Q := by
  refine cl157 (by omega) h1 ?_
  simp (disch := omega) only [wr_id, wr_m1, sd_t, nl_I, nl_R, nl_none, c1_I, c1_R, sh_0, sh_1, sh_2, sh_3, sh_4, true_and, and_true, ldA_A, ldB_B, ldS_S, stA_A, stB_B, aL_A, aL_B, aL_S, aC_A, hRd_eq, hRd_ne, cp6, cp8, tl_some, tl_none, List.cons_append, List.nil_append, ofI_t0, ofI_t1, Int.add_zero, Int.zero_add, x157_0, x157_1, x157_2, x157_3, x157_4]
  exact l_mwasPlace h1 hg hN hp L [] 0 (-1) rfl rfl hn (by rw [plF_0]; exact kk)
theorem l_many (h1 : hRd h 156 = oM z) (hz : z 2 = J) (hJ : 0 ≤ J ∧ J ≤ 8) (hg : hRd h 160 = cA 24 g) (hdr : ∀ j, 0 ≤ j → j < J → g (9 + j) = dr j ∧ 0 ≤ dr j ∧ dr j ≤ 5) (hp : -2147483648 ≤ p ∧ p ≤ 2147483647) : ∀ (n : Nat) (j c : Int), (n : Int) = J - j → 0 ≤ j → Q (some (vI (jofF dr p n j c))) h → WPC d 136 5 [some (.ref 156), some (vI p), some (vI c), some (vI j)] [] h Q := by
  intro n
  induction n with
  | zero =>
    intro j c hn hj kk
    rw [WPC_iff]
    simp (disch := omega) only [wr_id, wr_m1, sd_t, nl_I, nl_R, nl_none, c1_I, c1_R, sh_0, sh_1, sh_2, sh_3, sh_4, true_and, and_true, ldA_A, ldB_B, ldS_S, stA_A, stB_B, aL_A, aL_B, aL_S, aC_A, hRd_eq, hRd_ne, cp6, cp8, tl_some, tl_none, List.cons_append, List.nil_append, ofI_t0, ofI_t1, Int.add_zero, Int.zero_add, x136_5, x136_6, x136_7, x136_8, x136_25, x136_26, gf11_0, pf11_0, gf11_1, pf11_1, gf11_2, pf11_2, gf11_3, gf11_4, gf11_5, gf11_6, gf11_7, pf11_7, gf11_8, gf11_9, pf11_9, gf11_10, pf11_10, gf11_11, pf11_11, gf11_12, pf11_12, gf11_13, pf11_13, gf11_14, gf11_15, pf11_15, gf11_16, gf11_17, pf11_17, gf11_18, gf11_19, gf11_20, gf11_21, gf11_22, gf11_23, gf11_24, pf11_24, gf11_25, gf11_26, gf11_27, gf11_28, pf11_28, gf11_29, pf11_29, gf11_30, gf11_31, gf11_32, pf11_32, gf11_33, gf11_34, gf11_35, pf11_35, gf11_36, gf11_37, gf11_38, gf11_39, uN_eq, uN_ne, h1]
    exact ⟨fun _ => kk, fun q => by omega⟩
  | succ n ih =>
    intro j c hn hj kk
    have ej := hdr j hj (by omega)
    rw [jofF] at kk
    rw [WPC_iff]
    simp (disch := omega) only [wr_id, wr_m1, sd_t, nl_I, nl_R, nl_none, c1_I, c1_R, sh_0, sh_1, sh_2, sh_3, sh_4, true_and, and_true, ldA_A, ldB_B, ldS_S, stA_A, stB_B, aL_A, aL_B, aL_S, aC_A, hRd_eq, hRd_ne, cp6, cp8, tl_some, tl_none, List.cons_append, List.nil_append, ofI_t0, ofI_t1, Int.add_zero, Int.zero_add, x136_4, x136_5, x136_6, x136_7, x136_8, x136_9, x136_10, x136_11, x136_12, x136_13, x136_14, x136_15, x136_16, x136_17, x136_18, x136_19, x136_20, x136_21, x136_22, x136_23, x136_24, gf11_0, pf11_0, gf11_1, pf11_1, gf11_2, pf11_2, gf11_3, gf11_4, gf11_5, gf11_6, gf11_7, pf11_7, gf11_8, gf11_9, pf11_9, gf11_10, pf11_10, gf11_11, pf11_11, gf11_12, pf11_12, gf11_13, pf11_13, gf11_14, gf11_15, pf11_15, gf11_16, gf11_17, pf11_17, gf11_18, gf11_19, gf11_20, gf11_21, gf11_22, gf11_23, gf11_24, pf11_24, gf11_25, gf11_26, gf11_27, gf11_28, pf11_28, gf11_29, pf11_29, gf11_30, gf11_31, gf11_32, pf11_32, gf11_33, gf11_34, gf11_35, pf11_35, gf11_36, gf11_37, gf11_38, gf11_39, uN_eq, uN_ne, h1, hg, ej.1]
    refine ⟨fun q => by omega, fun _ => ⟨by omega, fun q => ?_, fun q => ?_⟩⟩
    · rw [if_neg q] at kk
      exact ih (j + 1) c (by omega) (by omega) kk
    · rw [if_pos (by omega)] at kk
      exact ih (j + 1) (c + 1) (by omega) (by omega) kk
theorem m_many (hd : 1 ≤ d) (h1 : hRd h 156 = oM z) (hz : z 2 = J) (hJ : 0 ≤ J ∧ J ≤ 8) (hg : hRd h 160 = cA 24 g) (hdr : ∀ j, 0 ≤ j → j < J → g (9 + j) = dr j ∧ 0 ≤ dr j ∧ dr j ≤ 5) (hp : -2147483648 ≤ p ∧ p ≤ 2147483647) (kk : Q (some (vI (jofF dr p J.toNat 0 0))) h) : CALL d 136 [.ref 156, vI p] h Q := by
  refine cl136 (by omega) h1 ?_
  simp (disch := omega) only [wr_id, wr_m1, sd_t, nl_I, nl_R, nl_none, c1_I, c1_R, sh_0, sh_1, sh_2, sh_3, sh_4, true_and, and_true, ldA_A, ldB_B, ldS_S, stA_A, stB_B, aL_A, aL_B, aL_S, aC_A, hRd_eq, hRd_ne, cp6, cp8, tl_some, tl_none, List.cons_append, List.nil_append, ofI_t0, ofI_t1, Int.add_zero, Int.zero_add, x136_0, x136_1, x136_2, x136_3, x136_4]
  exact l_many h1 hz hJ hg hdr hp J.toNat 0 0 (by omega) (by omega) kk
theorem l_stuck (h1 : hRd h 156 = oM z) (hg : hRd h 160 = cA 24 g) (hu : hRd h 168 = cA 6 U) (hN : NR L g) (hU : TVF U) : ∀ (S pre : List Int) (k x : Int), pre ++ S = L → k = (pre.length : Int) → Q (some (vI (stF U S x))) h → WPC d 132 5 [some (.ref 156), some (vI x), some (vI k)] [] h Q := by
  have g6 := hN.g6
  intro S
  induction S with
  | nil =>
    intro pre k x he hk kk
    rw [List.append_nil] at he
    subst he
    rw [WPC_iff]
    simp (disch := omega) only [wr_id, wr_m1, sd_t, nl_I, nl_R, nl_none, c1_I, c1_R, sh_0, sh_1, sh_2, sh_3, sh_4, true_and, and_true, ldA_A, ldB_B, ldS_S, stA_A, stB_B, aL_A, aL_B, aL_S, aC_A, hRd_eq, hRd_ne, cp6, cp8, tl_some, tl_none, List.cons_append, List.nil_append, ofI_t0, ofI_t1, Int.add_zero, Int.zero_add, x132_5, x132_6, x132_7, x132_8, x132_9, x132_10, x132_33, x132_34, gf11_0, pf11_0, gf11_1, pf11_1, gf11_2, pf11_2, gf11_3, gf11_4, gf11_5, gf11_6, gf11_7, pf11_7, gf11_8, gf11_9, pf11_9, gf11_10, pf11_10, gf11_11, pf11_11, gf11_12, pf11_12, gf11_13, pf11_13, gf11_14, gf11_15, pf11_15, gf11_16, gf11_17, pf11_17, gf11_18, gf11_19, gf11_20, gf11_21, gf11_22, gf11_23, gf11_24, pf11_24, gf11_25, gf11_26, gf11_27, gf11_28, pf11_28, gf11_29, pf11_29, gf11_30, gf11_31, gf11_32, pf11_32, gf11_33, gf11_34, gf11_35, pf11_35, gf11_36, gf11_37, gf11_38, gf11_39, uN_eq, uN_ne, h1, hg]
    exact ⟨by omega, fun _ => kk, fun q => by omega⟩
  | cons a S ih =>
    intro pre k x he hk kk
    have ha := hN.at he hk
    have hua := TV_ge (hU a)
    rw [stF] at kk
    rw [WPC_iff]
    simp (disch := omega) only [wr_id, wr_m1, sd_t, nl_I, nl_R, nl_none, c1_I, c1_R, sh_0, sh_1, sh_2, sh_3, sh_4, true_and, and_true, ldA_A, ldB_B, ldS_S, stA_A, stB_B, aL_A, aL_B, aL_S, aC_A, hRd_eq, hRd_ne, cp6, cp8, tl_some, tl_none, List.cons_append, List.nil_append, ofI_t0, ofI_t1, Int.add_zero, Int.zero_add, x132_4, x132_5, x132_6, x132_7, x132_8, x132_9, x132_10, x132_11, x132_12, x132_13, x132_14, x132_15, x132_16, x132_17, x132_18, x132_19, x132_20, x132_21, x132_22, x132_23, x132_24, x132_25, x132_26, x132_27, x132_28, x132_29, x132_30, x132_31, x132_32, gf11_0, pf11_0, gf11_1, pf11_1, gf11_2, pf11_2, gf11_3, gf11_4, gf11_5, gf11_6, gf11_7, pf11_7, gf11_8, gf11_9, pf11_9, gf11_10, pf11_10, gf11_11, pf11_11, gf11_12, pf11_12, gf11_13, pf11_13, gf11_14, gf11_15, pf11_15, gf11_16, gf11_17, pf11_17, gf11_18, gf11_19, gf11_20, gf11_21, gf11_22, gf11_23, gf11_24, pf11_24, gf11_25, gf11_26, gf11_27, gf11_28, pf11_28, gf11_29, pf11_29, gf11_30, gf11_31, gf11_32, pf11_32, gf11_33, gf11_34, gf11_35, pf11_35, gf11_36, gf11_37, gf11_38, gf11_39, uN_eq, uN_ne, h1, hg, hu, ha.1]
    refine ⟨by omega, fun q => by omega, fun _ => ⟨by omega, by omega, fun q => ?_, fun q => ⟨by omega, ?_⟩⟩⟩
    · rw [if_neg q] at kk
      rw [vI_zor0]
      exact ih (pre ++ [a]) (k + 1) x (by rw [List.append_assoc]; exact he) (by rw [hk]; simp) kk
    · rw [if_pos (by omega)] at kk
      exact ih (pre ++ [a]) (k + 1) _ (by rw [List.append_assoc]; exact he) (by rw [hk]; simp) kk
theorem m_stuck (hd : 1 ≤ d) (h1 : hRd h 156 = oM z) (hg : hRd h 160 = cA 24 g) (hu : hRd h 168 = cA 6 U) (hN : NR L g) (hU : TVF U) (kk : Q (some (vI (stF U L 0))) h) : CALL d 132 [.ref 156] h Q := by
  refine cl132 (by omega) h1 ?_
  simp (disch := omega) only [wr_id, wr_m1, sd_t, nl_I, nl_R, nl_none, c1_I, c1_R, sh_0, sh_1, sh_2, sh_3, sh_4, true_and, and_true, ldA_A, ldB_B, ldS_S, stA_A, stB_B, aL_A, aL_B, aL_S, aC_A, hRd_eq, hRd_ne, cp6, cp8, tl_some, tl_none, List.cons_append, List.nil_append, ofI_t0, ofI_t1, Int.add_zero, Int.zero_add, x132_0, x132_1, x132_2, x132_3, x132_4]
  exact l_stuck h1 hg hu hN hU L [] 0 0 rfl rfl kk
theorem l_und (h1 : hRd h 156 = oM z) (hz : z 2 = J) (hJ : 0 ≤ J ∧ J ≤ 8) (h169 : hRd h 169 = cA 8 D) (hD : TVF D) : ∀ (n : Nat) (j c : Int), (n : Int) = J - j → 0 ≤ j → Q (some (vI (udF D n j c))) h → WPC d 133 5 [some (.ref 156), some (vI c), some (vI j)] [] h Q := by
  intro n
  induction n with
  | zero =>
    intro j c hn hj kk
    rw [WPC_iff]
    simp (disch := omega) only [wr_id, wr_m1, sd_t, nl_I, nl_R, nl_none, c1_I, c1_R, sh_0, sh_1, sh_2, sh_3, sh_4, true_and, and_true, ldA_A, ldB_B, ldS_S, stA_A, stB_B, aL_A, aL_B, aL_S, aC_A, hRd_eq, hRd_ne, cp6, cp8, tl_some, tl_none, List.cons_append, List.nil_append, ofI_t0, ofI_t1, Int.add_zero, Int.zero_add, x133_5, x133_6, x133_7, x133_8, x133_25, x133_26, gf11_0, pf11_0, gf11_1, pf11_1, gf11_2, pf11_2, gf11_3, gf11_4, gf11_5, gf11_6, gf11_7, pf11_7, gf11_8, gf11_9, pf11_9, gf11_10, pf11_10, gf11_11, pf11_11, gf11_12, pf11_12, gf11_13, pf11_13, gf11_14, gf11_15, pf11_15, gf11_16, gf11_17, pf11_17, gf11_18, gf11_19, gf11_20, gf11_21, gf11_22, gf11_23, gf11_24, pf11_24, gf11_25, gf11_26, gf11_27, gf11_28, pf11_28, gf11_29, pf11_29, gf11_30, gf11_31, gf11_32, pf11_32, gf11_33, gf11_34, gf11_35, pf11_35, gf11_36, gf11_37, gf11_38, gf11_39, uN_eq, uN_ne, h1]
    exact ⟨fun _ => kk, fun q => by omega⟩
  | succ n ih =>
    intro j c hn hj kk
    have ej := TV_ge (hD j)
    rw [udF] at kk
    rw [WPC_iff]
    simp (disch := omega) only [wr_id, wr_m1, sd_t, nl_I, nl_R, nl_none, c1_I, c1_R, sh_0, sh_1, sh_2, sh_3, sh_4, true_and, and_true, ldA_A, ldB_B, ldS_S, stA_A, stB_B, aL_A, aL_B, aL_S, aC_A, hRd_eq, hRd_ne, cp6, cp8, tl_some, tl_none, List.cons_append, List.nil_append, ofI_t0, ofI_t1, Int.add_zero, Int.zero_add, x133_4, x133_5, x133_6, x133_7, x133_8, x133_9, x133_10, x133_11, x133_12, x133_13, x133_14, x133_15, x133_16, x133_17, x133_18, x133_19, x133_20, x133_21, x133_22, x133_23, x133_24, gf11_0, pf11_0, gf11_1, pf11_1, gf11_2, pf11_2, gf11_3, gf11_4, gf11_5, gf11_6, gf11_7, pf11_7, gf11_8, gf11_9, pf11_9, gf11_10, pf11_10, gf11_11, pf11_11, gf11_12, pf11_12, gf11_13, pf11_13, gf11_14, gf11_15, pf11_15, gf11_16, gf11_17, pf11_17, gf11_18, gf11_19, gf11_20, gf11_21, gf11_22, gf11_23, gf11_24, pf11_24, gf11_25, gf11_26, gf11_27, gf11_28, pf11_28, gf11_29, pf11_29, gf11_30, gf11_31, gf11_32, pf11_32, gf11_33, gf11_34, gf11_35, pf11_35, gf11_36, gf11_37, gf11_38, gf11_39, uN_eq, uN_ne, h1, h169]
    refine ⟨fun q => by omega, fun _ => ⟨by omega, fun q => ?_, fun q => ?_⟩⟩
    · rw [if_neg q] at kk
      rw [vI_zor0]
      exact ih (j + 1) c (by omega) (by omega) kk
    · rw [if_pos (by omega)] at kk
      exact ih (j + 1) _ (by omega) (by omega) kk
theorem m_und (hd : 1 ≤ d) (h1 : hRd h 156 = oM z) (hz : z 2 = J) (hJ : 0 ≤ J ∧ J ≤ 8) (h169 : hRd h 169 = cA 8 D) (hD : TVF D) (kk : Q (some (vI (udF D J.toNat 0 0))) h) : CALL d 133 [.ref 156] h Q := by
  refine cl133 (by omega) h1 ?_
  simp (disch := omega) only [wr_id, wr_m1, sd_t, nl_I, nl_R, nl_none, c1_I, c1_R, sh_0, sh_1, sh_2, sh_3, sh_4, true_and, and_true, ldA_A, ldB_B, ldS_S, stA_A, stB_B, aL_A, aL_B, aL_S, aC_A, hRd_eq, hRd_ne, cp6, cp8, tl_some, tl_none, List.cons_append, List.nil_append, ofI_t0, ofI_t1, Int.add_zero, Int.zero_add, x133_0, x133_1, x133_2, x133_3, x133_4]
  exact l_und h1 hz hJ h169 hD J.toNat 0 0 (by omega) (by omega) kk
theorem l_near (hd : 1 ≤ d) (h1 : hRd h 156 = oM z) (hg : hRd h 160 = cA 24 g) (hw : hRd h 171 = cA 24 w) (hN : NR L g) (hW : NR O w) (hO : O.Nodup) : ∀ (S pre : List Int) (k x : Int), pre ++ S = L → k = (pre.length : Int) → Q (some (vI (raisF O S k x))) h → WPC d 158 5 [some (.ref 156), some (vI x), some (vI k)] [] h Q := by
  have g6 := hN.g6
  intro S
  induction S with
  | nil =>
    intro pre k x he hk kk
    rw [List.append_nil] at he
    subst he
    rw [WPC_iff]
    simp (disch := omega) only [wr_id, wr_m1, sd_t, nl_I, nl_R, nl_none, c1_I, c1_R, sh_0, sh_1, sh_2, sh_3, sh_4, true_and, and_true, ldA_A, ldB_B, ldS_S, stA_A, stB_B, aL_A, aL_B, aL_S, aC_A, hRd_eq, hRd_ne, cp6, cp8, tl_some, tl_none, List.cons_append, List.nil_append, ofI_t0, ofI_t1, Int.add_zero, Int.zero_add, x158_5, x158_6, x158_7, x158_8, x158_9, x158_10, x158_27, x158_28, gf11_0, pf11_0, gf11_1, pf11_1, gf11_2, pf11_2, gf11_3, gf11_4, gf11_5, gf11_6, gf11_7, pf11_7, gf11_8, gf11_9, pf11_9, gf11_10, pf11_10, gf11_11, pf11_11, gf11_12, pf11_12, gf11_13, pf11_13, gf11_14, gf11_15, pf11_15, gf11_16, gf11_17, pf11_17, gf11_18, gf11_19, gf11_20, gf11_21, gf11_22, gf11_23, gf11_24, pf11_24, gf11_25, gf11_26, gf11_27, gf11_28, pf11_28, gf11_29, pf11_29, gf11_30, gf11_31, gf11_32, pf11_32, gf11_33, gf11_34, gf11_35, pf11_35, gf11_36, gf11_37, gf11_38, gf11_39, uN_eq, uN_ne, h1, hg]
    exact ⟨by omega, fun _ => kk, fun q => by omega⟩
  | cons a S ih =>
    intro pre k x he hk kk
    have ha := hN.at he hk
    have hpb := pfrom_ge O a 0 (by omega)
    have hO6 := hW.1.2.1
    rw [raisF] at kk
    rw [WPC_iff]
    simp (disch := omega) only [wr_id, wr_m1, sd_t, nl_I, nl_R, nl_none, c1_I, c1_R, sh_0, sh_1, sh_2, sh_3, sh_4, true_and, and_true, ldA_A, ldB_B, ldS_S, stA_A, stB_B, aL_A, aL_B, aL_S, aC_A, hRd_eq, hRd_ne, cp6, cp8, tl_some, tl_none, List.cons_append, List.nil_append, ofI_t0, ofI_t1, Int.add_zero, Int.zero_add, x158_4, x158_5, x158_6, x158_7, x158_8, x158_9, x158_10, x158_11, x158_12, x158_13, x158_14, x158_15, x158_16, x158_17, x158_18, gf11_0, pf11_0, gf11_1, pf11_1, gf11_2, pf11_2, gf11_3, gf11_4, gf11_5, gf11_6, gf11_7, pf11_7, gf11_8, gf11_9, pf11_9, gf11_10, pf11_10, gf11_11, pf11_11, gf11_12, pf11_12, gf11_13, pf11_13, gf11_14, gf11_15, pf11_15, gf11_16, gf11_17, pf11_17, gf11_18, gf11_19, gf11_20, gf11_21, gf11_22, gf11_23, gf11_24, pf11_24, gf11_25, gf11_26, gf11_27, gf11_28, pf11_28, gf11_29, pf11_29, gf11_30, gf11_31, gf11_32, pf11_32, gf11_33, gf11_34, gf11_35, pf11_35, gf11_36, gf11_37, gf11_38, gf11_39, uN_eq, uN_ne, h1, hg, ha.1]
    refine ⟨by omega, fun q => by omega, fun _ => ⟨by omega, ?_⟩⟩
    refine m_wasPlace (by omega) h1 hw hW hO (by omega) ?_
    simp (disch := omega) only [wr_id, wr_m1, sd_t, nl_I, nl_R, nl_none, c1_I, c1_R, sh_0, sh_1, sh_2, sh_3, sh_4, true_and, and_true, ldA_A, ldB_B, ldS_S, stA_A, stB_B, aL_A, aL_B, aL_S, aC_A, hRd_eq, hRd_ne, cp6, cp8, tl_some, tl_none, List.cons_append, List.nil_append, ofI_t0, ofI_t1, Int.add_zero, Int.zero_add, x158_4, x158_19, x158_20, x158_21, x158_22, x158_23, x158_24, x158_25, x158_26]
    refine ⟨fun q => ?_, fun q => ?_⟩
    · rw [if_neg (by omega)] at kk
      exact ih (pre ++ [a]) (k + 1) x (by rw [List.append_assoc]; exact he) (by rw [hk]; simp) kk
    · rw [if_pos (by omega)] at kk
      exact ih (pre ++ [a]) (k + 1) _ (by rw [List.append_assoc]; exact he) (by rw [hk]; simp) kk
theorem m_near (hd : 2 ≤ d) (h1 : hRd h 156 = oM z) (hg : hRd h 160 = cA 24 g) (hw : hRd h 171 = cA 24 w) (hN : NR L g) (hW : NR O w) (hO : O.Nodup) (kk : Q (some (vI (raisF O L 0 0))) h) : CALL d 158 [.ref 156] h Q := by
  refine cl158 (by omega) h1 ?_
  simp (disch := omega) only [wr_id, wr_m1, sd_t, nl_I, nl_R, nl_none, c1_I, c1_R, sh_0, sh_1, sh_2, sh_3, sh_4, true_and, and_true, ldA_A, ldB_B, ldS_S, stA_A, stB_B, aL_A, aL_B, aL_S, aC_A, hRd_eq, hRd_ne, cp6, cp8, tl_some, tl_none, List.cons_append, List.nil_append, ofI_t0, ofI_t1, Int.add_zero, Int.zero_add, x158_0, x158_1, x158_2, x158_3, x158_4]
  exact l_near (by omega) h1 hg hw hN hW hO L [] 0 0 rfl rfl kk
theorem l_ups (h1 : hRd h 156 = oM z) (hz : z 0 = M) (hg : hRd h 160 = cA 24 g) (hu : hRd h 168 = cA 6 U) (hN : NR L g) (hU : TVF U) (hp : -2147483648 ≤ p ∧ p ≤ 2147483647) : ∀ (S pre : List Int) (k x : Int) (l4 : Option Value), pre ++ S = L → k = (pre.length : Int) → Q (some (vI (suF M p U S x))) h → WPC d 162 5 [some (.ref 156), some (vI p), some (vI x), some (vI k), l4] [] h Q := by
  have g6 := hN.g6
  intro S
  induction S with
  | nil =>
    intro pre k x l4 he hk kk
    rw [List.append_nil] at he
    subst he
    rw [WPC_iff]
    simp (disch := omega) only [wr_id, wr_m1, sd_t, nl_I, nl_R, nl_none, c1_I, c1_R, sh_0, sh_1, sh_2, sh_3, sh_4, true_and, and_true, ldA_A, ldB_B, ldS_S, stA_A, stB_B, aL_A, aL_B, aL_S, aC_A, hRd_eq, hRd_ne, cp6, cp8, tl_some, tl_none, List.cons_append, List.nil_append, ofI_t0, ofI_t1, Int.add_zero, Int.zero_add, x162_5, x162_6, x162_7, x162_8, x162_9, x162_10, x162_39, x162_40, gf11_0, pf11_0, gf11_1, pf11_1, gf11_2, pf11_2, gf11_3, gf11_4, gf11_5, gf11_6, gf11_7, pf11_7, gf11_8, gf11_9, pf11_9, gf11_10, pf11_10, gf11_11, pf11_11, gf11_12, pf11_12, gf11_13, pf11_13, gf11_14, gf11_15, pf11_15, gf11_16, gf11_17, pf11_17, gf11_18, gf11_19, gf11_20, gf11_21, gf11_22, gf11_23, gf11_24, pf11_24, gf11_25, gf11_26, gf11_27, gf11_28, pf11_28, gf11_29, pf11_29, gf11_30, gf11_31, gf11_32, pf11_32, gf11_33, gf11_34, gf11_35, pf11_35, gf11_36, gf11_37, gf11_38, gf11_39, uN_eq, uN_ne, h1, hg]
    exact ⟨by omega, fun _ => kk, fun q => by omega⟩
  | cons a S ih =>
    intro pre k x l4 he hk kk
    have ha := hN.at he hk
    have hua := TV_ge (hU a)
    rw [suF] at kk
    rw [WPC_iff]
    simp (disch := omega) only [wr_id, wr_m1, sd_t, nl_I, nl_R, nl_none, c1_I, c1_R, sh_0, sh_1, sh_2, sh_3, sh_4, true_and, and_true, ldA_A, ldB_B, ldS_S, stA_A, stB_B, aL_A, aL_B, aL_S, aC_A, hRd_eq, hRd_ne, cp6, cp8, tl_some, tl_none, List.cons_append, List.nil_append, ofI_t0, ofI_t1, Int.add_zero, Int.zero_add, x162_4, x162_5, x162_6, x162_7, x162_8, x162_9, x162_10, x162_11, x162_12, x162_13, x162_14, x162_15, x162_16, x162_17, x162_18, x162_19, x162_20, x162_21, x162_22, x162_23, x162_24, x162_25, x162_26, x162_27, x162_28, x162_29, x162_30, x162_31, x162_32, x162_33, x162_34, x162_35, x162_36, x162_37, x162_38, gf11_0, pf11_0, gf11_1, pf11_1, gf11_2, pf11_2, gf11_3, gf11_4, gf11_5, gf11_6, gf11_7, pf11_7, gf11_8, gf11_9, pf11_9, gf11_10, pf11_10, gf11_11, pf11_11, gf11_12, pf11_12, gf11_13, pf11_13, gf11_14, gf11_15, pf11_15, gf11_16, gf11_17, pf11_17, gf11_18, gf11_19, gf11_20, gf11_21, gf11_22, gf11_23, gf11_24, pf11_24, gf11_25, gf11_26, gf11_27, gf11_28, pf11_28, gf11_29, pf11_29, gf11_30, gf11_31, gf11_32, pf11_32, gf11_33, gf11_34, gf11_35, pf11_35, gf11_36, gf11_37, gf11_38, gf11_39, uN_eq, uN_ne, h1, hg, hu, ha.1, hz]
    refine ⟨by omega, fun q => by omega, fun _ => ⟨by omega, fun q => ⟨by omega, fun q2 => ⟨by omega, ?_⟩, fun q2 => ?_⟩, fun q => ?_⟩⟩
    · rw [if_neg q, if_neg q2] at kk
      exact ih (pre ++ [a]) (k + 1) _ _ (by rw [List.append_assoc]; exact he) (by rw [hk]; simp) kk
    · rw [if_neg q, if_pos (by omega)] at kk
      exact ih (pre ++ [a]) (k + 1) _ _ (by rw [List.append_assoc]; exact he) (by rw [hk]; simp) kk
    · rw [if_pos (by omega)] at kk
      exact ih (pre ++ [a]) (k + 1) x _ (by rw [List.append_assoc]; exact he) (by rw [hk]; simp) kk
theorem m_ups (hd : 1 ≤ d) (h1 : hRd h 156 = oM z) (hz : z 0 = M) (hg : hRd h 160 = cA 24 g) (hu : hRd h 168 = cA 6 U) (hN : NR L g) (hU : TVF U) (hp : -2147483648 ≤ p ∧ p ≤ 2147483647) (kk : Q (some (vI (suF M p U L 0))) h) : CALL d 162 [.ref 156, vI p] h Q := by
  refine cl162 (by omega) h1 ?_
  simp (disch := omega) only [wr_id, wr_m1, sd_t, nl_I, nl_R, nl_none, c1_I, c1_R, sh_0, sh_1, sh_2, sh_3, sh_4, true_and, and_true, ldA_A, ldB_B, ldS_S, stA_A, stB_B, aL_A, aL_B, aL_S, aC_A, hRd_eq, hRd_ne, cp6, cp8, tl_some, tl_none, List.cons_append, List.nil_append, ofI_t0, ofI_t1, Int.add_zero, Int.zero_add, x162_0, x162_1, x162_2, x162_3, x162_4]
  exact l_ups h1 hz hg hu hN hU hp L [] 0 0 _ rfl rfl kk
/-- are they done: from j on -/
def arF (D : Int → Int) (set t : Int) : Nat → Int → Int → Int
  | 0, _, b => b
  | n + 1, j, b => arF D set t n (j + 1) (if b = 1 ∧ (bt set j = 1 → D j ≤ t) then 1 else 0)
theorem l_are (hd : 1 ≤ d) (h1 : hRd h 156 = oM z) (hz : z 2 = J) (hJ : 0 ≤ J ∧ J ≤ 8) (h169 : hRd h 169 = cA 8 D) (hD : TVF D) (ht : 0 ≤ t ∧ t ≤ 999) : ∀ (n : Nat) (j b : Int), (n : Int) = J - j → 0 ≤ j → (b = 0 ∨ b = 1) → (∀ r, r = arF D x t n j b → (r = 0 ∨ r = 1) → Q (some (vI r)) h) → WPC d 159 5 [some (.ref 156), some (vI x), some (vI t), some (vI b), some (vI j)] [] h Q := by
  intro n
  induction n with
  | zero =>
    intro j b hn hj hb kk
    rw [WPC_iff]
    simp (disch := omega) only [wr_id, wr_m1, sd_t, nl_I, nl_R, nl_none, c1_I, c1_R, sh_0, sh_1, sh_2, sh_3, sh_4, true_and, and_true, ldA_A, ldB_B, ldS_S, stA_A, stB_B, aL_A, aL_B, aL_S, aC_A, hRd_eq, hRd_ne, cp6, cp8, tl_some, tl_none, List.cons_append, List.nil_append, ofI_t0, ofI_t1, Int.add_zero, Int.zero_add, x159_5, x159_6, x159_7, x159_8, x159_27, x159_28, gf11_0, pf11_0, gf11_1, pf11_1, gf11_2, pf11_2, gf11_3, gf11_4, gf11_5, gf11_6, gf11_7, pf11_7, gf11_8, gf11_9, pf11_9, gf11_10, pf11_10, gf11_11, pf11_11, gf11_12, pf11_12, gf11_13, pf11_13, gf11_14, gf11_15, pf11_15, gf11_16, gf11_17, pf11_17, gf11_18, gf11_19, gf11_20, gf11_21, gf11_22, gf11_23, gf11_24, pf11_24, gf11_25, gf11_26, gf11_27, gf11_28, pf11_28, gf11_29, pf11_29, gf11_30, gf11_31, gf11_32, pf11_32, gf11_33, gf11_34, gf11_35, pf11_35, gf11_36, gf11_37, gf11_38, gf11_39, uN_eq, uN_ne, h1]
    exact ⟨fun _ => ⟨ofI_01 hb, kk b rfl hb⟩, fun q => by omega⟩
  | succ n ih =>
    intro j b hn hj hb kk
    have ej := TV_ge (hD j)
    rw [arF] at kk
    have n0 : ¬ (b = 1 ∧ (bt x j = 1 → D j ≤ t)) → ∀ c, c = 0 → WPC d 159 5 [some (.ref 156), some (vI x), some (vI t), some (vI c), some (vI (j + 1))] [] h Q := fun q c hc => by
      rw [if_neg q] at kk
      exact ih (j + 1) c (by omega) (by omega) (by omega) (by rw [hc]; exact kk)
    have n1 : (b = 1 ∧ (bt x j = 1 → D j ≤ t)) → ∀ c, c = 1 → WPC d 159 5 [some (.ref 156), some (vI x), some (vI t), some (vI c), some (vI (j + 1))] [] h Q := fun q c hc => by
      rw [if_pos q] at kk
      exact ih (j + 1) c (by omega) (by omega) (by omega) (by rw [hc]; exact kk)
    rw [WPC_iff]
    simp (disch := omega) only [wr_id, wr_m1, sd_t, nl_I, nl_R, nl_none, c1_I, c1_R, sh_0, sh_1, sh_2, sh_3, sh_4, true_and, and_true, ldA_A, ldB_B, ldS_S, stA_A, stB_B, aL_A, aL_B, aL_S, aC_A, hRd_eq, hRd_ne, cp6, cp8, tl_some, tl_none, List.cons_append, List.nil_append, ofI_t0, ofI_t1, Int.add_zero, Int.zero_add, x159_4, x159_5, x159_6, x159_7, x159_8, x159_9, x159_10, x159_11, x159_12, x159_13, x159_23, x159_24, x159_25, x159_26, gf11_0, pf11_0, gf11_1, pf11_1, gf11_2, pf11_2, gf11_3, gf11_4, gf11_5, gf11_6, gf11_7, pf11_7, gf11_8, gf11_9, pf11_9, gf11_10, pf11_10, gf11_11, pf11_11, gf11_12, pf11_12, gf11_13, pf11_13, gf11_14, gf11_15, pf11_15, gf11_16, gf11_17, pf11_17, gf11_18, gf11_19, gf11_20, gf11_21, gf11_22, gf11_23, gf11_24, pf11_24, gf11_25, gf11_26, gf11_27, gf11_28, pf11_28, gf11_29, pf11_29, gf11_30, gf11_31, gf11_32, pf11_32, gf11_33, gf11_34, gf11_35, pf11_35, gf11_36, gf11_37, gf11_38, gf11_39, uN_eq, uN_ne, h1]
    refine ⟨fun q => by omega, fun _ => ⟨fun q => n0 (by omega) _ rfl, fun q => ?_⟩⟩
    refine m_has (by omega) ?_
    by_cases e : bt x j = 1
    · rw [if_pos e]
      simp (disch := omega) only [wr_id, wr_m1, sd_t, nl_I, nl_R, nl_none, c1_I, c1_R, sh_0, sh_1, sh_2, sh_3, sh_4, true_and, and_true, ldA_A, ldB_B, ldS_S, stA_A, stB_B, aL_A, aL_B, aL_S, aC_A, hRd_eq, hRd_ne, cp6, cp8, tl_some, tl_none, List.cons_append, List.nil_append, ofI_t0, ofI_t1, Int.add_zero, Int.zero_add, x159_4, x159_14, x159_15, x159_16, x159_17, x159_18, x159_19, x159_20, x159_21, x159_22, x159_23, x159_24, x159_25, x159_26, gf11_0, pf11_0, gf11_1, pf11_1, gf11_2, pf11_2, gf11_3, gf11_4, gf11_5, gf11_6, gf11_7, pf11_7, gf11_8, gf11_9, pf11_9, gf11_10, pf11_10, gf11_11, pf11_11, gf11_12, pf11_12, gf11_13, pf11_13, gf11_14, gf11_15, pf11_15, gf11_16, gf11_17, pf11_17, gf11_18, gf11_19, gf11_20, gf11_21, gf11_22, gf11_23, gf11_24, pf11_24, gf11_25, gf11_26, gf11_27, gf11_28, pf11_28, gf11_29, pf11_29, gf11_30, gf11_31, gf11_32, pf11_32, gf11_33, gf11_34, gf11_35, pf11_35, gf11_36, gf11_37, gf11_38, gf11_39, uN_eq, uN_ne, h1, h169]
      refine ⟨fun q => by first | omega | exact absurd q (by omega), fun _ => ⟨by omega, fun q2 => n0 (fun q3 => by have := q3.2 e; omega) _ rfl, fun q2 => n1 ⟨by omega, fun _ => by omega⟩ _ rfl⟩⟩
    · rw [if_neg e]
      simp (disch := omega) only [wr_id, wr_m1, sd_t, nl_I, nl_R, nl_none, c1_I, c1_R, sh_0, sh_1, sh_2, sh_3, sh_4, true_and, and_true, ldA_A, ldB_B, ldS_S, stA_A, stB_B, aL_A, aL_B, aL_S, aC_A, hRd_eq, hRd_ne, cp6, cp8, tl_some, tl_none, List.cons_append, List.nil_append, ofI_t0, ofI_t1, Int.add_zero, Int.zero_add, x159_4, x159_14, x159_15, x159_16, x159_17, x159_18, x159_19, x159_20, x159_21, x159_22, x159_23, x159_24, x159_25, x159_26, gf11_0, pf11_0, gf11_1, pf11_1, gf11_2, pf11_2, gf11_3, gf11_4, gf11_5, gf11_6, gf11_7, pf11_7, gf11_8, gf11_9, pf11_9, gf11_10, pf11_10, gf11_11, pf11_11, gf11_12, pf11_12, gf11_13, pf11_13, gf11_14, gf11_15, pf11_15, gf11_16, gf11_17, pf11_17, gf11_18, gf11_19, gf11_20, gf11_21, gf11_22, gf11_23, gf11_24, pf11_24, gf11_25, gf11_26, gf11_27, gf11_28, pf11_28, gf11_29, pf11_29, gf11_30, gf11_31, gf11_32, pf11_32, gf11_33, gf11_34, gf11_35, pf11_35, gf11_36, gf11_37, gf11_38, gf11_39, uN_eq, uN_ne, h1, h169]
      refine ⟨fun _ => n1 ⟨by omega, fun q3 => absurd q3 e⟩ _ rfl, fun q => by first | omega | exact absurd trivial q | exact absurd rfl q⟩
theorem m_are (hd : 2 ≤ d) (h1 : hRd h 156 = oM z) (hz : z 2 = J) (hJ : 0 ≤ J ∧ J ≤ 8) (h169 : hRd h 169 = cA 8 D) (hD : TVF D) (ht : 0 ≤ t ∧ t ≤ 999) (kk : ∀ r, r = arF D x t J.toNat 0 1 → (r = 0 ∨ r = 1) → Q (some (vI r)) h) : CALL d 159 [.ref 156, vI x, vI t] h Q := by
  refine cl159 (by omega) h1 ?_
  simp (disch := omega) only [wr_id, wr_m1, sd_t, nl_I, nl_R, nl_none, c1_I, c1_R, sh_0, sh_1, sh_2, sh_3, sh_4, true_and, and_true, ldA_A, ldB_B, ldS_S, stA_A, stB_B, aL_A, aL_B, aL_S, aC_A, hRd_eq, hRd_ne, cp6, cp8, tl_some, tl_none, List.cons_append, List.nil_append, ofI_t0, ofI_t1, Int.add_zero, Int.zero_add, x159_0, x159_1, x159_2, x159_3, x159_4]
  exact l_are (by omega) h1 hz hJ h169 hD ht J.toNat 0 1 (by omega) (by omega) (Or.inr rfl) kk
theorem m_doneOr (hd : 1 ≤ d) (h1 : hRd h 156 = oM z) (hz : z 0 = M) (h169 : hRd h 169 = cA 8 D) (hD : TVF D) (hx : 0 ≤ x ∧ x < 8) (kk : Q (some (vI (if D x = 1000000 then M else D x))) h) : CALL d 164 [.ref 156, vI x] h Q := by
  have ej := TV_ge (hD x)
  refine cl164 (by omega) h1 ?_
  simp (disch := omega) only [wr_id, wr_m1, sd_t, nl_I, nl_R, nl_none, c1_I, c1_R, sh_0, sh_1, sh_2, sh_3, sh_4, true_and, and_true, ldA_A, ldB_B, ldS_S, stA_A, stB_B, aL_A, aL_B, aL_S, aC_A, hRd_eq, hRd_ne, cp6, cp8, tl_some, tl_none, List.cons_append, List.nil_append, ofI_t0, ofI_t1, Int.add_zero, Int.zero_add, x164_0, x164_1, x164_2, x164_3, x164_4, x164_5, x164_6, x164_7, x164_8, x164_9, x164_10, x164_11, x164_12, x164_13, gf11_23, gf11_0, gf11_0, pf11_0, gf11_1, pf11_1, gf11_2, pf11_2, gf11_3, gf11_4, gf11_5, gf11_6, gf11_7, pf11_7, gf11_8, gf11_9, pf11_9, gf11_10, pf11_10, gf11_11, pf11_11, gf11_12, pf11_12, gf11_13, pf11_13, gf11_14, gf11_15, pf11_15, gf11_16, gf11_17, pf11_17, gf11_18, gf11_19, gf11_20, gf11_21, gf11_22, gf11_23, gf11_24, pf11_24, gf11_25, gf11_26, gf11_27, gf11_28, pf11_28, gf11_29, pf11_29, gf11_30, gf11_31, gf11_32, pf11_32, gf11_33, gf11_34, gf11_35, pf11_35, gf11_36, gf11_37, gf11_38, gf11_39, uN_eq, uN_ne, h1, h169, hz]
  refine ⟨by omega, fun q => ⟨by omega, ?_⟩, fun q => ?_⟩
  · rw [if_neg q] at kk; exact kk
  · rw [if_pos (by omega)] at kk; exact kk
theorem l_seen (h1 : hRd h 156 = oM z) (hz : z 29 = s) (hs : 0 ≤ s ∧ s ≤ 6) (hu : hRd h 168 = cA 6 U) (hU : TVF U) (h173 : hRd h 173 = cA 6 ea) (h174 : hRd h 174 = cA 6 la) (hb : ∀ i, 0 ≤ i → i < s → 0 ≤ ea i ∧ ea i ≤ 5 ∧ 0 ≤ la i ∧ la i ≤ 5) : ∀ (n : Nat) (j b : Int), (n : Int) = s - j → 0 ≤ j → (b = 0 ∨ b = 1) → Q (some (vI (if b = 0 then 0 else ftF U ea la n j))) h → WPC d 169 5 [some (.ref 156), some (vI b), some (vI j)] [] h Q := by
  intro n
  induction n with
  | zero =>
    intro j b hn hj hbb kk
    rw [WPC_iff]
    simp (disch := omega) only [wr_id, wr_m1, sd_t, nl_I, nl_R, nl_none, c1_I, c1_R, sh_0, sh_1, sh_2, sh_3, sh_4, true_and, and_true, ldA_A, ldB_B, ldS_S, stA_A, stB_B, aL_A, aL_B, aL_S, aC_A, hRd_eq, hRd_ne, cp6, cp8, tl_some, tl_none, List.cons_append, List.nil_append, ofI_t0, ofI_t1, Int.add_zero, Int.zero_add, x169_5, x169_6, x169_7, x169_8, x169_32, x169_33, gf11_0, pf11_0, gf11_1, pf11_1, gf11_2, pf11_2, gf11_3, gf11_4, gf11_5, gf11_6, gf11_7, pf11_7, gf11_8, gf11_9, pf11_9, gf11_10, pf11_10, gf11_11, pf11_11, gf11_12, pf11_12, gf11_13, pf11_13, gf11_14, gf11_15, pf11_15, gf11_16, gf11_17, pf11_17, gf11_18, gf11_19, gf11_20, gf11_21, gf11_22, gf11_23, gf11_24, pf11_24, gf11_25, gf11_26, gf11_27, gf11_28, pf11_28, gf11_29, pf11_29, gf11_30, gf11_31, gf11_32, pf11_32, gf11_33, gf11_34, gf11_35, pf11_35, gf11_36, gf11_37, gf11_38, gf11_39, uN_eq, uN_ne, h1]
    refine ⟨fun _ => ⟨ofI_01 hbb, ?_⟩, fun q => by omega⟩
    rcases hbb with e | e
    · rw [if_pos e, ← e] at kk; exact kk
    · rw [if_neg (by omega), ftF, ← e] at kk; exact kk
  | succ n ih =>
    intro j b hn hj hbb kk
    have hbj := hb j hj (by omega)
    have e1 := TV_ge (hU (ea j))
    have e2 := TV_ge (hU (la j))
    rw [ftF] at kk
    have n0 : (b = 0 ∨ ¬ U (ea j) < U (la j)) → ∀ c, c = 0 → WPC d 169 5 [some (.ref 156), some (vI c), some (vI (j + 1))] [] h Q := fun q c hc => by
      refine ih (j + 1) c (by omega) (by omega) (by omega) ?_
      rw [if_pos hc]
      by_cases e : b = 0
      · rw [if_pos e] at kk; exact kk
      · rw [if_neg e, if_neg (by omega)] at kk; exact kk
    rw [WPC_iff]
    simp (disch := omega) only [wr_id, wr_m1, sd_t, nl_I, nl_R, nl_none, c1_I, c1_R, sh_0, sh_1, sh_2, sh_3, sh_4, true_and, and_true, ldA_A, ldB_B, ldS_S, stA_A, stB_B, aL_A, aL_B, aL_S, aC_A, hRd_eq, hRd_ne, cp6, cp8, tl_some, tl_none, List.cons_append, List.nil_append, ofI_t0, ofI_t1, Int.add_zero, Int.zero_add, x169_4, x169_5, x169_6, x169_7, x169_8, x169_9, x169_10, x169_11, x169_12, x169_13, x169_14, x169_15, x169_16, x169_17, x169_18, x169_19, x169_20, x169_21, x169_22, x169_23, x169_24, x169_25, x169_26, x169_27, x169_28, x169_29, x169_30, x169_31, gf11_0, pf11_0, gf11_1, pf11_1, gf11_2, pf11_2, gf11_3, gf11_4, gf11_5, gf11_6, gf11_7, pf11_7, gf11_8, gf11_9, pf11_9, gf11_10, pf11_10, gf11_11, pf11_11, gf11_12, pf11_12, gf11_13, pf11_13, gf11_14, gf11_15, pf11_15, gf11_16, gf11_17, pf11_17, gf11_18, gf11_19, gf11_20, gf11_21, gf11_22, gf11_23, gf11_24, pf11_24, gf11_25, gf11_26, gf11_27, gf11_28, pf11_28, gf11_29, pf11_29, gf11_30, gf11_31, gf11_32, pf11_32, gf11_33, gf11_34, gf11_35, pf11_35, gf11_36, gf11_37, gf11_38, gf11_39, uN_eq, uN_ne, h1, hu, h173, h174]
    refine ⟨fun q => by omega, fun _ => ⟨fun q => n0 (Or.inl q) _ rfl, fun q => ⟨by omega, by omega, by omega, by omega, fun q2 => n0 (Or.inr (by omega)) _ rfl, fun q2 => ?_⟩⟩⟩
    rw [if_neg q, if_pos (by omega)] at kk
    exact ih (j + 1) 1 (by omega) (by omega) (Or.inr rfl) (by rw [if_neg (by omega)]; exact kk)
theorem ftF01 : ∀ (n : Nat) (j : Int), ftF U ea la n j = 0 ∨ ftF U ea la n j = 1 := ftF_01 U ea la
theorem m_seen (hd : 1 ≤ d) (h1 : hRd h 156 = oM z) (hz : z 29 = s) (hs : 0 ≤ s ∧ s ≤ 6) (hu : hRd h 168 = cA 6 U) (hU : TVF U) (h173 : hRd h 173 = cA 6 ea) (h174 : hRd h 174 = cA 6 la) (hb : ∀ i, 0 ≤ i → i < s → 0 ≤ ea i ∧ ea i ≤ 5 ∧ 0 ≤ la i ∧ la i ≤ 5) (kk : Q (some (vI (ftF U ea la s.toNat 0))) h) : CALL d 169 [.ref 156] h Q := by
  refine cl169 (by omega) h1 ?_
  simp (disch := omega) only [wr_id, wr_m1, sd_t, nl_I, nl_R, nl_none, c1_I, c1_R, sh_0, sh_1, sh_2, sh_3, sh_4, true_and, and_true, ldA_A, ldB_B, ldS_S, stA_A, stB_B, aL_A, aL_B, aL_S, aC_A, hRd_eq, hRd_ne, cp6, cp8, tl_some, tl_none, List.cons_append, List.nil_append, ofI_t0, ofI_t1, Int.add_zero, Int.zero_add, x169_0, x169_1, x169_2, x169_3, x169_4]
  exact l_seen h1 hz hs hu hU h173 h174 hb s.toNat 0 1 (by omega) (by omega) (Or.inr rfl) (by rw [if_neg (by omega)]; exact kk)
end
