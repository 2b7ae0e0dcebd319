-- THE REFERENCE: settled
section
variable {d : Nat} {h : LHeap} {Q : Option Value → LHeap → Prop} {wk wt dr tk bh g D U U0 D0 : Int → Int} {M P J sh x y s : Int} {z : Nat → Int} {L : List Int}
theorem m_sUps (hd : 3 ≤ d) (hB : CapB M P J wk wt dr tk bh) (hS : SC P J L wk dr sh g) (hP : Prs P L) (hl6 : L.length ≤ 6) (hU : TVF U) (hD : TVF D) (hM : MC M P J wt tk bh z h) (h160 : hRd h 160 = cA 24 g) (h168 : hRd h 168 = cA 6 U) (h169 : hRd h 169 = cA 8 D) (kk : ∀ h1, hRd h1 168 = cA 6 (rouF M sh wk wt D L 0 U) → Out 168 168 h h1 → Q (some (vI (rouC M sh wk wt D L 0 U 0))) h1) : CALL d 129 [.ref 156] h Q := by
  refine cl129 (by omega) hM.1 ?_
  simp (disch := omega) only [wr_id, wr_m1, sd_t, nl_I, nl_R, nl_none, c1_I, c1_R, sh_0, sh_1, sh_2, sh_3, sh_4, true_and, and_true, ldA_A, ldB_B, ldS_S, stA_A, stB_B, aL_A, aL_B, aL_S, aC_A, hRd_eq, hRd_ne, cp6, cp8, tl_some, tl_none, List.cons_append, List.nil_append, ofI_t0, ofI_t1, Int.add_zero, Int.zero_add, x129_0, x129_1, x129_2, x129_3, x129_4, x129_5, x129_6]
  exact l_mUps (by omega) hB hS hP hl6 hD L [] 0 0 0 U h _ _ _ _ rfl rfl (Or.inl ⟨by omega, by omega⟩) hU (Or.inl rfl) hM h160 h168 h169 kk
theorem m_sJobs (hd : 3 ≤ d) (hB : CapB M P J wk wt dr tk bh) (hS : SC P J L wk dr sh g) (hU : TVF U) (hD : TVF D) (hM : MC M P J wt tk bh z h) (h160 : hRd h 160 = cA 24 g) (h168 : hRd h 168 = cA 6 U) (h169 : hRd h 169 = cA 8 D) (kk : ∀ h1, hRd h1 169 = cA 8 (wrkF M dr tk bh J.toNat 0 U D) → Out 169 169 h h1 → Q (some (vI (wrkC M dr tk bh J.toNat 0 U D 0))) h1) : CALL d 130 [.ref 156] h Q := by
  have hJ := hB.2.2.1
  refine cl130 (by omega) hM.1 ?_
  simp (disch := omega) only [wr_id, wr_m1, sd_t, nl_I, nl_R, nl_none, c1_I, c1_R, sh_0, sh_1, sh_2, sh_3, sh_4, true_and, and_true, ldA_A, ldB_B, ldS_S, stA_A, stB_B, aL_A, aL_B, aL_S, aC_A, hRd_eq, hRd_ne, cp6, cp8, tl_some, tl_none, List.cons_append, List.nil_append, ofI_t0, ofI_t1, Int.add_zero, Int.zero_add, x130_0, x130_1, x130_2, x130_3, x130_4]
  exact l_mJobs (by omega) hB hS hU J.toNat 0 0 U D h _ _ (by omega) (by omega) (fun q => rfl) hD (Or.inl rfl) hM h160 h168 h169 kk
theorem l_sF1 : ∀ (n : Nat) (i : Int) (U : Int → Int) (h : LHeap) (l2 : Option Value), (n : Int) = 6 - i → 0 ≤ i → hRd h 156 = oM z → hRd h 168 = cA 6 U → (∀ j, 0 ≤ j → j < i → U j = 1000000) → (∀ (h1 : LHeap) (x : Int), hRd h1 168 = cA 6 nvF → Out 168 168 h h1 → WP d 131 13 [some (.ref 156), some (vI x), l2] [] h1 Q) → WPC d 131 3 [some (.ref 156), some (vI i), l2] [] h Q := by
  intro n
  induction n with
  | zero =>
    intro i U h l2 hn hi h1 h168 hU kk
    rw [WPC_iff]
    simp (disch := omega) only [wr_id, wr_m1, sd_t, nl_I, nl_R, nl_none, c1_I, c1_R, sh_0, sh_1, sh_2, sh_3, sh_4, true_and, and_true, ldA_A, ldB_B, ldS_S, stA_A, stB_B, aL_A, aL_B, aL_S, aC_A, hRd_eq, hRd_ne, cp6, cp8, tl_some, tl_none, List.cons_append, List.nil_append, ofI_t0, ofI_t1, Int.add_zero, Int.zero_add, x131_3, x131_4, x131_5]
    refine ⟨fun _ => kk h i ?_ Out.refl, fun q => by omega⟩
    rw [h168]
    exact cA_ext (fun j h0 h1 => hU j h0 (by omega))
  | succ n ih =>
    intro i U h l2 hn hi h1 h168 hU kk
    rw [WPC_iff]
    simp (disch := omega) only [wr_id, wr_m1, sd_t, nl_I, nl_R, nl_none, c1_I, c1_R, sh_0, sh_1, sh_2, sh_3, sh_4, true_and, and_true, ldA_A, ldB_B, ldS_S, stA_A, stB_B, aL_A, aL_B, aL_S, aC_A, hRd_eq, hRd_ne, cp6, cp8, tl_some, tl_none, List.cons_append, List.nil_append, ofI_t0, ofI_t1, Int.add_zero, Int.zero_add, x131_3, x131_4, x131_5, x131_6, x131_7, x131_8, x131_9, x131_10, x131_11, x131_12, x131_2, gf11_0, pf11_0, gf11_1, pf11_1, gf11_2, pf11_2, gf11_3, gf11_4, gf11_5, gf11_6, gf11_7, pf11_7, gf11_8, gf11_9, pf11_9, gf11_10, pf11_10, gf11_11, pf11_11, gf11_12, pf11_12, gf11_13, pf11_13, gf11_14, gf11_15, pf11_15, gf11_16, gf11_17, pf11_17, gf11_18, gf11_19, gf11_20, gf11_21, gf11_22, gf11_23, gf11_24, pf11_24, gf11_25, gf11_26, gf11_27, gf11_28, pf11_28, gf11_29, pf11_29, gf11_30, gf11_31, gf11_32, pf11_32, gf11_33, gf11_34, gf11_35, pf11_35, gf11_36, gf11_37, gf11_38, gf11_39, uN_eq, uN_ne, h1, h168]
    have ow : Out 168 168 h (hWr h 168 (cA 6 (uA U i 1000000))) := Out.refl.wr (by omega) (by omega)
    refine ⟨fun q => by omega, fun _ => ⟨by omega, ?_⟩⟩
    refine ih (i + 1) (uA U i 1000000) _ l2 (by omega) (by omega) (by rw [hRd_ne (by omega)]; exact h1) hRd_eq (fun j h0 h1 => ?_) (fun h2 x e2 o2 => kk h2 x e2 (ow.trans o2))
    unfold uA
    split
    · rfl
    · exact hU j h0 (by omega)
theorem l_sF2 : ∀ (n : Nat) (i : Int) (U : Int → Int) (h : LHeap) (l2 : Option Value), (n : Int) = 8 - i → 0 ≤ i → hRd h 156 = oM z → hRd h 169 = cA 8 U → (∀ j, 0 ≤ j → j < i → U j = 1000000) → (∀ (h1 : LHeap) (x : Int), hRd h1 169 = cA 8 nvF → Out 169 169 h h1 → WP d 131 26 [some (.ref 156), some (vI x), l2] [] h1 Q) → WPC d 131 16 [some (.ref 156), some (vI i), l2] [] h Q := by
  intro n
  induction n with
  | zero =>
    intro i U h l2 hn hi h1 h168 hU kk
    rw [WPC_iff]
    simp (disch := omega) only [wr_id, wr_m1, sd_t, nl_I, nl_R, nl_none, c1_I, c1_R, sh_0, sh_1, sh_2, sh_3, sh_4, true_and, and_true, ldA_A, ldB_B, ldS_S, stA_A, stB_B, aL_A, aL_B, aL_S, aC_A, hRd_eq, hRd_ne, cp6, cp8, tl_some, tl_none, List.cons_append, List.nil_append, ofI_t0, ofI_t1, Int.add_zero, Int.zero_add, x131_16, x131_17, x131_18]
    refine ⟨fun _ => kk h i ?_ Out.refl, fun q => by omega⟩
    rw [h168]
    exact cA_ext (fun j h0 h1 => hU j h0 (by omega))
  | succ n ih =>
    intro i U h l2 hn hi h1 h168 hU kk
    rw [WPC_iff]
    simp (disch := omega) only [wr_id, wr_m1, sd_t, nl_I, nl_R, nl_none, c1_I, c1_R, sh_0, sh_1, sh_2, sh_3, sh_4, true_and, and_true, ldA_A, ldB_B, ldS_S, stA_A, stB_B, aL_A, aL_B, aL_S, aC_A, hRd_eq, hRd_ne, cp6, cp8, tl_some, tl_none, List.cons_append, List.nil_append, ofI_t0, ofI_t1, Int.add_zero, Int.zero_add, x131_16, x131_17, x131_18, x131_19, x131_20, x131_21, x131_22, x131_23, x131_24, x131_25, x131_15, gf11_0, pf11_0, gf11_1, pf11_1, gf11_2, pf11_2, gf11_3, gf11_4, gf11_5, gf11_6, gf11_7, pf11_7, gf11_8, gf11_9, pf11_9, gf11_10, pf11_10, gf11_11, pf11_11, gf11_12, pf11_12, gf11_13, pf11_13, gf11_14, gf11_15, pf11_15, gf11_16, gf11_17, pf11_17, gf11_18, gf11_19, gf11_20, gf11_21, gf11_22, gf11_23, gf11_24, pf11_24, gf11_25, gf11_26, gf11_27, gf11_28, pf11_28, gf11_29, pf11_29, gf11_30, gf11_31, gf11_32, pf11_32, gf11_33, gf11_34, gf11_35, pf11_35, gf11_36, gf11_37, gf11_38, gf11_39, uN_eq, uN_ne, h1, h168]
    have ow : Out 169 169 h (hWr h 169 (cA 8 (uA U i 1000000))) := Out.refl.wr (by omega) (by omega)
    refine ⟨fun q => by omega, fun _ => ⟨by omega, ?_⟩⟩
    refine ih (i + 1) (uA U i 1000000) _ l2 (by omega) (by omega) (by rw [hRd_ne (by omega)]; exact h1) hRd_eq (fun j h0 h1 => ?_) (fun h2 x e2 o2 => kk h2 x e2 (ow.trans o2))
    unfold uA
    split
    · rfl
    · exact hU j h0 (by omega)
theorem l_set {k : Nat} (hd : 3 ≤ d) (hB : CapB M P J wk wt dr tk bh) (hS : SC P J L wk dr sh g) (hP : Prs P L) (hl6 : L.length ≤ 6) (hn : L.Nodup) (he : rnds M J sh wk wt dr tk bh L k = (U0, D0)) (hk : rnds M J sh wk wt dr tk bh L (k + 1) = rnds M J sh wk wt dr tk bh L k) : ∀ (m i : Nat) (b : Int) (h : LHeap) (l2 : Option Value), m + i = k → b = 1 → nl l2 → MC M P J wt tk bh z h → hRd h 160 = cA 24 g → hRd h 168 = cA 6 (rnds M J sh wk wt dr tk bh L i).1 → hRd h 169 = cA 8 (rnds M J sh wk wt dr tk bh L i).2 → (∀ h1, hRd h1 168 = cA 6 U0 → hRd h1 169 = cA 8 D0 → Out 168 169 h h1 → Q none h1) → WPC d 131 29 [some (.ref 156), some (vI b), l2] [] h Q := by
  have ex : ∀ (b : Int) (l2 : Option Value) (h : LHeap), b = 0 → Q none h → WPC d 131 29 [some (.ref 156), some (vI b), l2] [] h Q := by
    intro b l2 h hb kk
    rw [WPC_iff]
    simp (disch := omega) only [wr_id, wr_m1, sd_t, nl_I, nl_R, nl_none, c1_I, c1_R, sh_0, sh_1, sh_2, sh_3, sh_4, true_and, and_true, ldA_A, ldB_B, ldS_S, stA_A, stB_B, aL_A, aL_B, aL_S, aC_A, hRd_eq, hRd_ne, cp6, cp8, tl_some, tl_none, List.cons_append, List.nil_append, ofI_t0, ofI_t1, Int.add_zero, Int.zero_add, x131_29, x131_30, x131_44]
    exact ⟨fun _ => kk, fun q => absurd hb q⟩
  intro m
  induction m with
  | zero =>
    intro i b h l2 hm hb hl hM h160 h168 h169 kk
    have hi : i = k := by omega
    subst hi
    obtain ⟨tU, tD, -, -⟩ := rnds_i (sh := sh) hB hP i
    have e1 : rouF M sh wk wt (rnds M J sh wk wt dr tk bh L i).2 L 0 (rnds M J sh wk wt dr tk bh L i).1 = (rnds M J sh wk wt dr tk bh L i).1 := congrArg Prod.fst hk
    have e2 : wrkF M dr tk bh J.toNat 0 (rouF M sh wk wt (rnds M J sh wk wt dr tk bh L i).2 L 0 (rnds M J sh wk wt dr tk bh L i).1) (rnds M J sh wk wt dr tk bh L i).2 = (rnds M J sh wk wt dr tk bh L i).2 := congrArg Prod.snd hk
    rw [e1] at e2
    have c1 := rouC_fx L 0 (rnds M J sh wk wt dr tk bh L i).1 hn (fun p _ => congrFun e1 p)
    have c2 := wrkC_fx J.toNat 0 (rnds M J sh wk wt dr tk bh L i).1 (rnds M J sh wk wt dr tk bh L i).2 (fun p _ _ => congrFun e2 p)
    rw [WPC_iff]
    simp (disch := omega) only [wr_id, wr_m1, sd_t, nl_I, nl_R, nl_none, c1_I, c1_R, sh_0, sh_1, sh_2, sh_3, sh_4, true_and, and_true, ldA_A, ldB_B, ldS_S, stA_A, stB_B, aL_A, aL_B, aL_S, aC_A, hRd_eq, hRd_ne, cp6, cp8, tl_some, tl_none, List.cons_append, List.nil_append, ofI_t0, ofI_t1, Int.add_zero, Int.zero_add, x131_29, x131_30, x131_31, x131_32]
    refine ⟨fun q => by omega, fun _ => ?_⟩
    refine m_sUps (by omega) hB hS hP hl6 tU tD hM h160 h168 h169 (fun h1 f1 o1 => ?_)
    rw [e1] at f1
    rw [c1]
    simp (disch := omega) only [wr_id, wr_m1, sd_t, nl_I, nl_R, nl_none, c1_I, c1_R, sh_0, sh_1, sh_2, sh_3, sh_4, true_and, and_true, ldA_A, ldB_B, ldS_S, stA_A, stB_B, aL_A, aL_B, aL_S, aC_A, hRd_eq, hRd_ne, cp6, cp8, tl_some, tl_none, List.cons_append, List.nil_append, ofI_t0, ofI_t1, Int.add_zero, Int.zero_add, x131_33, x131_34, x131_35]
    refine m_sJobs (by omega) hB hS tU tD (hM.out o1 (by omega)) (by rw [o1.2.2 _ (by omega)]; exact h160) f1 (by rw [o1.2.2 _ (by omega)]; exact h169) (fun h2 f2 o2 => ?_)
    rw [e2] at f2
    rw [c2]
    have kk := kk h2 (by rw [o2.2.2 _ (by omega), f1, he]) (by rw [f2, he]) ((o1.widen (by omega) (by omega)).trans (o2.widen (by omega) (by omega)))
    simp (disch := omega) only [wr_id, wr_m1, sd_t, nl_I, nl_R, nl_none, c1_I, c1_R, sh_0, sh_1, sh_2, sh_3, sh_4, true_and, and_true, ldA_A, ldB_B, ldS_S, stA_A, stB_B, aL_A, aL_B, aL_S, aC_A, hRd_eq, hRd_ne, cp6, cp8, tl_some, tl_none, List.cons_append, List.nil_append, ofI_t0, ofI_t1, Int.add_zero, Int.zero_add, x131_36, x131_37, x131_38, x131_41, x131_42, x131_43, x131_28]
    refine ⟨fun q => by first | omega | exact absurd rfl q | exact absurd trivial q, fun _ => ⟨fun _ => ex _ _ _ rfl kk, fun q => by first | omega | exact absurd rfl q | exact absurd trivial q⟩⟩
  | succ m ih =>
    intro i b h l2 hm hb hl hM h160 h168 h169 kk
    obtain ⟨tU, tD, -, -⟩ := rnds_i (sh := sh) hB hP i
    obtain ⟨tU1, tD1, -, -⟩ := rnds_i (sh := sh) hB hP (i + 1)
    rw [WPC_iff]
    simp (disch := omega) only [wr_id, wr_m1, sd_t, nl_I, nl_R, nl_none, c1_I, c1_R, sh_0, sh_1, sh_2, sh_3, sh_4, true_and, and_true, ldA_A, ldB_B, ldS_S, stA_A, stB_B, aL_A, aL_B, aL_S, aC_A, hRd_eq, hRd_ne, cp6, cp8, tl_some, tl_none, List.cons_append, List.nil_append, ofI_t0, ofI_t1, Int.add_zero, Int.zero_add, x131_29, x131_30, x131_31, x131_32]
    refine ⟨fun q => by omega, fun _ => ?_⟩
    refine m_sUps (by omega) hB hS hP hl6 tU tD hM h160 h168 h169 (fun h1 f1 o1 => ?_)
    have h01 := rouC_01 (M := M) (sh := sh) (wk := wk) (wt := wt) (D := (rnds M J sh wk wt dr tk bh L i).2) L 0 (rnds M J sh wk wt dr tk bh L i).1 0 (Or.inl rfl)
    have z1 := rouC_0 (M := M) (sh := sh) (wk := wk) (wt := wt) (D := (rnds M J sh wk wt dr tk bh L i).2) L 0 (rnds M J sh wk wt dr tk bh L i).1
    generalize rouC M sh wk wt (rnds M J sh wk wt dr tk bh L i).2 L 0 (rnds M J sh wk wt dr tk bh L i).1 0 = c1 at h01 z1
    simp (disch := omega) only [wr_id, wr_m1, sd_t, nl_I, nl_R, nl_none, c1_I, c1_R, sh_0, sh_1, sh_2, sh_3, sh_4, true_and, and_true, ldA_A, ldB_B, ldS_S, stA_A, stB_B, aL_A, aL_B, aL_S, aC_A, hRd_eq, hRd_ne, cp6, cp8, tl_some, tl_none, List.cons_append, List.nil_append, ofI_t0, ofI_t1, Int.add_zero, Int.zero_add, hl, x131_33, x131_34, x131_35]
    refine m_sJobs (by omega) hB hS tU1 tD (hM.out o1 (by omega)) (by rw [o1.2.2 _ (by omega)]; exact h160) f1 (by rw [o1.2.2 _ (by omega)]; exact h169) (fun h2 f2 o2 => ?_)
    have h02 := wrkC_01 (M := M) (dr := dr) (tk := tk) (bh := bh) J.toNat 0 (rnds M J sh wk wt dr tk bh L (i + 1)).1 (rnds M J sh wk wt dr tk bh L i).2 0 (Or.inl rfl)
    have z2 := wrkC_0 (M := M) (dr := dr) (tk := tk) (bh := bh) J.toNat 0 (rnds M J sh wk wt dr tk bh L (i + 1)).1 (rnds M J sh wk wt dr tk bh L i).2
    generalize wrkC M dr tk bh J.toNat 0 (rnds M J sh wk wt dr tk bh L (i + 1)).1 (rnds M J sh wk wt dr tk bh L i).2 0 = c2 at h02 z2
    have o12 : Out 168 169 h h2 := (o1.widen (by omega) (by omega)).trans (o2.widen (by omega) (by omega))
    have f1b : hRd h2 168 = cA 6 (rnds M J sh wk wt dr tk bh L (i + 1)).1 := by rw [o2.2.2 _ (by omega)]; exact f1
    have nx : ∀ b l2, b = 1 → nl l2 → WPC d 131 29 [some (.ref 156), some (vI b), l2] [] h2 Q := fun b l2 hb hl => ih (i + 1) b h2 l2 (by omega) hb hl (hM.out o12 (by omega)) (by rw [o12.2.2 _ (by omega)]; exact h160) f1b f2 (fun h3 g1 g2 o3 => kk h3 g1 g2 (o12.trans o3))
    simp (disch := omega) only [wr_id, wr_m1, sd_t, nl_I, nl_R, nl_none, c1_I, c1_R, sh_0, sh_1, sh_2, sh_3, sh_4, true_and, and_true, ldA_A, ldB_B, ldS_S, stA_A, stB_B, aL_A, aL_B, aL_S, aC_A, hRd_eq, hRd_ne, cp6, cp8, tl_some, tl_none, List.cons_append, List.nil_append, ofI_t0, ofI_t1, Int.add_zero, Int.zero_add, x131_36, x131_37, x131_38, x131_39, x131_40, x131_41, x131_42, x131_43, x131_28]
    refine ⟨fun _ => nx _ _ rfl (by rw [nl_I]; trivial), fun q => ⟨fun q2 => ex _ _ _ rfl ?_, fun _ => nx _ _ rfl (by rw [nl_I]; trivial)⟩⟩
    have e : rnds M J sh wk wt dr tk bh L (i + 1) = rnds M J sh wk wt dr tk bh L i := Prod.ext (z1 q2) (z2 (by omega))
    have e2 := rnds_fx e (k := k) (by omega)
    rw [← e, he] at e2
    exact kk h2 (by rw [f1b, ← e2]) (by rw [f2]; show cA 8 (rnds M J sh wk wt dr tk bh L (i + 1)).2 = _; rw [← e2]) o12
theorem m_settle (hd : 4 ≤ d) (hB : CapB M P J wk wt dr tk bh) (hS : SC P J L wk dr sh g) (hP : Prs P L) (hl6 : L.length ≤ 6) (hn : L.Nodup) (hM : MC M P J wt tk bh z h) (h160 : hRd h 160 = cA 24 g) (h168 : hRd h 168 = cA 6 U) (h169 : hRd h 169 = cA 8 D) (kk : ∀ h1, hRd h1 168 = cA 6 (recU M J sh wk wt dr tk bh L) → hRd h1 169 = cA 8 (recD M J sh wk wt dr tk bh L) → Out 168 169 h h1 → Q none h1) : CALL d 131 [.ref 156] h Q := by
  obtain ⟨k, he, hk⟩ := set_k sh hB hP
  refine cl131 (by omega) hM.1 ?_
  simp (disch := omega) only [wr_id, wr_m1, sd_t, nl_I, nl_R, nl_none, c1_I, c1_R, sh_0, sh_1, sh_2, sh_3, sh_4, true_and, and_true, ldA_A, ldB_B, ldS_S, stA_A, stB_B, aL_A, aL_B, aL_S, aC_A, hRd_eq, hRd_ne, cp6, cp8, tl_some, tl_none, List.cons_append, List.nil_append, ofI_t0, ofI_t1, Int.add_zero, Int.zero_add, x131_0, x131_1, x131_2]
  refine l_sF1 6 0 U h _ (by omega) (by omega) hM.1 h168 (fun j h0 h1 => by omega) (fun h1 x f1 o1 => ?_)
  simp (disch := omega) only [wr_id, wr_m1, sd_t, nl_I, nl_R, nl_none, c1_I, c1_R, sh_0, sh_1, sh_2, sh_3, sh_4, true_and, and_true, ldA_A, ldB_B, ldS_S, stA_A, stB_B, aL_A, aL_B, aL_S, aC_A, hRd_eq, hRd_ne, cp6, cp8, tl_some, tl_none, List.cons_append, List.nil_append, ofI_t0, ofI_t1, Int.add_zero, Int.zero_add, x131_13, x131_14, x131_15]
  have m1 := hM.out o1 (by omega)
  refine l_sF2 8 0 D h1 _ (by omega) (by omega) m1.1 (by rw [o1.2.2 _ (by omega)]; exact h169) (fun j h0 h1 => by omega) (fun h2 x f2 o2 => ?_)
  have m2 := m1.out o2 (by omega)
  simp (disch := omega) only [wr_id, wr_m1, sd_t, nl_I, nl_R, nl_none, c1_I, c1_R, sh_0, sh_1, sh_2, sh_3, sh_4, true_and, and_true, ldA_A, ldB_B, ldS_S, stA_A, stB_B, aL_A, aL_B, aL_S, aC_A, hRd_eq, hRd_ne, cp6, cp8, tl_some, tl_none, List.cons_append, List.nil_append, ofI_t0, ofI_t1, Int.add_zero, Int.zero_add, x131_26, x131_27, x131_28]
  have o12 : Out 168 169 h h2 := (o1.widen (by omega) (by omega)).trans (o2.widen (by omega) (by omega))
  exact l_set (by omega) hB hS hP hl6 hn he hk k 0 1 h2 _ (by omega) rfl (by rw [nl_none]; trivial) m2 (by rw [o12.2.2 _ (by omega)]; exact h160) (by rw [o2.2.2 _ (by omega)]; exact f1) f2 (fun h3 g1 g2 o3 => kk h3 g1 g2 (o12.trans o3))
end
