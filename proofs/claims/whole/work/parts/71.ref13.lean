-- THE REFERENCE: free, the walk
section
variable {d : Nat} {Q : Option Value → LHeap → Prop} {wk wt dr tk bh g : Int → Int} {M P J sh x : Int} {z : Nat → Int} {L : List Int}
theorem l_fd {set fo : Int} (hd : 3 ≤ d) (hP : 0 ≤ P ∧ P ≤ 6) (z1 : z 1 = P) (hs0 : 0 ≤ set) (hs1 : set < zshl 1 P) (hL : Prs P L) (hn : L.Nodup) (hsub : ∀ p, 0 ≤ p → p < P → bt set p = 1 → p ∈ L) : ∀ (n : Nat) (p : Int) (T : List Int) (g1 : Int → Int) (h : LHeap), (n : Int) = P - p → 0 ≤ p → T = woF set (jl p.toNat 0) L → T.Nodup → hRd h 156 = oM z → hRd h 160 = cA 24 g1 → NR T g1 → (∀ i, 7 ≤ i → ¬ i = 8 → g1 i = g i) → (∀ (h1 : LHeap) (g2 : Int → Int) (k1 : Int), NR (woF set (jl P.toNat 0) L) g2 → (∀ i, 7 ≤ i → ¬ i = 8 → g2 i = g i) → hRd h1 160 = cA 24 g2 → Out 160 160 h h1 → WP d 166 51 [some (.ref 156), some (vI x), some (vI fo), some (vI set), some (vI k1)] [] h1 Q) → WPC d 166 38 [some (.ref 156), some (vI x), some (vI fo), some (vI set), some (vI p)] [] h Q := by
  have hp64 := pow_b hP
  intro n
  induction n with
  | zero =>
    intro p T g1 h hn0 hp hT hTn h1 hg hN hgg kk
    have ep : p = P := by omega
    rw [WPC_iff]
    simp (disch := omega) only [wr_id, wr_m1, sd_t, nl_I, nl_R, nl_none, c1_I, c1_R, sh_0, sh_1, sh_2, sh_3, sh_4, true_and, and_true, ldA_A, ldB_B, ldS_S, stA_A, stB_B, aL_A, aL_B, aL_S, aC_A, hRd_eq, hRd_ne, cp6, cp8, tl_some, tl_none, List.cons_append, List.nil_append, ofI_t0, ofI_t1, Int.add_zero, Int.zero_add, x166_38, x166_39, x166_40, x166_41, gf11_0, pf11_0, gf11_1, pf11_1, gf11_2, pf11_2, gf11_3, gf11_4, gf11_5, gf11_6, gf11_7, pf11_7, gf11_8, gf11_9, pf11_9, gf11_10, pf11_10, gf11_11, pf11_11, gf11_12, pf11_12, gf11_13, pf11_13, gf11_14, gf11_15, pf11_15, gf11_16, gf11_17, pf11_17, gf11_18, gf11_19, gf11_20, gf11_21, gf11_22, gf11_23, gf11_24, pf11_24, gf11_25, gf11_26, gf11_27, gf11_28, pf11_28, gf11_29, pf11_29, gf11_30, gf11_31, gf11_32, pf11_32, gf11_33, gf11_34, gf11_35, pf11_35, gf11_36, gf11_37, gf11_38, gf11_39, uN_eq, uN_ne, h1, z1]
    refine ⟨fun _ => kk h g1 p ?_ hgg hg Out.refl, fun q => by first | omega | exact absurd rfl q | exact absurd trivial q | exact absurd q (by omega)⟩
    rw [hT, ep] at hN
    exact hN
  | succ n ih =>
    intro p T g1 h hn0 hp hT hTn h1 hg hN hgg kk
    have ejl : jl (p + 1).toNat 0 = jl p.toNat 0 ++ [p] := by
      rw [show (p + 1).toNat = p.toNat + 1 by omega]
      have : ∀ (m : Nat) (a : Int), jl (m + 1) a = jl m a ++ [a + (m : Int)] := by
        intro m
        induction m with
        | zero => intro a; simp [jl]
        | succ m ih2 =>
          intro a
          rw [jl, ih2 (a + 1), jl, List.cons_append, show a + 1 + (m : Int) = a + ((m + 1 : Nat) : Int) by omega]
      rw [this, show (0 : Int) + (p.toNat : Int) = p by omega]
    have ewo : woF set (jl (p + 1).toNat 0) L = if bt set p = 1 then outL T p else T := by
      rw [ejl, wo_app, ← hT]
      rfl
    rw [WPC_iff]
    simp (disch := omega) only [wr_id, wr_m1, sd_t, nl_I, nl_R, nl_none, c1_I, c1_R, sh_0, sh_1, sh_2, sh_3, sh_4, true_and, and_true, ldA_A, ldB_B, ldS_S, stA_A, stB_B, aL_A, aL_B, aL_S, aC_A, hRd_eq, hRd_ne, cp6, cp8, tl_some, tl_none, List.cons_append, List.nil_append, ofI_t0, ofI_t1, Int.add_zero, Int.zero_add, x166_38, x166_39, x166_40, x166_41, x166_42, x166_43, x166_44, gf11_0, pf11_0, gf11_1, pf11_1, gf11_2, pf11_2, gf11_3, gf11_4, gf11_5, gf11_6, gf11_7, pf11_7, gf11_8, gf11_9, pf11_9, gf11_10, pf11_10, gf11_11, pf11_11, gf11_12, pf11_12, gf11_13, pf11_13, gf11_14, gf11_15, pf11_15, gf11_16, gf11_17, pf11_17, gf11_18, gf11_19, gf11_20, gf11_21, gf11_22, gf11_23, gf11_24, pf11_24, gf11_25, gf11_26, gf11_27, gf11_28, pf11_28, gf11_29, pf11_29, gf11_30, gf11_31, gf11_32, pf11_32, gf11_33, gf11_34, gf11_35, pf11_35, gf11_36, gf11_37, gf11_38, gf11_39, uN_eq, uN_ne, h1, z1]
    refine ⟨fun q => by first | omega | exact absurd rfl q | exact absurd trivial q | exact absurd q (by omega), fun _ => ?_⟩
    refine m_has (by omega) ?_
    by_cases e : bt set p = 1
    · rw [if_pos e] at ewo
      rw [if_pos e]
      simp (disch := omega) only [wr_id, wr_m1, sd_t, nl_I, nl_R, nl_none, c1_I, c1_R, sh_0, sh_1, sh_2, sh_3, sh_4, true_and, and_true, ldA_A, ldB_B, ldS_S, stA_A, stB_B, aL_A, aL_B, aL_S, aC_A, hRd_eq, hRd_ne, cp6, cp8, tl_some, tl_none, List.cons_append, List.nil_append, ofI_t0, ofI_t1, Int.add_zero, Int.zero_add, x166_45, x166_46, x166_47, x166_48]
      refine ⟨fun q => by first | omega | exact absurd rfl q | exact absurd trivial q | exact absurd q (by omega), fun _ => ?_⟩
      have hpT : p ∈ T := by
        rw [hT]
        refine ((wo_mem (jl p.toNat 0) L hn).1).mpr ⟨hsub p hp (by omega) e, fun q => ?_⟩
        have := (jl_mem _ _ _).mp q.1
        omega
      refine m_disNow (by omega) h1 hg hN hTn (by omega) (fun q => pfrom_iff.mp q hpT) (fun g2 n2 k8 k2 h2 e2 o2 => ?_)
      simp (disch := omega) only [wr_id, wr_m1, sd_t, nl_I, nl_R, nl_none, c1_I, c1_R, sh_0, sh_1, sh_2, sh_3, sh_4, true_and, and_true, ldA_A, ldB_B, ldS_S, stA_A, stB_B, aL_A, aL_B, aL_S, aC_A, hRd_eq, hRd_ne, cp6, cp8, tl_some, tl_none, List.cons_append, List.nil_append, ofI_t0, ofI_t1, Int.add_zero, Int.zero_add, x166_37, x166_49, x166_50]
      exact ih (p + 1) (outL T p) g2 h2 (by omega) (by omega) ewo.symm (out_nd hTn) (by rw [o2.2.2 _ (by omega)]; exact h1) e2 n2 (fun i hi i8 => (k2 i hi i8).trans (hgg i hi i8)) (fun h3 g3 k1 q1 q2 q3 q4 => kk h3 g3 k1 q1 q2 q3 (o2.trans q4))
    · rw [if_neg e] at ewo
      rw [if_neg e]
      simp (disch := omega) only [wr_id, wr_m1, sd_t, nl_I, nl_R, nl_none, c1_I, c1_R, sh_0, sh_1, sh_2, sh_3, sh_4, true_and, and_true, ldA_A, ldB_B, ldS_S, stA_A, stB_B, aL_A, aL_B, aL_S, aC_A, hRd_eq, hRd_ne, cp6, cp8, tl_some, tl_none, List.cons_append, List.nil_append, ofI_t0, ofI_t1, Int.add_zero, Int.zero_add, x166_37, x166_45, x166_46, x166_47, x166_48, x166_49, x166_50]
      refine ⟨fun _ => ?_, fun q => by first | omega | exact absurd rfl q | exact absurd trivial q | exact absurd q (by omega)⟩
      exact ih (p + 1) T g1 h (by omega) (by omega) ewo.symm hTn h1 hg hN hgg kk
theorem l_fre {h0 : LHeap} (hd : 5 ≤ d) (hB : CapB M P J wk wt dr tk bh) (hM : MC M P J wt tk bh z h0) (hS : SC P J L wk dr sh g) (hN : NR L g) (hn : L.Nodup) (hP : Prs P L) (h8 : g 8 = disF P L) : ∀ (n : Nat) (set fo : Int) (h : LHeap) (l4 : Option Value), (n : Int) = zshl 1 P - set → 0 ≤ set → -1 ≤ fo → fo < 64 → OS h0 h → hRd h 156 = oM z → hRd h 160 = cA 24 g → (∃ u, hRd h 168 = cA 6 u) → (∃ u, hRd h 169 = cA 8 u) → hRd h 171 = cA 24 g → (∀ (h1 : LHeap) (s1 : Int) (l4 : Option Value), OS h0 h1 → hRd h1 156 = oM z → hRd h1 160 = cA 24 g → WP d 166 64 [some (.ref 156), some (vI x), some (vI (rfF M J sh wk wt dr tk bh L (disF P L) n set fo)), some (vI s1), l4] [] h1 Q) → WPC d 166 15 [some (.ref 156), some (vI x), some (vI fo), some (vI set), l4] [] h Q := by
  have g6 := hN.g6
  have z1 := hM.2.1.2.1
  have hP6 := hB.2.1
  have hp64 := pow_b hP6
  have hL6 := hN.1.2.2.2
  have hb := memF_b L 0 hL6 (by omega) (by omega)
  intro n
  induction n with
  | zero =>
    intro set fo h l4 hn0 hs hf1 hf2 o h1 hg h168 h169 hw kk
    rw [WPC_iff]
    simp (disch := omega) only [wr_id, wr_m1, sd_t, nl_I, nl_R, nl_none, c1_I, c1_R, sh_0, sh_1, sh_2, sh_3, sh_4, true_and, and_true, ldA_A, ldB_B, ldS_S, stA_A, stB_B, aL_A, aL_B, aL_S, aC_A, hRd_eq, hRd_ne, cp6, cp8, tl_some, tl_none, List.cons_append, List.nil_append, ofI_t0, ofI_t1, Int.add_zero, Int.zero_add, x166_15, x166_16, x166_17, x166_18, x166_19, x166_20, gf11_0, pf11_0, gf11_1, pf11_1, gf11_2, pf11_2, gf11_3, gf11_4, gf11_5, gf11_6, gf11_7, pf11_7, gf11_8, gf11_9, pf11_9, gf11_10, pf11_10, gf11_11, pf11_11, gf11_12, pf11_12, gf11_13, pf11_13, gf11_14, gf11_15, pf11_15, gf11_16, gf11_17, pf11_17, gf11_18, gf11_19, gf11_20, gf11_21, gf11_22, gf11_23, gf11_24, pf11_24, gf11_25, gf11_26, gf11_27, gf11_28, pf11_28, gf11_29, pf11_29, gf11_30, gf11_31, gf11_32, pf11_32, gf11_33, gf11_34, gf11_35, pf11_35, gf11_36, gf11_37, gf11_38, gf11_39, uN_eq, uN_ne, h1, z1]
    exact ⟨fun _ => kk h set l4 o h1 hg, fun q => by first | omega | exact absurd rfl q | exact absurd trivial q | exact absurd q (by omega)⟩
  | succ n ih =>
    intro set fo h l4 hn0 hs hf1 hf2 o h1 hg h168 h169 hw kk
    have hzb := z_bit set (disF P L)
    rw [rfF] at kk
    -- the next set
    have nxt : ∀ (fo1 : Int) (h2 : LHeap) (l4 : Option Value), -1 ≤ fo1 → fo1 < 64 → OS h0 h2 → hRd h2 156 = oM z → hRd h2 160 = cA 24 g → (∃ u, hRd h2 168 = cA 6 u) → (∃ u, hRd h2 169 = cA 8 u) → hRd h2 171 = cA 24 g → fo1 = (if (zand set (disF P L) = 0 ∧ (fo < 0 ∨ bcF set < bcF fo)) ∧ nsF M J sh wk wt dr tk bh (woF set P6 L) = 0 then set else fo) → WP d 166 62 [some (.ref 156), some (vI x), some (vI fo1), some (vI set), l4] [] h2 Q := by
      intro fo1 h2 l4 f1 f2 o2 e156 e160 e168 e169 e171 hf
      rw [← hf] at kk
      simp (disch := omega) only [wr_id, wr_m1, sd_t, nl_I, nl_R, nl_none, c1_I, c1_R, sh_0, sh_1, sh_2, sh_3, sh_4, true_and, and_true, ldA_A, ldB_B, ldS_S, stA_A, stB_B, aL_A, aL_B, aL_S, aC_A, hRd_eq, hRd_ne, cp6, cp8, tl_some, tl_none, List.cons_append, List.nil_append, ofI_t0, ofI_t1, Int.add_zero, Int.zero_add, x166_14, x166_62, x166_63]
      exact ih (set + 1) fo1 h2 l4 (by omega) (by omega) f1 f2 o2 e156 e160 e168 e169 e171 kk
    -- the trial
    have tr : zand set (disF P L) = 0 → (fo < 0 ∨ bcF set < bcF fo) → WP d 166 35 [some (.ref 156), some (vI x), some (vI fo), some (vI set), l4] [] h Q := by
      intro hz hlt
      obtain ⟨u1, h168⟩ := h168
      obtain ⟨u2, h169⟩ := h169
      have hdb := dis_b hP6 hL6
      have hsub : ∀ p, 0 ≤ p → p < P → bt set p = 1 → p ∈ L := fun p p0 p1 q => by
        have := (sub_iff hs (by omega) hb.1 hb.2).mp ((dj_sub hP6 hP hs (by omega)).mp hz) p p0 (by omega) q
        exact (memF_bit0 p0 (by omega) hL6).mp this
      simp (disch := omega) only [wr_id, wr_m1, sd_t, nl_I, nl_R, nl_none, c1_I, c1_R, sh_0, sh_1, sh_2, sh_3, sh_4, true_and, and_true, ldA_A, ldB_B, ldS_S, stA_A, stB_B, aL_A, aL_B, aL_S, aC_A, hRd_eq, hRd_ne, cp6, cp8, tl_some, tl_none, List.cons_append, List.nil_append, ofI_t0, ofI_t1, Int.add_zero, Int.zero_add, x166_35, x166_36, x166_37]
      refine l_fd (by omega) hP6 z1 hs (by omega) hP hn hsub P.toNat 0 L g h (by omega) (by omega) rfl hn h1 hg hN (fun _ _ _ => rfl) (fun h2 g2 k1 n2 k2 e2 o2 => ?_)
      rw [← wo_jl hP6 hs (by omega)] at n2
      have hTm : ∀ y, y ∈ woF set P6 L → y ∈ L := fun y hy => ((wo_mem P6 L hn).1.mp hy).1
      have hTn := (wo_mem (set := set) (x := 0) P6 L hn).2
      have hTP : Prs P (woF set P6 L) := fun y hy => hP y (hTm y hy)
      have hS2 : SC P J (woF set P6 L) wk dr sh g2 := SC.of n2 (by rw [k2 7 (by omega) (by omega)]; exact hS.2.2.1) (fun j j0 j1 => by rw [k2 _ (by omega) (by omega)]; exact hS.2.2.2.1 j j0 j1) (fun p p0 p1 => by rw [k2 _ (by omega) (by omega)]; exact hS.2.2.2.2 p p0 p1)
      have o12 := o.trans (OS.o160 o2)
      have h21 : hRd h2 156 = oM z := by rw [o2.2.2 _ (by omega)]; exact h1
      simp (disch := omega) only [wr_id, wr_m1, sd_t, nl_I, nl_R, nl_none, c1_I, c1_R, sh_0, sh_1, sh_2, sh_3, sh_4, true_and, and_true, ldA_A, ldB_B, ldS_S, stA_A, stB_B, aL_A, aL_B, aL_S, aC_A, hRd_eq, hRd_ne, cp6, cp8, tl_some, tl_none, List.cons_append, List.nil_append, ofI_t0, ofI_t1, Int.add_zero, Int.zero_add, x166_51, x166_52]
      refine m_settle (by omega) hB hS2 hTP n2.1.2.1 hTn (hM.os o12 h21 ⟨rfl, rfl, rfl⟩) e2 (U := u1) (D := u2) (by rw [o2.2.2 _ (by omega)]; exact h168) (by rw [o2.2.2 _ (by omega)]; exact h169) (fun h3 e3 f3 o3 => ?_)
      have o13 := o12.trans (OS.set o3 e3 f3)
      have h31 : hRd h3 156 = oM z := by rw [o3.2.2 _ (by omega)]; exact h21
      have h3g : hRd h3 160 = cA 24 g2 := by rw [o3.2.2 _ (by omega)]; exact e2
      have hU := TVF_recU (sh := sh) hB hTP
      have hsb := stF_b (recU M J sh wk wt dr tk bh (woF set P6 L)) (woF set P6 L) 0 n2.1.2.2.2 (by omega) (by omega)
      simp (disch := omega) only [wr_id, wr_m1, sd_t, nl_I, nl_R, nl_none, c1_I, c1_R, sh_0, sh_1, sh_2, sh_3, sh_4, true_and, and_true, ldA_A, ldB_B, ldS_S, stA_A, stB_B, aL_A, aL_B, aL_S, aC_A, hRd_eq, hRd_ne, cp6, cp8, tl_some, tl_none, List.cons_append, List.nil_append, ofI_t0, ofI_t1, Int.add_zero, Int.zero_add, x166_53, x166_54]
      refine m_stuck (by omega) h31 h3g e3 n2 hU ?_
      have back : ∀ fo1 : Int, -1 ≤ fo1 → fo1 < 64 → fo1 = (if (zand set (disF P L) = 0 ∧ (fo < 0 ∨ bcF set < bcF fo)) ∧ nsF M J sh wk wt dr tk bh (woF set P6 L) = 0 then set else fo) → WP d 166 60 [some (.ref 156), some (vI x), some (vI fo1), some (vI set), some (vI k1)] [] h3 Q := fun fo1 f1 f2 hf => by
        simp (disch := omega) only [wr_id, wr_m1, sd_t, nl_I, nl_R, nl_none, c1_I, c1_R, sh_0, sh_1, sh_2, sh_3, sh_4, true_and, and_true, ldA_A, ldB_B, ldS_S, stA_A, stB_B, aL_A, aL_B, aL_S, aC_A, hRd_eq, hRd_ne, cp6, cp8, tl_some, tl_none, List.cons_append, List.nil_append, ofI_t0, ofI_t1, Int.add_zero, Int.zero_add, x166_60, x166_61]
        refine m_putBack (by omega) h31 (by rw [o3.2.2 _ (by omega), o2.2.2 _ (by omega)]; exact hw) h3g (fun h4 e4 o4 => ?_)
        simp (disch := omega) only [wr_id, wr_m1, sd_t, nl_I, nl_R, nl_none, c1_I, c1_R, sh_0, sh_1, sh_2, sh_3, sh_4, true_and, and_true, ldA_A, ldB_B, ldS_S, stA_A, stB_B, aL_A, aL_B, aL_S, aC_A, hRd_eq, hRd_ne, cp6, cp8, tl_some, tl_none, List.cons_append, List.nil_append, ofI_t0, ofI_t1, Int.add_zero, Int.zero_add]
        exact nxt fo1 h4 _ f1 f2 (o13.trans (OS.o160 o4)) (by rw [o4.2.2 _ (by omega)]; exact h31) e4 ⟨_, by rw [o4.2.2 _ (by omega)]; exact e3⟩ ⟨_, by rw [o4.2.2 _ (by omega)]; exact f3⟩ (by rw [o4.2.2 _ (by omega), o3.2.2 _ (by omega), o2.2.2 _ (by omega)]; exact hw) hf
      simp (disch := omega) only [wr_id, wr_m1, sd_t, nl_I, nl_R, nl_none, c1_I, c1_R, sh_0, sh_1, sh_2, sh_3, sh_4, true_and, and_true, ldA_A, ldB_B, ldS_S, stA_A, stB_B, aL_A, aL_B, aL_S, aC_A, hRd_eq, hRd_ne, cp6, cp8, tl_some, tl_none, List.cons_append, List.nil_append, ofI_t0, ofI_t1, Int.add_zero, Int.zero_add, x166_55, x166_56, x166_57, x166_58, x166_59]
      refine ⟨fun q => back fo (by omega) (by omega) ?_, fun q => back set (by omega) (by omega) ?_⟩
      · rw [if_neg (fun q2 => q q2.2)]
      · rw [if_pos ⟨⟨hz, hlt⟩, show nsF M J sh wk wt dr tk bh (woF set P6 L) = 0 by show stF _ _ 0 = 0; omega⟩]
    have no : ¬ (zand set (disF P L) = 0 ∧ (fo < 0 ∨ bcF set < bcF fo)) → WP d 166 62 [some (.ref 156), some (vI x), some (vI fo), some (vI set), l4] [] h Q := fun q => nxt fo h l4 hf1 hf2 o h1 hg h168 h169 hw (by rw [if_neg (fun q2 => q q2.1)])
    have hs64 : set < 64 := by omega
    have hbs := bc_b hs hs64
    rw [WPC_iff]
    simp (disch := omega) only [wr_id, wr_m1, sd_t, nl_I, nl_R, nl_none, c1_I, c1_R, sh_0, sh_1, sh_2, sh_3, sh_4, true_and, and_true, ldA_A, ldB_B, ldS_S, stA_A, stB_B, aL_A, aL_B, aL_S, aC_A, hRd_eq, hRd_ne, cp6, cp8, tl_some, tl_none, List.cons_append, List.nil_append, ofI_t0, ofI_t1, Int.add_zero, Int.zero_add, x166_15, x166_16, x166_17, x166_18, x166_19, x166_20, x166_21, x166_22, x166_23, x166_24, x166_25, x166_26, x166_27, x166_28, x166_29, gf11_0, pf11_0, gf11_1, pf11_1, gf11_2, pf11_2, gf11_3, gf11_4, gf11_5, gf11_6, gf11_7, pf11_7, gf11_8, gf11_9, pf11_9, gf11_10, pf11_10, gf11_11, pf11_11, gf11_12, pf11_12, gf11_13, pf11_13, gf11_14, gf11_15, pf11_15, gf11_16, gf11_17, pf11_17, gf11_18, gf11_19, gf11_20, gf11_21, gf11_22, gf11_23, gf11_24, pf11_24, gf11_25, gf11_26, gf11_27, gf11_28, pf11_28, gf11_29, pf11_29, gf11_30, gf11_31, gf11_32, pf11_32, gf11_33, gf11_34, gf11_35, pf11_35, gf11_36, gf11_37, gf11_38, gf11_39, uN_eq, uN_ne, h1, z1, hw, h8]
    refine ⟨fun q => by first | omega | exact absurd rfl q | exact absurd trivial q | exact absurd q (by omega), fun _ => ⟨by omega, fun q => no (fun q2 => q q2.1), fun q => ⟨fun q2 => tr (by omega) (Or.inl (by omega)), fun q2 => ?_⟩⟩⟩
    have hbf := bc_b (by omega : 0 ≤ fo) hf2
    simp (disch := omega) only [wr_id, wr_m1, sd_t, nl_I, nl_R, nl_none, c1_I, c1_R, sh_0, sh_1, sh_2, sh_3, sh_4, true_and, and_true, ldA_A, ldB_B, ldS_S, stA_A, stB_B, aL_A, aL_B, aL_S, aC_A, hRd_eq, hRd_ne, cp6, cp8, tl_some, tl_none, List.cons_append, List.nil_append, ofI_t0, ofI_t1, Int.add_zero, Int.zero_add, x166_30, x166_31]
    refine m_bits (by omega) hs hs64 ?_
    simp (disch := omega) only [wr_id, wr_m1, sd_t, nl_I, nl_R, nl_none, c1_I, c1_R, sh_0, sh_1, sh_2, sh_3, sh_4, true_and, and_true, ldA_A, ldB_B, ldS_S, stA_A, stB_B, aL_A, aL_B, aL_S, aC_A, hRd_eq, hRd_ne, cp6, cp8, tl_some, tl_none, List.cons_append, List.nil_append, ofI_t0, ofI_t1, Int.add_zero, Int.zero_add, x166_32, x166_33]
    refine m_bits (by omega) (by omega) hf2 ?_
    simp (disch := omega) only [wr_id, wr_m1, sd_t, nl_I, nl_R, nl_none, c1_I, c1_R, sh_0, sh_1, sh_2, sh_3, sh_4, true_and, and_true, ldA_A, ldB_B, ldS_S, stA_A, stB_B, aL_A, aL_B, aL_S, aC_A, hRd_eq, hRd_ne, cp6, cp8, tl_some, tl_none, List.cons_append, List.nil_append, ofI_t0, ofI_t1, Int.add_zero, Int.zero_add, x166_34]
    exact ⟨fun q3 => no (fun q4 => by omega), fun q3 => tr (by omega) (Or.inr (by omega))⟩
end
section
variable {d : Nat} {f wt tk bh kp sd ea la bj bm : Int → Int} {n pl M P J s ct bt : Int} {S : SS} {Hs : List SS} {im : Int → SS} {h : LHeap} {Q : Option Value → LHeap → Prop} {x : Int}
theorem m_free (hd : 6 ≤ d) (c : MI f n pl M P J wt tk bh S Hs kp sd im s ct ea la bt bj bm h) (hB : BD f n pl M P J wt tk bh S Hs kp sd im s ct ea la bt bj bm) (hx : -2147483648 ≤ x ∧ x ≤ 2147483647) (k1 : ¬ (0 ≤ x ∧ x ≤ 1) → Q (some (vI (-1000000002))) h) (k2 : 0 ≤ x → x ≤ 1 → ∀ h1, MI f n pl M P J wt tk bh S Hs kp sd im s ct ea la bt bj bm h1 → Out 156 180 h h1 → Q (some (vI (if x = 0 then bcF (frF M J S.2.2.2.1 S.2.1 wt S.2.2.1 tk bh S.1 (memF S.1 0) (memF S.1 0).toNat 0 (memF S.1 0)) else frF M J S.2.2.2.1 S.2.1 wt S.2.2.1 tk bh S.1 (memF S.1 0) (memF S.1 0).toNat 0 (memF S.1 0)))) h1) : CALL d 166 [.ref 156, vI x] h Q := by
  obtain ⟨z, g, cR, h160, hSG, hM, hS, hN, h8, m6⟩ := c.go hB
  have h1 := hM.1
  have hP6 := hB.2.1.2.1
  have hL6 := hN.1.2.2.2
  have hb := memF_b S.1 0 hL6 (by omega) (by omega)
  have hp64 := pow_b hP6
  refine cl166 (by omega) h1 ?_
  simp (disch := omega) only [wr_id, wr_m1, sd_t, nl_I, nl_R, nl_none, c1_I, c1_R, sh_0, sh_1, sh_2, sh_3, sh_4, true_and, and_true, ldA_A, ldB_B, ldS_S, stA_A, stB_B, aL_A, aL_B, aL_S, aC_A, hRd_eq, hRd_ne, cp6, cp8, tl_some, tl_none, List.cons_append, List.nil_append, ofI_t0, ofI_t1, Int.add_zero, Int.zero_add, x166_0, x166_1, x166_2, x166_3, x166_4]
  refine m_in (by omega) (by omega) (by omega) (by omega) ?_
  by_cases q : 0 ≤ x ∧ x ≤ 1
  · rw [if_pos q]
    simp (disch := omega) only [wr_id, wr_m1, sd_t, nl_I, nl_R, nl_none, c1_I, c1_R, sh_0, sh_1, sh_2, sh_3, sh_4, true_and, and_true, ldA_A, ldB_B, ldS_S, stA_A, stB_B, aL_A, aL_B, aL_S, aC_A, hRd_eq, hRd_ne, cp6, cp8, tl_some, tl_none, List.cons_append, List.nil_append, ofI_t0, ofI_t1, Int.add_zero, Int.zero_add, x166_5, x166_6, x166_7, x166_8, x166_9]
    refine ⟨fun _ => ?_, fun q => by first | omega | exact absurd rfl q | exact absurd trivial q | exact absurd q (by omega)⟩
    obtain ⟨⟨u1, h168⟩, ⟨u2, h169⟩, ⟨w, h171⟩, -⟩ := id m6
    refine m_save (by omega) h1 h160 h171 (fun h2 e2 o2 => ?_)
    simp (disch := omega) only [wr_id, wr_m1, sd_t, nl_I, nl_R, nl_none, c1_I, c1_R, sh_0, sh_1, sh_2, sh_3, sh_4, true_and, and_true, ldA_A, ldB_B, ldS_S, stA_A, stB_B, aL_A, aL_B, aL_S, aC_A, hRd_eq, hRd_ne, cp6, cp8, tl_some, tl_none, List.cons_append, List.nil_append, ofI_t0, ofI_t1, Int.add_zero, Int.zero_add, x166_10, x166_11, x166_12, x166_13, x166_14]
    refine l_fre (by omega) hB.2.1 hM hS hN hB.2.2.1.2.1 hB.2.2.1.1 h8 (zshl 1 P).toNat 0 (-1) h2 _ (by omega) (by omega) (by omega) (by omega) (OS.o171 o2 e2) (by rw [o2.2.2 _ (by omega)]; exact h1) (by rw [o2.2.2 _ (by omega)]; exact h160) ⟨u1, by rw [o2.2.2 _ (by omega)]; exact h168⟩ ⟨u2, by rw [o2.2.2 _ (by omega)]; exact h169⟩ e2 (fun h3 s1 l4 o3 e3 f3 => ?_)
    have hfb := frF_b (M := M) (J := J) (sh := S.2.2.2.1) (wk := S.2.1) (wt := wt) (dr := S.2.2.1) (tk := tk) (bh := bh) (L := S.1) (mem := memF S.1 0) (memF S.1 0).toNat 0 (memF S.1 0) (by omega) (by omega) (by omega) (by omega)
    have hfr := rfF_fr (M := M) (J := J) (sh := S.2.2.2.1) (wk := S.2.1) (wt := wt) (dr := S.2.2.1) (tk := tk) (bh := bh) hP6 hB.2.2.1.1 hB.2.2.1.2.1 (mem_pow hP6 hB.2.2.1.1) (zshl 1 P).toNat 0 (-1) (memF S.1 0) (by omega) (by omega) (by omega) (Or.inl ⟨rfl, rfl⟩)
    rw [Int.sub_zero] at hfr
    rw [hfr]
    have k2 := k2 q.1 q.2 h3 (MI.os cR o3 e3 (fun _ _ => rfl) f3 hSG) o3.up
    generalize frF M J S.2.2.2.1 S.2.1 wt S.2.2.1 tk bh S.1 (memF S.1 0) (memF S.1 0).toNat 0 (memF S.1 0) = R at *
    simp (disch := omega) only [wr_id, wr_m1, sd_t, nl_I, nl_R, nl_none, c1_I, c1_R, sh_0, sh_1, sh_2, sh_3, sh_4, true_and, and_true, ldA_A, ldB_B, ldS_S, stA_A, stB_B, aL_A, aL_B, aL_S, aC_A, hRd_eq, hRd_ne, cp6, cp8, tl_some, tl_none, List.cons_append, List.nil_append, ofI_t0, ofI_t1, Int.add_zero, Int.zero_add, x166_64, x166_65, x166_66, x166_67, x166_69, x166_70]
    refine ⟨fun q2 => ?_, fun q2 => ?_⟩
    · rw [if_neg q2] at k2; exact k2
    · rw [if_pos (by omega)] at k2
      refine m_bits (by omega) hfb.1 hfb.2 ?_
      simp (disch := omega) only [wr_id, wr_m1, sd_t, nl_I, nl_R, nl_none, c1_I, c1_R, sh_0, sh_1, sh_2, sh_3, sh_4, true_and, and_true, ldA_A, ldB_B, ldS_S, stA_A, stB_B, aL_A, aL_B, aL_S, aC_A, hRd_eq, hRd_ne, cp6, cp8, tl_some, tl_none, List.cons_append, List.nil_append, ofI_t0, ofI_t1, Int.add_zero, Int.zero_add, x166_68, x166_70]
      exact k2
  · rw [if_neg q]
    simp (disch := omega) only [wr_id, wr_m1, sd_t, nl_I, nl_R, nl_none, c1_I, c1_R, sh_0, sh_1, sh_2, sh_3, sh_4, true_and, and_true, ldA_A, ldB_B, ldS_S, stA_A, stB_B, aL_A, aL_B, aL_S, aC_A, hRd_eq, hRd_ne, cp6, cp8, tl_some, tl_none, List.cons_append, List.nil_append, ofI_t0, ofI_t1, Int.add_zero, Int.zero_add, x166_5, x166_6, x166_7]
    exact ⟨fun q => by first | omega | exact absurd rfl q | exact absurd trivial q | exact absurd q (by omega), fun _ => k1 q⟩
end
