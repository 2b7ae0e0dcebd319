-- THE LAW
theorem ends_eq {r : Int} {A B : Prop} (a : A) : ((wr r = wr r → A) ∧ (¬ (wr r = wr r) → B)) := ⟨fun _ => a, fun q => absurd rfl q⟩
section
variable {L : Nat} {g : Int → Int} {Q : Option Value → LHeap → Prop}
theorem l_law (hL : L ≤ 256) (hg : ∀ i, -2147483648 ≤ g i ∧ g i ≤ 2147483647) : ∀ (n : Nat) (k : Int) (h : LHeap), (L : Int) - k ≤ (n : Int) → 0 ≤ k → k ≤ L + 4 → IV h → hRd h 0 = cA L g → h.1 = 181 → h.2.1 = 2129 → (∀ h1 : LHeap, h1.1 = 181 → h1.2.1 = 2129 → Q (some (vI 1)) h1) → WPC 10 184 11 [some (.ref 0), some (.ref 1), some (.ref 156), some (vI k)] [] h Q := by
  intro n
  induction n with
  | zero =>
    intro k h hn hk hk2 iv h0 s1 s2 kk
    rw [WPC_iff]
    simp (disch := omega) only [wr_id, wr_m1, sd_t, nl_I, nl_R, nl_none, c1_I, c1_R, sh_0, sh_1, sh_2, sh_3, sh_4, true_and, and_true, ldA_A, ldB_B, ldS_S, stA_A, stB_B, aL_A, aL_B, aL_S, aC_A, hRd_eq, hRd_ne, cp6, cp8, tl_some, tl_none, List.cons_append, List.nil_append, ofI_t0, ofI_t1, Int.add_zero, Int.zero_add, x184_11, x184_12, x184_13, x184_14, x184_15, x184_16, x184_569, x184_570, h0]
    exact ⟨fun _ => kk h s1 s2, fun q => by omega⟩
  | succ n ih =>
    intro k h hn hk hk2 iv h0 s1 s2 kk
    have g1 := hg (k + 1)
    have g2 := hg (k + 2)
    have g3 := hg (k + 3)
    -- the next one
    have nx : ∀ h2 : LHeap, k ≤ L - 4 → IV h2 → Out 1 180 h h2 → WP 10 184 567 [some (.ref 0), some (.ref 1), some (.ref 156), some (vI k)] [] h2 Q := fun h2 hk4 iv2 o2 => by
      simp (disch := omega) only [wr_id, wr_m1, sd_t, nl_I, nl_R, nl_none, c1_I, c1_R, sh_0, sh_1, sh_2, sh_3, sh_4, true_and, and_true, ldA_A, ldB_B, ldS_S, stA_A, stB_B, aL_A, aL_B, aL_S, aC_A, hRd_eq, hRd_ne, cp6, cp8, tl_some, tl_none, List.cons_append, List.nil_append, ofI_t0, ofI_t1, Int.add_zero, Int.zero_add, x184_10, x184_567, x184_568]
      exact ih (k + 4) h2 (by omega) (by omega) (by omega) iv2 (by rw [o2.2.2 _ (by omega)]; exact h0) (o2.1.trans s1) (o2.2.1.trans s2) kk
    rw [WPC_iff]
    simp (disch := omega) only [wr_id, wr_m1, sd_t, nl_I, nl_R, nl_none, c1_I, c1_R, sh_0, sh_1, sh_2, sh_3, sh_4, true_and, and_true, ldA_A, ldB_B, ldS_S, stA_A, stB_B, aL_A, aL_B, aL_S, aC_A, hRd_eq, hRd_ne, cp6, cp8, tl_some, tl_none, List.cons_append, List.nil_append, ofI_t0, ofI_t1, Int.add_zero, Int.zero_add, x184_11, x184_12, x184_13, x184_14, x184_15, x184_16, x184_17, x184_18, x184_19, x184_20, x184_21, x184_569, x184_570, h0]
    refine ⟨fun _ => kk h s1 s2, fun hk4 => ⟨by omega, ?_⟩⟩
    have hk4 : k ≤ L - 4 := by omega
    refine x184_22 (fun _ => ?_) (fun _ => ?_) (fun _ => ?_) (fun _ => ?_) (fun _ => ?_) (fun _ => ?_) (fun _ => ?_) (fun _ => ?_) (fun _ => ?_) (fun _ => ?_) (fun _ => ?_) (fun _ => ?_) (fun _ => ?_) (fun _ => ?_) (fun _ => ?_) (fun _ => ?_) (fun _ => ?_) (fun _ => ?_) (fun _ => ?_) (fun _ => ?_) (fun _ => ?_) (fun _ => ?_) (fun _ => ?_) (fun _ => ?_) (fun _ => ?_) (fun _ => ?_) (fun _ => ?_) (fun _ => ?_) (fun _ => ?_)
    · simp (disch := omega) only [wr_id, wr_m1, sd_t, nl_I, nl_R, nl_none, c1_I, c1_R, sh_0, sh_1, sh_2, sh_3, sh_4, true_and, and_true, ldA_A, ldB_B, ldS_S, stA_A, stB_B, aL_A, aL_B, aL_S, aC_A, hRd_eq, hRd_ne, cp6, cp8, tl_some, tl_none, List.cons_append, List.nil_append, ofI_t0, ofI_t1, Int.add_zero, Int.zero_add, x184_23, x184_24, x184_25, x184_26, x184_27, x184_28, x184_29, h0]
      refine ⟨by omega, ?_⟩
      refine CALL_mono (pr_feed (by omega) iv g1) (fun v h1 ⟨r, hv, o1, hc⟩ => ?_)
      subst hv
      have h10 : hRd h1 0 = cA L g := by rw [o1.2.2 _ (by omega)]; exact h0
      simp (disch := omega) only [wr_id, wr_m1, sd_t, nl_I, nl_R, nl_none, c1_I, c1_R, sh_0, sh_1, sh_2, sh_3, sh_4, true_and, and_true, ldA_A, ldB_B, ldS_S, stA_A, stB_B, aL_A, aL_B, aL_S, aC_A, hRd_eq, hRd_ne, cp6, cp8, tl_some, tl_none, List.cons_append, List.nil_append, ofI_t0, ofI_t1, Int.add_zero, Int.zero_add, x184_30, x184_31, x184_32, x184_33, x184_34, x184_35, x184_36, h10]
      refine ⟨by omega, ?_⟩
      refine CALL_mono hc (fun v2 h2 ⟨hv2, iv2, o2⟩ => ?_)
      subst hv2
      simp (disch := omega) only [wr_id, wr_m1, sd_t, nl_I, nl_R, nl_none, c1_I, c1_R, sh_0, sh_1, sh_2, sh_3, sh_4, true_and, and_true, ldA_A, ldB_B, ldS_S, stA_A, stB_B, aL_A, aL_B, aL_S, aC_A, hRd_eq, hRd_ne, cp6, cp8, tl_some, tl_none, List.cons_append, List.nil_append, ofI_t0, ofI_t1, Int.add_zero, Int.zero_add, x184_37, x184_38, x184_39]
      exact ⟨fun _ => nx h2 hk4 iv2 o2, fun q => by first | omega | exact absurd rfl q | exact absurd trivial q | exact absurd q (by omega)⟩
    · simp (disch := omega) only [wr_id, wr_m1, sd_t, nl_I, nl_R, nl_none, c1_I, c1_R, sh_0, sh_1, sh_2, sh_3, sh_4, true_and, and_true, ldA_A, ldB_B, ldS_S, stA_A, stB_B, aL_A, aL_B, aL_S, aC_A, hRd_eq, hRd_ne, cp6, cp8, tl_some, tl_none, List.cons_append, List.nil_append, ofI_t0, ofI_t1, Int.add_zero, Int.zero_add, x184_40, x184_41]
      refine CALL_mono (pr_city (by omega) iv) (fun v h1 ⟨r, hv, o1, hc⟩ => ?_)
      subst hv
      simp (disch := omega) only [wr_id, wr_m1, sd_t, nl_I, nl_R, nl_none, c1_I, c1_R, sh_0, sh_1, sh_2, sh_3, sh_4, true_and, and_true, ldA_A, ldB_B, ldS_S, stA_A, stB_B, aL_A, aL_B, aL_S, aC_A, hRd_eq, hRd_ne, cp6, cp8, tl_some, tl_none, List.cons_append, List.nil_append, ofI_t0, ofI_t1, Int.add_zero, Int.zero_add, x184_42, x184_43]
      refine CALL_mono hc (fun v2 h2 ⟨hv2, iv2, o2⟩ => ?_)
      subst hv2
      simp (disch := omega) only [wr_id, wr_m1, sd_t, nl_I, nl_R, nl_none, c1_I, c1_R, sh_0, sh_1, sh_2, sh_3, sh_4, true_and, and_true, ldA_A, ldB_B, ldS_S, stA_A, stB_B, aL_A, aL_B, aL_S, aC_A, hRd_eq, hRd_ne, cp6, cp8, tl_some, tl_none, List.cons_append, List.nil_append, ofI_t0, ofI_t1, Int.add_zero, Int.zero_add, x184_44, x184_45, x184_46]
      exact ⟨fun _ => nx h2 hk4 iv2 o2, fun q => by first | omega | exact absurd rfl q | exact absurd trivial q | exact absurd q (by omega)⟩
    · simp (disch := omega) only [wr_id, wr_m1, sd_t, nl_I, nl_R, nl_none, c1_I, c1_R, sh_0, sh_1, sh_2, sh_3, sh_4, true_and, and_true, ldA_A, ldB_B, ldS_S, stA_A, stB_B, aL_A, aL_B, aL_S, aC_A, hRd_eq, hRd_ne, cp6, cp8, tl_some, tl_none, List.cons_append, List.nil_append, ofI_t0, ofI_t1, Int.add_zero, Int.zero_add, x184_47, x184_48]
      refine CALL_mono (pr_fault (by omega) iv) (fun v h1 ⟨r, hv, o1, hc⟩ => ?_)
      subst hv
      simp (disch := omega) only [wr_id, wr_m1, sd_t, nl_I, nl_R, nl_none, c1_I, c1_R, sh_0, sh_1, sh_2, sh_3, sh_4, true_and, and_true, ldA_A, ldB_B, ldS_S, stA_A, stB_B, aL_A, aL_B, aL_S, aC_A, hRd_eq, hRd_ne, cp6, cp8, tl_some, tl_none, List.cons_append, List.nil_append, ofI_t0, ofI_t1, Int.add_zero, Int.zero_add, x184_49, x184_50]
      refine CALL_mono hc (fun v2 h2 ⟨hv2, iv2, o2⟩ => ?_)
      subst hv2
      simp (disch := omega) only [wr_id, wr_m1, sd_t, nl_I, nl_R, nl_none, c1_I, c1_R, sh_0, sh_1, sh_2, sh_3, sh_4, true_and, and_true, ldA_A, ldB_B, ldS_S, stA_A, stB_B, aL_A, aL_B, aL_S, aC_A, hRd_eq, hRd_ne, cp6, cp8, tl_some, tl_none, List.cons_append, List.nil_append, ofI_t0, ofI_t1, Int.add_zero, Int.zero_add, x184_51, x184_52, x184_53]
      exact ⟨fun _ => nx h2 hk4 iv2 o2, fun q => by first | omega | exact absurd rfl q | exact absurd trivial q | exact absurd q (by omega)⟩
    · simp (disch := omega) only [wr_id, wr_m1, sd_t, nl_I, nl_R, nl_none, c1_I, c1_R, sh_0, sh_1, sh_2, sh_3, sh_4, true_and, and_true, ldA_A, ldB_B, ldS_S, stA_A, stB_B, aL_A, aL_B, aL_S, aC_A, hRd_eq, hRd_ne, cp6, cp8, tl_some, tl_none, List.cons_append, List.nil_append, ofI_t0, ofI_t1, Int.add_zero, Int.zero_add, x184_54, x184_55, x184_56, x184_57, x184_58, x184_59, x184_60, h0]
      refine ⟨by omega, ?_⟩
      refine CALL_mono (pr_told (by omega) iv g1) (fun v h1 ⟨r, hv, o1, hc⟩ => ?_)
      subst hv
      have h10 : hRd h1 0 = cA L g := by rw [o1.2.2 _ (by omega)]; exact h0
      simp (disch := omega) only [wr_id, wr_m1, sd_t, nl_I, nl_R, nl_none, c1_I, c1_R, sh_0, sh_1, sh_2, sh_3, sh_4, true_and, and_true, ldA_A, ldB_B, ldS_S, stA_A, stB_B, aL_A, aL_B, aL_S, aC_A, hRd_eq, hRd_ne, cp6, cp8, tl_some, tl_none, List.cons_append, List.nil_append, ofI_t0, ofI_t1, Int.add_zero, Int.zero_add, x184_61, x184_62, x184_63, x184_64, x184_65, x184_66, x184_67, h10]
      refine ⟨by omega, ?_⟩
      refine CALL_mono hc (fun v2 h2 ⟨hv2, iv2, o2⟩ => ?_)
      subst hv2
      simp (disch := omega) only [wr_id, wr_m1, sd_t, nl_I, nl_R, nl_none, c1_I, c1_R, sh_0, sh_1, sh_2, sh_3, sh_4, true_and, and_true, ldA_A, ldB_B, ldS_S, stA_A, stB_B, aL_A, aL_B, aL_S, aC_A, hRd_eq, hRd_ne, cp6, cp8, tl_some, tl_none, List.cons_append, List.nil_append, ofI_t0, ofI_t1, Int.add_zero, Int.zero_add, x184_68, x184_69, x184_70]
      exact ⟨fun _ => nx h2 hk4 iv2 o2, fun q => by first | omega | exact absurd rfl q | exact absurd trivial q | exact absurd q (by omega)⟩
    · simp (disch := omega) only [wr_id, wr_m1, sd_t, nl_I, nl_R, nl_none, c1_I, c1_R, sh_0, sh_1, sh_2, sh_3, sh_4, true_and, and_true, ldA_A, ldB_B, ldS_S, stA_A, stB_B, aL_A, aL_B, aL_S, aC_A, hRd_eq, hRd_ne, cp6, cp8, tl_some, tl_none, List.cons_append, List.nil_append, ofI_t0, ofI_t1, Int.add_zero, Int.zero_add, x184_71, x184_72, x184_73, x184_74, x184_75, x184_76, x184_77, x184_78, x184_79, x184_80, x184_81, x184_82, h0]
      refine ⟨by omega, by omega, ?_⟩
      refine CALL_mono (pr_person (by omega) iv g1 g2) (fun v h1 ⟨r, hv, o1, hc⟩ => ?_)
      subst hv
      have h10 : hRd h1 0 = cA L g := by rw [o1.2.2 _ (by omega)]; exact h0
      simp (disch := omega) only [wr_id, wr_m1, sd_t, nl_I, nl_R, nl_none, c1_I, c1_R, sh_0, sh_1, sh_2, sh_3, sh_4, true_and, and_true, ldA_A, ldB_B, ldS_S, stA_A, stB_B, aL_A, aL_B, aL_S, aC_A, hRd_eq, hRd_ne, cp6, cp8, tl_some, tl_none, List.cons_append, List.nil_append, ofI_t0, ofI_t1, Int.add_zero, Int.zero_add, x184_83, x184_84, x184_85, x184_86, x184_87, x184_88, x184_89, x184_90, x184_91, x184_92, x184_93, x184_94, h10]
      refine ⟨by omega, by omega, ?_⟩
      refine CALL_mono hc (fun v2 h2 ⟨hv2, iv2, o2⟩ => ?_)
      subst hv2
      simp (disch := omega) only [wr_id, wr_m1, sd_t, nl_I, nl_R, nl_none, c1_I, c1_R, sh_0, sh_1, sh_2, sh_3, sh_4, true_and, and_true, ldA_A, ldB_B, ldS_S, stA_A, stB_B, aL_A, aL_B, aL_S, aC_A, hRd_eq, hRd_ne, cp6, cp8, tl_some, tl_none, List.cons_append, List.nil_append, ofI_t0, ofI_t1, Int.add_zero, Int.zero_add, x184_95, x184_96, x184_97]
      exact ⟨fun _ => nx h2 hk4 iv2 o2, fun q => by first | omega | exact absurd rfl q | exact absurd trivial q | exact absurd q (by omega)⟩
    · simp (disch := omega) only [wr_id, wr_m1, sd_t, nl_I, nl_R, nl_none, c1_I, c1_R, sh_0, sh_1, sh_2, sh_3, sh_4, true_and, and_true, ldA_A, ldB_B, ldS_S, stA_A, stB_B, aL_A, aL_B, aL_S, aC_A, hRd_eq, hRd_ne, cp6, cp8, tl_some, tl_none, List.cons_append, List.nil_append, ofI_t0, ofI_t1, Int.add_zero, Int.zero_add, x184_98, x184_99, x184_100, x184_101, x184_102, x184_103, x184_104, x184_105, x184_106, x184_107, x184_108, x184_109, h0]
      refine ⟨by omega, by omega, ?_⟩
      refine CALL_mono (pr_job (by omega) iv g1 g2) (fun v h1 ⟨r, hv, o1, hc⟩ => ?_)
      subst hv
      have h10 : hRd h1 0 = cA L g := by rw [o1.2.2 _ (by omega)]; exact h0
      simp (disch := omega) only [wr_id, wr_m1, sd_t, nl_I, nl_R, nl_none, c1_I, c1_R, sh_0, sh_1, sh_2, sh_3, sh_4, true_and, and_true, ldA_A, ldB_B, ldS_S, stA_A, stB_B, aL_A, aL_B, aL_S, aC_A, hRd_eq, hRd_ne, cp6, cp8, tl_some, tl_none, List.cons_append, List.nil_append, ofI_t0, ofI_t1, Int.add_zero, Int.zero_add, x184_110, x184_111, x184_112, x184_113, x184_114, x184_115, x184_116, x184_117, x184_118, x184_119, x184_120, x184_121, h10]
      refine ⟨by omega, by omega, ?_⟩
      refine CALL_mono hc (fun v2 h2 ⟨hv2, iv2, o2⟩ => ?_)
      subst hv2
      simp (disch := omega) only [wr_id, wr_m1, sd_t, nl_I, nl_R, nl_none, c1_I, c1_R, sh_0, sh_1, sh_2, sh_3, sh_4, true_and, and_true, ldA_A, ldB_B, ldS_S, stA_A, stB_B, aL_A, aL_B, aL_S, aC_A, hRd_eq, hRd_ne, cp6, cp8, tl_some, tl_none, List.cons_append, List.nil_append, ofI_t0, ofI_t1, Int.add_zero, Int.zero_add, x184_122, x184_123, x184_124]
      exact ⟨fun _ => nx h2 hk4 iv2 o2, fun q => by first | omega | exact absurd rfl q | exact absurd trivial q | exact absurd q (by omega)⟩
    · simp (disch := omega) only [wr_id, wr_m1, sd_t, nl_I, nl_R, nl_none, c1_I, c1_R, sh_0, sh_1, sh_2, sh_3, sh_4, true_and, and_true, ldA_A, ldB_B, ldS_S, stA_A, stB_B, aL_A, aL_B, aL_S, aC_A, hRd_eq, hRd_ne, cp6, cp8, tl_some, tl_none, List.cons_append, List.nil_append, ofI_t0, ofI_t1, Int.add_zero, Int.zero_add, x184_125, x184_126, x184_127, x184_128, x184_129, x184_130, x184_131, h0]
      refine ⟨by omega, ?_⟩
      refine CALL_mono (pr_order (by omega) iv g1) (fun v h1 ⟨r, hv, o1, hc⟩ => ?_)
      subst hv
      have h10 : hRd h1 0 = cA L g := by rw [o1.2.2 _ (by omega)]; exact h0
      simp (disch := omega) only [wr_id, wr_m1, sd_t, nl_I, nl_R, nl_none, c1_I, c1_R, sh_0, sh_1, sh_2, sh_3, sh_4, true_and, and_true, ldA_A, ldB_B, ldS_S, stA_A, stB_B, aL_A, aL_B, aL_S, aC_A, hRd_eq, hRd_ne, cp6, cp8, tl_some, tl_none, List.cons_append, List.nil_append, ofI_t0, ofI_t1, Int.add_zero, Int.zero_add, x184_132, x184_133, x184_134, x184_135, x184_136, x184_137, x184_138, h10]
      refine ⟨by omega, ?_⟩
      refine CALL_mono hc (fun v2 h2 ⟨hv2, iv2, o2⟩ => ?_)
      subst hv2
      simp (disch := omega) only [wr_id, wr_m1, sd_t, nl_I, nl_R, nl_none, c1_I, c1_R, sh_0, sh_1, sh_2, sh_3, sh_4, true_and, and_true, ldA_A, ldB_B, ldS_S, stA_A, stB_B, aL_A, aL_B, aL_S, aC_A, hRd_eq, hRd_ne, cp6, cp8, tl_some, tl_none, List.cons_append, List.nil_append, ofI_t0, ofI_t1, Int.add_zero, Int.zero_add, x184_139, x184_140, x184_141]
      exact ⟨fun _ => nx h2 hk4 iv2 o2, fun q => by first | omega | exact absurd rfl q | exact absurd trivial q | exact absurd q (by omega)⟩
    · simp (disch := omega) only [wr_id, wr_m1, sd_t, nl_I, nl_R, nl_none, c1_I, c1_R, sh_0, sh_1, sh_2, sh_3, sh_4, true_and, and_true, ldA_A, ldB_B, ldS_S, stA_A, stB_B, aL_A, aL_B, aL_S, aC_A, hRd_eq, hRd_ne, cp6, cp8, tl_some, tl_none, List.cons_append, List.nil_append, ofI_t0, ofI_t1, Int.add_zero, Int.zero_add, x184_142, x184_143, x184_144, x184_145, x184_146, x184_147, x184_148, x184_149, x184_150, x184_151, x184_152, x184_153, h0]
      refine ⟨by omega, by omega, ?_⟩
      refine CALL_mono (pr_rank (by omega) iv g1 g2) (fun v h1 ⟨r, hv, o1, hc⟩ => ?_)
      subst hv
      have h10 : hRd h1 0 = cA L g := by rw [o1.2.2 _ (by omega)]; exact h0
      simp (disch := omega) only [wr_id, wr_m1, sd_t, nl_I, nl_R, nl_none, c1_I, c1_R, sh_0, sh_1, sh_2, sh_3, sh_4, true_and, and_true, ldA_A, ldB_B, ldS_S, stA_A, stB_B, aL_A, aL_B, aL_S, aC_A, hRd_eq, hRd_ne, cp6, cp8, tl_some, tl_none, List.cons_append, List.nil_append, ofI_t0, ofI_t1, Int.add_zero, Int.zero_add, x184_154, x184_155, x184_156, x184_157, x184_158, x184_159, x184_160, x184_161, x184_162, x184_163, x184_164, x184_165, h10]
      refine ⟨by omega, by omega, ?_⟩
      refine CALL_mono hc (fun v2 h2 ⟨hv2, iv2, o2⟩ => ?_)
      subst hv2
      simp (disch := omega) only [wr_id, wr_m1, sd_t, nl_I, nl_R, nl_none, c1_I, c1_R, sh_0, sh_1, sh_2, sh_3, sh_4, true_and, and_true, ldA_A, ldB_B, ldS_S, stA_A, stB_B, aL_A, aL_B, aL_S, aC_A, hRd_eq, hRd_ne, cp6, cp8, tl_some, tl_none, List.cons_append, List.nil_append, ofI_t0, ofI_t1, Int.add_zero, Int.zero_add, x184_166, x184_167, x184_168]
      exact ⟨fun _ => nx h2 hk4 iv2 o2, fun q => by first | omega | exact absurd rfl q | exact absurd trivial q | exact absurd q (by omega)⟩
    · simp (disch := omega) only [wr_id, wr_m1, sd_t, nl_I, nl_R, nl_none, c1_I, c1_R, sh_0, sh_1, sh_2, sh_3, sh_4, true_and, and_true, ldA_A, ldB_B, ldS_S, stA_A, stB_B, aL_A, aL_B, aL_S, aC_A, hRd_eq, hRd_ne, cp6, cp8, tl_some, tl_none, List.cons_append, List.nil_append, ofI_t0, ofI_t1, Int.add_zero, Int.zero_add, x184_169, x184_170, x184_171, x184_172, x184_173, x184_174, x184_175, x184_176, x184_177, x184_178, x184_179, x184_180, x184_181, x184_182, x184_183, x184_184, h0]
      refine ⟨by omega, by omega, fun q => ?_, fun q => ?_⟩
      · refine CALL_mono (pr_eyes (by omega) iv g1 (by omega)) (fun v h1 ⟨r, hv, o1, hc⟩ => ?_)
        subst hv
        have h10 : hRd h1 0 = cA L g := by rw [o1.2.2 _ (by omega)]; exact h0
        simp (disch := omega) only [wr_id, wr_m1, sd_t, nl_I, nl_R, nl_none, c1_I, c1_R, sh_0, sh_1, sh_2, sh_3, sh_4, true_and, and_true, ldA_A, ldB_B, ldS_S, stA_A, stB_B, aL_A, aL_B, aL_S, aC_A, hRd_eq, hRd_ne, cp6, cp8, tl_some, tl_none, List.cons_append, List.nil_append, ofI_t0, ofI_t1, Int.add_zero, Int.zero_add, x184_185, x184_186, x184_187, x184_188, x184_189, x184_190, x184_191, x184_192, x184_193, x184_194, x184_195, x184_196, x184_197, x184_198, x184_199, x184_200, h10]
        refine ⟨by omega, by omega, fun _ => ?_, fun q2 => absurd q q2⟩
        refine CALL_mono hc (fun v2 h2 ⟨hv2, iv2, o2⟩ => ?_)
        subst hv2
        simp (disch := omega) only [wr_id, wr_m1, sd_t, nl_I, nl_R, nl_none, c1_I, c1_R, sh_0, sh_1, sh_2, sh_3, sh_4, true_and, and_true, ldA_A, ldB_B, ldS_S, stA_A, stB_B, aL_A, aL_B, aL_S, aC_A, hRd_eq, hRd_ne, cp6, cp8, tl_some, tl_none, List.cons_append, List.nil_append, ofI_t0, ofI_t1, Int.add_zero, Int.zero_add, x184_201, x184_202, x184_203]
        exact ⟨fun _ => nx h2 hk4 iv2 o2, fun q => by first | omega | exact absurd rfl q | exact absurd trivial q | exact absurd q (by omega)⟩
      · refine CALL_mono (pr_eyes (by omega) iv g1 (by omega)) (fun v h1 ⟨r, hv, o1, hc⟩ => ?_)
        subst hv
        have h10 : hRd h1 0 = cA L g := by rw [o1.2.2 _ (by omega)]; exact h0
        simp (disch := omega) only [wr_id, wr_m1, sd_t, nl_I, nl_R, nl_none, c1_I, c1_R, sh_0, sh_1, sh_2, sh_3, sh_4, true_and, and_true, ldA_A, ldB_B, ldS_S, stA_A, stB_B, aL_A, aL_B, aL_S, aC_A, hRd_eq, hRd_ne, cp6, cp8, tl_some, tl_none, List.cons_append, List.nil_append, ofI_t0, ofI_t1, Int.add_zero, Int.zero_add, x184_185, x184_186, x184_187, x184_188, x184_189, x184_190, x184_191, x184_192, x184_193, x184_194, x184_195, x184_196, x184_197, x184_198, x184_199, x184_200, h10]
        refine ⟨by omega, by omega, fun q2 => absurd q2 q, fun _ => ?_⟩
        refine CALL_mono hc (fun v2 h2 ⟨hv2, iv2, o2⟩ => ?_)
        subst hv2
        simp (disch := omega) only [wr_id, wr_m1, sd_t, nl_I, nl_R, nl_none, c1_I, c1_R, sh_0, sh_1, sh_2, sh_3, sh_4, true_and, and_true, ldA_A, ldB_B, ldS_S, stA_A, stB_B, aL_A, aL_B, aL_S, aC_A, hRd_eq, hRd_ne, cp6, cp8, tl_some, tl_none, List.cons_append, List.nil_append, ofI_t0, ofI_t1, Int.add_zero, Int.zero_add, x184_201, x184_202, x184_203]
        exact ⟨fun _ => nx h2 hk4 iv2 o2, fun q => by first | omega | exact absurd rfl q | exact absurd trivial q | exact absurd q (by omega)⟩
    · simp (disch := omega) only [wr_id, wr_m1, sd_t, nl_I, nl_R, nl_none, c1_I, c1_R, sh_0, sh_1, sh_2, sh_3, sh_4, true_and, and_true, ldA_A, ldB_B, ldS_S, stA_A, stB_B, aL_A, aL_B, aL_S, aC_A, hRd_eq, hRd_ne, cp6, cp8, tl_some, tl_none, List.cons_append, List.nil_append, ofI_t0, ofI_t1, Int.add_zero, Int.zero_add, x184_204, x184_205, x184_206, x184_207, x184_208, x184_209, x184_210, x184_211, x184_212, x184_213, x184_214, x184_215, h0]
      refine ⟨by omega, by omega, ?_⟩
      refine CALL_mono (pr_hand (by omega) iv g1 g2) (fun v h1 ⟨r, hv, o1, hc⟩ => ?_)
      subst hv
      have h10 : hRd h1 0 = cA L g := by rw [o1.2.2 _ (by omega)]; exact h0
      simp (disch := omega) only [wr_id, wr_m1, sd_t, nl_I, nl_R, nl_none, c1_I, c1_R, sh_0, sh_1, sh_2, sh_3, sh_4, true_and, and_true, ldA_A, ldB_B, ldS_S, stA_A, stB_B, aL_A, aL_B, aL_S, aC_A, hRd_eq, hRd_ne, cp6, cp8, tl_some, tl_none, List.cons_append, List.nil_append, ofI_t0, ofI_t1, Int.add_zero, Int.zero_add, x184_216, x184_217, x184_218, x184_219, x184_220, x184_221, x184_222, x184_223, x184_224, x184_225, x184_226, x184_227, h10]
      refine ⟨by omega, by omega, ?_⟩
      refine CALL_mono hc (fun v2 h2 ⟨hv2, iv2, o2⟩ => ?_)
      subst hv2
      simp (disch := omega) only [wr_id, wr_m1, sd_t, nl_I, nl_R, nl_none, c1_I, c1_R, sh_0, sh_1, sh_2, sh_3, sh_4, true_and, and_true, ldA_A, ldB_B, ldS_S, stA_A, stB_B, aL_A, aL_B, aL_S, aC_A, hRd_eq, hRd_ne, cp6, cp8, tl_some, tl_none, List.cons_append, List.nil_append, ofI_t0, ofI_t1, Int.add_zero, Int.zero_add, x184_228, x184_229, x184_230]
      exact ⟨fun _ => nx h2 hk4 iv2 o2, fun q => by first | omega | exact absurd rfl q | exact absurd trivial q | exact absurd q (by omega)⟩
    · simp (disch := omega) only [wr_id, wr_m1, sd_t, nl_I, nl_R, nl_none, c1_I, c1_R, sh_0, sh_1, sh_2, sh_3, sh_4, true_and, and_true, ldA_A, ldB_B, ldS_S, stA_A, stB_B, aL_A, aL_B, aL_S, aC_A, hRd_eq, hRd_ne, cp6, cp8, tl_some, tl_none, List.cons_append, List.nil_append, ofI_t0, ofI_t1, Int.add_zero, Int.zero_add, x184_231, x184_232, x184_233, x184_234, x184_235, x184_236, x184_237, h0]
      refine ⟨by omega, ?_⟩
      refine CALL_mono (pr_dismiss (by omega) iv g1) (fun v h1 ⟨r, hv, o1, hc⟩ => ?_)
      subst hv
      have h10 : hRd h1 0 = cA L g := by rw [o1.2.2 _ (by omega)]; exact h0
      simp (disch := omega) only [wr_id, wr_m1, sd_t, nl_I, nl_R, nl_none, c1_I, c1_R, sh_0, sh_1, sh_2, sh_3, sh_4, true_and, and_true, ldA_A, ldB_B, ldS_S, stA_A, stB_B, aL_A, aL_B, aL_S, aC_A, hRd_eq, hRd_ne, cp6, cp8, tl_some, tl_none, List.cons_append, List.nil_append, ofI_t0, ofI_t1, Int.add_zero, Int.zero_add, x184_238, x184_239, x184_240, x184_241, x184_242, x184_243, x184_244, h10]
      refine ⟨by omega, ?_⟩
      refine CALL_mono hc (fun v2 h2 ⟨hv2, iv2, o2⟩ => ?_)
      subst hv2
      simp (disch := omega) only [wr_id, wr_m1, sd_t, nl_I, nl_R, nl_none, c1_I, c1_R, sh_0, sh_1, sh_2, sh_3, sh_4, true_and, and_true, ldA_A, ldB_B, ldS_S, stA_A, stB_B, aL_A, aL_B, aL_S, aC_A, hRd_eq, hRd_ne, cp6, cp8, tl_some, tl_none, List.cons_append, List.nil_append, ofI_t0, ofI_t1, Int.add_zero, Int.zero_add, x184_245, x184_246, x184_247]
      exact ⟨fun _ => nx h2 hk4 iv2 o2, fun q => by first | omega | exact absurd rfl q | exact absurd trivial q | exact absurd q (by omega)⟩
    · simp (disch := omega) only [wr_id, wr_m1, sd_t, nl_I, nl_R, nl_none, c1_I, c1_R, sh_0, sh_1, sh_2, sh_3, sh_4, true_and, and_true, ldA_A, ldB_B, ldS_S, stA_A, stB_B, aL_A, aL_B, aL_S, aC_A, hRd_eq, hRd_ne, cp6, cp8, tl_some, tl_none, List.cons_append, List.nil_append, ofI_t0, ofI_t1, Int.add_zero, Int.zero_add, x184_248, x184_249, x184_250, x184_251, x184_252, x184_253, x184_254, x184_255, x184_256, x184_257, x184_258, x184_259, h0]
      refine ⟨by omega, by omega, ?_⟩
      refine CALL_mono (pr_wake (by omega) iv g1 g2) (fun v h1 ⟨r, hv, o1, hc⟩ => ?_)
      subst hv
      have h10 : hRd h1 0 = cA L g := by rw [o1.2.2 _ (by omega)]; exact h0
      simp (disch := omega) only [wr_id, wr_m1, sd_t, nl_I, nl_R, nl_none, c1_I, c1_R, sh_0, sh_1, sh_2, sh_3, sh_4, true_and, and_true, ldA_A, ldB_B, ldS_S, stA_A, stB_B, aL_A, aL_B, aL_S, aC_A, hRd_eq, hRd_ne, cp6, cp8, tl_some, tl_none, List.cons_append, List.nil_append, ofI_t0, ofI_t1, Int.add_zero, Int.zero_add, x184_260, x184_261, x184_262, x184_263, x184_264, x184_265, x184_266, x184_267, x184_268, x184_269, x184_270, x184_271, h10]
      refine ⟨by omega, by omega, ?_⟩
      refine CALL_mono hc (fun v2 h2 ⟨hv2, iv2, o2⟩ => ?_)
      subst hv2
      simp (disch := omega) only [wr_id, wr_m1, sd_t, nl_I, nl_R, nl_none, c1_I, c1_R, sh_0, sh_1, sh_2, sh_3, sh_4, true_and, and_true, ldA_A, ldB_B, ldS_S, stA_A, stB_B, aL_A, aL_B, aL_S, aC_A, hRd_eq, hRd_ne, cp6, cp8, tl_some, tl_none, List.cons_append, List.nil_append, ofI_t0, ofI_t1, Int.add_zero, Int.zero_add, x184_272, x184_273, x184_274]
      exact ⟨fun _ => nx h2 hk4 iv2 o2, fun q => by first | omega | exact absurd rfl q | exact absurd trivial q | exact absurd q (by omega)⟩
    · simp (disch := omega) only [wr_id, wr_m1, sd_t, nl_I, nl_R, nl_none, c1_I, c1_R, sh_0, sh_1, sh_2, sh_3, sh_4, true_and, and_true, ldA_A, ldB_B, ldS_S, stA_A, stB_B, aL_A, aL_B, aL_S, aC_A, hRd_eq, hRd_ne, cp6, cp8, tl_some, tl_none, List.cons_append, List.nil_append, ofI_t0, ofI_t1, Int.add_zero, Int.zero_add, x184_275, x184_276, x184_277, x184_278, x184_279, x184_280, x184_281, h0]
      refine ⟨by omega, ?_⟩
      refine CALL_mono (pr_drift (by omega) iv g1) (fun v h1 ⟨r, hv, o1, hc⟩ => ?_)
      subst hv
      have h10 : hRd h1 0 = cA L g := by rw [o1.2.2 _ (by omega)]; exact h0
      simp (disch := omega) only [wr_id, wr_m1, sd_t, nl_I, nl_R, nl_none, c1_I, c1_R, sh_0, sh_1, sh_2, sh_3, sh_4, true_and, and_true, ldA_A, ldB_B, ldS_S, stA_A, stB_B, aL_A, aL_B, aL_S, aC_A, hRd_eq, hRd_ne, cp6, cp8, tl_some, tl_none, List.cons_append, List.nil_append, ofI_t0, ofI_t1, Int.add_zero, Int.zero_add, x184_282, x184_283, x184_284, x184_285, x184_286, x184_287, x184_288, h10]
      refine ⟨by omega, ?_⟩
      refine CALL_mono hc (fun v2 h2 ⟨hv2, iv2, o2⟩ => ?_)
      subst hv2
      simp (disch := omega) only [wr_id, wr_m1, sd_t, nl_I, nl_R, nl_none, c1_I, c1_R, sh_0, sh_1, sh_2, sh_3, sh_4, true_and, and_true, ldA_A, ldB_B, ldS_S, stA_A, stB_B, aL_A, aL_B, aL_S, aC_A, hRd_eq, hRd_ne, cp6, cp8, tl_some, tl_none, List.cons_append, List.nil_append, ofI_t0, ofI_t1, Int.add_zero, Int.zero_add, x184_289, x184_290, x184_291]
      exact ⟨fun _ => nx h2 hk4 iv2 o2, fun q => by first | omega | exact absurd rfl q | exact absurd trivial q | exact absurd q (by omega)⟩
    · simp (disch := omega) only [wr_id, wr_m1, sd_t, nl_I, nl_R, nl_none, c1_I, c1_R, sh_0, sh_1, sh_2, sh_3, sh_4, true_and, and_true, ldA_A, ldB_B, ldS_S, stA_A, stB_B, aL_A, aL_B, aL_S, aC_A, hRd_eq, hRd_ne, cp6, cp8, tl_some, tl_none, List.cons_append, List.nil_append, ofI_t0, ofI_t1, Int.add_zero, Int.zero_add, x184_292, x184_293]
      refine CALL_mono (pr_undo (by omega) iv) (fun v h1 ⟨r, hv, o1, hc⟩ => ?_)
      subst hv
      simp (disch := omega) only [wr_id, wr_m1, sd_t, nl_I, nl_R, nl_none, c1_I, c1_R, sh_0, sh_1, sh_2, sh_3, sh_4, true_and, and_true, ldA_A, ldB_B, ldS_S, stA_A, stB_B, aL_A, aL_B, aL_S, aC_A, hRd_eq, hRd_ne, cp6, cp8, tl_some, tl_none, List.cons_append, List.nil_append, ofI_t0, ofI_t1, Int.add_zero, Int.zero_add, x184_294, x184_295]
      refine CALL_mono hc (fun v2 h2 ⟨hv2, iv2, o2⟩ => ?_)
      subst hv2
      simp (disch := omega) only [wr_id, wr_m1, sd_t, nl_I, nl_R, nl_none, c1_I, c1_R, sh_0, sh_1, sh_2, sh_3, sh_4, true_and, and_true, ldA_A, ldB_B, ldS_S, stA_A, stB_B, aL_A, aL_B, aL_S, aC_A, hRd_eq, hRd_ne, cp6, cp8, tl_some, tl_none, List.cons_append, List.nil_append, ofI_t0, ofI_t1, Int.add_zero, Int.zero_add, x184_296, x184_297, x184_298]
      exact ⟨fun _ => nx h2 hk4 iv2 o2, fun q => by first | omega | exact absurd rfl q | exact absurd trivial q | exact absurd q (by omega)⟩
    · simp (disch := omega) only [wr_id, wr_m1, sd_t, nl_I, nl_R, nl_none, c1_I, c1_R, sh_0, sh_1, sh_2, sh_3, sh_4, true_and, and_true, ldA_A, ldB_B, ldS_S, stA_A, stB_B, aL_A, aL_B, aL_S, aC_A, hRd_eq, hRd_ne, cp6, cp8, tl_some, tl_none, List.cons_append, List.nil_append, ofI_t0, ofI_t1, Int.add_zero, Int.zero_add, x184_299, x184_300, x184_301, x184_302, x184_303, x184_304, x184_305, x184_306, x184_307, x184_308, x184_309, x184_310, x184_311, x184_312, x184_313, x184_314, x184_315, h0]
      refine ⟨by omega, by omega, by omega, ?_⟩
      refine CALL_mono (pr_raise (by omega) iv g1 g2 g3) (fun v h1 ⟨r, hv, o1, hc⟩ => ?_)
      subst hv
      have h10 : hRd h1 0 = cA L g := by rw [o1.2.2 _ (by omega)]; exact h0
      simp (disch := omega) only [wr_id, wr_m1, sd_t, nl_I, nl_R, nl_none, c1_I, c1_R, sh_0, sh_1, sh_2, sh_3, sh_4, true_and, and_true, ldA_A, ldB_B, ldS_S, stA_A, stB_B, aL_A, aL_B, aL_S, aC_A, hRd_eq, hRd_ne, cp6, cp8, tl_some, tl_none, List.cons_append, List.nil_append, ofI_t0, ofI_t1, Int.add_zero, Int.zero_add, x184_316, x184_317, x184_318, x184_319, x184_320, x184_321, x184_322, x184_323, x184_324, x184_325, x184_326, x184_327, x184_328, x184_329, x184_330, x184_331, x184_332, h10]
      refine ⟨by omega, by omega, by omega, ?_⟩
      refine CALL_mono hc (fun v2 h2 ⟨hv2, iv2, o2⟩ => ?_)
      subst hv2
      simp (disch := omega) only [wr_id, wr_m1, sd_t, nl_I, nl_R, nl_none, c1_I, c1_R, sh_0, sh_1, sh_2, sh_3, sh_4, true_and, and_true, ldA_A, ldB_B, ldS_S, stA_A, stB_B, aL_A, aL_B, aL_S, aC_A, hRd_eq, hRd_ne, cp6, cp8, tl_some, tl_none, List.cons_append, List.nil_append, ofI_t0, ofI_t1, Int.add_zero, Int.zero_add, x184_333, x184_334, x184_335]
      exact ⟨fun _ => nx h2 hk4 iv2 o2, fun q => by first | omega | exact absurd rfl q | exact absurd trivial q | exact absurd q (by omega)⟩
    · simp (disch := omega) only [wr_id, wr_m1, sd_t, nl_I, nl_R, nl_none, c1_I, c1_R, sh_0, sh_1, sh_2, sh_3, sh_4, true_and, and_true, ldA_A, ldB_B, ldS_S, stA_A, stB_B, aL_A, aL_B, aL_S, aC_A, hRd_eq, hRd_ne, cp6, cp8, tl_some, tl_none, List.cons_append, List.nil_append, ofI_t0, ofI_t1, Int.add_zero, Int.zero_add, x184_336, x184_337, x184_338, x184_339, x184_340, x184_341, x184_342, x184_343, x184_344, x184_345, x184_346, x184_347, h0]
      refine ⟨by omega, by omega, ?_⟩
      refine CALL_mono (pr_harm (by omega) iv g1 g2) (fun v h1 ⟨r, hv, o1, hc⟩ => ?_)
      subst hv
      have h10 : hRd h1 0 = cA L g := by rw [o1.2.2 _ (by omega)]; exact h0
      simp (disch := omega) only [wr_id, wr_m1, sd_t, nl_I, nl_R, nl_none, c1_I, c1_R, sh_0, sh_1, sh_2, sh_3, sh_4, true_and, and_true, ldA_A, ldB_B, ldS_S, stA_A, stB_B, aL_A, aL_B, aL_S, aC_A, hRd_eq, hRd_ne, cp6, cp8, tl_some, tl_none, List.cons_append, List.nil_append, ofI_t0, ofI_t1, Int.add_zero, Int.zero_add, x184_348, x184_349, x184_350, x184_351, x184_352, x184_353, x184_354, x184_355, x184_356, x184_357, x184_358, x184_359, h10]
      refine ⟨by omega, by omega, ?_⟩
      refine CALL_mono hc (fun v2 h2 ⟨hv2, iv2, o2⟩ => ?_)
      subst hv2
      simp (disch := omega) only [wr_id, wr_m1, sd_t, nl_I, nl_R, nl_none, c1_I, c1_R, sh_0, sh_1, sh_2, sh_3, sh_4, true_and, and_true, ldA_A, ldB_B, ldS_S, stA_A, stB_B, aL_A, aL_B, aL_S, aC_A, hRd_eq, hRd_ne, cp6, cp8, tl_some, tl_none, List.cons_append, List.nil_append, ofI_t0, ofI_t1, Int.add_zero, Int.zero_add, x184_360, x184_361, x184_362]
      exact ⟨fun _ => nx h2 hk4 iv2 o2, fun q => by first | omega | exact absurd rfl q | exact absurd trivial q | exact absurd q (by omega)⟩
    · simp (disch := omega) only [wr_id, wr_m1, sd_t, nl_I, nl_R, nl_none, c1_I, c1_R, sh_0, sh_1, sh_2, sh_3, sh_4, true_and, and_true, ldA_A, ldB_B, ldS_S, stA_A, stB_B, aL_A, aL_B, aL_S, aC_A, hRd_eq, hRd_ne, cp6, cp8, tl_some, tl_none, List.cons_append, List.nil_append, ofI_t0, ofI_t1, Int.add_zero, Int.zero_add, x184_363, x184_364, x184_365, x184_366, x184_367, x184_368, x184_369, h0]
      refine ⟨by omega, ?_⟩
      refine CALL_mono (pr_bread (by omega) iv g1) (fun v h1 ⟨r, hv, o1, hc⟩ => ?_)
      subst hv
      have h10 : hRd h1 0 = cA L g := by rw [o1.2.2 _ (by omega)]; exact h0
      simp (disch := omega) only [wr_id, wr_m1, sd_t, nl_I, nl_R, nl_none, c1_I, c1_R, sh_0, sh_1, sh_2, sh_3, sh_4, true_and, and_true, ldA_A, ldB_B, ldS_S, stA_A, stB_B, aL_A, aL_B, aL_S, aC_A, hRd_eq, hRd_ne, cp6, cp8, tl_some, tl_none, List.cons_append, List.nil_append, ofI_t0, ofI_t1, Int.add_zero, Int.zero_add, x184_370, x184_371, x184_372, x184_373, x184_374, x184_375, x184_376, h10]
      refine ⟨by omega, ?_⟩
      refine CALL_mono hc (fun v2 h2 ⟨hv2, iv2, o2⟩ => ?_)
      subst hv2
      simp (disch := omega) only [wr_id, wr_m1, sd_t, nl_I, nl_R, nl_none, c1_I, c1_R, sh_0, sh_1, sh_2, sh_3, sh_4, true_and, and_true, ldA_A, ldB_B, ldS_S, stA_A, stB_B, aL_A, aL_B, aL_S, aC_A, hRd_eq, hRd_ne, cp6, cp8, tl_some, tl_none, List.cons_append, List.nil_append, ofI_t0, ofI_t1, Int.add_zero, Int.zero_add, x184_377, x184_378, x184_379]
      exact ⟨fun _ => nx h2 hk4 iv2 o2, fun q => by first | omega | exact absurd rfl q | exact absurd trivial q | exact absurd q (by omega)⟩
    · simp (disch := omega) only [wr_id, wr_m1, sd_t, nl_I, nl_R, nl_none, c1_I, c1_R, sh_0, sh_1, sh_2, sh_3, sh_4, true_and, and_true, ldA_A, ldB_B, ldS_S, stA_A, stB_B, aL_A, aL_B, aL_S, aC_A, hRd_eq, hRd_ne, cp6, cp8, tl_some, tl_none, List.cons_append, List.nil_append, ofI_t0, ofI_t1, Int.add_zero, Int.zero_add, x184_380, x184_381, x184_382, x184_383, x184_384, x184_385, x184_386, h0]
      refine ⟨by omega, ?_⟩
      refine CALL_mono (pr_free (by omega) iv g1) (fun v h1 ⟨r, hv, o1, hc⟩ => ?_)
      subst hv
      have h10 : hRd h1 0 = cA L g := by rw [o1.2.2 _ (by omega)]; exact h0
      simp (disch := omega) only [wr_id, wr_m1, sd_t, nl_I, nl_R, nl_none, c1_I, c1_R, sh_0, sh_1, sh_2, sh_3, sh_4, true_and, and_true, ldA_A, ldB_B, ldS_S, stA_A, stB_B, aL_A, aL_B, aL_S, aC_A, hRd_eq, hRd_ne, cp6, cp8, tl_some, tl_none, List.cons_append, List.nil_append, ofI_t0, ofI_t1, Int.add_zero, Int.zero_add, x184_387, x184_388, x184_389, x184_390, x184_391, x184_392, x184_393, h10]
      refine ⟨by omega, ?_⟩
      refine CALL_mono hc (fun v2 h2 ⟨hv2, iv2, o2⟩ => ?_)
      subst hv2
      simp (disch := omega) only [wr_id, wr_m1, sd_t, nl_I, nl_R, nl_none, c1_I, c1_R, sh_0, sh_1, sh_2, sh_3, sh_4, true_and, and_true, ldA_A, ldB_B, ldS_S, stA_A, stB_B, aL_A, aL_B, aL_S, aC_A, hRd_eq, hRd_ne, cp6, cp8, tl_some, tl_none, List.cons_append, List.nil_append, ofI_t0, ofI_t1, Int.add_zero, Int.zero_add, x184_394, x184_395, x184_396]
      exact ⟨fun _ => nx h2 hk4 iv2 o2, fun q => by first | omega | exact absurd rfl q | exact absurd trivial q | exact absurd q (by omega)⟩
    · simp (disch := omega) only [wr_id, wr_m1, sd_t, nl_I, nl_R, nl_none, c1_I, c1_R, sh_0, sh_1, sh_2, sh_3, sh_4, true_and, and_true, ldA_A, ldB_B, ldS_S, stA_A, stB_B, aL_A, aL_B, aL_S, aC_A, hRd_eq, hRd_ne, cp6, cp8, tl_some, tl_none, List.cons_append, List.nil_append, ofI_t0, ofI_t1, Int.add_zero, Int.zero_add, x184_397, x184_398, x184_399, x184_400, x184_401, x184_402, x184_403, x184_404, x184_405, x184_406, x184_407, x184_408, h0]
      refine ⟨by omega, by omega, ?_⟩
      refine CALL_mono (pr_sleeps (by omega) iv g1 g2) (fun v h1 ⟨r, hv, o1, hc⟩ => ?_)
      subst hv
      have h10 : hRd h1 0 = cA L g := by rw [o1.2.2 _ (by omega)]; exact h0
      simp (disch := omega) only [wr_id, wr_m1, sd_t, nl_I, nl_R, nl_none, c1_I, c1_R, sh_0, sh_1, sh_2, sh_3, sh_4, true_and, and_true, ldA_A, ldB_B, ldS_S, stA_A, stB_B, aL_A, aL_B, aL_S, aC_A, hRd_eq, hRd_ne, cp6, cp8, tl_some, tl_none, List.cons_append, List.nil_append, ofI_t0, ofI_t1, Int.add_zero, Int.zero_add, x184_409, x184_410, x184_411, x184_412, x184_413, x184_414, x184_415, x184_416, x184_417, x184_418, x184_419, x184_420, h10]
      refine ⟨by omega, by omega, ?_⟩
      refine CALL_mono hc (fun v2 h2 ⟨hv2, iv2, o2⟩ => ?_)
      subst hv2
      simp (disch := omega) only [wr_id, wr_m1, sd_t, nl_I, nl_R, nl_none, c1_I, c1_R, sh_0, sh_1, sh_2, sh_3, sh_4, true_and, and_true, ldA_A, ldB_B, ldS_S, stA_A, stB_B, aL_A, aL_B, aL_S, aC_A, hRd_eq, hRd_ne, cp6, cp8, tl_some, tl_none, List.cons_append, List.nil_append, ofI_t0, ofI_t1, Int.add_zero, Int.zero_add, x184_421, x184_422, x184_423]
      exact ⟨fun _ => nx h2 hk4 iv2 o2, fun q => by first | omega | exact absurd rfl q | exact absurd trivial q | exact absurd q (by omega)⟩
    · simp (disch := omega) only [wr_id, wr_m1, sd_t, nl_I, nl_R, nl_none, c1_I, c1_R, sh_0, sh_1, sh_2, sh_3, sh_4, true_and, and_true, ldA_A, ldB_B, ldS_S, stA_A, stB_B, aL_A, aL_B, aL_S, aC_A, hRd_eq, hRd_ne, cp6, cp8, tl_some, tl_none, List.cons_append, List.nil_append, ofI_t0, ofI_t1, Int.add_zero, Int.zero_add, x184_424, x184_425, x184_426, x184_427, x184_428, x184_429, x184_430, x184_431, x184_432, x184_433, x184_434, x184_435, h0]
      refine ⟨by omega, by omega, ?_⟩
      refine CALL_mono (pr_see (by omega) iv g1 g2) (fun v h1 ⟨r, hv, o1, hc⟩ => ?_)
      subst hv
      have h10 : hRd h1 0 = cA L g := by rw [o1.2.2 _ (by omega)]; exact h0
      simp (disch := omega) only [wr_id, wr_m1, sd_t, nl_I, nl_R, nl_none, c1_I, c1_R, sh_0, sh_1, sh_2, sh_3, sh_4, true_and, and_true, ldA_A, ldB_B, ldS_S, stA_A, stB_B, aL_A, aL_B, aL_S, aC_A, hRd_eq, hRd_ne, cp6, cp8, tl_some, tl_none, List.cons_append, List.nil_append, ofI_t0, ofI_t1, Int.add_zero, Int.zero_add, x184_436, x184_437, x184_438, x184_439, x184_440, x184_441, x184_442, x184_443, x184_444, x184_445, x184_446, x184_447, h10]
      refine ⟨by omega, by omega, ?_⟩
      refine CALL_mono hc (fun v2 h2 ⟨hv2, iv2, o2⟩ => ?_)
      subst hv2
      simp (disch := omega) only [wr_id, wr_m1, sd_t, nl_I, nl_R, nl_none, c1_I, c1_R, sh_0, sh_1, sh_2, sh_3, sh_4, true_and, and_true, ldA_A, ldB_B, ldS_S, stA_A, stB_B, aL_A, aL_B, aL_S, aC_A, hRd_eq, hRd_ne, cp6, cp8, tl_some, tl_none, List.cons_append, List.nil_append, ofI_t0, ofI_t1, Int.add_zero, Int.zero_add, x184_448, x184_449, x184_450]
      exact ⟨fun _ => nx h2 hk4 iv2 o2, fun q => by first | omega | exact absurd rfl q | exact absurd trivial q | exact absurd q (by omega)⟩
    · simp (disch := omega) only [wr_id, wr_m1, sd_t, nl_I, nl_R, nl_none, c1_I, c1_R, sh_0, sh_1, sh_2, sh_3, sh_4, true_and, and_true, ldA_A, ldB_B, ldS_S, stA_A, stB_B, aL_A, aL_B, aL_S, aC_A, hRd_eq, hRd_ne, cp6, cp8, tl_some, tl_none, List.cons_append, List.nil_append, ofI_t0, ofI_t1, Int.add_zero, Int.zero_add, x184_451, x184_452, x184_453, x184_454, x184_455, x184_456, x184_457, h0]
      refine ⟨by omega, ?_⟩
      refine CALL_mono (pr_orders (by omega) iv g1) (fun v h1 ⟨r, hv, o1, hc⟩ => ?_)
      subst hv
      have h10 : hRd h1 0 = cA L g := by rw [o1.2.2 _ (by omega)]; exact h0
      simp (disch := omega) only [wr_id, wr_m1, sd_t, nl_I, nl_R, nl_none, c1_I, c1_R, sh_0, sh_1, sh_2, sh_3, sh_4, true_and, and_true, ldA_A, ldB_B, ldS_S, stA_A, stB_B, aL_A, aL_B, aL_S, aC_A, hRd_eq, hRd_ne, cp6, cp8, tl_some, tl_none, List.cons_append, List.nil_append, ofI_t0, ofI_t1, Int.add_zero, Int.zero_add, x184_458, x184_459, x184_460, x184_461, x184_462, x184_463, x184_464, h10]
      refine ⟨by omega, ?_⟩
      refine CALL_mono hc (fun v2 h2 ⟨hv2, iv2, o2⟩ => ?_)
      subst hv2
      simp (disch := omega) only [wr_id, wr_m1, sd_t, nl_I, nl_R, nl_none, c1_I, c1_R, sh_0, sh_1, sh_2, sh_3, sh_4, true_and, and_true, ldA_A, ldB_B, ldS_S, stA_A, stB_B, aL_A, aL_B, aL_S, aC_A, hRd_eq, hRd_ne, cp6, cp8, tl_some, tl_none, List.cons_append, List.nil_append, ofI_t0, ofI_t1, Int.add_zero, Int.zero_add, x184_465, x184_466, x184_467]
      exact ⟨fun _ => nx h2 hk4 iv2 o2, fun q => by first | omega | exact absurd rfl q | exact absurd trivial q | exact absurd q (by omega)⟩
    · simp (disch := omega) only [wr_id, wr_m1, sd_t, nl_I, nl_R, nl_none, c1_I, c1_R, sh_0, sh_1, sh_2, sh_3, sh_4, true_and, and_true, ldA_A, ldB_B, ldS_S, stA_A, stB_B, aL_A, aL_B, aL_S, aC_A, hRd_eq, hRd_ne, cp6, cp8, tl_some, tl_none, List.cons_append, List.nil_append, ofI_t0, ofI_t1, Int.add_zero, Int.zero_add, x184_468, x184_469]
      refine CALL_mono (pr_look (by omega) iv) (fun v h1 ⟨r, hv, o1, hc⟩ => ?_)
      subst hv
      simp (disch := omega) only [wr_id, wr_m1, sd_t, nl_I, nl_R, nl_none, c1_I, c1_R, sh_0, sh_1, sh_2, sh_3, sh_4, true_and, and_true, ldA_A, ldB_B, ldS_S, stA_A, stB_B, aL_A, aL_B, aL_S, aC_A, hRd_eq, hRd_ne, cp6, cp8, tl_some, tl_none, List.cons_append, List.nil_append, ofI_t0, ofI_t1, Int.add_zero, Int.zero_add, x184_470, x184_471]
      refine CALL_mono hc (fun v2 h2 ⟨hv2, iv2, o2⟩ => ?_)
      subst hv2
      simp (disch := omega) only [wr_id, wr_m1, sd_t, nl_I, nl_R, nl_none, c1_I, c1_R, sh_0, sh_1, sh_2, sh_3, sh_4, true_and, and_true, ldA_A, ldB_B, ldS_S, stA_A, stB_B, aL_A, aL_B, aL_S, aC_A, hRd_eq, hRd_ne, cp6, cp8, tl_some, tl_none, List.cons_append, List.nil_append, ofI_t0, ofI_t1, Int.add_zero, Int.zero_add, x184_472, x184_473, x184_474]
      exact ⟨fun _ => nx h2 hk4 iv2 o2, fun q => by first | omega | exact absurd rfl q | exact absurd trivial q | exact absurd q (by omega)⟩
    · simp (disch := omega) only [wr_id, wr_m1, sd_t, nl_I, nl_R, nl_none, c1_I, c1_R, sh_0, sh_1, sh_2, sh_3, sh_4, true_and, and_true, ldA_A, ldB_B, ldS_S, stA_A, stB_B, aL_A, aL_B, aL_S, aC_A, hRd_eq, hRd_ne, cp6, cp8, tl_some, tl_none, List.cons_append, List.nil_append, ofI_t0, ofI_t1, Int.add_zero, Int.zero_add, x184_475, x184_476, x184_477, x184_478, x184_479, x184_480, x184_481, x184_482, x184_483, x184_484, x184_485, x184_486, h0]
      refine ⟨by omega, by omega, ?_⟩
      refine CALL_mono (pr_write (by omega) iv g1 g2) (fun v h1 ⟨r, hv, o1, hc⟩ => ?_)
      subst hv
      have h10 : hRd h1 0 = cA L g := by rw [o1.2.2 _ (by omega)]; exact h0
      simp (disch := omega) only [wr_id, wr_m1, sd_t, nl_I, nl_R, nl_none, c1_I, c1_R, sh_0, sh_1, sh_2, sh_3, sh_4, true_and, and_true, ldA_A, ldB_B, ldS_S, stA_A, stB_B, aL_A, aL_B, aL_S, aC_A, hRd_eq, hRd_ne, cp6, cp8, tl_some, tl_none, List.cons_append, List.nil_append, ofI_t0, ofI_t1, Int.add_zero, Int.zero_add, x184_487, x184_488, x184_489, x184_490, x184_491, x184_492, x184_493, x184_494, x184_495, x184_496, x184_497, x184_498, h10]
      refine ⟨by omega, by omega, ?_⟩
      refine CALL_mono hc (fun v2 h2 ⟨hv2, iv2, o2⟩ => ?_)
      subst hv2
      simp (disch := omega) only [wr_id, wr_m1, sd_t, nl_I, nl_R, nl_none, c1_I, c1_R, sh_0, sh_1, sh_2, sh_3, sh_4, true_and, and_true, ldA_A, ldB_B, ldS_S, stA_A, stB_B, aL_A, aL_B, aL_S, aC_A, hRd_eq, hRd_ne, cp6, cp8, tl_some, tl_none, List.cons_append, List.nil_append, ofI_t0, ofI_t1, Int.add_zero, Int.zero_add, x184_499, x184_500, x184_501]
      exact ⟨fun _ => nx h2 hk4 iv2 o2, fun q => by first | omega | exact absurd rfl q | exact absurd trivial q | exact absurd q (by omega)⟩
    · simp (disch := omega) only [wr_id, wr_m1, sd_t, nl_I, nl_R, nl_none, c1_I, c1_R, sh_0, sh_1, sh_2, sh_3, sh_4, true_and, and_true, ldA_A, ldB_B, ldS_S, stA_A, stB_B, aL_A, aL_B, aL_S, aC_A, hRd_eq, hRd_ne, cp6, cp8, tl_some, tl_none, List.cons_append, List.nil_append, ofI_t0, ofI_t1, Int.add_zero, Int.zero_add, x184_502, x184_503]
      refine CALL_mono (pr_tear (by omega) iv) (fun v h1 ⟨r, hv, o1, hc⟩ => ?_)
      subst hv
      simp (disch := omega) only [wr_id, wr_m1, sd_t, nl_I, nl_R, nl_none, c1_I, c1_R, sh_0, sh_1, sh_2, sh_3, sh_4, true_and, and_true, ldA_A, ldB_B, ldS_S, stA_A, stB_B, aL_A, aL_B, aL_S, aC_A, hRd_eq, hRd_ne, cp6, cp8, tl_some, tl_none, List.cons_append, List.nil_append, ofI_t0, ofI_t1, Int.add_zero, Int.zero_add, x184_504, x184_505]
      refine CALL_mono hc (fun v2 h2 ⟨hv2, iv2, o2⟩ => ?_)
      subst hv2
      simp (disch := omega) only [wr_id, wr_m1, sd_t, nl_I, nl_R, nl_none, c1_I, c1_R, sh_0, sh_1, sh_2, sh_3, sh_4, true_and, and_true, ldA_A, ldB_B, ldS_S, stA_A, stB_B, aL_A, aL_B, aL_S, aC_A, hRd_eq, hRd_ne, cp6, cp8, tl_some, tl_none, List.cons_append, List.nil_append, ofI_t0, ofI_t1, Int.add_zero, Int.zero_add, x184_506, x184_507, x184_508]
      exact ⟨fun _ => nx h2 hk4 iv2 o2, fun q => by first | omega | exact absurd rfl q | exact absurd trivial q | exact absurd q (by omega)⟩
    · simp (disch := omega) only [wr_id, wr_m1, sd_t, nl_I, nl_R, nl_none, c1_I, c1_R, sh_0, sh_1, sh_2, sh_3, sh_4, true_and, and_true, ldA_A, ldB_B, ldS_S, stA_A, stB_B, aL_A, aL_B, aL_S, aC_A, hRd_eq, hRd_ne, cp6, cp8, tl_some, tl_none, List.cons_append, List.nil_append, ofI_t0, ofI_t1, Int.add_zero, Int.zero_add, x184_509, x184_510]
      refine CALL_mono (pr_judge (by omega) iv) (fun v h1 ⟨r, hv, o1, hc⟩ => ?_)
      subst hv
      simp (disch := omega) only [wr_id, wr_m1, sd_t, nl_I, nl_R, nl_none, c1_I, c1_R, sh_0, sh_1, sh_2, sh_3, sh_4, true_and, and_true, ldA_A, ldB_B, ldS_S, stA_A, stB_B, aL_A, aL_B, aL_S, aC_A, hRd_eq, hRd_ne, cp6, cp8, tl_some, tl_none, List.cons_append, List.nil_append, ofI_t0, ofI_t1, Int.add_zero, Int.zero_add, x184_511, x184_512]
      refine CALL_mono hc (fun v2 h2 ⟨hv2, iv2, o2⟩ => ?_)
      subst hv2
      simp (disch := omega) only [wr_id, wr_m1, sd_t, nl_I, nl_R, nl_none, c1_I, c1_R, sh_0, sh_1, sh_2, sh_3, sh_4, true_and, and_true, ldA_A, ldB_B, ldS_S, stA_A, stB_B, aL_A, aL_B, aL_S, aC_A, hRd_eq, hRd_ne, cp6, cp8, tl_some, tl_none, List.cons_append, List.nil_append, ofI_t0, ofI_t1, Int.add_zero, Int.zero_add, x184_513, x184_514, x184_515]
      exact ⟨fun _ => nx h2 hk4 iv2 o2, fun q => by first | omega | exact absurd rfl q | exact absurd trivial q | exact absurd q (by omega)⟩
    · simp (disch := omega) only [wr_id, wr_m1, sd_t, nl_I, nl_R, nl_none, c1_I, c1_R, sh_0, sh_1, sh_2, sh_3, sh_4, true_and, and_true, ldA_A, ldB_B, ldS_S, stA_A, stB_B, aL_A, aL_B, aL_S, aC_A, hRd_eq, hRd_ne, cp6, cp8, tl_some, tl_none, List.cons_append, List.nil_append, ofI_t0, ofI_t1, Int.add_zero, Int.zero_add, x184_516, x184_517, x184_518, x184_519, x184_520, x184_521, x184_522, h0]
      refine ⟨by omega, ?_⟩
      refine CALL_mono (pr_seed (by omega) iv g1) (fun v h1 ⟨r, hv, o1, hc⟩ => ?_)
      subst hv
      have h10 : hRd h1 0 = cA L g := by rw [o1.2.2 _ (by omega)]; exact h0
      simp (disch := omega) only [wr_id, wr_m1, sd_t, nl_I, nl_R, nl_none, c1_I, c1_R, sh_0, sh_1, sh_2, sh_3, sh_4, true_and, and_true, ldA_A, ldB_B, ldS_S, stA_A, stB_B, aL_A, aL_B, aL_S, aC_A, hRd_eq, hRd_ne, cp6, cp8, tl_some, tl_none, List.cons_append, List.nil_append, ofI_t0, ofI_t1, Int.add_zero, Int.zero_add, x184_523, x184_524, x184_525, x184_526, x184_527, x184_528, x184_529, h10]
      refine ⟨by omega, ?_⟩
      refine CALL_mono hc (fun v2 h2 ⟨hv2, iv2, o2⟩ => ?_)
      subst hv2
      simp (disch := omega) only [wr_id, wr_m1, sd_t, nl_I, nl_R, nl_none, c1_I, c1_R, sh_0, sh_1, sh_2, sh_3, sh_4, true_and, and_true, ldA_A, ldB_B, ldS_S, stA_A, stB_B, aL_A, aL_B, aL_S, aC_A, hRd_eq, hRd_ne, cp6, cp8, tl_some, tl_none, List.cons_append, List.nil_append, ofI_t0, ofI_t1, Int.add_zero, Int.zero_add, x184_530, x184_531, x184_532]
      exact ⟨fun _ => nx h2 hk4 iv2 o2, fun q => by first | omega | exact absurd rfl q | exact absurd trivial q | exact absurd q (by omega)⟩
    · simp (disch := omega) only [wr_id, wr_m1, sd_t, nl_I, nl_R, nl_none, c1_I, c1_R, sh_0, sh_1, sh_2, sh_3, sh_4, true_and, and_true, ldA_A, ldB_B, ldS_S, stA_A, stB_B, aL_A, aL_B, aL_S, aC_A, hRd_eq, hRd_ne, cp6, cp8, tl_some, tl_none, List.cons_append, List.nil_append, ofI_t0, ofI_t1, Int.add_zero, Int.zero_add, x184_533, x184_534, x184_535, x184_536, x184_537, x184_538, x184_539, h0]
      refine ⟨by omega, ?_⟩
      refine CALL_mono (pr_keep (by omega) iv g1) (fun v h1 ⟨r, hv, o1, hc⟩ => ?_)
      subst hv
      have h10 : hRd h1 0 = cA L g := by rw [o1.2.2 _ (by omega)]; exact h0
      simp (disch := omega) only [wr_id, wr_m1, sd_t, nl_I, nl_R, nl_none, c1_I, c1_R, sh_0, sh_1, sh_2, sh_3, sh_4, true_and, and_true, ldA_A, ldB_B, ldS_S, stA_A, stB_B, aL_A, aL_B, aL_S, aC_A, hRd_eq, hRd_ne, cp6, cp8, tl_some, tl_none, List.cons_append, List.nil_append, ofI_t0, ofI_t1, Int.add_zero, Int.zero_add, x184_540, x184_541, x184_542, x184_543, x184_544, x184_545, x184_546, h10]
      refine ⟨by omega, ?_⟩
      refine CALL_mono hc (fun v2 h2 ⟨hv2, iv2, o2⟩ => ?_)
      subst hv2
      simp (disch := omega) only [wr_id, wr_m1, sd_t, nl_I, nl_R, nl_none, c1_I, c1_R, sh_0, sh_1, sh_2, sh_3, sh_4, true_and, and_true, ldA_A, ldB_B, ldS_S, stA_A, stB_B, aL_A, aL_B, aL_S, aC_A, hRd_eq, hRd_ne, cp6, cp8, tl_some, tl_none, List.cons_append, List.nil_append, ofI_t0, ofI_t1, Int.add_zero, Int.zero_add, x184_547, x184_548, x184_549]
      exact ⟨fun _ => nx h2 hk4 iv2 o2, fun q => by first | omega | exact absurd rfl q | exact absurd trivial q | exact absurd q (by omega)⟩
    · simp (disch := omega) only [wr_id, wr_m1, sd_t, nl_I, nl_R, nl_none, c1_I, c1_R, sh_0, sh_1, sh_2, sh_3, sh_4, true_and, and_true, ldA_A, ldB_B, ldS_S, stA_A, stB_B, aL_A, aL_B, aL_S, aC_A, hRd_eq, hRd_ne, cp6, cp8, tl_some, tl_none, List.cons_append, List.nil_append, ofI_t0, ofI_t1, Int.add_zero, Int.zero_add, x184_550, x184_551, x184_552, x184_553, x184_554, x184_555, x184_556, h0]
      refine ⟨by omega, ?_⟩
      refine CALL_mono (pr_goBack (by omega) iv g1) (fun v h1 ⟨r, hv, o1, hc⟩ => ?_)
      subst hv
      have h10 : hRd h1 0 = cA L g := by rw [o1.2.2 _ (by omega)]; exact h0
      simp (disch := omega) only [wr_id, wr_m1, sd_t, nl_I, nl_R, nl_none, c1_I, c1_R, sh_0, sh_1, sh_2, sh_3, sh_4, true_and, and_true, ldA_A, ldB_B, ldS_S, stA_A, stB_B, aL_A, aL_B, aL_S, aC_A, hRd_eq, hRd_ne, cp6, cp8, tl_some, tl_none, List.cons_append, List.nil_append, ofI_t0, ofI_t1, Int.add_zero, Int.zero_add, x184_557, x184_558, x184_559, x184_560, x184_561, x184_562, x184_563, h10]
      refine ⟨by omega, ?_⟩
      refine CALL_mono hc (fun v2 h2 ⟨hv2, iv2, o2⟩ => ?_)
      subst hv2
      simp (disch := omega) only [wr_id, wr_m1, sd_t, nl_I, nl_R, nl_none, c1_I, c1_R, sh_0, sh_1, sh_2, sh_3, sh_4, true_and, and_true, ldA_A, ldB_B, ldS_S, stA_A, stB_B, aL_A, aL_B, aL_S, aC_A, hRd_eq, hRd_ne, cp6, cp8, tl_some, tl_none, List.cons_append, List.nil_append, ofI_t0, ofI_t1, Int.add_zero, Int.zero_add, x184_564, x184_565, x184_566]
      exact ⟨fun _ => nx h2 hk4 iv2 o2, fun q => by first | omega | exact absurd rfl q | exact absurd trivial q | exact absurd q (by omega)⟩
    · exact nx h hk4 iv Out.refl
end
