-- THE READER: numbers, the ends of clauses
theorem nK_b (f : Int → Int) (n lo hi a : Int) : 0 ≤ nK f n lo hi a ∧ nK f n lo hi a ≤ 2 := by
  unfold nK
  split
  · omega
  · split <;> omega
/-- the value of a text's figures: within three of them -/
theorem nvaF_b {f : Int → Int} {n a0 : Int} (hn : n ≤ 220) : ∀ (m : Nat) (a v : Int), (∀ i, a ≤ i → i < a + (m : Int) → 48 ≤ f i ∧ f i ≤ 57) → a0 ≤ a → 0 ≤ v → v ≤ 999 → (a - a0 = 0 → v = 0) → (a - a0 = 1 → v ≤ 9) → (a - a0 = 2 → v ≤ 99) → 0 ≤ nvaF f a0 m a v ∧ nvaF f a0 m a v ≤ 999 := by
  intro m
  induction m with
  | zero => intro a v hf h0 h1 h2 h3 h4 h5; exact ⟨h1, h2⟩
  | succ m ih =>
    intro a v hf h0 h1 h2 h3 h4 h5
    have := hf a (by omega) (by omega)
    rw [nvaF]
    refine ih (a + 1) _ (fun i q1 q2 => hf i (by omega) (by omega)) (by omega) ?_ ?_ ?_ ?_ ?_ <;> split <;> omega
theorem dgF_fig {f : Int → Int} {n : Int} : ∀ (m : Nat) (a i : Int), a ≤ i → i < dgF f n m a → 48 ≤ f i ∧ f i ≤ 57 := by
  intro m
  induction m with
  | zero => intro a i h1 h2; rw [dgF] at h2; omega
  | succ m ih =>
    intro a i h1 h2
    rw [dgF] at h2
    split at h2
    · rename_i q
      by_cases e : i = a
      · rw [e]; exact q.2
      · exact ih (a + 1) i (by omega) h2
    · omega
theorem nV_b {f : Int → Int} {n a : Int} (hn : n ≤ 220) (ha : a ≤ n) : 0 ≤ nV f n a ∧ nV f n a ≤ 999 := by
  have hb := nB_b (f := f) ha
  refine nvaF_b hn _ _ 0 (fun i q1 q2 => ?_) (by omega) (by omega) (by omega) (fun _ => rfl) (fun _ => by omega) (fun _ => by omega)
  exact dgF_fig (n := n) (n - sk f n a).toNat (sk f n a) i q1 (by have : dgF f n (n - sk f n a).toNat (sk f n a) = nB f n a := rfl; omega)
section
variable {d : Nat} {h h0 : LHeap} {Q : Option Value → LHeap → Prop} {f : Int → Int} {n tr pl a na lo hi : Int}
theorem l_num (hd : 3 ≤ d) (hT : TxB f n) (hl : -2 ≤ lo ∧ lo ≤ 1000) (hh : -2 ≤ hi ∧ hi ≤ 1000) : ∀ (m : Nat) (a v : Int) (h : LHeap), (m : Int) = n - a → 0 ≤ na → na ≤ a → RdAt f n 0 pl a na h → 0 ≤ v → v ≤ 999 → (a - na = 0 → v = 0) → (a - na = 1 → v ≤ 9) → (a - na = 2 → v ≤ 99) → WP d 40 45 [some (.ref 2), some (vI lo), some (vI hi), some (vI (nvaF f na (dg f n a - a).toNat a v))] [] (hWr h 2 (oRead 3 4 n 0 pl (dg f n a) na)) Q → WPC d 40 14 [some (.ref 2), some (vI lo), some (vI hi), some (vI v)] [] h Q := by
  intro m
  induction m with
  | zero =>
    intro a v h hm h0 hna hr v0 v1 v2 v3 v4 kk
    have hr1 := hr.1
    have : a = n := by omega
    subst this
    have hn := hT.1
    rw [WPC_iff]
    rw [dg_eq, if_neg (by omega), hWr_self hr1, show (a - a).toNat = 0 by omega, nvaF] at kk
    simp (disch := omega) only [wr_id, wr_m1, sd_t, nl_I, nl_R, nl_none, c1_I, c1_R, sh_0, sh_1, sh_2, sh_3, sh_4, true_and, and_true, ldA_A, ldB_B, ldS_S, stA_A, stB_B, aL_A, aL_B, aL_S, aC_A, hRd_eq, hRd_ne, cp6, cp8, tl_some, tl_none, List.cons_append, List.nil_append, ofI_t0, ofI_t1, Int.add_zero, Int.zero_add, x40_14, x40_15, x40_16, x40_17, x40_18, gf5_5, gf5_2, hr1]
    exact ⟨fun _ => kk, fun z => by first | omega | exact absurd trivial z | exact absurd (by omega) z⟩
  | succ m ih =>
    intro a v h hm h0 hna hr v0 v1 v2 v3 v4 kk
    have hr1 := hr.1
    have hb := hT.2 a (by omega) (by omega)
    have hn := hT.1
    rw [dg_eq] at kk
    rw [WPC_iff]
    simp (disch := omega) only [wr_id, wr_m1, sd_t, nl_I, nl_R, nl_none, c1_I, c1_R, sh_0, sh_1, sh_2, sh_3, sh_4, true_and, and_true, ldA_A, ldB_B, ldS_S, stA_A, stB_B, aL_A, aL_B, aL_S, aC_A, hRd_eq, hRd_ne, cp6, cp8, tl_some, tl_none, List.cons_append, List.nil_append, ofI_t0, ofI_t1, Int.add_zero, Int.zero_add, x40_14, x40_15, x40_16, x40_17, x40_18, x40_19, x40_20, gf5_5, gf5_2, hr1]
    refine ⟨fun z => by omega, fun _ => ?_⟩
    refine s_atFig (by omega) hT hr ⟨by omega, by omega⟩ ?_
    by_cases q : 48 ≤ f a ∧ f a ≤ 57
    · rw [if_pos ⟨by omega, q⟩] at kk ⊢
      have hdb := dg_b (f := f) (n := n) (a := a + 1) (by omega)
      rw [show (dg f n (a + 1) - a).toNat = (dg f n (a + 1) - (a + 1)).toNat + 1 by omega, nvaF] at kk
      simp (disch := omega) only [wr_id, wr_m1, sd_t, nl_I, nl_R, nl_none, c1_I, c1_R, sh_0, sh_1, sh_2, sh_3, sh_4, true_and, and_true, ldA_A, ldB_B, ldS_S, stA_A, stB_B, aL_A, aL_B, aL_S, aC_A, hRd_eq, hRd_ne, cp6, cp8, tl_some, tl_none, List.cons_append, List.nil_append, ofI_t0, ofI_t1, Int.add_zero, Int.zero_add, x40_21, x40_22, x40_23, x40_24, x40_25, x40_26, x40_27, x40_28, x40_29, x40_30, x40_31, x40_32, x40_33, gf5_5, gf5_6, gf5_2, hr1]
      refine ⟨fun z => by first | omega | exact absurd rfl z, fun _ => ⟨fun z => ?_, fun z => ?_⟩⟩
      · rw [if_neg (show ¬ a - na < 3 by omega)] at kk
        simp (disch := omega) only [wr_id, wr_m1, sd_t, nl_I, nl_R, nl_none, c1_I, c1_R, sh_0, sh_1, sh_2, sh_3, sh_4, true_and, and_true, ldA_A, ldB_B, ldS_S, stA_A, stB_B, aL_A, aL_B, aL_S, aC_A, hRd_eq, hRd_ne, cp6, cp8, tl_some, tl_none, List.cons_append, List.nil_append, ofI_t0, ofI_t1, Int.add_zero, Int.zero_add, x40_38, x40_39, x40_40, x40_41, x40_42, x40_43, x40_44, x40_13, gf5_5, pf5_5, hr1]
        refine ih (a + 1) v _ (by omega) h0 (by omega) (hr.at 0 pl) v0 v1 (fun _ => by omega) (fun _ => by omega) (fun _ => by omega) ?_
        rw [hWr_same]
        exact kk
      · rw [if_pos (show a - na < 3 by omega)] at kk
        refine s_letter (by omega) hr hT ⟨by omega, by omega⟩ ?_
        rw [if_pos (show a < n by omega)]
        simp (disch := omega) only [wr_id, wr_m1, sd_t, nl_I, nl_R, nl_none, c1_I, c1_R, sh_0, sh_1, sh_2, sh_3, sh_4, true_and, and_true, ldA_A, ldB_B, ldS_S, stA_A, stB_B, aL_A, aL_B, aL_S, aC_A, hRd_eq, hRd_ne, cp6, cp8, tl_some, tl_none, List.cons_append, List.nil_append, ofI_t0, ofI_t1, Int.add_zero, Int.zero_add, x40_34, x40_35, x40_36, x40_37, x40_38, x40_39, x40_40, x40_41, x40_42, x40_43, x40_44, x40_13, gf5_5, pf5_5, hr1]
        refine ih (a + 1) _ _ (by omega) h0 (by omega) (hr.at 0 pl) (by omega) (by omega) (fun _ => by omega) (fun _ => by omega) (fun _ => by omega) ?_
        rw [hWr_same]
        exact kk
    · rw [if_neg (fun z => q z.2)] at kk ⊢
      rw [hWr_self hr1, show (a - a).toNat = 0 by omega, nvaF] at kk
      simp (disch := omega) only [wr_id, wr_m1, sd_t, nl_I, nl_R, nl_none, c1_I, c1_R, sh_0, sh_1, sh_2, sh_3, sh_4, true_and, and_true, ldA_A, ldB_B, ldS_S, stA_A, stB_B, aL_A, aL_B, aL_S, aC_A, hRd_eq, hRd_ne, cp6, cp8, tl_some, tl_none, List.cons_append, List.nil_append, ofI_t0, ofI_t1, Int.add_zero, Int.zero_add, x40_21]
      exact ⟨fun _ => kk, fun z => by first | omega | exact absurd trivial z | exact absurd rfl z⟩
theorem s_num (hd : 4 ≤ d) (hT : TxB f n) (hl : -2 ≤ lo ∧ lo ≤ 1000) (hh : -2 ≤ hi ∧ hi ≤ 1000) (hr : RdAt f n 0 pl a na h) (h0 : 0 ≤ a ∧ a ≤ n) (kk : ∀ h1, RdAt f n (nK f n lo hi a) (if nK f n lo hi a = 0 then pl else nA f n a) (nB f n a) (nA f n a) h1 → Out 2 2 h h1 → Q (some (vI (nV f n a))) h1) : CALL d 40 [.ref 2, vI lo, vI hi] h Q := by
  have hb := nB_b (f := f) h0.2
  have hn := hT.1
  refine cl40 (by omega) hr.1 ?_
  simp (disch := omega) only [wr_id, wr_m1, sd_t, nl_I, nl_R, nl_none, c1_I, c1_R, sh_0, sh_1, sh_2, sh_3, sh_4, true_and, and_true, ldA_A, ldB_B, ldS_S, stA_A, stB_B, aL_A, aL_B, aL_S, aC_A, hRd_eq, hRd_ne, cp6, cp8, tl_some, tl_none, List.cons_append, List.nil_append, ofI_t0, ofI_t1, Int.add_zero, Int.zero_add, x40_0, x40_1]
  refine s_skip (by omega) hT hr h0 ?_
  have e0 : sk f n a = nA f n a := rfl
  rw [e0]
  simp (disch := omega) only [wr_id, wr_m1, sd_t, nl_I, nl_R, nl_none, c1_I, c1_R, sh_0, sh_1, sh_2, sh_3, sh_4, true_and, and_true, ldA_A, ldB_B, ldS_S, stA_A, stB_B, aL_A, aL_B, aL_S, aC_A, hRd_eq, hRd_ne, cp6, cp8, tl_some, tl_none, List.cons_append, List.nil_append, ofI_t0, ofI_t1, Int.add_zero, Int.zero_add, x40_2, x40_3, x40_4, x40_5, x40_6, x40_7, x40_8, x40_9, x40_10, x40_11, x40_12, x40_13, gf5_3, gf5_5, pf5_6, hWr_same]
  refine ⟨fun _ => ?_, fun z => by first | omega | exact absurd trivial z | exact absurd rfl z⟩
  have o1 : Out 2 2 h (hWr h 2 (oRead 3 4 n 0 pl (nA f n a) (nA f n a))) := Out.refl.wr (by omega) (by omega)
  refine l_num (by omega) hT hl hh (n - nA f n a).toNat (nA f n a) 0 _ (by omega) (by omega) (by omega) (hr.at 0 pl) (by omega) (by omega) (fun _ => rfl) (fun _ => by omega) (fun _ => by omega) ?_
  have hv : nvaF f (nA f n a) (dg f n (nA f n a) - nA f n a).toNat (nA f n a) 0 = nV f n a := rfl
  have hB : dg f n (nA f n a) = nB f n a := rfl
  rw [hv, hB, hWr_same]
  have hvb := nV_b (f := f) hn.2 h0.2
  have o2 : Out 2 2 h (hWr h 2 (oRead 3 4 n 0 pl (nB f n a) (nA f n a))) := Out.refl.wr (by omega) (by omega)
  have r2 : RdAt f n 0 pl (nB f n a) (nA f n a) (hWr h 2 (oRead 3 4 n 0 pl (nB f n a) (nA f n a))) := hr.at 0 pl
  have hk := nK_b f n lo hi a
  -- the verdict
  have fin : ∀ (x : Int), 1 ≤ x → nK f n lo hi a = x → Q (some (vI (nV f n a))) (hWr (hWr h 2 (oRead 3 4 n 0 pl (nB f n a) (nA f n a))) 2 (oRead 3 4 n x (nA f n a) (nB f n a) (nA f n a))) := by
    intro x hx e
    refine kk _ ?_ (o2.wr (by omega) (by omega))
    rw [e, if_neg (by omega)]
    exact r2.at x _
  simp (disch := omega) only [wr_id, wr_m1, sd_t, nl_I, nl_R, nl_none, c1_I, c1_R, sh_0, sh_1, sh_2, sh_3, sh_4, true_and, and_true, ldA_A, ldB_B, ldS_S, stA_A, stB_B, aL_A, aL_B, aL_S, aC_A, hRd_eq, hRd_ne, cp6, cp8, tl_some, tl_none, List.cons_append, List.nil_append, ofI_t0, ofI_t1, Int.add_zero, Int.zero_add, x40_45, x40_46, x40_47, x40_48, x40_49, x40_50, x40_51, x40_52, x40_53, x40_54, x40_56, x40_57, x40_58, x40_59, x40_60, x40_61, x40_62, x40_63, x40_64, x40_65, x40_66, x40_67, x40_68, x40_69, x40_70, x40_71, x40_72, x40_73, x40_74, x40_75, gf5_5, gf5_6]
  have bl2 : nK f n lo hi a = 2 → CALL (d - 1) 42 [.ref 2, vI 2, vI (nA f n a)] (hWr h 2 (oRead 3 4 n 0 pl (nB f n a) (nA f n a))) (fun v h => WP (d - 1) 40 75 [some (.ref 2), some (vI lo), some (vI hi), some (vI (nV f n a))] (vI (nV f n a) :: (v.toList ++ [])) h Q) := by
    intro e
    refine s_blame (by omega) r2 (by omega) (fun _ => ?_) (fun z => absurd rfl z)
    simp (disch := omega) only [wr_id, wr_m1, sd_t, nl_I, nl_R, nl_none, c1_I, c1_R, sh_0, sh_1, sh_2, sh_3, sh_4, true_and, and_true, ldA_A, ldB_B, ldS_S, stA_A, stB_B, aL_A, aL_B, aL_S, aC_A, hRd_eq, hRd_ne, cp6, cp8, tl_some, tl_none, List.cons_append, List.nil_append, ofI_t0, ofI_t1, Int.add_zero, Int.zero_add, x40_75]
    exact fin 2 (by omega) e
  have e2 : ∀ (_ : ¬ nB f n a = nA f n a) (_ : nB f n a - nA f n a > 3 ∨ nV f n a < lo ∨ nV f n a > hi), nK f n lo hi a = 2 := by
    intro z1 z2
    unfold nK
    rw [if_neg z1, if_pos z2]
  refine ⟨fun z1 => ⟨fun z2 => bl2 (e2 z1 (by omega)), fun z2 => ⟨fun z3 => bl2 (e2 z1 (by omega)), fun z3 => ⟨fun z4 => ?_, fun z4 => bl2 (e2 z1 (by omega))⟩⟩⟩, fun z => ?_⟩
  · have e : nK f n lo hi a = 0 := by
      unfold nK
      rw [if_neg z1, if_neg (by omega)]
    refine kk _ ?_ o2
    rw [e, if_pos rfl]
    exact r2
  · have e1 : nB f n a = nA f n a := by omega
    have e : nK f n lo hi a = 1 := by
      unfold nK
      rw [if_pos e1]
    refine s_blame (by omega) r2 (by omega) (fun _ => ?_) (fun z => absurd rfl z)
    simp (disch := omega) only [wr_id, wr_m1, sd_t, nl_I, nl_R, nl_none, c1_I, c1_R, sh_0, sh_1, sh_2, sh_3, sh_4, true_and, and_true, ldA_A, ldB_B, ldS_S, stA_A, stB_B, aL_A, aL_B, aL_S, aC_A, hRd_eq, hRd_ne, cp6, cp8, tl_some, tl_none, List.cons_append, List.nil_append, ofI_t0, ofI_t1, Int.add_zero, Int.zero_add, x40_55, x40_74, x40_75]
    have := fin 1 (by omega) e
    rw [e1] at this ⊢
    exact this
theorem s_numT (hd : 4 ≤ d) (hT : TxB f n) (hr : RdAt f n tr pl a na h) (htr : 1 ≤ tr ∧ tr ≤ 4) (h0 : 0 ≤ a ∧ a ≤ n) (kk : ∀ h1, RdAt f n tr pl (sk f n a) na h1 → Out 2 2 h h1 → Q (some (vI 0)) h1) : CALL d 40 [.ref 2, vI lo, vI hi] h Q := by
  refine cl40 (by omega) hr.1 ?_
  simp (disch := omega) only [wr_id, wr_m1, sd_t, nl_I, nl_R, nl_none, c1_I, c1_R, sh_0, sh_1, sh_2, sh_3, sh_4, true_and, and_true, ldA_A, ldB_B, ldS_S, stA_A, stB_B, aL_A, aL_B, aL_S, aC_A, hRd_eq, hRd_ne, cp6, cp8, tl_some, tl_none, List.cons_append, List.nil_append, ofI_t0, ofI_t1, Int.add_zero, Int.zero_add, x40_0, x40_1]
  refine s_skip (by omega) hT hr h0 ?_
  simp (disch := omega) only [wr_id, wr_m1, sd_t, nl_I, nl_R, nl_none, c1_I, c1_R, sh_0, sh_1, sh_2, sh_3, sh_4, true_and, and_true, ldA_A, ldB_B, ldS_S, stA_A, stB_B, aL_A, aL_B, aL_S, aC_A, hRd_eq, hRd_ne, cp6, cp8, tl_some, tl_none, List.cons_append, List.nil_append, ofI_t0, ofI_t1, Int.add_zero, Int.zero_add, x40_2, x40_3, x40_4, x40_5, x40_6, gf5_3]
  exact ⟨fun z => by omega, fun _ => kk _ (hr.at tr pl) (Out.refl.wr (by omega) (by omega))⟩
theorem s_end (hd : 4 ≤ d) (hT : TxB f n) (hr : RdAt f n 0 pl a na h) (h0 : 0 ≤ a ∧ a ≤ n) (k1 : sk f n a < n → f (sk f n a) = 59 → ∀ h1, RdAt f n 0 pl (sk f n a + 1) na h1 → Out 2 2 h h1 → Q none h1) (k2 : ¬ (sk f n a < n ∧ f (sk f n a) = 59) → ∀ h1, RdAt f n 1 (sk f n a) (sk f n a) na h1 → Out 2 2 h h1 → Q none h1) : CALL d 41 [.ref 2] h Q := by
  have hb := sk_b (f := f) h0.2
  have hn := hT.1
  have hv := fun z => hT.2 (sk f n a) (by omega) z
  refine cl41 (by omega) hr.1 ?_
  simp (disch := omega) only [wr_id, wr_m1, sd_t, nl_I, nl_R, nl_none, c1_I, c1_R, sh_0, sh_1, sh_2, sh_3, sh_4, true_and, and_true, ldA_A, ldB_B, ldS_S, stA_A, stB_B, aL_A, aL_B, aL_S, aC_A, hRd_eq, hRd_ne, cp6, cp8, tl_some, tl_none, List.cons_append, List.nil_append, ofI_t0, ofI_t1, Int.add_zero, Int.zero_add, x41_0, x41_1]
  refine s_skip (by omega) hT hr h0 ?_
  have r1 : RdAt f n 0 pl (sk f n a) na (hWr h 2 (oRead 3 4 n 0 pl (sk f n a) na)) := hr.at 0 pl
  have o1 : Out 2 2 h (hWr h 2 (oRead 3 4 n 0 pl (sk f n a) na)) := Out.refl.wr (by omega) (by omega)
  simp (disch := omega) only [wr_id, wr_m1, sd_t, nl_I, nl_R, nl_none, c1_I, c1_R, sh_0, sh_1, sh_2, sh_3, sh_4, true_and, and_true, ldA_A, ldB_B, ldS_S, stA_A, stB_B, aL_A, aL_B, aL_S, aC_A, hRd_eq, hRd_ne, cp6, cp8, tl_some, tl_none, List.cons_append, List.nil_append, ofI_t0, ofI_t1, Int.add_zero, Int.zero_add, x41_2, x41_3]
  refine s_letter (by omega) r1 hT (by omega) ?_
  have bad : ¬ (sk f n a < n ∧ f (sk f n a) = 59) → CALL (d - 1) 42 [.ref 2, vI 1, vI (sk f n a)] (hWr h 2 (oRead 3 4 n 0 pl (sk f n a) na)) (fun v h => WP (d - 1) 41 18 [some (.ref 2)] (v.toList ++ []) h Q) := by
    intro z
    refine s_blame (by omega) r1 (by omega) (fun _ => ?_) (fun z => absurd rfl z)
    simp (disch := omega) only [wr_id, wr_m1, sd_t, nl_I, nl_R, nl_none, c1_I, c1_R, sh_0, sh_1, sh_2, sh_3, sh_4, true_and, and_true, ldA_A, ldB_B, ldS_S, stA_A, stB_B, aL_A, aL_B, aL_S, aC_A, hRd_eq, hRd_ne, cp6, cp8, tl_some, tl_none, List.cons_append, List.nil_append, ofI_t0, ofI_t1, Int.add_zero, Int.zero_add, x41_18]
    exact k2 z _ (r1.at 1 _) (o1.wr (by omega) (by omega))
  by_cases q : sk f n a < n
  · have hv := hv q
    rw [if_pos q]
    simp (disch := omega) only [wr_id, wr_m1, sd_t, nl_I, nl_R, nl_none, c1_I, c1_R, sh_0, sh_1, sh_2, sh_3, sh_4, true_and, and_true, ldA_A, ldB_B, ldS_S, stA_A, stB_B, aL_A, aL_B, aL_S, aC_A, hRd_eq, hRd_ne, cp6, cp8, tl_some, tl_none, List.cons_append, List.nil_append, ofI_t0, ofI_t1, Int.add_zero, Int.zero_add, x41_0, x41_1, x41_2, x41_3, x41_4, x41_5, x41_6, x41_7, x41_8, x41_9, x41_10, x41_11, x41_12, x41_13, x41_14, x41_15, x41_16, x41_17, x41_18, gf5_5, pf5_5]
    refine ⟨fun z => bad (by omega), fun z => k1 q (by omega) _ ?_ ?_⟩
    · rw [hWr_same]; exact hr.at 0 pl
    · rw [hWr_same]; exact Out.refl.wr (by omega) (by omega)
  · rw [if_neg q]
    simp (disch := omega) only [wr_id, wr_m1, sd_t, nl_I, nl_R, nl_none, c1_I, c1_R, sh_0, sh_1, sh_2, sh_3, sh_4, true_and, and_true, ldA_A, ldB_B, ldS_S, stA_A, stB_B, aL_A, aL_B, aL_S, aC_A, hRd_eq, hRd_ne, cp6, cp8, tl_some, tl_none, List.cons_append, List.nil_append, ofI_t0, ofI_t1, Int.add_zero, Int.zero_add, x41_0, x41_1, x41_2, x41_3, x41_4, x41_5, x41_6, x41_7, x41_8, x41_9, x41_10, x41_11, x41_12, x41_13, x41_14, x41_15, x41_16, x41_17, x41_18, gf5_5, pf5_5]
    exact ⟨fun z => bad (by omega), fun z => by first | omega | exact absurd (by omega) z⟩
/-- behind a fault: the reading goes on, nothing comes of it -/
theorem s_endT (hd : 4 ≤ d) (hT : TxB f n) (hr : RdAt f n tr pl a na h) (htr : 1 ≤ tr ∧ tr ≤ 4) (h0 : 0 ≤ a ∧ a ≤ n) (kk : ∀ h1 a1, a ≤ a1 → a1 ≤ n → RdAt f n tr pl a1 na h1 → Out 2 2 h h1 → Q none h1) : CALL d 41 [.ref 2] h Q := by
  have hb := sk_b (f := f) h0.2
  have hn := hT.1
  have hv := fun z => hT.2 (sk f n a) (by omega) z
  refine cl41 (by omega) hr.1 ?_
  simp (disch := omega) only [wr_id, wr_m1, sd_t, nl_I, nl_R, nl_none, c1_I, c1_R, sh_0, sh_1, sh_2, sh_3, sh_4, true_and, and_true, ldA_A, ldB_B, ldS_S, stA_A, stB_B, aL_A, aL_B, aL_S, aC_A, hRd_eq, hRd_ne, cp6, cp8, tl_some, tl_none, List.cons_append, List.nil_append, ofI_t0, ofI_t1, Int.add_zero, Int.zero_add, x41_0, x41_1]
  refine s_skip (by omega) hT hr h0 ?_
  have r1 : RdAt f n tr pl (sk f n a) na (hWr h 2 (oRead 3 4 n tr pl (sk f n a) na)) := hr.at tr pl
  have o1 : Out 2 2 h (hWr h 2 (oRead 3 4 n tr pl (sk f n a) na)) := Out.refl.wr (by omega) (by omega)
  simp (disch := omega) only [wr_id, wr_m1, sd_t, nl_I, nl_R, nl_none, c1_I, c1_R, sh_0, sh_1, sh_2, sh_3, sh_4, true_and, and_true, ldA_A, ldB_B, ldS_S, stA_A, stB_B, aL_A, aL_B, aL_S, aC_A, hRd_eq, hRd_ne, cp6, cp8, tl_some, tl_none, List.cons_append, List.nil_append, ofI_t0, ofI_t1, Int.add_zero, Int.zero_add, x41_2, x41_3]
  refine s_letter (by omega) r1 hT (by omega) ?_
  have bad : CALL (d - 1) 42 [.ref 2, vI 1, vI (sk f n a)] (hWr h 2 (oRead 3 4 n tr pl (sk f n a) na)) (fun v h => WP (d - 1) 41 18 [some (.ref 2)] (v.toList ++ []) h Q) := by
    refine s_blame (by omega) r1 (by omega) (fun z => by omega) (fun z => ?_)
    simp (disch := omega) only [wr_id, wr_m1, sd_t, nl_I, nl_R, nl_none, c1_I, c1_R, sh_0, sh_1, sh_2, sh_3, sh_4, true_and, and_true, ldA_A, ldB_B, ldS_S, stA_A, stB_B, aL_A, aL_B, aL_S, aC_A, hRd_eq, hRd_ne, cp6, cp8, tl_some, tl_none, List.cons_append, List.nil_append, ofI_t0, ofI_t1, Int.add_zero, Int.zero_add, x41_18]
    exact kk _ _ hb.1 hb.2 r1 o1
  by_cases q : sk f n a < n
  · have hv := hv q
    rw [if_pos q]
    simp (disch := omega) only [wr_id, wr_m1, sd_t, nl_I, nl_R, nl_none, c1_I, c1_R, sh_0, sh_1, sh_2, sh_3, sh_4, true_and, and_true, ldA_A, ldB_B, ldS_S, stA_A, stB_B, aL_A, aL_B, aL_S, aC_A, hRd_eq, hRd_ne, cp6, cp8, tl_some, tl_none, List.cons_append, List.nil_append, ofI_t0, ofI_t1, Int.add_zero, Int.zero_add, x41_0, x41_1, x41_2, x41_3, x41_4, x41_5, x41_6, x41_7, x41_8, x41_9, x41_10, x41_11, x41_12, x41_13, x41_14, x41_15, x41_16, x41_17, x41_18, gf5_5, pf5_5]
    refine ⟨fun z => bad, fun z => kk _ (sk f n a + 1) (by omega) (by omega) ?_ ?_⟩
    · rw [hWr_same]; exact hr.at tr pl
    · rw [hWr_same]; exact Out.refl.wr (by omega) (by omega)
  · rw [if_neg q]
    simp (disch := omega) only [wr_id, wr_m1, sd_t, nl_I, nl_R, nl_none, c1_I, c1_R, sh_0, sh_1, sh_2, sh_3, sh_4, true_and, and_true, ldA_A, ldB_B, ldS_S, stA_A, stB_B, aL_A, aL_B, aL_S, aC_A, hRd_eq, hRd_ne, cp6, cp8, tl_some, tl_none, List.cons_append, List.nil_append, ofI_t0, ofI_t1, Int.add_zero, Int.zero_add, x41_0, x41_1, x41_2, x41_3, x41_4, x41_5, x41_6, x41_7, x41_8, x41_9, x41_10, x41_11, x41_12, x41_13, x41_14, x41_15, x41_16, x41_17, x41_18, gf5_5, pf5_5]
    exact ⟨fun z => bad, fun z => by first | omega | exact absurd (by omega) z⟩
end
