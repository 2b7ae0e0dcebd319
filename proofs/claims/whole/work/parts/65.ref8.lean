-- THE REFERENCE: the first order; kept and put back
section
variable {d : Nat} {h : LHeap} {Q : Option Value → LHeap → Prop} {wk wt dr tk bh g w D U : Int → Int} {M P J sh x y s p pl : Int} {z : Nat → Int} {L O : List Int}
theorem l_msave : ∀ (n : Nat) (k : Int) (w : Int → Int) (h : LHeap), (n : Int) = 24 - k → 0 ≤ k → hRd h 156 = oM z → hRd h 160 = cA 24 g → hRd h 171 = cA 24 w → (∀ j, 0 ≤ j → j < k → w j = g j) → (∀ h1, hRd h1 171 = cA 24 g → Out 171 171 h h1 → Q none h1) → WPC d 152 3 [some (.ref 156), some (vI k)] [] h Q := by
  intro n
  induction n with
  | zero =>
    intro k w h hn hk h1 hs hw hj kk
    rw [WPC_iff]
    simp (disch := omega) only [wr_id, wr_m1, sd_t, nl_I, nl_R, nl_none, c1_I, c1_R, sh_0, sh_1, sh_2, sh_3, sh_4, true_and, and_true, ldA_A, ldB_B, ldS_S, stA_A, stB_B, aL_A, aL_B, aL_S, aC_A, hRd_eq, hRd_ne, cp6, cp8, tl_some, tl_none, List.cons_append, List.nil_append, ofI_t0, ofI_t1, Int.add_zero, Int.zero_add, x152_3, x152_4, x152_5, x152_16]
    refine ⟨fun _ => kk h ?_ Out.refl, fun q => by omega⟩
    rw [hw]
    exact cA_ext (fun j h0 h1 => hj j h0 (by omega))
  | succ n ih =>
    intro k w h hn hk h1 hs hw hj kk
    rw [WPC_iff]
    simp (disch := omega) only [wr_id, wr_m1, sd_t, nl_I, nl_R, nl_none, c1_I, c1_R, sh_0, sh_1, sh_2, sh_3, sh_4, true_and, and_true, ldA_A, ldB_B, ldS_S, stA_A, stB_B, aL_A, aL_B, aL_S, aC_A, hRd_eq, hRd_ne, cp6, cp8, tl_some, tl_none, List.cons_append, List.nil_append, ofI_t0, ofI_t1, Int.add_zero, Int.zero_add, x152_2, x152_3, x152_4, x152_5, x152_6, x152_7, x152_8, x152_9, x152_10, x152_11, x152_12, x152_13, x152_14, x152_15, gf11_0, pf11_0, gf11_1, pf11_1, gf11_2, pf11_2, gf11_3, gf11_4, gf11_5, gf11_6, gf11_7, pf11_7, gf11_8, gf11_9, pf11_9, gf11_10, pf11_10, gf11_11, pf11_11, gf11_12, pf11_12, gf11_13, pf11_13, gf11_14, gf11_15, pf11_15, gf11_16, gf11_17, pf11_17, gf11_18, gf11_19, gf11_20, gf11_21, gf11_22, gf11_23, gf11_24, pf11_24, gf11_25, gf11_26, gf11_27, gf11_28, pf11_28, gf11_29, pf11_29, gf11_30, gf11_31, gf11_32, pf11_32, gf11_33, gf11_34, gf11_35, pf11_35, gf11_36, gf11_37, gf11_38, gf11_39, uN_eq, uN_ne, h1, hs, hw]
    have ow : Out 171 171 h (hWr h 171 (cA 24 (uA w k (g k)))) := Out.refl.wr (by omega) (by omega)
    refine ⟨fun q => by omega, fun _ => ⟨by omega, by omega, ?_⟩⟩
    refine ih (k + 1) (uA w k (g k)) _ (by omega) (by omega) (by rw [hRd_ne (by omega)]; exact h1) (by rw [hRd_ne (by omega)]; exact hs) hRd_eq (fun j h0 h1 => ?_) (fun h2 e2 o2 => kk h2 e2 (ow.trans o2))
    unfold uA
    split
    · rename_i e; rw [e]
    · exact hj j h0 (by omega)
theorem m_save (hd : 1 ≤ d) (h1 : hRd h 156 = oM z) (hs : hRd h 160 = cA 24 g) (hw : hRd h 171 = cA 24 w) (kk : ∀ h1, hRd h1 171 = cA 24 g → Out 171 171 h h1 → Q none h1) : CALL d 152 [.ref 156] h Q := by
  refine cl152 (by omega) h1 ?_
  simp (disch := omega) only [wr_id, wr_m1, sd_t, nl_I, nl_R, nl_none, c1_I, c1_R, sh_0, sh_1, sh_2, sh_3, sh_4, true_and, and_true, ldA_A, ldB_B, ldS_S, stA_A, stB_B, aL_A, aL_B, aL_S, aC_A, hRd_eq, hRd_ne, cp6, cp8, tl_some, tl_none, List.cons_append, List.nil_append, ofI_t0, ofI_t1, Int.add_zero, Int.zero_add, x152_0, x152_1, x152_2]
  exact l_msave 24 0 w h (by omega) (by omega) h1 hs hw (fun j h0 h1 => by omega) kk
theorem l_mputBack : ∀ (n : Nat) (k : Int) (w : Int → Int) (h : LHeap), (n : Int) = 24 - k → 0 ≤ k → hRd h 156 = oM z → hRd h 171 = cA 24 g → hRd h 160 = cA 24 w → (∀ j, 0 ≤ j → j < k → w j = g j) → (∀ h1, hRd h1 160 = cA 24 g → Out 160 160 h h1 → Q none h1) → WPC d 153 3 [some (.ref 156), some (vI k)] [] h Q := by
  intro n
  induction n with
  | zero =>
    intro k w h hn hk h1 hs hw hj kk
    rw [WPC_iff]
    simp (disch := omega) only [wr_id, wr_m1, sd_t, nl_I, nl_R, nl_none, c1_I, c1_R, sh_0, sh_1, sh_2, sh_3, sh_4, true_and, and_true, ldA_A, ldB_B, ldS_S, stA_A, stB_B, aL_A, aL_B, aL_S, aC_A, hRd_eq, hRd_ne, cp6, cp8, tl_some, tl_none, List.cons_append, List.nil_append, ofI_t0, ofI_t1, Int.add_zero, Int.zero_add, x153_3, x153_4, x153_5, x153_16]
    refine ⟨fun _ => kk h ?_ Out.refl, fun q => by omega⟩
    rw [hw]
    exact cA_ext (fun j h0 h1 => hj j h0 (by omega))
  | succ n ih =>
    intro k w h hn hk h1 hs hw hj kk
    rw [WPC_iff]
    simp (disch := omega) only [wr_id, wr_m1, sd_t, nl_I, nl_R, nl_none, c1_I, c1_R, sh_0, sh_1, sh_2, sh_3, sh_4, true_and, and_true, ldA_A, ldB_B, ldS_S, stA_A, stB_B, aL_A, aL_B, aL_S, aC_A, hRd_eq, hRd_ne, cp6, cp8, tl_some, tl_none, List.cons_append, List.nil_append, ofI_t0, ofI_t1, Int.add_zero, Int.zero_add, x153_2, x153_3, x153_4, x153_5, x153_6, x153_7, x153_8, x153_9, x153_10, x153_11, x153_12, x153_13, x153_14, x153_15, gf11_0, pf11_0, gf11_1, pf11_1, gf11_2, pf11_2, gf11_3, gf11_4, gf11_5, gf11_6, gf11_7, pf11_7, gf11_8, gf11_9, pf11_9, gf11_10, pf11_10, gf11_11, pf11_11, gf11_12, pf11_12, gf11_13, pf11_13, gf11_14, gf11_15, pf11_15, gf11_16, gf11_17, pf11_17, gf11_18, gf11_19, gf11_20, gf11_21, gf11_22, gf11_23, gf11_24, pf11_24, gf11_25, gf11_26, gf11_27, gf11_28, pf11_28, gf11_29, pf11_29, gf11_30, gf11_31, gf11_32, pf11_32, gf11_33, gf11_34, gf11_35, pf11_35, gf11_36, gf11_37, gf11_38, gf11_39, uN_eq, uN_ne, h1, hs, hw]
    have ow : Out 160 160 h (hWr h 160 (cA 24 (uA w k (g k)))) := Out.refl.wr (by omega) (by omega)
    refine ⟨fun q => by omega, fun _ => ⟨by omega, by omega, ?_⟩⟩
    refine ih (k + 1) (uA w k (g k)) _ (by omega) (by omega) (by rw [hRd_ne (by omega)]; exact h1) (by rw [hRd_ne (by omega)]; exact hs) hRd_eq (fun j h0 h1 => ?_) (fun h2 e2 o2 => kk h2 e2 (ow.trans o2))
    unfold uA
    split
    · rename_i e; rw [e]
    · exact hj j h0 (by omega)
theorem m_putBack (hd : 1 ≤ d) (h1 : hRd h 156 = oM z) (hs : hRd h 171 = cA 24 g) (hw : hRd h 160 = cA 24 w) (kk : ∀ h1, hRd h1 160 = cA 24 g → Out 160 160 h h1 → Q none h1) : CALL d 153 [.ref 156] h Q := by
  refine cl153 (by omega) h1 ?_
  simp (disch := omega) only [wr_id, wr_m1, sd_t, nl_I, nl_R, nl_none, c1_I, c1_R, sh_0, sh_1, sh_2, sh_3, sh_4, true_and, and_true, ldA_A, ldB_B, ldS_S, stA_A, stB_B, aL_A, aL_B, aL_S, aC_A, hRd_eq, hRd_ne, cp6, cp8, tl_some, tl_none, List.cons_append, List.nil_append, ofI_t0, ofI_t1, Int.add_zero, Int.zero_add, x153_0, x153_1, x153_2]
  exact l_mputBack 24 0 w h (by omega) (by omega) h1 hs hw (fun j h0 h1 => by omega) kk
theorem RI.snoc3 {f : Int → Int} {m p : Int} {T : List Int} (h : RI f m T) (h6 : m < 6) (hp : 0 ≤ p ∧ p ≤ 5) : RI (uA f m p) (m + 1) (T ++ [p]) := by
  obtain ⟨h1, h2, h3, h4⟩ := h
  refine ⟨by rw [List.length_append]; simp; omega, by rw [List.length_append]; simp; omega, fun i y hi => ?_, fun y hy => ?_⟩
  · by_cases q : i < T.length
    · rw [List.getElem?_append_left q] at hi
      rw [uA_ne (by omega)]
      exact h3 i y hi
    · rw [List.getElem?_append_right (by omega)] at hi
      have hl := (List.getElem?_eq_some_iff.mp hi).1
      simp only [List.length_cons, List.length_nil] at hl
      have e : i - T.length = 0 := by omega
      rw [e] at hi
      simp at hi
      unfold uA
      rw [if_pos (by omega), hi]
  · rcases List.mem_append.mp hy with q | q
    · exact h4 y q
    · simp at q; omega
theorem l_first (hd : 1 ≤ d) {mem : Int} (hz : z 1 = P) (hP : 0 ≤ P ∧ P ≤ 6) (h8 : ∀ q, 0 ≤ q → q < P → (bt (g 8) q = 1 ↔ ¬ bt mem q = 1)) : ∀ (n : Nat) (p m : Int) (T : List Int) (f : Int → Int) (h : LHeap), (n : Int) = P - p → 0 ≤ p → m ≤ p → hRd h 156 = oM z → hRd h 160 = cA 24 f → RI f m T → (∀ i, 6 ≤ i → f i = g i) → (∀ f1 : Int → Int, ∀ m1 : Int, RI f1 m1 (T ++ lineL mem (jl n p)) → (∀ i, 6 ≤ i → f1 i = g i) → ∀ h1, hRd h1 160 = cA 24 f1 → Out 160 160 h h1 → Q none h1) → WPC d 154 5 [some (.ref 156), some (vI m), some (vI p)] [] h Q := by
  intro n
  induction n with
  | zero =>
    intro p m T f h hn hp hm h1 hg hR hf kk
    have := hR.len
    rw [WPC_iff]
    simp (disch := omega) only [wr_id, wr_m1, sd_t, nl_I, nl_R, nl_none, c1_I, c1_R, sh_0, sh_1, sh_2, sh_3, sh_4, true_and, and_true, ldA_A, ldB_B, ldS_S, stA_A, stB_B, aL_A, aL_B, aL_S, aC_A, hRd_eq, hRd_ne, cp6, cp8, tl_some, tl_none, List.cons_append, List.nil_append, ofI_t0, ofI_t1, Int.add_zero, Int.zero_add, x154_5, x154_6, x154_7, x154_8, x154_24, gf11_0, pf11_0, gf11_1, pf11_1, gf11_2, pf11_2, gf11_3, gf11_4, gf11_5, gf11_6, gf11_7, pf11_7, gf11_8, gf11_9, pf11_9, gf11_10, pf11_10, gf11_11, pf11_11, gf11_12, pf11_12, gf11_13, pf11_13, gf11_14, gf11_15, pf11_15, gf11_16, gf11_17, pf11_17, gf11_18, gf11_19, gf11_20, gf11_21, gf11_22, gf11_23, gf11_24, pf11_24, gf11_25, gf11_26, gf11_27, gf11_28, pf11_28, gf11_29, pf11_29, gf11_30, gf11_31, gf11_32, pf11_32, gf11_33, gf11_34, gf11_35, pf11_35, gf11_36, gf11_37, gf11_38, gf11_39, uN_eq, uN_ne, h1]
    refine ⟨fun _ => kk f m ?_ hf h hg Out.refl, fun q => by omega⟩
    show RI f m (T ++ [])
    rw [List.append_nil]
    exact hR
  | succ n ih =>
    intro p m T f h hn hp hm h1 hg hR hf kk
    have hm0 := hR.len
    have e8 : f 8 = g 8 := hf 8 (by omega)
    have h8p := h8 p hp (by omega)
    rw [jl, lineL] at kk
    rw [WPC_iff]
    simp (disch := omega) only [wr_id, wr_m1, sd_t, nl_I, nl_R, nl_none, c1_I, c1_R, sh_0, sh_1, sh_2, sh_3, sh_4, true_and, and_true, ldA_A, ldB_B, ldS_S, stA_A, stB_B, aL_A, aL_B, aL_S, aC_A, hRd_eq, hRd_ne, cp6, cp8, tl_some, tl_none, List.cons_append, List.nil_append, ofI_t0, ofI_t1, Int.add_zero, Int.zero_add, x154_5, x154_6, x154_7, x154_8, x154_9, x154_10, x154_11, x154_12, x154_13, x154_14, gf11_0, pf11_0, gf11_1, pf11_1, gf11_2, pf11_2, gf11_3, gf11_4, gf11_5, gf11_6, gf11_7, pf11_7, gf11_8, gf11_9, pf11_9, gf11_10, pf11_10, gf11_11, pf11_11, gf11_12, pf11_12, gf11_13, pf11_13, gf11_14, gf11_15, pf11_15, gf11_16, gf11_17, pf11_17, gf11_18, gf11_19, gf11_20, gf11_21, gf11_22, gf11_23, gf11_24, pf11_24, gf11_25, gf11_26, gf11_27, gf11_28, pf11_28, gf11_29, pf11_29, gf11_30, gf11_31, gf11_32, pf11_32, gf11_33, gf11_34, gf11_35, pf11_35, gf11_36, gf11_37, gf11_38, gf11_39, uN_eq, uN_ne, h1, hg, e8]
    refine ⟨fun q => by omega, fun _ => ⟨by omega, ?_⟩⟩
    refine m_has (by omega) ?_
    by_cases e : bt (g 8) p = 1
    · rw [if_pos e]
      rw [if_neg (show ¬ zand (zshr mem p) 1 = 1 from h8p.mp e)] at kk
      simp (disch := omega) only [wr_id, wr_m1, sd_t, nl_I, nl_R, nl_none, c1_I, c1_R, sh_0, sh_1, sh_2, sh_3, sh_4, true_and, and_true, ldA_A, ldB_B, ldS_S, stA_A, stB_B, aL_A, aL_B, aL_S, aC_A, hRd_eq, hRd_ne, cp6, cp8, tl_some, tl_none, List.cons_append, List.nil_append, ofI_t0, ofI_t1, Int.add_zero, Int.zero_add, x154_4, x154_15, x154_16, x154_17, x154_18, x154_19, x154_20, x154_21, x154_22, x154_23, gf11_0, pf11_0, gf11_1, pf11_1, gf11_2, pf11_2, gf11_3, gf11_4, gf11_5, gf11_6, gf11_7, pf11_7, gf11_8, gf11_9, pf11_9, gf11_10, pf11_10, gf11_11, pf11_11, gf11_12, pf11_12, gf11_13, pf11_13, gf11_14, gf11_15, pf11_15, gf11_16, gf11_17, pf11_17, gf11_18, gf11_19, gf11_20, gf11_21, gf11_22, gf11_23, gf11_24, pf11_24, gf11_25, gf11_26, gf11_27, gf11_28, pf11_28, gf11_29, pf11_29, gf11_30, gf11_31, gf11_32, pf11_32, gf11_33, gf11_34, gf11_35, pf11_35, gf11_36, gf11_37, gf11_38, gf11_39, uN_eq, uN_ne, h1, hg]
      refine ⟨fun _ => ?_, fun q => by first | omega | exact absurd (by omega) q⟩
      exact ih (p + 1) m T f h (by omega) (by omega) (by omega) h1 hg hR hf kk
    · rw [if_neg e]
      rw [if_pos (show zand (zshr mem p) 1 = 1 from Classical.byContradiction (fun q => e (h8p.mpr q)))] at kk
      simp (disch := omega) only [wr_id, wr_m1, sd_t, nl_I, nl_R, nl_none, c1_I, c1_R, sh_0, sh_1, sh_2, sh_3, sh_4, true_and, and_true, ldA_A, ldB_B, ldS_S, stA_A, stB_B, aL_A, aL_B, aL_S, aC_A, hRd_eq, hRd_ne, cp6, cp8, tl_some, tl_none, List.cons_append, List.nil_append, ofI_t0, ofI_t1, Int.add_zero, Int.zero_add, x154_4, x154_15, x154_16, x154_17, x154_18, x154_19, x154_20, x154_21, x154_22, x154_23, gf11_0, pf11_0, gf11_1, pf11_1, gf11_2, pf11_2, gf11_3, gf11_4, gf11_5, gf11_6, gf11_7, pf11_7, gf11_8, gf11_9, pf11_9, gf11_10, pf11_10, gf11_11, pf11_11, gf11_12, pf11_12, gf11_13, pf11_13, gf11_14, gf11_15, pf11_15, gf11_16, gf11_17, pf11_17, gf11_18, gf11_19, gf11_20, gf11_21, gf11_22, gf11_23, gf11_24, pf11_24, gf11_25, gf11_26, gf11_27, gf11_28, pf11_28, gf11_29, pf11_29, gf11_30, gf11_31, gf11_32, pf11_32, gf11_33, gf11_34, gf11_35, pf11_35, gf11_36, gf11_37, gf11_38, gf11_39, uN_eq, uN_ne, h1, hg]
      refine ⟨fun q => by first | omega | exact absurd rfl q | exact absurd trivial q, fun _ => ⟨by omega, ?_⟩⟩
      have ow : Out 160 160 h (hWr h 160 (cA 24 (uA f m p))) := Out.refl.wr (by omega) (by omega)
      refine ih (p + 1) (m + 1) (T ++ [p]) (uA f m p) _ (by omega) (by omega) (by omega) (by rw [hRd_ne (by omega)]; exact h1) hRd_eq (hR.snoc3 (by omega) (by omega)) (fun i hi => by rw [uA_ne (by omega)]; exact hf i hi) (fun f1 m1 r1 k1 h2 e2 o2 => kk f1 m1 ?_ k1 h2 e2 (ow.trans o2))
      rw [List.append_assoc] at r1
      exact r1
theorem m_first (hd : 2 ≤ d) (h1 : hRd h 156 = oM z) (hz : z 1 = P) (hP : 0 ≤ P ∧ P ≤ 6) (hg : hRd h 160 = cA 24 g) (hN : NR L g) (hn : L.Nodup) (hL : Prs P L) (h8 : g 8 = disF P L) (kk : ∀ g1 : Int → Int, NR (lineL (memF L 0) P6) g1 → (∀ i, 7 ≤ i → g1 i = g i) → ∀ h1, hRd h1 160 = cA 24 g1 → Out 160 160 h h1 → Q none h1) : CALL d 154 [.ref 156] h Q := by
  have g6 := hN.g6
  have hL6 := hN.1.2.2.2
  refine cl154 (by omega) h1 ?_
  simp (disch := omega) only [wr_id, wr_m1, sd_t, nl_I, nl_R, nl_none, c1_I, c1_R, sh_0, sh_1, sh_2, sh_3, sh_4, true_and, and_true, ldA_A, ldB_B, ldS_S, stA_A, stB_B, aL_A, aL_B, aL_S, aC_A, hRd_eq, hRd_ne, cp6, cp8, tl_some, tl_none, List.cons_append, List.nil_append, ofI_t0, ofI_t1, Int.add_zero, Int.zero_add, x154_0, x154_1, x154_2, x154_3, x154_4]
  refine l_first (by omega) (mem := memF L 0) hz hP (fun q q0 q1 => ?_) P.toNat 0 0 [] g h (by omega) (by omega) (by omega) h1 hg ⟨rfl, by simp, fun i y hi => by simp at hi, fun y hy => by simp at hy⟩ (fun _ _ => rfl) (fun f1 m1 r1 k1 h2 e2 o2 => ?_)
  · rw [h8, dis_bit hP hL6 q0 (by omega), memF_bit0 q0 (by omega) hL6]
    constructor
    · exact fun z => z.2
    · exact fun z => ⟨q1, z⟩
  · rw [List.nil_append, line_jl hP (fun q q0 q5 => by rw [memF_bit0 (by omega) q5 hL6]; exact fun z => by have := hL q z; omega)] at r1
    refine kk f1 (r1.nr ?_) (fun i hi => k1 i (by omega)) h2 e2 o2
    rw [k1 6 (by omega), g6.1, r1.1, line_len hL6 hn]
end
/-- the reference's scratch for trials -/
def MS6 (h : LHeap) : Prop := (∃ r, hRd h 168 = cA 6 r) ∧ (∃ r, hRd h 169 = cA 8 r) ∧ (∃ r, hRd h 171 = cA 24 r) ∧ (∃ r, hRd h 172 = cA 6 r) ∧ (∃ r, hRd h 175 = cA 6 r) ∧ (∃ r, hRd h 176 = cA 36 r)
/-- the same but for the row of numbers, the reference's own cell and its scratch -/
def OS (h h1 : LHeap) : Prop := h1.1 = h.1 ∧ h1.2.1 = h.2.1 ∧ (∀ a, ¬ (a = 156 ∨ a = 160 ∨ a = 168 ∨ a = 169 ∨ a = 171 ∨ a = 172 ∨ a = 175 ∨ a = 176) → hRd h1 a = hRd h a) ∧ (MS6 h → MS6 h1)
section
variable {h h1 h2 : LHeap} {lo hi : Nat}
theorem OS.refl : OS h h := ⟨rfl, rfl, fun _ _ => rfl, fun q => q⟩
theorem OS.trans (a : OS h h1) (b : OS h1 h2) : OS h h2 := ⟨b.1.trans a.1, b.2.1.trans a.2.1, fun q hq => (b.2.2.1 q hq).trans (a.2.2.1 q hq), fun q => b.2.2.2 (a.2.2.2 q)⟩
theorem MS6.out (c : MS6 h) (o : Out lo hi h h1) (e : hi < 168) : MS6 h1 := by
  obtain ⟨⟨r1, a1⟩, ⟨r2, a2⟩, ⟨r3, a3⟩, ⟨r4, a4⟩, ⟨r5, a5⟩, ⟨r6, a6⟩⟩ := c
  exact ⟨⟨r1, by rw [o.2.2 _ (by omega)]; exact a1⟩, ⟨r2, by rw [o.2.2 _ (by omega)]; exact a2⟩, ⟨r3, by rw [o.2.2 _ (by omega)]; exact a3⟩, ⟨r4, by rw [o.2.2 _ (by omega)]; exact a4⟩, ⟨r5, by rw [o.2.2 _ (by omega)]; exact a5⟩, ⟨r6, by rw [o.2.2 _ (by omega)]; exact a6⟩⟩
theorem OS.o156 (o : Out 156 156 h h1) : OS h h1 := ⟨o.1, o.2.1, fun q hq => o.2.2 q (by omega), fun c => c.out o (by omega)⟩
theorem OS.o160 (o : Out 160 160 h h1) : OS h h1 := ⟨o.1, o.2.1, fun q hq => o.2.2 q (by omega), fun c => c.out o (by omega)⟩
theorem OS.set {u v : Int → Int} (o : Out 168 169 h h1) (e1 : hRd h1 168 = cA 6 u) (e2 : hRd h1 169 = cA 8 v) : OS h h1 := ⟨o.1, o.2.1, fun q hq => o.2.2 q (by omega), fun c => by
  obtain ⟨-, -, ⟨r3, a3⟩, ⟨r4, a4⟩, ⟨r5, a5⟩, ⟨r6, a6⟩⟩ := c
  exact ⟨⟨u, e1⟩, ⟨v, e2⟩, ⟨r3, by rw [o.2.2 _ (by omega)]; exact a3⟩, ⟨r4, by rw [o.2.2 _ (by omega)]; exact a4⟩, ⟨r5, by rw [o.2.2 _ (by omega)]; exact a5⟩, ⟨r6, by rw [o.2.2 _ (by omega)]; exact a6⟩⟩⟩
theorem OS.o171 {u : Int → Int} (o : Out 171 171 h h1) (e : hRd h1 171 = cA 24 u) : OS h h1 := ⟨o.1, o.2.1, fun q hq => o.2.2 q (by omega), fun c => by
  obtain ⟨⟨r1, a1⟩, ⟨r2, a2⟩, ⟨r3, a3⟩, ⟨r4, a4⟩, ⟨r5, a5⟩, ⟨r6, a6⟩⟩ := c
  refine ⟨⟨r1, ?_⟩, ⟨r2, ?_⟩, ?_, ?_, ?_, ?_⟩
  · rw [o.2.2 _ (by omega)]; exact a1
  · rw [o.2.2 _ (by omega)]; exact a2
  · first | exact ⟨u, e⟩ | exact ⟨r3, by rw [o.2.2 _ (by omega)]; exact a3⟩
  · first | exact ⟨u, e⟩ | exact ⟨r4, by rw [o.2.2 _ (by omega)]; exact a4⟩
  · first | exact ⟨u, e⟩ | exact ⟨r5, by rw [o.2.2 _ (by omega)]; exact a5⟩
  · first | exact ⟨u, e⟩ | exact ⟨r6, by rw [o.2.2 _ (by omega)]; exact a6⟩⟩
theorem OS.o172 {u : Int → Int} (o : Out 172 172 h h1) (e : hRd h1 172 = cA 6 u) : OS h h1 := ⟨o.1, o.2.1, fun q hq => o.2.2 q (by omega), fun c => by
  obtain ⟨⟨r1, a1⟩, ⟨r2, a2⟩, ⟨r3, a3⟩, ⟨r4, a4⟩, ⟨r5, a5⟩, ⟨r6, a6⟩⟩ := c
  refine ⟨⟨r1, ?_⟩, ⟨r2, ?_⟩, ?_, ?_, ?_, ?_⟩
  · rw [o.2.2 _ (by omega)]; exact a1
  · rw [o.2.2 _ (by omega)]; exact a2
  · first | exact ⟨u, e⟩ | exact ⟨r3, by rw [o.2.2 _ (by omega)]; exact a3⟩
  · first | exact ⟨u, e⟩ | exact ⟨r4, by rw [o.2.2 _ (by omega)]; exact a4⟩
  · first | exact ⟨u, e⟩ | exact ⟨r5, by rw [o.2.2 _ (by omega)]; exact a5⟩
  · first | exact ⟨u, e⟩ | exact ⟨r6, by rw [o.2.2 _ (by omega)]; exact a6⟩⟩
theorem OS.o175 {u : Int → Int} (o : Out 175 175 h h1) (e : hRd h1 175 = cA 6 u) : OS h h1 := ⟨o.1, o.2.1, fun q hq => o.2.2 q (by omega), fun c => by
  obtain ⟨⟨r1, a1⟩, ⟨r2, a2⟩, ⟨r3, a3⟩, ⟨r4, a4⟩, ⟨r5, a5⟩, ⟨r6, a6⟩⟩ := c
  refine ⟨⟨r1, ?_⟩, ⟨r2, ?_⟩, ?_, ?_, ?_, ?_⟩
  · rw [o.2.2 _ (by omega)]; exact a1
  · rw [o.2.2 _ (by omega)]; exact a2
  · first | exact ⟨u, e⟩ | exact ⟨r3, by rw [o.2.2 _ (by omega)]; exact a3⟩
  · first | exact ⟨u, e⟩ | exact ⟨r4, by rw [o.2.2 _ (by omega)]; exact a4⟩
  · first | exact ⟨u, e⟩ | exact ⟨r5, by rw [o.2.2 _ (by omega)]; exact a5⟩
  · first | exact ⟨u, e⟩ | exact ⟨r6, by rw [o.2.2 _ (by omega)]; exact a6⟩⟩
theorem OS.o176 {u : Int → Int} (o : Out 176 176 h h1) (e : hRd h1 176 = cA 36 u) : OS h h1 := ⟨o.1, o.2.1, fun q hq => o.2.2 q (by omega), fun c => by
  obtain ⟨⟨r1, a1⟩, ⟨r2, a2⟩, ⟨r3, a3⟩, ⟨r4, a4⟩, ⟨r5, a5⟩, ⟨r6, a6⟩⟩ := c
  refine ⟨⟨r1, ?_⟩, ⟨r2, ?_⟩, ?_, ?_, ?_, ?_⟩
  · rw [o.2.2 _ (by omega)]; exact a1
  · rw [o.2.2 _ (by omega)]; exact a2
  · first | exact ⟨u, e⟩ | exact ⟨r3, by rw [o.2.2 _ (by omega)]; exact a3⟩
  · first | exact ⟨u, e⟩ | exact ⟨r4, by rw [o.2.2 _ (by omega)]; exact a4⟩
  · first | exact ⟨u, e⟩ | exact ⟨r5, by rw [o.2.2 _ (by omega)]; exact a5⟩
  · first | exact ⟨u, e⟩ | exact ⟨r6, by rw [o.2.2 _ (by omega)]; exact a6⟩⟩
theorem OS.up (o : OS h h1) : Out 156 180 h h1 := ⟨o.1, o.2.1, fun q hq => o.2.2.1 q (by omega)⟩
theorem MC.os {M P J : Int} {wt tk bh : Int → Int} {z zz : Nat → Int} (c : MC M P J wt tk bh z h) (o : OS h h1) (e : hRd h1 156 = oM zz) (hz : zz 0 = z 0 ∧ zz 1 = z 1 ∧ zz 2 = z 2) : MC M P J wt tk bh zz h1 := by
  obtain ⟨a1, ⟨b1, b2, b3⟩, ⟨r1, a3, a3b⟩, ⟨r2, a4, a4b⟩, ⟨r3, a5, a5b⟩⟩ := c
  exact ⟨e, ⟨hz.1.trans b1, hz.2.1.trans b2, hz.2.2.trans b3⟩, ⟨r1, by rw [o.2.2.1 _ (by omega)]; exact a3, a3b⟩, ⟨r2, by rw [o.2.2.1 _ (by omega)]; exact a4, a4b⟩, ⟨r3, by rw [o.2.2.1 _ (by omega)]; exact a5, a5b⟩⟩
end
section
variable {f wt tk bh kp sd ea la bj bm : Int → Int} {n pl M P J s ct bt : Int} {S : SS} {Hs : List SS} {im : Int → SS} {h h1 : LHeap} {z zz : Nat → Int}
theorem MScr.six (c : MScr h) : MS6 h := by
  obtain ⟨-, -, -, -, -, -, a7, a8, a9, a10, a11, a12⟩ := c
  exact ⟨a7, a8, a9, a10, a11, a12⟩
theorem MI.os {g1 : Int → Int} {S1 : SS} (c : MR f n pl M P J wt tk bh Hs kp sd im s ct ea la bt bj bm z h) (o : OS h h1) (e : hRd h1 156 = oM zz) (hz : ∀ i, (i < 26 ∨ i = 29 ∨ i = 35) → zz i = z i) (e2 : hRd h1 160 = cA 24 g1) (hS : SG P J S1 g1 0) : MI f n pl M P J wt tk bh (S1) Hs kp sd im s ct ea la bt bj bm h1 := by
  obtain ⟨a1, ⟨z0, z1, z2, z7, z9, z10, z24, z29, z35⟩, ⟨r1, a3, a3b⟩, ⟨r2, a4, a4b⟩, ⟨r3, a5, a5b⟩, a6, ⟨r4, a7, a7b⟩, a8, a9, a10, a11, ⟨r5, a12, a12b⟩, ⟨a13, a13b⟩, a14⟩ := c
  have m6 := o.2.2.2 a14.six
  obtain ⟨⟨q1, b1⟩, ⟨q2, b2⟩, ⟨q3, b3⟩, ⟨q4, b4⟩, ⟨q5, b5⟩, ⟨q6, b6⟩, -⟩ := a14
  obtain ⟨b7, b8, b9, b10, b11, b12⟩ := m6
  have k := o.2.2.1
  exact ⟨zz, g1, ⟨e, ⟨(hz 0 (by omega)).trans z0, (hz 1 (by omega)).trans z1, (hz 2 (by omega)).trans z2, (hz 7 (by omega)).trans z7, (hz 9 (by omega)).trans z9, (hz 10 (by omega)).trans z10, (hz 24 (by omega)).trans z24, (hz 29 (by omega)).trans z29, (hz 35 (by omega)).trans z35⟩, ⟨r1, by rw [k _ (by omega)]; exact a3, a3b⟩, ⟨r2, by rw [k _ (by omega)]; exact a4, a4b⟩, ⟨r3, by rw [k _ (by omega)]; exact a5, a5b⟩, by rw [k _ (by omega)]; exact a6, ⟨r4, by rw [k _ (by omega)]; exact a7, a7b⟩, by rw [k _ (by omega)]; exact a8, by rw [k _ (by omega)]; exact a9, by rw [k _ (by omega)]; exact a10, by rw [k _ (by omega)]; exact a11, ⟨r5, by rw [k _ (by omega)]; exact a12, a12b⟩, ⟨by rw [k _ (by omega)]; exact a13, a13b⟩, ⟨q1, by rw [k _ (by omega)]; exact b1⟩, ⟨q2, by rw [k _ (by omega)]; exact b2⟩, ⟨q3, by rw [k _ (by omega)]; exact b3⟩, ⟨q4, by rw [k _ (by omega)]; exact b4⟩, ⟨q5, by rw [k _ (by omega)]; exact b5⟩, ⟨q6, by rw [k _ (by omega)]; exact b6⟩, b7, b8, b9, b10, b11, b12⟩, e2, hS⟩
theorem MR.mc (c : MR f n pl M P J wt tk bh Hs kp sd im s ct ea la bt bj bm z h) : MC M P J wt tk bh z h := by
  obtain ⟨a1, ⟨z0, z1, z2, -⟩, a3, a4, a5, -⟩ := c
  exact ⟨a1, ⟨z0, z1, z2⟩, a3, a4, a5⟩
theorem SG.nr {g : Int → Int} (h : SG P J S g 0) (hP : Prs P S.1) (hP6 : P ≤ 6) (hn : S.1.Nodup) : NR S.1 g := by
  have hs := h.sc
  refine ⟨⟨rfl, ?_, hs.1, fun x hx => by have := hP x hx; omega⟩, hs.2.1⟩
  have hsub : S.1 ⊆ P6 := fun x hx => P6_mem.mpr (by have := hP x hx; omega)
  exact List.Nodup.length_le_of_subset hn hsub
end
