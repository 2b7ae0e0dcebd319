-- WINDOWS, going on: all orders
theorem ctI_b (U : Int → Int) (p : Int) : ∀ (n : Nat) (q : Int) (pa : Int → Int) (x : Int), pa x ≤ ctI U p n q pa x ∧ ctI U p n q pa x ≤ pa x + (n : Int) := by
  intro n
  induction n with
  | zero => intro q pa x; simp [ctI]
  | succ n ih =>
    intro q pa x
    rw [ctI]
    split
    · have := ih (q + 1) (uA pa (p * 6 + q) (pa (p * 6 + q) + 1)) x
      unfold uA at this ⊢
      split at this
      · rename_i e
        rw [← e] at this ⊢
        omega
      · omega
    · have := ih (q + 1) pa x
      omega
theorem ctP_b (U : Int → Int) : ∀ (n : Nat) (p : Int) (pa : Int → Int) (x : Int), pa x ≤ ctP U n p pa x ∧ ctP U n p pa x ≤ pa x + (n : Int) * (n : Int) := by
  intro n
  induction n with
  | zero => intro p pa x; simp [ctP]
  | succ n ih =>
    intro p pa x
    rw [ctP]
    have h1 := ih (p + 1) (ctI U p n (p + 1) pa) x
    have h2 := ctI_b U p n (p + 1) pa x
    have h3 : ((n + 1 : Nat) : Int) * ((n + 1 : Nat) : Int) = (n : Int) * (n : Int) + 2 * (n : Int) + 1 := by
      rw [Int.natCast_add, Int.add_mul, Int.mul_add]
      omega
    rw [h3]
    omega
def PaB (tot : Int) (pa : Int → Int) : Prop := ∀ x, 0 ≤ pa x ∧ pa x ≤ 36 * tot
theorem PaB.ct {U : Int → Int} {tot : Int} {pa : Int → Int} (h : PaB tot pa) : PaB (tot + 1) (ctP U 6 0 pa) := fun x => by
  have h1 := ctP_b U 6 0 pa x
  have h2 := h x
  omega
theorem svF_b (M J sh : Int) (wk wt dr tk bh : Int → Int) (ct : Int) (ea la : Int → Int) : ∀ (n : Nat) (T : List Int) (tot : Int) (su pa : Int → Int), T.length ≤ 6 → SuB su → PaB tot pa → tot ≤ (svF M J sh wk wt dr tk bh ct ea la n T tot su pa).1 ∧ (svF M J sh wk wt dr tk bh ct ea la n T tot su pa).1 ≤ tot + (n : Int) ∧ SuB (svF M J sh wk wt dr tk bh ct ea la n T tot su pa).2.1 ∧ PaB (svF M J sh wk wt dr tk bh ct ea la n T tot su pa).1 (svF M J sh wk wt dr tk bh ct ea la n T tot su pa).2.2 := by
  intro n
  induction n with
  | zero => intro T tot su pa hT hs hp; exact ⟨by simp [svF], by simp [svF], hs, hp⟩
  | succ n ih =>
    intro T tot su pa hT hs hp
    rw [svF]
    split
    · split
      · exact ⟨by omega, by omega, ctS_b hT 6 0 su hs, hp.ct⟩
      · rename_i T1 e
        have hl := (nxtL_mem e).1
        have := ih T1 (tot + 1) _ _ (by omega) (ctS_b (tot := tot) hT 6 0 su hs) (hp.ct (U := recU M J sh wk wt dr tk bh T))
        exact ⟨by omega, by omega, this.2.2.1, this.2.2.2⟩
    · split
      · exact ⟨by omega, by omega, hs, hp⟩
      · rename_i T1 e
        have hl := (nxtL_mem e).1
        have := ih T1 tot _ _ (by omega) hs hp
        exact ⟨by omega, by omega, this.2.2.1, this.2.2.2⟩
/-- the best pair of windows -/
def bpI (tot : Int) (pa : Int → Int) (p : Int) : Nat → Int → Int × Int → Int × Int
  | 0, _, s => s
  | n + 1, q, s => bpI tot pa p n (q + 1) (if mx (pa (p * 6 + q)) (tot - pa (p * 6 + q)) < s.2 then (10 * p + q, mx (pa (p * 6 + q)) (tot - pa (p * 6 + q))) else s)
def bpO (tot : Int) (pa : Int → Int) : Nat → Int → Int × Int → Int × Int
  | 0, _, s => s
  | n + 1, p, s => bpO tot pa n (p + 1) (bpI tot pa p n (p + 1) s)
section
variable {d : Nat} {h h0 : LHeap} {Q : Option Value → LHeap → Prop} {wk wt dr tk bh U ea la su pa : Int → Int} {M P J sh mo p ct tot : Int} {L T : List Int}
theorem l_survey (hd : 6 ≤ d) (hC : CapH h0 M P J wk wt dr tk bh) (h17 : hRd h0 17 = oState 18 20 21 sh mo) (hB : CapB M P J wk wt dr tk bh) (hct : 0 ≤ ct ∧ ct ≤ 6) (hs : ∀ i, 0 ≤ i → i < ct → 0 ≤ ea i ∧ ea i ≤ 5 ∧ 0 ≤ la i ∧ la i ≤ 5) : ∀ (n : Nat) (k : Int) (T : List Int) (tot : Int) (su pa : Int → Int) (h : LHeap), (n : Int) = 720 - k → 0 ≤ k → Prs P T → 0 ≤ tot → tot ≤ k → SuB su → WnAt ct ea la T tot su pa h → OW h0 h → (∀ h1, (∃ T1, WnAt ct ea la T1 (svF M J sh wk wt dr tk bh ct ea la n T tot su pa).1 (svF M J sh wk wt dr tk bh ct ea la n T tot su pa).2.1 (svF M J sh wk wt dr tk bh ct ea la n T tot su pa).2.2 h1) → OW h0 h1 → Q none h1) → WPC d 65 21 [some (.ref 146), some (.ref 10), some (vI k)] [] h Q := by
  intro n
  induction n with
  | zero =>
    intro k T tot su pa h hn hk hP ht0 ht1 hsu hw o kk
    rw [WPC_iff]
    simp (disch := omega) only [wr_id, wr_m1, sd_t, nl_I, nl_R, nl_none, c1_I, c1_R, sh_0, sh_1, sh_2, sh_3, sh_4, true_and, and_true, ldA_A, ldB_B, ldS_S, stA_A, stB_B, aL_A, aL_B, aL_S, aC_A, hRd_eq, hRd_ne, cp6, cp8, tl_some, tl_none, List.cons_append, List.nil_append, ofI_t0, ofI_t1, Int.add_zero, Int.zero_add, x65_0, x65_1, x65_2, x65_3, x65_4, x65_5, x65_6, x65_7, x65_8, x65_9, x65_10, x65_11, x65_12, x65_13, x65_14, x65_15, x65_16, x65_17, x65_18, x65_19, x65_20, x65_21, x65_22, x65_23, x65_24, x65_25, x65_26, x65_27, x65_28, x65_29, x65_30, x65_31, x65_32, x65_33, x65_34, x65_35, x65_36, x65_37, x65_38, x65_39, x65_40, x65_41, x65_42, x65_43, x65_44, x65_45, pf9_4, gf9_5, gf9_6, gf9_3, gf1_1, gf7_0, gf7_3]
    exact ⟨fun _ => kk h ⟨T, hw⟩ o, fun q => by omega⟩
  | succ n ih =>
    intro k T tot su pa h hn hk hP ht0 ht1 hsu hw o kk
    have hw0 := hw
    obtain ⟨a1, a2, a3, a4, a5, a6, a7⟩ := hw
    have hCh := hC.ow o
    have h10 := hCh.1
    have h17h : hRd h 17 = oState 18 20 21 sh mo := by rw [o.2.2 _ (by omega)]; exact h17
    have hlen := a4.len
    rw [WPC_iff]
    simp (disch := omega) only [wr_id, wr_m1, sd_t, nl_I, nl_R, nl_none, c1_I, c1_R, sh_0, sh_1, sh_2, sh_3, sh_4, true_and, and_true, ldA_A, ldB_B, ldS_S, stA_A, stB_B, aL_A, aL_B, aL_S, aC_A, hRd_eq, hRd_ne, cp6, cp8, tl_some, tl_none, List.cons_append, List.nil_append, ofI_t0, ofI_t1, Int.add_zero, Int.zero_add, x65_0, x65_1, x65_2, x65_3, x65_4, x65_5, x65_6, x65_7, x65_8, x65_9, x65_10, x65_11, x65_12, x65_13, x65_14, x65_15, x65_16, x65_17, x65_18, x65_19, x65_20, x65_21, x65_22, x65_23, x65_24, x65_25, x65_26, x65_27, x65_28, x65_29, x65_30, x65_31, x65_32, x65_33, x65_34, x65_35, x65_36, x65_37, x65_38, x65_39, x65_40, x65_41, x65_42, x65_43, x65_44, x65_45, pf9_4, gf9_5, gf9_6, gf9_3, gf1_1, gf7_0, gf7_3, a1, h10, h17h]
    refine ⟨fun q => by omega, fun _ => ?_⟩
    refine p_reckon (by omega) hCh hB a7 a4 (by omega) (fun x hx => (hP x hx).2) (fun h1 e22 e23 hsc o1 => ?_)
    have w1 : WnAt ct ea la T tot su pa h1 := ⟨by rw [o1.2.2 _ (by omega)]; exact a1, by rw [o1.2.2 _ (by omega)]; exact a2, by rw [o1.2.2 _ (by omega)]; exact a3, a4.out o1 (by omega), by rw [o1.2.2 _ (by omega)]; exact a5, by rw [o1.2.2 _ (by omega)]; exact a6, hsc⟩
    have h10b : hRd h1 10 = oCap 11 17 22 23 24 := by rw [o1.2.2 _ (by omega)]; exact h10
    have o1h : OW h0 h1 := o.out o1 (by omega)
    -- from the turn to the next order on
    have turn : ∀ (h2 : LHeap) (tot2 : Int) (su2 pa2 : Int → Int), 0 ≤ tot2 → tot2 ≤ k + 1 → SuB su2 → WnAt ct ea la T tot2 su2 pa2 h2 → OW h0 h2 → (∀ h1, (∃ T1, WnAt ct ea la T1 ((match nxtL T with | none => (tot2, su2, pa2) | some T1 => svF M J sh wk wt dr tk bh ct ea la n T1 tot2 su2 pa2) : Int × (Int → Int) × (Int → Int)).1 ((match nxtL T with | none => (tot2, su2, pa2) | some T1 => svF M J sh wk wt dr tk bh ct ea la n T1 tot2 su2 pa2) : Int × (Int → Int) × (Int → Int)).2.1 ((match nxtL T with | none => (tot2, su2, pa2) | some T1 => svF M J sh wk wt dr tk bh ct ea la n T1 tot2 su2 pa2) : Int × (Int → Int) × (Int → Int)).2.2 h1) → OW h0 h1 → Q none h1) → WP d 65 38 [some (.ref 146), some (.ref 10), some (vI k)] [] h2 Q := by
      intro h2 tot2 su2 pa2 q0 q1 hsu2 hw2 o2 k2
      have hw20 := hw2
      obtain ⟨b1, b2, b3, b4, b5, b6, b7⟩ := hw2
      simp (disch := omega) only [wr_id, wr_m1, sd_t, nl_I, nl_R, nl_none, c1_I, c1_R, sh_0, sh_1, sh_2, sh_3, sh_4, true_and, and_true, ldA_A, ldB_B, ldS_S, stA_A, stB_B, aL_A, aL_B, aL_S, aC_A, hRd_eq, hRd_ne, cp6, cp8, tl_some, tl_none, List.cons_append, List.nil_append, ofI_t0, ofI_t1, Int.add_zero, Int.zero_add, x65_0, x65_1, x65_2, x65_3, x65_4, x65_5, x65_6, x65_7, x65_8, x65_9, x65_10, x65_11, x65_12, x65_13, x65_14, x65_15, x65_16, x65_17, x65_18, x65_19, x65_20, x65_21, x65_22, x65_23, x65_24, x65_25, x65_26, x65_27, x65_28, x65_29, x65_30, x65_31, x65_32, x65_33, x65_34, x65_35, x65_36, x65_37, x65_38, x65_39, x65_40, x65_41, x65_42, x65_43, x65_44, x65_45, pf9_4, gf9_5, gf9_6, gf9_3, gf1_1, gf7_0, gf7_3, b1]
      refine p_advance (by omega) b4 (fun e => ?_) (fun T1 e h3 hT3 o3 => ?_)
      · simp (disch := omega) only [wr_id, wr_m1, sd_t, nl_I, nl_R, nl_none, c1_I, c1_R, sh_0, sh_1, sh_2, sh_3, sh_4, true_and, and_true, ldA_A, ldB_B, ldS_S, stA_A, stB_B, aL_A, aL_B, aL_S, aC_A, hRd_eq, hRd_ne, cp6, cp8, tl_some, tl_none, List.cons_append, List.nil_append, ofI_t0, ofI_t1, Int.add_zero, Int.zero_add, x65_0, x65_1, x65_2, x65_3, x65_4, x65_5, x65_6, x65_7, x65_8, x65_9, x65_10, x65_11, x65_12, x65_13, x65_14, x65_15, x65_16, x65_17, x65_18, x65_19, x65_20, x65_21, x65_22, x65_23, x65_24, x65_25, x65_26, x65_27, x65_28, x65_29, x65_30, x65_31, x65_32, x65_33, x65_34, x65_35, x65_36, x65_37, x65_38, x65_39, x65_40, x65_41, x65_42, x65_43, x65_44, x65_45, pf9_4, gf9_5, gf9_6, gf9_3, gf1_1, gf7_0, gf7_3]
        rw [e] at k2
        exact ⟨fun q => by first | omega | exact absurd trivial q | exact absurd rfl q, fun _ => k2 h2 ⟨T, hw20⟩ o2⟩
      · simp (disch := omega) only [wr_id, wr_m1, sd_t, nl_I, nl_R, nl_none, c1_I, c1_R, sh_0, sh_1, sh_2, sh_3, sh_4, true_and, and_true, ldA_A, ldB_B, ldS_S, stA_A, stB_B, aL_A, aL_B, aL_S, aC_A, hRd_eq, hRd_ne, cp6, cp8, tl_some, tl_none, List.cons_append, List.nil_append, ofI_t0, ofI_t1, Int.add_zero, Int.zero_add, x65_0, x65_1, x65_2, x65_3, x65_4, x65_5, x65_6, x65_7, x65_8, x65_9, x65_10, x65_11, x65_12, x65_13, x65_14, x65_15, x65_16, x65_17, x65_18, x65_19, x65_20, x65_21, x65_22, x65_23, x65_24, x65_25, x65_26, x65_27, x65_28, x65_29, x65_30, x65_31, x65_32, x65_33, x65_34, x65_35, x65_36, x65_37, x65_38, x65_39, x65_40, x65_41, x65_42, x65_43, x65_44, x65_45, pf9_4, gf9_5, gf9_6, gf9_3, gf1_1, gf7_0, gf7_3]
        rw [e] at k2
        refine ⟨fun _ => ?_, fun q => by omega⟩
        have hnx := b4.nx e
        exact ih (k + 1) T1 tot2 su2 pa2 h3 (by omega) (by omega) (fun x hx => hP x (hnx.2 x hx)) q0 q1 hsu2 ⟨by rw [o3.2.2 _ (by omega)]; exact b1, by rw [o3.2.2 _ (by omega)]; exact b2, by rw [o3.2.2 _ (by omega)]; exact b3, hT3, by rw [o3.2.2 _ (by omega)]; exact b5, by rw [o3.2.2 _ (by omega)]; exact b6, b7.out o3 (by omega)⟩ (o2.out o3 (by omega)) k2
    simp (disch := omega) only [wr_id, wr_m1, sd_t, nl_I, nl_R, nl_none, c1_I, c1_R, sh_0, sh_1, sh_2, sh_3, sh_4, true_and, and_true, ldA_A, ldB_B, ldS_S, stA_A, stB_B, aL_A, aL_B, aL_S, aC_A, hRd_eq, hRd_ne, cp6, cp8, tl_some, tl_none, List.cons_append, List.nil_append, ofI_t0, ofI_t1, Int.add_zero, Int.zero_add, x65_0, x65_1, x65_2, x65_3, x65_4, x65_5, x65_6, x65_7, x65_8, x65_9, x65_10, x65_11, x65_12, x65_13, x65_14, x65_15, x65_16, x65_17, x65_18, x65_19, x65_20, x65_21, x65_22, x65_23, x65_24, x65_25, x65_26, x65_27, x65_28, x65_29, x65_30, x65_31, x65_32, x65_33, x65_34, x65_35, x65_36, x65_37, x65_38, x65_39, x65_40, x65_41, x65_42, x65_43, x65_44, x65_45, pf9_4, gf9_5, gf9_6, gf9_3, gf1_1, gf7_0, gf7_3]
    refine s_fits (by omega) (TVF_recU hB hP) h10b e22 w1 hct hs ?_
    have h01 := ftF_01 (recU M J sh wk wt dr tk bh T) ea la ct.toNat 0
    rw [svF] at kk
    simp (disch := omega) only [wr_id, wr_m1, sd_t, nl_I, nl_R, nl_none, c1_I, c1_R, sh_0, sh_1, sh_2, sh_3, sh_4, true_and, and_true, ldA_A, ldB_B, ldS_S, stA_A, stB_B, aL_A, aL_B, aL_S, aC_A, hRd_eq, hRd_ne, cp6, cp8, tl_some, tl_none, List.cons_append, List.nil_append, ofI_t0, ofI_t1, Int.add_zero, Int.zero_add, x65_34, x65_35, x65_36, x65_37]
    refine ⟨fun q => ?_, fun q => ?_⟩
    · rw [if_neg (show ¬ ftF (recU M J sh wk wt dr tk bh T) ea la ct.toNat 0 = 1 by omega)] at kk
      exact turn h1 tot su pa ht0 (by omega) hsu w1 o1h kk
    · rw [if_pos (show ftF (recU M J sh wk wt dr tk bh T) ea la ct.toNat 0 = 1 by omega)] at kk
      refine s_countTrial (by omega) (TVF_recU hB hP) hlen ⟨ht0, by omega⟩ hsu h10b e22 w1 (fun h2 w2 o2 e1 e2 => ?_)
      simp (disch := omega) only [wr_id, wr_m1, sd_t, nl_I, nl_R, nl_none, c1_I, c1_R, sh_0, sh_1, sh_2, sh_3, sh_4, true_and, and_true, ldA_A, ldB_B, ldS_S, stA_A, stB_B, aL_A, aL_B, aL_S, aC_A, hRd_eq, hRd_ne, cp6, cp8, tl_some, tl_none, List.cons_append, List.nil_append, ofI_t0, ofI_t1, Int.add_zero, Int.zero_add]
      refine turn h2 (tot + 1) _ _ (by omega) (by omega) (ctS_b hlen 6 0 su hsu) w2 ?_ kk
      refine ⟨o2.1.trans o1h.1, o2.2.1.trans o1h.2.1, fun a ha => ?_⟩
      by_cases c7 : a = 147
      · subst c7; exact e1.trans (o1h.2.2 _ (by omega))
      · by_cases c8 : a = 148
        · subst c8; exact e2.trans (o1h.2.2 _ (by omega))
        · exact (o2.2.2 a (by omega)).trans (o1h.2.2 a ha)
theorem s_survey (hd : 7 ≤ d) (hC : CapH h M P J wk wt dr tk bh) (h17 : hRd h 17 = oState 18 20 21 sh mo) (hB : CapB M P J wk wt dr tk bh) (hL : Rw 18 L h) (hLP : Prs P (lineL (memF L 0) P6)) (hct : 0 ≤ ct ∧ ct ≤ 6) (hs : ∀ i, 0 ≤ i → i < ct → 0 ≤ ea i ∧ ea i ≤ 5 ∧ 0 ≤ la i ∧ la i ≤ 5) (hw : WnAt ct ea la T tot su pa h) (kk : ∀ h1, (∃ T1, WnAt ct ea la T1 (svF M J sh wk wt dr tk bh ct ea la 720 (lineL (memF L 0) P6) 0 (fun _ => -1) (fun _ => 0)).1 (svF M J sh wk wt dr tk bh ct ea la 720 (lineL (memF L 0) P6) 0 (fun _ => -1) (fun _ => 0)).2.1 (svF M J sh wk wt dr tk bh ct ea la 720 (lineL (memF L 0) P6) 0 (fun _ => -1) (fun _ => 0)).2.2 h1) → OW h h1 → Q none h1) : CALL d 65 [.ref 146, .ref 10] h Q := by
  obtain ⟨a1, a2, a3, a4, a5, a6, a7⟩ := hw
  have h10 := hC.1
  refine cl65 (by omega) a1 ?_
  simp (disch := omega) only [wr_id, wr_m1, sd_t, nl_I, nl_R, nl_none, c1_I, c1_R, sh_0, sh_1, sh_2, sh_3, sh_4, true_and, and_true, ldA_A, ldB_B, ldS_S, stA_A, stB_B, aL_A, aL_B, aL_S, aC_A, hRd_eq, hRd_ne, cp6, cp8, tl_some, tl_none, List.cons_append, List.nil_append, ofI_t0, ofI_t1, Int.add_zero, Int.zero_add, x65_0, x65_1, x65_2, x65_3, x65_4, x65_5, x65_6, x65_7, x65_8, x65_9, x65_10, x65_11, x65_12, x65_13, x65_14, x65_15, x65_16, x65_17, x65_18, x65_19, x65_20, x65_21, x65_22, x65_23, x65_24, x65_25, x65_26, x65_27, x65_28, x65_29, x65_30, x65_31, x65_32, x65_33, x65_34, x65_35, x65_36, x65_37, x65_38, x65_39, x65_40, x65_41, x65_42, x65_43, x65_44, x65_45, pf9_4, gf9_5, gf9_6, gf9_3, gf1_1, gf7_0, gf7_3, a1]
  refine s_fill (by omega) (by rw [hRd_ne (by omega)]; exact a5) (by omega) (by omega) ?_
  simp (disch := omega) only [wr_id, wr_m1, sd_t, nl_I, nl_R, nl_none, c1_I, c1_R, sh_0, sh_1, sh_2, sh_3, sh_4, true_and, and_true, ldA_A, ldB_B, ldS_S, stA_A, stB_B, aL_A, aL_B, aL_S, aC_A, hRd_eq, hRd_ne, cp6, cp8, tl_some, tl_none, List.cons_append, List.nil_append, ofI_t0, ofI_t1, Int.add_zero, Int.zero_add, x65_0, x65_1, x65_2, x65_3, x65_4, x65_5, x65_6, x65_7, x65_8, x65_9, x65_10, x65_11, x65_12, x65_13, x65_14, x65_15, x65_16, x65_17, x65_18, x65_19, x65_20, x65_21, x65_22, x65_23, x65_24, x65_25, x65_26, x65_27, x65_28, x65_29, x65_30, x65_31, x65_32, x65_33, x65_34, x65_35, x65_36, x65_37, x65_38, x65_39, x65_40, x65_41, x65_42, x65_43, x65_44, x65_45, pf9_4, gf9_5, gf9_6, gf9_3, gf1_1, gf7_0, gf7_3]
  refine s_fill (by omega) (by rw [hRd_ne (by omega), hRd_ne (by omega)]; exact a6) (by omega) (by omega) ?_
  simp (disch := omega) only [wr_id, wr_m1, sd_t, nl_I, nl_R, nl_none, c1_I, c1_R, sh_0, sh_1, sh_2, sh_3, sh_4, true_and, and_true, ldA_A, ldB_B, ldS_S, stA_A, stB_B, aL_A, aL_B, aL_S, aC_A, hRd_eq, hRd_ne, cp6, cp8, tl_some, tl_none, List.cons_append, List.nil_append, ofI_t0, ofI_t1, Int.add_zero, Int.zero_add, x65_0, x65_1, x65_2, x65_3, x65_4, x65_5, x65_6, x65_7, x65_8, x65_9, x65_10, x65_11, x65_12, x65_13, x65_14, x65_15, x65_16, x65_17, x65_18, x65_19, x65_20, x65_21, x65_22, x65_23, x65_24, x65_25, x65_26, x65_27, x65_28, x65_29, x65_30, x65_31, x65_32, x65_33, x65_34, x65_35, x65_36, x65_37, x65_38, x65_39, x65_40, x65_41, x65_42, x65_43, x65_44, x65_45, pf9_4, gf9_5, gf9_6, gf9_3, gf1_1, gf7_0, gf7_3, h10, h17]
  have o1 : Out 146 146 h (hWr h 146 (oWin 147 148 ct 149 0 151 152)) := Out.refl.wr (by omega) (by omega)
  have o2 : Out 151 151 (hWr h 146 (oWin 147 148 ct 149 0 151 152)) (hWr (hWr h 146 (oWin 147 148 ct 149 0 151 152)) 151 (cA 6 (fun _ => -1))) := Out.refl.wr (by omega) (by omega)
  have o3 : Out 152 152 (hWr (hWr h 146 (oWin 147 148 ct 149 0 151 152)) 151 (cA 6 (fun _ => -1))) (hWr (hWr (hWr h 146 (oWin 147 148 ct 149 0 151 152)) 151 (cA 6 (fun _ => -1))) 152 (cA 36 (fun _ => 0))) := Out.refl.wr (by omega) (by omega)
  have ow := ((OW.refl.out o1 (by omega)).out o2 (by omega)).out o3 (by omega)
  refine p_members (by omega) (((hL.out o1 (by omega)).out o2 (by omega)).out o3 (by omega)) ?_
  simp (disch := omega) only [wr_id, wr_m1, sd_t, nl_I, nl_R, nl_none, c1_I, c1_R, sh_0, sh_1, sh_2, sh_3, sh_4, true_and, and_true, ldA_A, ldB_B, ldS_S, stA_A, stB_B, aL_A, aL_B, aL_S, aC_A, hRd_eq, hRd_ne, cp6, cp8, tl_some, tl_none, List.cons_append, List.nil_append, ofI_t0, ofI_t1, Int.add_zero, Int.zero_add, x65_0, x65_1, x65_2, x65_3, x65_4, x65_5, x65_6, x65_7, x65_8, x65_9, x65_10, x65_11, x65_12, x65_13, x65_14, x65_15, x65_16, x65_17, x65_18, x65_19, x65_20, x65_21, x65_22, x65_23, x65_24, x65_25, x65_26, x65_27, x65_28, x65_29, x65_30, x65_31, x65_32, x65_33, x65_34, x65_35, x65_36, x65_37, x65_38, x65_39, x65_40, x65_41, x65_42, x65_43, x65_44, x65_45, pf9_4, gf9_5, gf9_6, gf9_3, gf1_1, gf7_0, gf7_3]
  refine p_line (by omega) (((a4.out o1 (by omega)).out o2 (by omega)).out o3 (by omega)) (fun h2 hT2 o4 => ?_)
  simp (disch := omega) only [wr_id, wr_m1, sd_t, nl_I, nl_R, nl_none, c1_I, c1_R, sh_0, sh_1, sh_2, sh_3, sh_4, true_and, and_true, ldA_A, ldB_B, ldS_S, stA_A, stB_B, aL_A, aL_B, aL_S, aC_A, hRd_eq, hRd_ne, cp6, cp8, tl_some, tl_none, List.cons_append, List.nil_append, ofI_t0, ofI_t1, Int.add_zero, Int.zero_add, x65_0, x65_1, x65_2, x65_3, x65_4, x65_5, x65_6, x65_7, x65_8, x65_9, x65_10, x65_11, x65_12, x65_13, x65_14, x65_15, x65_16, x65_17, x65_18, x65_19, x65_20, x65_21, x65_22, x65_23, x65_24, x65_25, x65_26, x65_27, x65_28, x65_29, x65_30, x65_31, x65_32, x65_33, x65_34, x65_35, x65_36, x65_37, x65_38, x65_39, x65_40, x65_41, x65_42, x65_43, x65_44, x65_45, pf9_4, gf9_5, gf9_6, gf9_3, gf1_1, gf7_0, gf7_3]
  refine l_survey (by omega) hC h17 hB hct hs 720 0 _ 0 (fun _ => -1) (fun _ => 0) h2 (by omega) (by omega) hLP (by omega) (by omega) (fun p => ⟨by show (-1 : Int) ≤ -1; omega, by show (-1 : Int) ≤ 5; omega⟩) ⟨?_, ?_, ?_, hT2, ?_, ?_, (((a7.out o1 (by omega)).out o2 (by omega)).out o3 (by omega)).out o4 (by omega)⟩ (ow.out o4 (by omega)) kk
  · rw [o4.2.2 _ (by omega), hRd_ne (by omega), hRd_ne (by omega), hRd_eq]
  · rw [o4.2.2 _ (by omega), hRd_ne (by omega), hRd_ne (by omega), hRd_ne (by omega)]; exact a2
  · rw [o4.2.2 _ (by omega), hRd_ne (by omega), hRd_ne (by omega), hRd_ne (by omega)]; exact a3
  · rw [o4.2.2 _ (by omega), hRd_ne (by omega), hRd_eq]
  · rw [o4.2.2 _ (by omega), hRd_eq]
theorem s_sureOf (hd : 2 ≤ d) (hw : WnAt ct ea la T tot su pa h) (hp : -2147483648 ≤ p ∧ p ≤ 2147483647) (hsu : SuB su) (kk : Q (some (vI (if 0 ≤ p ∧ p < 6 then su p else -1))) h) : CALL d 68 [.ref 146, vI p] h Q := by
  obtain ⟨a1, a2, a3, a4, a5, a6, a7⟩ := hw
  refine cl68 (by omega) a1 ?_
  simp (disch := omega) only [wr_id, wr_m1, sd_t, nl_I, nl_R, nl_none, c1_I, c1_R, sh_0, sh_1, sh_2, sh_3, sh_4, true_and, and_true, ldA_A, ldB_B, ldS_S, stA_A, stB_B, aL_A, aL_B, aL_S, aC_A, hRd_eq, hRd_ne, cp6, cp8, tl_some, tl_none, List.cons_append, List.nil_append, ofI_t0, ofI_t1, Int.add_zero, Int.zero_add, x68_0, x68_1, x68_2, x68_3, x68_4, gf9_5, a1]
  refine s_valueAt (by omega) a5 (by omega) (by omega) (by omega) ?_
  simp (disch := omega) only [wr_id, wr_m1, sd_t, nl_I, nl_R, nl_none, c1_I, c1_R, sh_0, sh_1, sh_2, sh_3, sh_4, true_and, and_true, ldA_A, ldB_B, ldS_S, stA_A, stB_B, aL_A, aL_B, aL_S, aC_A, hRd_eq, hRd_ne, cp6, cp8, tl_some, tl_none, List.cons_append, List.nil_append, ofI_t0, ofI_t1, Int.add_zero, Int.zero_add, x68_0, x68_1, x68_2, x68_3, x68_4, gf9_5]
  exact kk
theorem l_bpI (hd : 1 ≤ d) (hw : WnAt ct ea la T tot su pa h) (hpa : PaB tot pa) (ht : 0 ≤ tot ∧ tot ≤ 720) (hp : 0 ≤ p ∧ p ≤ 5) (hP : 0 ≤ P ∧ P ≤ 6) : ∀ (n : Nat) (q : Int) (s : Int × Int) (l6 l7 : Option Value), (n : Int) = P - q → p < q → 0 ≤ s.2 ∧ s.2 ≤ 40000 → (∀ (s1 : Int × Int) (l6 l7 : Option Value), s1 = bpI tot pa p n q s → 0 ≤ s1.2 ∧ s1.2 ≤ 40000 → WP d 69 54 [some (.ref 146), some (vI P), some (vI s1.1), some (vI s1.2), some (vI p), some (vI P), l6, l7] [] h Q) → WPC d 69 19 [some (.ref 146), some (vI P), some (vI s.1), some (vI s.2), some (vI p), some (vI q), l6, l7] [] h Q := by
  obtain ⟨a1, a2, a3, a4, a5, a6, a7⟩ := hw
  intro n
  induction n with
  | zero =>
    intro q s l6 l7 hn hq hs kk
    have : q = P := by omega
    subst this
    rw [bpI] at kk
    rw [WPC_iff]
    simp (disch := omega) only [wr_id, wr_m1, sd_t, nl_I, nl_R, nl_none, c1_I, c1_R, sh_0, sh_1, sh_2, sh_3, sh_4, true_and, and_true, ldA_A, ldB_B, ldS_S, stA_A, stB_B, aL_A, aL_B, aL_S, aC_A, hRd_eq, hRd_ne, cp6, cp8, tl_some, tl_none, List.cons_append, List.nil_append, ofI_t0, ofI_t1, Int.add_zero, Int.zero_add, x69_19, x69_20, x69_21, x69_22, x69_23, x69_24]
    exact ⟨fun _ => kk s l6 l7 rfl hs, fun _ => ⟨fun _ => kk s l6 l7 rfl hs, fun z => by omega⟩⟩
  | succ n ih =>
    intro q s l6 l7 hn hq hs kk
    rw [bpI] at kk
    have hb := hpa (p * 6 + q)
    have hm : 0 ≤ mx (pa (p * 6 + q)) (tot - pa (p * 6 + q)) ∧ mx (pa (p * 6 + q)) (tot - pa (p * 6 + q)) ≤ 40000 := by unfold mx; split <;> omega
    have hmx : (if pa (p * 6 + q) < tot - pa (p * 6 + q) then tot - pa (p * 6 + q) else pa (p * 6 + q)) = mx (pa (p * 6 + q)) (tot - pa (p * 6 + q)) := rfl
    rw [WPC_iff]
    simp (disch := omega) only [wr_id, wr_m1, sd_t, nl_I, nl_R, nl_none, c1_I, c1_R, sh_0, sh_1, sh_2, sh_3, sh_4, true_and, and_true, ldA_A, ldB_B, ldS_S, stA_A, stB_B, aL_A, aL_B, aL_S, aC_A, hRd_eq, hRd_ne, cp6, cp8, tl_some, tl_none, List.cons_append, List.nil_append, ofI_t0, ofI_t1, Int.add_zero, Int.zero_add, x69_19, x69_20, x69_21, x69_22, x69_23, x69_24, x69_25, x69_26, x69_27, x69_28, x69_29, x69_30, x69_31, x69_32, x69_33, x69_34, x69_35, x69_36, x69_37, x69_38, x69_39, x69_40, x69_41, x69_42, x69_43, x69_44, x69_45, x69_46, x69_47, x69_48, x69_49, x69_50, x69_51, x69_52, x69_53, x69_18, gf9_4, gf9_6, a1, a6, hmx]
    refine ⟨fun z => by omega, fun _ => ⟨fun z => by omega, fun _ => ⟨by omega, fun z => ?_, fun z => ?_⟩⟩⟩
    · rw [if_neg (show ¬ mx (pa (p * 6 + q)) (tot - pa (p * 6 + q)) < s.2 by omega)] at kk
      exact ih (q + 1) s _ _ (by omega) (by omega) hs kk
    · rw [if_pos (show mx (pa (p * 6 + q)) (tot - pa (p * 6 + q)) < s.2 by omega)] at kk
      exact ih (q + 1) (10 * p + q, mx (pa (p * 6 + q)) (tot - pa (p * 6 + q))) _ _ (by omega) (by omega) hm kk
theorem l_bpO (hd : 1 ≤ d) (hw : WnAt ct ea la T tot su pa h) (hpa : PaB tot pa) (ht : 0 ≤ tot ∧ tot ≤ 720) (hP : 0 ≤ P ∧ P ≤ 6) : ∀ (n : Nat) (p : Int) (s : Int × Int) (l5 l6 l7 : Option Value), (n : Int) = P - p → 0 ≤ p → 0 ≤ s.2 ∧ s.2 ≤ 40000 → Q (some (vI (bpO tot pa n p s).1)) h → WPC d 69 8 [some (.ref 146), some (vI P), some (vI s.1), some (vI s.2), some (vI p), l5, l6, l7] [] h Q := by
  intro n
  induction n with
  | zero =>
    intro p s l5 l6 l7 hn hp hs kk
    rw [WPC_iff]
    simp (disch := omega) only [wr_id, wr_m1, sd_t, nl_I, nl_R, nl_none, c1_I, c1_R, sh_0, sh_1, sh_2, sh_3, sh_4, true_and, and_true, ldA_A, ldB_B, ldS_S, stA_A, stB_B, aL_A, aL_B, aL_S, aC_A, hRd_eq, hRd_ne, cp6, cp8, tl_some, tl_none, List.cons_append, List.nil_append, ofI_t0, ofI_t1, Int.add_zero, Int.zero_add, x69_0, x69_1, x69_2, x69_3, x69_4, x69_5, x69_6, x69_7, x69_8, x69_9, x69_10, x69_11, x69_12, x69_13, x69_14, x69_15, x69_16, x69_17, x69_18, x69_19, x69_20, x69_21, x69_22, x69_23, x69_24, x69_25, x69_26, x69_27, x69_28, x69_29, x69_30, x69_31, x69_32, x69_33, x69_34, x69_35, x69_36, x69_37, x69_38, x69_39, x69_40, x69_41, x69_42, x69_43, x69_44, x69_45, x69_46, x69_47, x69_48, x69_49, x69_50, x69_51, x69_52, x69_53, x69_54, x69_55, x69_56, x69_57, gf9_4, gf9_6]
    exact ⟨fun _ => kk, fun _ => ⟨fun _ => kk, fun z => by omega⟩⟩
  | succ n ih =>
    intro p s l5 l6 l7 hn hp hs kk
    rw [bpO] at kk
    rw [WPC_iff]
    simp (disch := omega) only [wr_id, wr_m1, sd_t, nl_I, nl_R, nl_none, c1_I, c1_R, sh_0, sh_1, sh_2, sh_3, sh_4, true_and, and_true, ldA_A, ldB_B, ldS_S, stA_A, stB_B, aL_A, aL_B, aL_S, aC_A, hRd_eq, hRd_ne, cp6, cp8, tl_some, tl_none, List.cons_append, List.nil_append, ofI_t0, ofI_t1, Int.add_zero, Int.zero_add, x69_8, x69_9, x69_10, x69_11, x69_12, x69_13, x69_14, x69_15, x69_16, x69_17, x69_18]
    refine ⟨fun z => by omega, fun _ => ⟨fun z => by omega, fun _ => ?_⟩⟩
    refine l_bpI hd hw hpa ht ⟨hp, by omega⟩ hP n (p + 1) s _ _ (by omega) (by omega) hs (fun s1 m6 m7 e hs1 => ?_)
    simp (disch := omega) only [wr_id, wr_m1, sd_t, nl_I, nl_R, nl_none, c1_I, c1_R, sh_0, sh_1, sh_2, sh_3, sh_4, true_and, and_true, ldA_A, ldB_B, ldS_S, stA_A, stB_B, aL_A, aL_B, aL_S, aC_A, hRd_eq, hRd_ne, cp6, cp8, tl_some, tl_none, List.cons_append, List.nil_append, ofI_t0, ofI_t1, Int.add_zero, Int.zero_add, x69_54, x69_55, x69_7]
    rw [← e] at kk
    exact ih (p + 1) s1 _ _ _ (by omega) (by omega) hs1 kk
theorem s_bestPair (hd : 2 ≤ d) (hw : WnAt ct ea la T tot su pa h) (hpa : PaB tot pa) (ht : 0 ≤ tot ∧ tot ≤ 720) (hP : 0 ≤ P ∧ P ≤ 6) (kk : Q (some (vI (bpO tot pa P.toNat 0 (-1, tot)).1)) h) : CALL d 69 [.ref 146, vI P] h Q := by
  have a1 := hw.1
  refine cl69 (by omega) a1 ?_
  simp (disch := omega) only [wr_id, wr_m1, sd_t, nl_I, nl_R, nl_none, c1_I, c1_R, sh_0, sh_1, sh_2, sh_3, sh_4, true_and, and_true, ldA_A, ldB_B, ldS_S, stA_A, stB_B, aL_A, aL_B, aL_S, aC_A, hRd_eq, hRd_ne, cp6, cp8, tl_some, tl_none, List.cons_append, List.nil_append, ofI_t0, ofI_t1, Int.add_zero, Int.zero_add, x69_0, x69_1, x69_2, x69_3, x69_4, x69_5, x69_6, x69_7, gf9_4, a1]
  exact l_bpO (by omega) hw hpa ht hP P.toNat 0 (-1, tot) none none none (by omega) (by omega) ⟨ht.1, by show tot ≤ 40000; omega⟩ kk
end
