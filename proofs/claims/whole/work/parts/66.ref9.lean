-- THE REFERENCE: raise
section
variable {d : Nat} {Q : Option Value → LHeap → Prop} {wk wt dr tk bh g w : Int → Int} {M P J sh x y t : Int} {z : Nat → Int} {O : List Int}
theorem l_best {mo a4 : Int} {T : List Int} {g1 : Int → Int} (hN : NR T g1) : ∀ (n : Nat) (k : Int) (r : Int → Int) (h : LHeap), (n : Int) = T.length - k → 0 ≤ k → hRd h 156 = oM z → hRd h 160 = cA 24 g1 → hRd h 172 = cA 6 r → (∀ (i : Nat) (y : Int), T[i]? = some y → (i : Int) < k → r i = y) → (∀ (h1 : LHeap) (r1 : Int → Int) (k1 : Int), hRd h1 172 = cA 6 r1 → (∀ (i : Nat) (y : Int), T[i]? = some y → r1 i = y) → Out 172 172 h h1 → WP d 160 51 [some (.ref 156), some (vI x), some (vI t), some (vI mo), some (vI a4), some (vI k1)] [] h1 Q) → WPC d 160 35 [some (.ref 156), some (vI x), some (vI t), some (vI mo), some (vI a4), some (vI k)] [] h Q := by
  have g6 := hN.g6
  intro n
  induction n with
  | zero =>
    intro k r h hn hk h1 hg hb hr kk
    rw [WPC_iff]
    simp (disch := omega) only [wr_id, wr_m1, sd_t, nl_I, nl_R, nl_none, c1_I, c1_R, sh_0, sh_1, sh_2, sh_3, sh_4, true_and, and_true, ldA_A, ldB_B, ldS_S, stA_A, stB_B, aL_A, aL_B, aL_S, aC_A, hRd_eq, hRd_ne, cp6, cp8, tl_some, tl_none, List.cons_append, List.nil_append, ofI_t0, ofI_t1, Int.add_zero, Int.zero_add, x160_35, x160_36, x160_37, x160_38, x160_39, x160_40, gf11_0, pf11_0, gf11_1, pf11_1, gf11_2, pf11_2, gf11_3, gf11_4, gf11_5, gf11_6, gf11_7, pf11_7, gf11_8, gf11_9, pf11_9, gf11_10, pf11_10, gf11_11, pf11_11, gf11_12, pf11_12, gf11_13, pf11_13, gf11_14, gf11_15, pf11_15, gf11_16, gf11_17, pf11_17, gf11_18, gf11_19, gf11_20, gf11_21, gf11_22, gf11_23, gf11_24, pf11_24, gf11_25, gf11_26, gf11_27, gf11_28, pf11_28, gf11_29, pf11_29, gf11_30, gf11_31, gf11_32, pf11_32, gf11_33, gf11_34, gf11_35, pf11_35, gf11_36, gf11_37, gf11_38, gf11_39, uN_eq, uN_ne, h1, hg]
    refine ⟨by omega, fun _ => kk h r k hb (fun i y hi => hr i y hi ?_) Out.refl, fun q => by omega⟩
    have := (List.getElem?_eq_some_iff.mp hi).1
    omega
  | succ n ih =>
    intro k r h hn hk h1 hg hb hr kk
    rw [WPC_iff]
    simp (disch := omega) only [wr_id, wr_m1, sd_t, nl_I, nl_R, nl_none, c1_I, c1_R, sh_0, sh_1, sh_2, sh_3, sh_4, true_and, and_true, ldA_A, ldB_B, ldS_S, stA_A, stB_B, aL_A, aL_B, aL_S, aC_A, hRd_eq, hRd_ne, cp6, cp8, tl_some, tl_none, List.cons_append, List.nil_append, ofI_t0, ofI_t1, Int.add_zero, Int.zero_add, x160_34, x160_35, x160_36, x160_37, x160_38, x160_39, x160_40, x160_41, x160_42, x160_43, x160_44, x160_45, x160_46, x160_47, x160_48, x160_49, x160_50, gf11_0, pf11_0, gf11_1, pf11_1, gf11_2, pf11_2, gf11_3, gf11_4, gf11_5, gf11_6, gf11_7, pf11_7, gf11_8, gf11_9, pf11_9, gf11_10, pf11_10, gf11_11, pf11_11, gf11_12, pf11_12, gf11_13, pf11_13, gf11_14, gf11_15, pf11_15, gf11_16, gf11_17, pf11_17, gf11_18, gf11_19, gf11_20, gf11_21, gf11_22, gf11_23, gf11_24, pf11_24, gf11_25, gf11_26, gf11_27, gf11_28, pf11_28, gf11_29, pf11_29, gf11_30, gf11_31, gf11_32, pf11_32, gf11_33, gf11_34, gf11_35, pf11_35, gf11_36, gf11_37, gf11_38, gf11_39, uN_eq, uN_ne, h1, hg, hb]
    have ow : Out 172 172 h (hWr h 172 (cA 6 (uA r k (g1 k)))) := Out.refl.wr (by omega) (by omega)
    refine ⟨by omega, fun q => by omega, fun _ => ⟨by omega, by omega, ?_⟩⟩
    refine ih (k + 1) (uA r k (g1 k)) _ (by omega) (by omega) (by rw [hRd_ne (by omega)]; exact h1) (by rw [hRd_ne (by omega)]; exact hg) hRd_eq (fun i y hi hlt => ?_) (fun h2 r1 k1 e2 f2 o2 => kk h2 r1 k1 e2 f2 (ow.trans o2))
    by_cases q : (i : Int) = k
    · rw [q, uA_eq, ← q]
      exact hN.1.2.2.1 i y hi
    · rw [uA_ne q]
      exact hr i y hi (by omega)
/-- the same but for the fewest -/
def ZE (z zz : Nat → Int) : Prop := ∀ i, ¬ i = 28 → zz i = z i
/-- what the search leaves -/
def FR (z : Nat → Int) (g : Int → Int) (r : Int × List Int) (h1 : LHeap) : Prop := ∃ (zz : Nat → Int) (rr : Int → Int), hRd h1 156 = oM zz ∧ ZE z zz ∧ zz 28 = r.1 ∧ hRd h1 160 = cA 24 g ∧ hRd h1 172 = cA 6 rr ∧ (¬ r.1 = -1 → ∀ (i : Nat) (y : Int), r.2[i]? = some y → rr i = y)
theorem l_fr {h0 : LHeap} (hd : 5 ≤ d) (hB : CapB M P J wk wt dr tk bh) (hM : MC M P J wt tk bh z h0) (hx : 0 ≤ x ∧ x ≤ zshl 1 J - 1) (ht : 0 ≤ t ∧ t ≤ 999) (hS : SC P J O wk dr sh g) (hO : NR O g) (hOn : O.Nodup) : ∀ (n : Nat) (T B : List Int) (fw mo : Int) (g1 r : Int → Int) (zz : Nat → Int) (h : LHeap) (l4 l5 : Option Value), chk n T = true → NR T g1 → (∀ i, 7 ≤ i → g1 i = g i) → Prs P T → OS h0 h → hRd h 156 = oM zz → ZE z zz → zz 28 = fw → -1 ≤ fw → fw ≤ 6 → mo = 1 → hRd h 160 = cA 24 g1 → (∃ u, hRd h 168 = cA 6 u) → (∃ u, hRd h 169 = cA 8 u) → hRd h 171 = cA 24 g → hRd h 172 = cA 6 r → (¬ fw = -1 → ∀ (i : Nat) (y : Int), B[i]? = some y → r i = y) → nl l4 → nl l5 → (∀ h1, FR z g (rsF M J sh wk wt dr tk bh O x t n T fw B) h1 → OS h0 h1 → Q none h1) → WPC d 160 10 [some (.ref 156), some (vI x), some (vI t), some (vI mo), l4, l5] [] h Q := by
  -- the end
  have ex : ∀ (mo : Int) (zz : Nat → Int) (w1 r : Int → Int) (l4 l5 : Option Value) (h : LHeap) (R : Int × List Int), mo = 0 → hRd h 156 = oM zz → ZE z zz → zz 28 = R.1 → hRd h 160 = cA 24 w1 → hRd h 171 = cA 24 g → hRd h 172 = cA 6 r → (¬ R.1 = -1 → ∀ (i : Nat) (y : Int), R.2[i]? = some y → r i = y) → OS h0 h → (∀ h1, FR z g R h1 → OS h0 h1 → Q none h1) → WPC d 160 10 [some (.ref 156), some (vI x), some (vI t), some (vI mo), l4, l5] [] h Q := by
    intro mo zz w1 r l4 l5 h R hmo h1 hz hz28 hg hw hr hrr o kk
    rw [WPC_iff]
    simp (disch := omega) only [wr_id, wr_m1, sd_t, nl_I, nl_R, nl_none, c1_I, c1_R, sh_0, sh_1, sh_2, sh_3, sh_4, true_and, and_true, ldA_A, ldB_B, ldS_S, stA_A, stB_B, aL_A, aL_B, aL_S, aC_A, hRd_eq, hRd_ne, cp6, cp8, tl_some, tl_none, List.cons_append, List.nil_append, ofI_t0, ofI_t1, Int.add_zero, Int.zero_add, x160_10, x160_11, x160_55, x160_56]
    refine ⟨fun _ => ?_, fun q => absurd hmo q⟩
    refine m_putBack (by omega) h1 hw hg (fun h2 e2 o2 => ?_)
    simp (disch := omega) only [wr_id, wr_m1, sd_t, nl_I, nl_R, nl_none, c1_I, c1_R, sh_0, sh_1, sh_2, sh_3, sh_4, true_and, and_true, ldA_A, ldB_B, ldS_S, stA_A, stB_B, aL_A, aL_B, aL_S, aC_A, hRd_eq, hRd_ne, cp6, cp8, tl_some, tl_none, List.cons_append, List.nil_append, ofI_t0, ofI_t1, Int.add_zero, Int.zero_add, x160_57]
    exact kk h2 ⟨zz, r, by rw [o2.2.2 _ (by omega)]; exact h1, hz, hz28, e2, by rw [o2.2.2 _ (by omega)]; exact hr, hrr⟩ (o.trans (OS.o160 o2))
  intro n
  induction n with
  | zero => intro T B fw mo g1 r zz h l4 l5 hc; exact absurd hc (by simp [chk])
  | succ n ih =>
    intro T B fw mo g1 r zz h l4 l5 hc hN hgg hP o h1 hz hz28 hf1 hf2 hmo hg ⟨u1, h168⟩ ⟨u2, h169⟩ hw hb hbr hl4 hl5 kk
    obtain ⟨hnd, hcn⟩ := chk_s hc
    have g6 := hN.g6
    have hT6 := hN.1.2.1
    have hS1 : SC P J T wk dr sh g1 := SC.of hN (by rw [hgg 7 (by omega)]; exact hS.2.2.1) (fun j j0 j1 => by rw [hgg _ (by omega)]; exact hS.2.2.2.1 j j0 j1) (fun p p0 p1 => by rw [hgg _ (by omega)]; exact hS.2.2.2.2 p p0 p1)
    have hrb := raisF_b O T 0 0
    have hJ := hB.2.2.1
    -- the next order
    have nxt : ∀ (fw1 : Int) (B1 : List Int) (r1 : Int → Int) (zz1 : Nat → Int) (h2 : LHeap) (a4 : Int) (l5 : Option Value), -1 ≤ fw1 → fw1 ≤ 6 → OS h0 h2 → hRd h2 156 = oM zz1 → ZE z zz1 → zz1 28 = fw1 → hRd h2 160 = cA 24 g1 → (∃ u, hRd h2 168 = cA 6 u) → (∃ u, hRd h2 169 = cA 8 u) → hRd h2 171 = cA 24 g → hRd h2 172 = cA 6 r1 → (¬ fw1 = -1 → ∀ (i : Nat) (y : Int), B1[i]? = some y → r1 i = y) → nl l5 → (∀ h1, FR z g (match nxtL T with | none => (fw1, B1) | some T1 => rsF M J sh wk wt dr tk bh O x t n T1 fw1 B1) h1 → OS h0 h1 → Q none h1) → WP d 160 51 [some (.ref 156), some (vI x), some (vI t), some (vI mo), some (vI a4), l5] [] h2 Q := by
      intro fw1 B1 r1 zz1 h2 a4 l5 f1 f2 o2 e156 hz1 hz128 e160 e168 e169 e171 e172 hb1 hl5 kk
      simp (disch := omega) only [wr_id, wr_m1, sd_t, nl_I, nl_R, nl_none, c1_I, c1_R, sh_0, sh_1, sh_2, sh_3, sh_4, true_and, and_true, ldA_A, ldB_B, ldS_S, stA_A, stB_B, aL_A, aL_B, aL_S, aC_A, hRd_eq, hRd_ne, cp6, cp8, tl_some, tl_none, List.cons_append, List.nil_append, ofI_t0, ofI_t1, Int.add_zero, Int.zero_add, x160_51, x160_52]
      refine m_next (by omega) e156 e160 hN (fun e => ?_) (fun T1 e g2 n2 k2 h3 e3 o3 => ?_)
      · rw [e] at kk
        simp (disch := omega) only [wr_id, wr_m1, sd_t, nl_I, nl_R, nl_none, c1_I, c1_R, sh_0, sh_1, sh_2, sh_3, sh_4, true_and, and_true, ldA_A, ldB_B, ldS_S, stA_A, stB_B, aL_A, aL_B, aL_S, aC_A, hRd_eq, hRd_ne, cp6, cp8, tl_some, tl_none, List.cons_append, List.nil_append, ofI_t0, ofI_t1, Int.add_zero, Int.zero_add, x160_9, x160_53, x160_54]
        exact ex 0 zz1 g1 r1 _ _ h2 (fw1, B1) rfl e156 hz1 hz128 e160 e171 e172 hb1 o2 kk
      · rw [e] at kk
        simp (disch := omega) only [wr_id, wr_m1, sd_t, nl_I, nl_R, nl_none, c1_I, c1_R, sh_0, sh_1, sh_2, sh_3, sh_4, true_and, and_true, ldA_A, ldB_B, ldS_S, stA_A, stB_B, aL_A, aL_B, aL_S, aC_A, hRd_eq, hRd_ne, cp6, cp8, tl_some, tl_none, List.cons_append, List.nil_append, ofI_t0, ofI_t1, Int.add_zero, Int.zero_add, x160_9, x160_53, x160_54]
        obtain ⟨q1, q2⟩ := nxtL_mem e
        refine ih T1 B1 fw1 1 g2 r1 zz1 h3 _ _ (hcn T1 e) n2 (fun i hi => (k2 i hi).trans (hgg i hi)) (fun y hy => hP y (q2 y hy)) (o2.trans (OS.o160 o3)) (by rw [o3.2.2 _ (by omega)]; exact e156) hz1 hz128 f1 f2 rfl e3 ?_ ?_ (by rw [o3.2.2 _ (by omega)]; exact e171) (by rw [o3.2.2 _ (by omega)]; exact e172) hb1 (by rw [nl_I]; trivial) hl5 kk
        · obtain ⟨u, e168⟩ := e168
          exact ⟨u, by rw [o3.2.2 _ (by omega)]; exact e168⟩
        · obtain ⟨u, e169⟩ := e169
          exact ⟨u, by rw [o3.2.2 _ (by omega)]; exact e169⟩
    rw [rsF] at kk
    rw [WPC_iff]
    simp (disch := omega) only [wr_id, wr_m1, sd_t, nl_I, nl_R, nl_none, c1_I, c1_R, sh_0, sh_1, sh_2, sh_3, sh_4, true_and, and_true, ldA_A, ldB_B, ldS_S, stA_A, stB_B, aL_A, aL_B, aL_S, aC_A, hRd_eq, hRd_ne, cp6, cp8, tl_some, tl_none, List.cons_append, List.nil_append, ofI_t0, ofI_t1, Int.add_zero, Int.zero_add, x160_10, x160_11, x160_12, x160_13]
    refine ⟨fun q => by omega, fun _ => ?_⟩
    refine m_near (by omega) h1 hg hw hN hO hOn ?_
    -- the trial
    have tr : (fw = -1 ∨ raisF O T 0 0 < fw) → WP d 160 22 [some (.ref 156), some (vI x), some (vI t), some (vI mo), some (vI (raisF O T 0 0)), l5] [] h Q := by
      intro hlt
      simp (disch := omega) only [wr_id, wr_m1, sd_t, nl_I, nl_R, nl_none, c1_I, c1_R, sh_0, sh_1, sh_2, sh_3, sh_4, true_and, and_true, ldA_A, ldB_B, ldS_S, stA_A, stB_B, aL_A, aL_B, aL_S, aC_A, hRd_eq, hRd_ne, cp6, cp8, tl_some, tl_none, List.cons_append, List.nil_append, ofI_t0, ofI_t1, Int.add_zero, Int.zero_add, x160_22, x160_23]
      have hM1 : MC M P J wt tk bh zz h := hM.os o h1 ⟨hz 0 (by omega), hz 1 (by omega), hz 2 (by omega)⟩
      refine m_settle (by omega) hB hS1 hP hT6 hnd hM1 hg h168 h169 (fun h2 e2 f2 o2 => ?_)
      have o12 := o.trans (OS.set o2 e2 f2)
      simp (disch := omega) only [wr_id, wr_m1, sd_t, nl_I, nl_R, nl_none, c1_I, c1_R, sh_0, sh_1, sh_2, sh_3, sh_4, true_and, and_true, ldA_A, ldB_B, ldS_S, stA_A, stB_B, aL_A, aL_B, aL_S, aC_A, hRd_eq, hRd_ne, cp6, cp8, tl_some, tl_none, List.cons_append, List.nil_append, ofI_t0, ofI_t1, Int.add_zero, Int.zero_add, x160_24, x160_25, x160_26, x160_27]
      have hD := TVF_recD (sh := sh) hB hP
      refine m_are (by omega) (by rw [o2.2.2 _ (by omega)]; exact h1) hM1.2.1.2.2 hJ f2 hD ht (fun rr er r01 => ?_)
      rw [are_ad hJ hx.1 hx.2] at er
      by_cases e1 : rr = 1
      · rw [if_pos ⟨hlt, by rw [← er]; exact e1⟩] at kk
        have h21 : hRd h2 156 = oM zz := by rw [o2.2.2 _ (by omega)]; exact h1
        have ow : Out 156 156 h2 (hWr h2 156 (oM (uN zz 28 (raisF O T 0 0)))) := Out.refl.wr (by omega) (by omega)
        simp (disch := omega) only [wr_id, wr_m1, sd_t, nl_I, nl_R, nl_none, c1_I, c1_R, sh_0, sh_1, sh_2, sh_3, sh_4, true_and, and_true, ldA_A, ldB_B, ldS_S, stA_A, stB_B, aL_A, aL_B, aL_S, aC_A, hRd_eq, hRd_ne, cp6, cp8, tl_some, tl_none, List.cons_append, List.nil_append, ofI_t0, ofI_t1, Int.add_zero, Int.zero_add, x160_28, x160_29, x160_30, x160_31, x160_32, x160_33, x160_34, gf11_0, pf11_0, gf11_1, pf11_1, gf11_2, pf11_2, gf11_3, gf11_4, gf11_5, gf11_6, gf11_7, pf11_7, gf11_8, gf11_9, pf11_9, gf11_10, pf11_10, gf11_11, pf11_11, gf11_12, pf11_12, gf11_13, pf11_13, gf11_14, gf11_15, pf11_15, gf11_16, gf11_17, pf11_17, gf11_18, gf11_19, gf11_20, gf11_21, gf11_22, gf11_23, gf11_24, pf11_24, gf11_25, gf11_26, gf11_27, gf11_28, pf11_28, gf11_29, pf11_29, gf11_30, gf11_31, gf11_32, pf11_32, gf11_33, gf11_34, gf11_35, pf11_35, gf11_36, gf11_37, gf11_38, gf11_39, uN_eq, uN_ne, h21]
        refine ⟨fun q => by omega, fun _ => ?_⟩
        refine l_best hN T.length 0 r _ (by omega) (by omega) hRd_eq (by rw [hRd_ne (by omega), o2.2.2 _ (by omega)]; exact hg) (by rw [hRd_ne (by omega), o2.2.2 _ (by omega)]; exact hb) (fun i y _ z => by omega) (fun h3 r1 k1 e3 f3 o3 => ?_)
        have o13 := (o12.trans (OS.o156 ow)).trans (OS.o172 o3 e3)
        refine nxt (raisF O T 0 0) T r1 (uN zz 28 (raisF O T 0 0)) h3 _ _ (by omega) (by omega) o13 (by rw [o3.2.2 _ (by omega)]; exact hRd_eq) (fun i hi => by rw [uN_ne hi]; exact hz i hi) uN_eq (by rw [o3.2.2 _ (by omega), hRd_ne (by omega), o2.2.2 _ (by omega)]; exact hg) ⟨_, by rw [o3.2.2 _ (by omega), hRd_ne (by omega)]; exact e2⟩ ⟨_, by rw [o3.2.2 _ (by omega), hRd_ne (by omega)]; exact f2⟩ (by rw [o3.2.2 _ (by omega), hRd_ne (by omega), o2.2.2 _ (by omega)]; exact hw) e3 (fun _ => f3) (by rw [nl_I]; trivial) kk
      · rw [if_neg (fun q => e1 (by rw [er]; exact q.2))] at kk
        simp (disch := omega) only [wr_id, wr_m1, sd_t, nl_I, nl_R, nl_none, c1_I, c1_R, sh_0, sh_1, sh_2, sh_3, sh_4, true_and, and_true, ldA_A, ldB_B, ldS_S, stA_A, stB_B, aL_A, aL_B, aL_S, aC_A, hRd_eq, hRd_ne, cp6, cp8, tl_some, tl_none, List.cons_append, List.nil_append, ofI_t0, ofI_t1, Int.add_zero, Int.zero_add, x160_28]
        refine ⟨fun _ => ?_, fun q => by omega⟩
        exact nxt fw B r zz h2 _ _ hf1 hf2 o12 (by rw [o2.2.2 _ (by omega)]; exact h1) hz hz28 (by rw [o2.2.2 _ (by omega)]; exact hg) ⟨_, e2⟩ ⟨_, f2⟩ (by rw [o2.2.2 _ (by omega)]; exact hw) (by rw [o2.2.2 _ (by omega)]; exact hb) hbr hl5 kk
    simp (disch := omega) only [wr_id, wr_m1, sd_t, nl_I, nl_R, nl_none, c1_I, c1_R, sh_0, sh_1, sh_2, sh_3, sh_4, true_and, and_true, ldA_A, ldB_B, ldS_S, stA_A, stB_B, aL_A, aL_B, aL_S, aC_A, hRd_eq, hRd_ne, cp6, cp8, tl_some, tl_none, List.cons_append, List.nil_append, ofI_t0, ofI_t1, Int.add_zero, Int.zero_add, x160_14, x160_15, x160_16, x160_17, x160_18, x160_19, x160_20, x160_21, gf11_0, pf11_0, gf11_1, pf11_1, gf11_2, pf11_2, gf11_3, gf11_4, gf11_5, gf11_6, gf11_7, pf11_7, gf11_8, gf11_9, pf11_9, gf11_10, pf11_10, gf11_11, pf11_11, gf11_12, pf11_12, gf11_13, pf11_13, gf11_14, gf11_15, pf11_15, gf11_16, gf11_17, pf11_17, gf11_18, gf11_19, gf11_20, gf11_21, gf11_22, gf11_23, gf11_24, pf11_24, gf11_25, gf11_26, gf11_27, gf11_28, pf11_28, gf11_29, pf11_29, gf11_30, gf11_31, gf11_32, pf11_32, gf11_33, gf11_34, gf11_35, pf11_35, gf11_36, gf11_37, gf11_38, gf11_39, uN_eq, uN_ne, h1, hz28]
    refine ⟨fun q => tr (by omega), fun q => ⟨fun q2 => ?_, fun q2 => tr (by omega)⟩⟩
    rw [if_neg (fun q3 => by omega)] at kk
    exact nxt fw B r zz h _ _ hf1 hf2 o h1 hz hz28 hg ⟨_, h168⟩ ⟨_, h169⟩ hw hb hbr hl5 kk
theorem m_findRaise {h : LHeap} (hd : 6 ≤ d) (hB : CapB M P J wk wt dr tk bh) (hM : MC M P J wt tk bh z h) (hx : 0 ≤ x ∧ x ≤ zshl 1 J - 1) (ht : 0 ≤ t ∧ t ≤ 999) (hS : SC P J O wk dr sh g) (hO : NR O g) (hOn : O.Nodup) (hP : Prs P O) (h8 : g 8 = disF P O) (hg : hRd h 160 = cA 24 g) (m6 : MS6 h) (kk : ∀ h1, FR z g (rsF M J sh wk wt dr tk bh O x t 720 (lineL (memF O 0) P6) (-1) []) h1 → OS h h1 → Q none h1) : CALL d 160 [.ref 156, vI x, vI t] h Q := by
  have hO6 := hO.1.2.2.2
  have hb := memF_b O 0 hO6 (by omega) (by omega)
  obtain ⟨h168, h169, ⟨w, h171⟩, ⟨r, h172⟩, -, -⟩ := id m6
  refine cl160 (by omega) hM.1 ?_
  simp (disch := omega) only [wr_id, wr_m1, sd_t, nl_I, nl_R, nl_none, c1_I, c1_R, sh_0, sh_1, sh_2, sh_3, sh_4, true_and, and_true, ldA_A, ldB_B, ldS_S, stA_A, stB_B, aL_A, aL_B, aL_S, aC_A, hRd_eq, hRd_ne, cp6, cp8, tl_some, tl_none, List.cons_append, List.nil_append, ofI_t0, ofI_t1, Int.add_zero, Int.zero_add, x160_0, x160_1]
  refine m_save (by omega) hM.1 hg h171 (fun h2 e2 o2 => ?_)
  have h21 : hRd h2 156 = oM z := by rw [o2.2.2 _ (by omega)]; exact hM.1
  simp (disch := omega) only [wr_id, wr_m1, sd_t, nl_I, nl_R, nl_none, c1_I, c1_R, sh_0, sh_1, sh_2, sh_3, sh_4, true_and, and_true, ldA_A, ldB_B, ldS_S, stA_A, stB_B, aL_A, aL_B, aL_S, aC_A, hRd_eq, hRd_ne, cp6, cp8, tl_some, tl_none, List.cons_append, List.nil_append, ofI_t0, ofI_t1, Int.add_zero, Int.zero_add, x160_2, x160_3, x160_4, x160_5, x160_6, gf11_0, pf11_0, gf11_1, pf11_1, gf11_2, pf11_2, gf11_3, gf11_4, gf11_5, gf11_6, gf11_7, pf11_7, gf11_8, gf11_9, pf11_9, gf11_10, pf11_10, gf11_11, pf11_11, gf11_12, pf11_12, gf11_13, pf11_13, gf11_14, gf11_15, pf11_15, gf11_16, gf11_17, pf11_17, gf11_18, gf11_19, gf11_20, gf11_21, gf11_22, gf11_23, gf11_24, pf11_24, gf11_25, gf11_26, gf11_27, gf11_28, pf11_28, gf11_29, pf11_29, gf11_30, gf11_31, gf11_32, pf11_32, gf11_33, gf11_34, gf11_35, pf11_35, gf11_36, gf11_37, gf11_38, gf11_39, uN_eq, uN_ne, h21]
  have ow : Out 156 156 h2 (hWr h2 156 (oM (uN z 28 (-1)))) := Out.refl.wr (by omega) (by omega)
  refine m_first (by omega) hRd_eq (show uN z 28 (-1) 1 = P from hM.2.1.2.1) hB.2.1 (by rw [hRd_ne (by omega), o2.2.2 _ (by omega)]; exact hg) hO hOn hP h8 (fun g1 n1 k1 h3 e3 o3 => ?_)
  simp (disch := omega) only [wr_id, wr_m1, sd_t, nl_I, nl_R, nl_none, c1_I, c1_R, sh_0, sh_1, sh_2, sh_3, sh_4, true_and, and_true, ldA_A, ldB_B, ldS_S, stA_A, stB_B, aL_A, aL_B, aL_S, aC_A, hRd_eq, hRd_ne, cp6, cp8, tl_some, tl_none, List.cons_append, List.nil_append, ofI_t0, ofI_t1, Int.add_zero, Int.zero_add, x160_7, x160_8, x160_9]
  have o13 := ((OS.o171 o2 e2).trans (OS.o156 ow)).trans (OS.o160 o3)
  obtain ⟨u1, h168⟩ := h168
  obtain ⟨u2, h169⟩ := h169
  refine l_fr (by omega) hB hM hx ht hS hO hOn 720 _ [] (-1) 1 g1 r (uN z 28 (-1)) h3 _ _ (chk_set hb.1 hb.2) n1 k1 (line_prs hO6 hP) o13 (by rw [o3.2.2 _ (by omega)]; exact hRd_eq) (fun i hi => uN_ne hi) uN_eq (by omega) (by omega) rfl e3 ⟨u1, ?_⟩ ⟨u2, ?_⟩ ?_ ?_ (fun q => absurd rfl q) (by rw [nl_none]; trivial) (by rw [nl_none]; trivial) kk
  · rw [o3.2.2 _ (by omega), hRd_ne (by omega), o2.2.2 _ (by omega)]; exact h168
  · rw [o3.2.2 _ (by omega), hRd_ne (by omega), o2.2.2 _ (by omega)]; exact h169
  · rw [o3.2.2 _ (by omega), hRd_ne (by omega)]; exact e2
  · rw [o3.2.2 _ (by omega), hRd_ne (by omega), o2.2.2 _ (by omega)]; exact h172
end
