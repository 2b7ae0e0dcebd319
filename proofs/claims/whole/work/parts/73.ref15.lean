-- THE REFERENCE: orders, all of them
section
variable {d : Nat} {Q : Option Value → LHeap → Prop} {wk wt dr tk bh g ea la : Int → Int} {M P J sh ct : Int} {z : Nat → Int} {O : List Int}
theorem l_er0 : ∀ (n : Nat) (k : Int) (r : Int → Int) (h : LHeap), (n : Int) = 36 - k → 0 ≤ k → hRd h 156 = oM z → hRd h 176 = cA 36 r → (∀ j, 0 ≤ j → j < k → r j = 0) → (∀ (h1 : LHeap) (x : Int), hRd h1 176 = cA 36 (fun _ => 0) → Out 176 176 h h1 → WP d 171 16 [some (.ref 156), some (vI x)] [] h1 Q) → WPC d 171 6 [some (.ref 156), some (vI k)] [] h Q := by
  intro n
  induction n with
  | zero =>
    intro k r h hn hk h1 hr hj kk
    rw [WPC_iff]
    simp (disch := omega) only [wr_id, wr_m1, sd_t, nl_I, nl_R, nl_none, c1_I, c1_R, sh_0, sh_1, sh_2, sh_3, sh_4, true_and, and_true, ldA_A, ldB_B, ldS_S, stA_A, stB_B, aL_A, aL_B, aL_S, aC_A, hRd_eq, hRd_ne, cp6, cp8, tl_some, tl_none, List.cons_append, List.nil_append, ofI_t0, ofI_t1, Int.add_zero, Int.zero_add, x171_6, x171_7, x171_8]
    refine ⟨fun _ => kk h k ?_ Out.refl, fun q => by omega⟩
    rw [hr]
    exact cA_ext (fun j h0 h1 => hj j h0 (by omega))
  | succ n ih =>
    intro k r h hn hk h1 hr hj kk
    rw [WPC_iff]
    simp (disch := omega) only [wr_id, wr_m1, sd_t, nl_I, nl_R, nl_none, c1_I, c1_R, sh_0, sh_1, sh_2, sh_3, sh_4, true_and, and_true, ldA_A, ldB_B, ldS_S, stA_A, stB_B, aL_A, aL_B, aL_S, aC_A, hRd_eq, hRd_ne, cp6, cp8, tl_some, tl_none, List.cons_append, List.nil_append, ofI_t0, ofI_t1, Int.add_zero, Int.zero_add, x171_5, x171_6, x171_7, x171_8, x171_9, x171_10, x171_11, x171_12, x171_13, x171_14, x171_15, gf11_0, pf11_0, gf11_1, pf11_1, gf11_2, pf11_2, gf11_3, gf11_4, gf11_5, gf11_6, gf11_7, pf11_7, gf11_8, gf11_9, pf11_9, gf11_10, pf11_10, gf11_11, pf11_11, gf11_12, pf11_12, gf11_13, pf11_13, gf11_14, gf11_15, pf11_15, gf11_16, gf11_17, pf11_17, gf11_18, gf11_19, gf11_20, gf11_21, gf11_22, gf11_23, gf11_24, pf11_24, gf11_25, gf11_26, gf11_27, gf11_28, pf11_28, gf11_29, pf11_29, gf11_30, gf11_31, gf11_32, pf11_32, gf11_33, gf11_34, gf11_35, pf11_35, gf11_36, gf11_37, gf11_38, gf11_39, uN_eq, uN_ne, h1, hr]
    have ow : Out 176 176 h (hWr h 176 (cA 36 (uA r k 0))) := Out.refl.wr (by omega) (by omega)
    refine ⟨fun q => by omega, fun _ => ⟨by omega, ?_⟩⟩
    refine ih (k + 1) (uA r k 0) _ (by omega) (by omega) (by rw [hRd_ne (by omega)]; exact h1) hRd_eq (fun j h0 h1 => ?_) (fun h2 x e2 o2 => kk h2 x e2 (ow.trans o2))
    unfold uA
    split
    · rfl
    · exact hj j h0 (by omega)
/-- the same but for how many fit -/
def ZF (z zz : Nat → Int) : Prop := ∀ i, ¬ i = 32 → zz i = z i
/-- what the survey leaves -/
def FO (z : Nat → Int) (g : Int → Int) (O : List Int) (r : Int × (Int → Int) × (Int → Int)) (h1 : LHeap) : Prop := ∃ (zz : Nat → Int) (sp er : Int → Int), hRd h1 156 = oM zz ∧ ZF z zz ∧ zz 32 = r.1 ∧ hRd h1 160 = cA 24 g ∧ hRd h1 175 = cA 6 sp ∧ hRd h1 176 = cA 36 er ∧ RO O r.1 r.2.1 r.2.2 sp er
theorem l_fo {h0 : LHeap} (hd : 5 ≤ d) (hB : CapB M P J wk wt dr tk bh) (hM : MC M P J wt tk bh z h0) (hS : SC P J O wk dr sh g) (hO : Prs P O) (z29 : z 29 = ct) (hct : 0 ≤ ct ∧ ct ≤ 6) (h173 : hRd h0 173 = cA 6 ea) (h174 : hRd h0 174 = cA 6 la) (hb : ∀ i, 0 ≤ i → i < ct → 0 ≤ ea i ∧ ea i ≤ 5 ∧ 0 ≤ la i ∧ la i ≤ 5) : ∀ (n : Nat) (T : List Int) (tot mo : Int) (su pa sp er g1 : Int → Int) (zz : Nat → Int) (h : LHeap), chk n T = true → NR T g1 → (∀ i, 7 ≤ i → g1 i = g i) → (∀ x, x ∈ T ↔ x ∈ O) → OS h0 h → hRd h 156 = oM zz → ZF z zz → zz 32 = tot → 0 ≤ tot → tot + (n : Int) ≤ 720 → mo = 1 → hRd h 160 = cA 24 g1 → (∃ u, hRd h 168 = cA 6 u) → (∃ u, hRd h 169 = cA 8 u) → hRd h 171 = cA 24 g → hRd h 175 = cA 6 sp → hRd h 176 = cA 36 er → RO O tot su pa sp er → (∀ h1, FO z g O (svF M J sh wk wt dr tk bh ct ea la n T tot su pa) h1 → OS h0 h1 → Q none h1) → WPC d 171 23 [some (.ref 156), some (vI mo)] [] h Q := by
  have ex : ∀ (mo : Int) (zz : Nat → Int) (w1 sp er : Int → Int) (h : LHeap) (R : Int × (Int → Int) × (Int → Int)), mo = 0 → hRd h 156 = oM zz → ZF z zz → zz 32 = R.1 → hRd h 160 = cA 24 w1 → hRd h 171 = cA 24 g → hRd h 175 = cA 6 sp → hRd h 176 = cA 36 er → RO O R.1 R.2.1 R.2.2 sp er → OS h0 h → (∀ h1, FO z g O R h1 → OS h0 h1 → Q none h1) → WPC d 171 23 [some (.ref 156), some (vI mo)] [] h Q := by
    intro mo zz w1 sp er h R hmo h1 hz hz32 hg hw hsp her hro o kk
    rw [WPC_iff]
    simp (disch := omega) only [wr_id, wr_m1, sd_t, nl_I, nl_R, nl_none, c1_I, c1_R, sh_0, sh_1, sh_2, sh_3, sh_4, true_and, and_true, ldA_A, ldB_B, ldS_S, stA_A, stB_B, aL_A, aL_B, aL_S, aC_A, hRd_eq, hRd_ne, cp6, cp8, tl_some, tl_none, List.cons_append, List.nil_append, ofI_t0, ofI_t1, Int.add_zero, Int.zero_add, x171_23, x171_24, x171_36, x171_37]
    refine ⟨fun _ => ?_, fun q => absurd hmo q⟩
    refine m_putBack (by omega) h1 hw hg (fun h2 e2 o2 => ?_)
    simp (disch := omega) only [wr_id, wr_m1, sd_t, nl_I, nl_R, nl_none, c1_I, c1_R, sh_0, sh_1, sh_2, sh_3, sh_4, true_and, and_true, ldA_A, ldB_B, ldS_S, stA_A, stB_B, aL_A, aL_B, aL_S, aC_A, hRd_eq, hRd_ne, cp6, cp8, tl_some, tl_none, List.cons_append, List.nil_append, ofI_t0, ofI_t1, Int.add_zero, Int.zero_add, x171_38]
    exact kk h2 ⟨zz, sp, er, by rw [o2.2.2 _ (by omega)]; exact h1, hz, hz32, e2, by rw [o2.2.2 _ (by omega)]; exact hsp, by rw [o2.2.2 _ (by omega)]; exact her, hro⟩ (o.trans (OS.o160 o2))
  have hO6 : ∀ x ∈ O, 0 ≤ x ∧ x ≤ 5 := fun x hx => by have := hO x hx; have := hB.2.1; omega
  intro n
  induction n with
  | zero => intro T tot mo su pa sp er g1 zz h hc; exact absurd hc (by simp [chk])
  | succ n ih =>
    intro T tot mo su pa sp er g1 zz h hc hN hgg hTO o h1 hz hz32 ht0 ht1 hmo hg ⟨u1, h168⟩ ⟨u2, h169⟩ hw hsp her hro kk
    obtain ⟨hnd, hcn⟩ := chk_s hc
    have hT6 := hN.1.2.1
    have hP : Prs P T := fun x hx => hO x ((hTO x).mp hx)
    have hS1 : SC P J T wk dr sh g1 := SC.of hN (by rw [hgg 7 (by omega)]; exact hS.2.2.1) (fun j j0 j1 => by rw [hgg _ (by omega)]; exact hS.2.2.2.1 j j0 j1) (fun p p0 p1 => by rw [hgg _ (by omega)]; exact hS.2.2.2.2 p p0 p1)
    -- the next order
    have nxt : ∀ (tot1 : Int) (su1 pa1 sp1 er1 : Int → Int) (zz1 : Nat → Int) (h2 : LHeap), 0 ≤ tot1 → tot1 + (n : Int) ≤ 720 → OS h0 h2 → hRd h2 156 = oM zz1 → ZF z zz1 → zz1 32 = tot1 → hRd h2 160 = cA 24 g1 → (∃ u, hRd h2 168 = cA 6 u) → (∃ u, hRd h2 169 = cA 8 u) → hRd h2 171 = cA 24 g → hRd h2 175 = cA 6 sp1 → hRd h2 176 = cA 36 er1 → RO O tot1 su1 pa1 sp1 er1 → (∀ h1, FO z g O (match nxtL T with | none => (tot1, su1, pa1) | some T1 => svF M J sh wk wt dr tk bh ct ea la n T1 tot1 su1 pa1) h1 → OS h0 h1 → Q none h1) → WP d 171 32 [some (.ref 156), some (vI mo)] [] h2 Q := by
      intro tot1 su1 pa1 sp1 er1 zz1 h2 t0 t1 o2 e156 hz1 hz132 e160 e168 e169 e171 e175 e176 hro1 kk
      simp (disch := omega) only [wr_id, wr_m1, sd_t, nl_I, nl_R, nl_none, c1_I, c1_R, sh_0, sh_1, sh_2, sh_3, sh_4, true_and, and_true, ldA_A, ldB_B, ldS_S, stA_A, stB_B, aL_A, aL_B, aL_S, aC_A, hRd_eq, hRd_ne, cp6, cp8, tl_some, tl_none, List.cons_append, List.nil_append, ofI_t0, ofI_t1, Int.add_zero, Int.zero_add, x171_32, x171_33]
      refine m_next (by omega) e156 e160 hN (fun e => ?_) (fun T1 e g2 n2 k2 h3 e3 o3 => ?_)
      · rw [e] at kk
        simp (disch := omega) only [wr_id, wr_m1, sd_t, nl_I, nl_R, nl_none, c1_I, c1_R, sh_0, sh_1, sh_2, sh_3, sh_4, true_and, and_true, ldA_A, ldB_B, ldS_S, stA_A, stB_B, aL_A, aL_B, aL_S, aC_A, hRd_eq, hRd_ne, cp6, cp8, tl_some, tl_none, List.cons_append, List.nil_append, ofI_t0, ofI_t1, Int.add_zero, Int.zero_add, x171_22, x171_34, x171_35]
        exact ex 0 zz1 g1 sp1 er1 h2 (tot1, su1, pa1) rfl e156 hz1 hz132 e160 e171 e175 e176 hro1 o2 kk
      · rw [e] at kk
        simp (disch := omega) only [wr_id, wr_m1, sd_t, nl_I, nl_R, nl_none, c1_I, c1_R, sh_0, sh_1, sh_2, sh_3, sh_4, true_and, and_true, ldA_A, ldB_B, ldS_S, stA_A, stB_B, aL_A, aL_B, aL_S, aC_A, hRd_eq, hRd_ne, cp6, cp8, tl_some, tl_none, List.cons_append, List.nil_append, ofI_t0, ofI_t1, Int.add_zero, Int.zero_add, x171_22, x171_34, x171_35]
        obtain ⟨q1, q2⟩ := nxtL_mem e
        have hn0 : ∃ m, n = m + 1 := by
          cases n with
          | zero => exact absurd (hcn T1 e) (by simp [chk])
          | succ m => exact ⟨m, rfl⟩
        have hnd1 : T1.Nodup := by
          obtain ⟨m, hm⟩ := hn0
          have := hcn T1 e
          rw [hm] at this
          exact (chk_s this).1
        have hTO1 : ∀ x, x ∈ T1 ↔ x ∈ O := fun x => ⟨fun y => (hTO x).mp (q2 x y), fun y => mem_eq hnd1 q2 q1 x ((hTO x).mpr y)⟩
        refine ih T1 tot1 1 su1 pa1 sp1 er1 g2 zz1 h3 (hcn T1 e) n2 (fun i hi => (k2 i hi).trans (hgg i hi)) hTO1 (o2.trans (OS.o160 o3)) (by rw [o3.2.2 _ (by omega)]; exact e156) hz1 hz132 t0 t1 rfl e3 ?_ ?_ (by rw [o3.2.2 _ (by omega)]; exact e171) (by rw [o3.2.2 _ (by omega)]; exact e175) (by rw [o3.2.2 _ (by omega)]; exact e176) hro1 kk
        · obtain ⟨u, e168⟩ := e168
          exact ⟨u, by rw [o3.2.2 _ (by omega)]; exact e168⟩
        · obtain ⟨u, e169⟩ := e169
          exact ⟨u, by rw [o3.2.2 _ (by omega)]; exact e169⟩
    rw [svF] at kk
    rw [WPC_iff]
    simp (disch := omega) only [wr_id, wr_m1, sd_t, nl_I, nl_R, nl_none, c1_I, c1_R, sh_0, sh_1, sh_2, sh_3, sh_4, true_and, and_true, ldA_A, ldB_B, ldS_S, stA_A, stB_B, aL_A, aL_B, aL_S, aC_A, hRd_eq, hRd_ne, cp6, cp8, tl_some, tl_none, List.cons_append, List.nil_append, ofI_t0, ofI_t1, Int.add_zero, Int.zero_add, x171_23, x171_24, x171_25, x171_26]
    refine ⟨fun q => by omega, fun _ => ?_⟩
    have hM1 : MC M P J wt tk bh zz h := hM.os o h1 ⟨hz 0 (by omega), hz 1 (by omega), hz 2 (by omega)⟩
    refine m_settle (by omega) hB hS1 hP hT6 hnd hM1 hg h168 h169 (fun h2 e2 f2 o2 => ?_)
    have o12 := o.trans (OS.set o2 e2 f2)
    have h21 : hRd h2 156 = oM zz := by rw [o2.2.2 _ (by omega)]; exact h1
    have hU := TVF_recU (sh := sh) hB hP
    have f01 := ftF_01 (recU M J sh wk wt dr tk bh T) ea la ct.toNat 0
    simp (disch := omega) only [wr_id, wr_m1, sd_t, nl_I, nl_R, nl_none, c1_I, c1_R, sh_0, sh_1, sh_2, sh_3, sh_4, true_and, and_true, ldA_A, ldB_B, ldS_S, stA_A, stB_B, aL_A, aL_B, aL_S, aC_A, hRd_eq, hRd_ne, cp6, cp8, tl_some, tl_none, List.cons_append, List.nil_append, ofI_t0, ofI_t1, Int.add_zero, Int.zero_add, x171_27, x171_28]
    refine m_seen (s := ct) (by omega) h21 ((hz 29 (by omega)).trans z29) hct e2 hU (by rw [o12.2.2.1 _ (by omega)]; exact h173) (by rw [o12.2.2.1 _ (by omega)]; exact h174) hb ?_
    by_cases c : ftF (recU M J sh wk wt dr tk bh T) ea la ct.toNat 0 = 1
    · rw [if_pos c] at kk
      rw [c]
      simp (disch := omega) only [wr_id, wr_m1, sd_t, nl_I, nl_R, nl_none, c1_I, c1_R, sh_0, sh_1, sh_2, sh_3, sh_4, true_and, and_true, ldA_A, ldB_B, ldS_S, stA_A, stB_B, aL_A, aL_B, aL_S, aC_A, hRd_eq, hRd_ne, cp6, cp8, tl_some, tl_none, List.cons_append, List.nil_append, ofI_t0, ofI_t1, Int.add_zero, Int.zero_add, x171_29, x171_30, x171_31]
      refine ⟨fun q => by first | omega | exact absurd rfl q | exact absurd trivial q | exact absurd q (by omega), fun _ => ?_⟩
      refine m_count (tot := tot) (sp := sp) (er := er) (by omega) hN hnd (by omega) hz32 (fun p hp t0 => (hro.1 p ((hTO p).mp hp) t0).1) hU (fun k => by have := hro.2.2 k; omega) h21 (by rw [o2.2.2 _ (by omega)]; exact hg) e2 (by rw [o2.2.2 _ (by omega)]; exact hsp) (by rw [o2.2.2 _ (by omega)]; exact her) (fun h3 sp1 er1 e3 f3 g3 s1 s2 s3 k3 o3 => ?_)
      have hro1 := hro.ct (T := T) (U := recU M J sh wk wt dr tk bh T) ht0 (fun p hp => ⟨hO6 p hp, (hTO p).mpr hp⟩) hT6 s1 s2 s3
      simp (disch := omega) only [wr_id, wr_m1, sd_t, nl_I, nl_R, nl_none, c1_I, c1_R, sh_0, sh_1, sh_2, sh_3, sh_4, true_and, and_true, ldA_A, ldB_B, ldS_S, stA_A, stB_B, aL_A, aL_B, aL_S, aC_A, hRd_eq, hRd_ne, cp6, cp8, tl_some, tl_none, List.cons_append, List.nil_append, ofI_t0, ofI_t1, Int.add_zero, Int.zero_add]
      exact nxt (tot + 1) _ _ sp1 er1 (uN zz 32 (tot + 1)) h3 (by omega) (by omega) (o12.trans o3) e3 (fun i hi => by rw [uN_ne hi]; exact hz i hi) uN_eq (by rw [k3 _ (by omega), o2.2.2 _ (by omega)]; exact hg) ⟨_, by rw [k3 _ (by omega)]; exact e2⟩ ⟨_, by rw [k3 _ (by omega)]; exact f2⟩ (by rw [k3 _ (by omega), o2.2.2 _ (by omega)]; exact hw) f3 g3 hro1 kk
    · rw [if_neg c] at kk
      have c0 : ftF (recU M J sh wk wt dr tk bh T) ea la ct.toNat 0 = 0 := f01.resolve_right c
      rw [c0]
      simp (disch := omega) only [wr_id, wr_m1, sd_t, nl_I, nl_R, nl_none, c1_I, c1_R, sh_0, sh_1, sh_2, sh_3, sh_4, true_and, and_true, ldA_A, ldB_B, ldS_S, stA_A, stB_B, aL_A, aL_B, aL_S, aC_A, hRd_eq, hRd_ne, cp6, cp8, tl_some, tl_none, List.cons_append, List.nil_append, ofI_t0, ofI_t1, Int.add_zero, Int.zero_add, x171_29, x171_30, x171_31]
      refine ⟨fun _ => ?_, fun q => by first | omega | exact absurd rfl q | exact absurd trivial q | exact absurd q (by omega)⟩
      exact nxt tot su pa sp er zz h2 ht0 (by omega) o12 h21 hz hz32 (by rw [o2.2.2 _ (by omega)]; exact hg) ⟨_, e2⟩ ⟨_, f2⟩ (by rw [o2.2.2 _ (by omega)]; exact hw) (by rw [o2.2.2 _ (by omega)]; exact hsp) (by rw [o2.2.2 _ (by omega)]; exact her) hro kk
theorem m_findOrders {h : LHeap} (hd : 6 ≤ d) (hB : CapB M P J wk wt dr tk bh) (hM : MC M P J wt tk bh z h) (hS : SC P J O wk dr sh g) (hN : NR O g) (hOn : O.Nodup) (hO : Prs P O) (h8 : g 8 = disF P O) (hg : hRd h 160 = cA 24 g) (m6 : MS6 h) (z29 : z 29 = ct) (hct : 0 ≤ ct ∧ ct ≤ 6) (h173 : hRd h 173 = cA 6 ea) (h174 : hRd h 174 = cA 6 la) (hb : ∀ i, 0 ≤ i → i < ct → 0 ≤ ea i ∧ ea i ≤ 5 ∧ 0 ≤ la i ∧ la i ≤ 5) (kk : ∀ h1, FO z g O (svF M J sh wk wt dr tk bh ct ea la 720 (lineL (memF O 0) P6) 0 (fun _ => -1) (fun _ => 0)) h1 → OS h h1 → Q none h1) : CALL d 171 [.ref 156] h Q := by
  have hO6 := hN.1.2.2.2
  have hmb := memF_b O 0 hO6 (by omega) (by omega)
  obtain ⟨⟨u1, h168⟩, ⟨u2, h169⟩, ⟨w, h171⟩, ⟨r, h172⟩, ⟨sp, h175⟩, ⟨er, h176⟩⟩ := id m6
  have h1 := hM.1
  refine cl171 (by omega) h1 ?_
  simp (disch := omega) only [wr_id, wr_m1, sd_t, nl_I, nl_R, nl_none, c1_I, c1_R, sh_0, sh_1, sh_2, sh_3, sh_4, true_and, and_true, ldA_A, ldB_B, ldS_S, stA_A, stB_B, aL_A, aL_B, aL_S, aC_A, hRd_eq, hRd_ne, cp6, cp8, tl_some, tl_none, List.cons_append, List.nil_append, ofI_t0, ofI_t1, Int.add_zero, Int.zero_add, x171_0, x171_1, x171_2, x171_3, x171_4, x171_5, gf11_0, pf11_0, gf11_1, pf11_1, gf11_2, pf11_2, gf11_3, gf11_4, gf11_5, gf11_6, gf11_7, pf11_7, gf11_8, gf11_9, pf11_9, gf11_10, pf11_10, gf11_11, pf11_11, gf11_12, pf11_12, gf11_13, pf11_13, gf11_14, gf11_15, pf11_15, gf11_16, gf11_17, pf11_17, gf11_18, gf11_19, gf11_20, gf11_21, gf11_22, gf11_23, gf11_24, pf11_24, gf11_25, gf11_26, gf11_27, gf11_28, pf11_28, gf11_29, pf11_29, gf11_30, gf11_31, gf11_32, pf11_32, gf11_33, gf11_34, gf11_35, pf11_35, gf11_36, gf11_37, gf11_38, gf11_39, uN_eq, uN_ne, h1]
  have ow : Out 156 156 h (hWr h 156 (oM (uN z 32 0))) := Out.refl.wr (by omega) (by omega)
  refine l_er0 36 0 er _ (by omega) (by omega) hRd_eq (by rw [hRd_ne (by omega)]; exact h176) (fun j j0 j1 => by omega) (fun h2 x e2 o2 => ?_)
  have h21 : hRd h2 156 = oM (uN z 32 0) := by rw [o2.2.2 _ (by omega)]; exact hRd_eq
  simp (disch := omega) only [wr_id, wr_m1, sd_t, nl_I, nl_R, nl_none, c1_I, c1_R, sh_0, sh_1, sh_2, sh_3, sh_4, true_and, and_true, ldA_A, ldB_B, ldS_S, stA_A, stB_B, aL_A, aL_B, aL_S, aC_A, hRd_eq, hRd_ne, cp6, cp8, tl_some, tl_none, List.cons_append, List.nil_append, ofI_t0, ofI_t1, Int.add_zero, Int.zero_add, x171_16, x171_17]
  refine m_save (by omega) h21 (by rw [o2.2.2 _ (by omega), hRd_ne (by omega)]; exact hg) (w := w) (by rw [o2.2.2 _ (by omega), hRd_ne (by omega)]; exact h171) (fun h3 e3 o3 => ?_)
  simp (disch := omega) only [wr_id, wr_m1, sd_t, nl_I, nl_R, nl_none, c1_I, c1_R, sh_0, sh_1, sh_2, sh_3, sh_4, true_and, and_true, ldA_A, ldB_B, ldS_S, stA_A, stB_B, aL_A, aL_B, aL_S, aC_A, hRd_eq, hRd_ne, cp6, cp8, tl_some, tl_none, List.cons_append, List.nil_append, ofI_t0, ofI_t1, Int.add_zero, Int.zero_add, x171_18, x171_19]
  refine m_first (by omega) (by rw [o3.2.2 _ (by omega)]; exact h21) (show uN z 32 0 1 = P from hM.2.1.2.1) hB.2.1 (by rw [o3.2.2 _ (by omega), o2.2.2 _ (by omega), hRd_ne (by omega)]; exact hg) hN hOn hO h8 (fun g1 n1 k1 h4 e4 o4 => ?_)
  simp (disch := omega) only [wr_id, wr_m1, sd_t, nl_I, nl_R, nl_none, c1_I, c1_R, sh_0, sh_1, sh_2, sh_3, sh_4, true_and, and_true, ldA_A, ldB_B, ldS_S, stA_A, stB_B, aL_A, aL_B, aL_S, aC_A, hRd_eq, hRd_ne, cp6, cp8, tl_some, tl_none, List.cons_append, List.nil_append, ofI_t0, ofI_t1, Int.add_zero, Int.zero_add, x171_20, x171_21, x171_22]
  have o14 := (((OS.o156 ow).trans (OS.o176 o2 e2)).trans (OS.o171 o3 e3)).trans (OS.o160 o4)
  refine l_fo (by omega) hB hM hS hO z29 hct h173 h174 hb 720 _ 0 1 _ _ sp (fun _ => 0) g1 (uN z 32 0) h4 (chk_set hmb.1 hmb.2) n1 k1 (fun x => line_mem hO6) o14 ?_ (fun i hi => uN_ne hi) uN_eq (by omega) (by omega) rfl e4 ⟨u1, ?_⟩ ⟨u2, ?_⟩ ?_ ?_ ?_ ⟨fun p hp q => absurd rfl q, fun a b _ _ _ => rfl, fun k => ⟨Int.le_refl _, Int.le_refl _⟩⟩ kk
  · rw [o4.2.2 _ (by omega), o3.2.2 _ (by omega)]; exact h21
  · rw [o4.2.2 _ (by omega), o3.2.2 _ (by omega), o2.2.2 _ (by omega), hRd_ne (by omega)]; exact h168
  · rw [o4.2.2 _ (by omega), o3.2.2 _ (by omega), o2.2.2 _ (by omega), hRd_ne (by omega)]; exact h169
  · rw [o4.2.2 _ (by omega)]; exact e3
  · rw [o4.2.2 _ (by omega), o3.2.2 _ (by omega), o2.2.2 _ (by omega), hRd_ne (by omega)]; exact h175
  · rw [o4.2.2 _ (by omega), o3.2.2 _ (by omega)]; exact e2
end
