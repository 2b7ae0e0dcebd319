-- THE REFERENCE: raise, least harm
theorem rsF_len {M J sh : Int} {wk wt dr tk bh : Int → Int} {O : List Int} {jobs t : Int} : ∀ (n : Nat) (T : List Int) (fw : Int) (B : List Int), (¬ fw = -1 → B.length = T.length) → ¬ (rsF M J sh wk wt dr tk bh O jobs t n T fw B).1 = -1 → (rsF M J sh wk wt dr tk bh O jobs t n T fw B).2.length = T.length := by
  intro n
  induction n with
  | zero => intro T fw B h q; exact h q
  | succ n ih =>
    intro T fw B h
    rw [rsF]
    split
    · split
      · exact fun _ => rfl
      · rename_i T1 e
        have := (nxtL_mem e).1
        exact fun q => (ih T1 _ T (fun _ => this.symm) q).trans this
    · split
      · exact h
      · rename_i T1 e
        have := (nxtL_mem e).1
        exact fun q => (ih T1 _ B (fun q2 => (h q2).trans this.symm) q).trans this
theorem low_b {J : Int} (hJ : 0 ≤ J ∧ J ≤ 8) : 1 ≤ zshl 1 J ∧ zshl 1 J ≤ 256 := by
  have e := (low_tab J.toNat (by omega)).1
  rw [show ((J.toNat : Nat) : Int) = J by omega] at e
  have p8 : 2 ^ J.toNat ≤ 2 ^ 8 := Nat.pow_le_pow_right (by omega) (by omega)
  have p0 : 1 ≤ 2 ^ J.toNat := Nat.one_le_two_pow
  rw [e]
  omega
theorem hpF_ne {M J sh : Int} {wk wt dr tk bh : Int → Int} {L : List Int} {p : Int} : ∀ (n : Nat) (pl bp ha : Int), 0 ≤ pl → (bp = -1 → ha = -1) → (n = 0 → ¬ bp = -1) → ¬ (hpF M J sh wk wt dr tk bh L p n pl bp ha).1 = -1 := by
  intro n
  induction n with
  | zero => intro pl bp ha h0 h1 h2; exact h2 rfl
  | succ n ih =>
    intro pl bp ha h0 h1 h2
    rw [hpF]
    split
    · exact ih _ _ _ (by omega) (fun q => by omega) (fun _ => by omega)
    · rename_i q
      exact ih _ _ _ (by omega) h1 (fun _ q2 => q (Or.inl (h1 q2)))
section
variable {d : Nat} {f wt tk bh kp sd ea la bj bm : Int → Int} {n pl M P J s ct bt : Int} {S : SS} {Hs : List SS} {im : Int → SS} {h : LHeap} {Q : Option Value → LHeap → Prop} {x y w : Int}
theorem MI.go (c : MI f n pl M P J wt tk bh S Hs kp sd im s ct ea la bt bj bm h) (hB : BD f n pl M P J wt tk bh S Hs kp sd im s ct ea la bt bj bm) : ∃ (z : Nat → Int) (g : Int → Int), MR f n pl M P J wt tk bh Hs kp sd im s ct ea la bt bj bm z h ∧ hRd h 160 = cA 24 g ∧ SG P J S g 0 ∧ MC M P J wt tk bh z h ∧ SC P J S.1 S.2.1 S.2.2.1 S.2.2.2.1 g ∧ NR S.1 g ∧ g 8 = disF P S.1 ∧ MS6 h := by
  obtain ⟨z, g, c1, c2, c3⟩ := c
  refine ⟨z, g, c1, c2, c3, c1.mc, c3.sc, c3.nr hB.2.2.1.1 hB.2.1.2.1.2 hB.2.2.1.2.1, ?_, c1.2.2.2.2.2.2.2.2.2.2.2.2.2.six⟩
  have := c3.2.2.2.1
  rwa [Int.zero_add] at this
theorem m_raise (hd : 7 ≤ d) (c : MI f n pl M P J wt tk bh S Hs kp sd im s ct ea la bt bj bm h) (hB : BD f n pl M P J wt tk bh S Hs kp sd im s ct ea la bt bj bm) (hx : -2147483648 ≤ x ∧ x ≤ 2147483647) (hy : -2147483648 ≤ y ∧ y ≤ 2147483647) (hw : -2147483648 ≤ w ∧ w ≤ 2147483647) (k1 : ¬ (0 ≤ x ∧ x ≤ zshl 1 J - 1) → Q (some (vI (-1000000001))) h) (k2 : 0 ≤ x → x ≤ zshl 1 J - 1 → ¬ (0 ≤ y ∧ y ≤ 999) → Q (some (vI (-1000000002))) h) (k3 : 0 ≤ x → x ≤ zshl 1 J - 1 → 0 ≤ y → y ≤ 999 → ∀ h1, MI f n pl M P J wt tk bh S Hs kp sd im s ct ea la bt bj bm h1 → Out 156 180 h h1 → Q (some (vI (if (raF M J wt tk bh S x y).1 = -1 then -1 else if w = -1 then (raF M J wt tk bh S x y).1 else if 0 ≤ w ∧ w < (raF M J wt tk bh S x y).2.length then fL (raF M J wt tk bh S x y).2 w else -1))) h1) : CALL d 161 [.ref 156, vI x, vI y, vI w] h Q := by
  obtain ⟨z, g, cR, h160, hSG, hM, hS, hN, h8, m6⟩ := c.go hB
  have hJ := hB.2.1.2.2.1
  have hlb := low_b hJ
  have h1 := hM.1
  have z2 := hM.2.1.2.2
  have g6 := hN.g6
  refine cl161 (by omega) h1 ?_
  simp (disch := omega) only [wr_id, wr_m1, sd_t, nl_I, nl_R, nl_none, c1_I, c1_R, sh_0, sh_1, sh_2, sh_3, sh_4, true_and, and_true, ldA_A, ldB_B, ldS_S, stA_A, stB_B, aL_A, aL_B, aL_S, aC_A, hRd_eq, hRd_ne, cp6, cp8, tl_some, tl_none, List.cons_append, List.nil_append, ofI_t0, ofI_t1, Int.add_zero, Int.zero_add, x161_0, x161_1, x161_2, x161_3, x161_4, x161_5, x161_6, x161_7, x161_8, x161_9, x161_10, gf11_0, pf11_0, gf11_1, pf11_1, gf11_2, pf11_2, gf11_3, gf11_4, gf11_5, gf11_6, gf11_7, pf11_7, gf11_8, gf11_9, pf11_9, gf11_10, pf11_10, gf11_11, pf11_11, gf11_12, pf11_12, gf11_13, pf11_13, gf11_14, gf11_15, pf11_15, gf11_16, gf11_17, pf11_17, gf11_18, gf11_19, gf11_20, gf11_21, gf11_22, gf11_23, gf11_24, pf11_24, gf11_25, gf11_26, gf11_27, gf11_28, pf11_28, gf11_29, pf11_29, gf11_30, gf11_31, gf11_32, pf11_32, gf11_33, gf11_34, gf11_35, pf11_35, gf11_36, gf11_37, gf11_38, gf11_39, uN_eq, uN_ne, h1, z2]
  refine m_in (by omega) (by omega) (by omega) (by omega) ?_
  by_cases q : 0 ≤ x ∧ x ≤ zshl 1 J - 1
  · rw [if_pos q]
    simp (disch := omega) only [wr_id, wr_m1, sd_t, nl_I, nl_R, nl_none, c1_I, c1_R, sh_0, sh_1, sh_2, sh_3, sh_4, true_and, and_true, ldA_A, ldB_B, ldS_S, stA_A, stB_B, aL_A, aL_B, aL_S, aC_A, hRd_eq, hRd_ne, cp6, cp8, tl_some, tl_none, List.cons_append, List.nil_append, ofI_t0, ofI_t1, Int.add_zero, Int.zero_add, x161_11, x161_12, x161_13, x161_14, x161_15, x161_16, x161_17, x161_18]
    refine ⟨fun _ => ?_, fun q => by first | omega | exact absurd rfl q | exact absurd trivial q | exact absurd q (by omega)⟩
    refine m_in (by omega) (by omega) (by omega) (by omega) ?_
    by_cases q2 : 0 ≤ y ∧ y ≤ 999
    · rw [if_pos q2]
      simp (disch := omega) only [wr_id, wr_m1, sd_t, nl_I, nl_R, nl_none, c1_I, c1_R, sh_0, sh_1, sh_2, sh_3, sh_4, true_and, and_true, ldA_A, ldB_B, ldS_S, stA_A, stB_B, aL_A, aL_B, aL_S, aC_A, hRd_eq, hRd_ne, cp6, cp8, tl_some, tl_none, List.cons_append, List.nil_append, ofI_t0, ofI_t1, Int.add_zero, Int.zero_add, x161_19, x161_20, x161_21, x161_22, x161_23, x161_24, x161_25]
      refine ⟨fun _ => ?_, fun q => by first | omega | exact absurd rfl q | exact absurd trivial q | exact absurd q (by omega)⟩
      refine m_findRaise (by omega) hB.2.1 hM q q2 hS hN hB.2.2.1.2.1 hB.2.2.1.1 h8 h160 m6 (fun h2 ⟨zz, rr, e1, e2, e3, e4, e5, e6⟩ o => ?_)
      have c2 : MI f n pl M P J wt tk bh S Hs kp sd im s ct ea la bt bj bm h2 := MI.os cR o e1 (fun i hi => e2 i (by omega)) e4 hSG
      have k3 := k3 q.1 q.2 q2.1 q2.2 h2 c2 o.up
      have hfw := rsF_fw (M := M) (J := J) (sh := S.2.2.2.1) (wk := S.2.1) (wt := wt) (dr := S.2.2.1) (tk := tk) (bh := bh) (O := S.1) (jobs := x) (t := y) 720 (lineL (memF S.1 0) P6) (-1) [] (by omega) (by omega) line6
      have hln := rsF_len (M := M) (J := J) (sh := S.2.2.2.1) (wk := S.2.1) (wt := wt) (dr := S.2.2.1) (tk := tk) (bh := bh) (O := S.1) (jobs := x) (t := y) 720 (lineL (memF S.1 0) P6) (-1) [] (fun q => absurd rfl q)
      rw [line_len hN.1.2.2.2 hB.2.2.1.2.1] at hln
      have er : raF M J wt tk bh S x y = rsF M J S.2.2.2.1 S.2.1 wt S.2.2.1 tk bh S.1 x y 720 (lineL (memF S.1 0) P6) (-1) [] := rfl
      rw [er] at k3
      generalize rsF M J S.2.2.2.1 S.2.1 wt S.2.2.1 tk bh S.1 x y 720 (lineL (memF S.1 0) P6) (-1) [] = R at *
      simp (disch := omega) only [wr_id, wr_m1, sd_t, nl_I, nl_R, nl_none, c1_I, c1_R, sh_0, sh_1, sh_2, sh_3, sh_4, true_and, and_true, ldA_A, ldB_B, ldS_S, stA_A, stB_B, aL_A, aL_B, aL_S, aC_A, hRd_eq, hRd_ne, cp6, cp8, tl_some, tl_none, List.cons_append, List.nil_append, ofI_t0, ofI_t1, Int.add_zero, Int.zero_add, x161_26, x161_27, x161_28, x161_29, x161_30, x161_31, x161_32, x161_33, x161_34, x161_53, gf11_0, pf11_0, gf11_1, pf11_1, gf11_2, pf11_2, gf11_3, gf11_4, gf11_5, gf11_6, gf11_7, pf11_7, gf11_8, gf11_9, pf11_9, gf11_10, pf11_10, gf11_11, pf11_11, gf11_12, pf11_12, gf11_13, pf11_13, gf11_14, gf11_15, pf11_15, gf11_16, gf11_17, pf11_17, gf11_18, gf11_19, gf11_20, gf11_21, gf11_22, gf11_23, gf11_24, pf11_24, gf11_25, gf11_26, gf11_27, gf11_28, pf11_28, gf11_29, pf11_29, gf11_30, gf11_31, gf11_32, pf11_32, gf11_33, gf11_34, gf11_35, pf11_35, gf11_36, gf11_37, gf11_38, gf11_39, uN_eq, uN_ne, e1, e3]
      have fin : (R.1 = -1 ∨ w = -1) → Q (some (vI R.1)) h2 := fun q => by
        by_cases q3 : R.1 = -1
        · rw [if_pos q3, ← q3] at k3; exact k3
        · rw [if_neg q3, if_pos (by omega)] at k3; exact k3
      refine ⟨fun q3 => fin (by omega), fun q3 => ⟨fun q4 => ?_, fun q4 => fin (by omega)⟩⟩
      rw [if_neg (by omega), if_neg q4] at k3
      have hl := hln (by omega)
      have gl := hN.2
      simp (disch := omega) only [wr_id, wr_m1, sd_t, nl_I, nl_R, nl_none, c1_I, c1_R, sh_0, sh_1, sh_2, sh_3, sh_4, true_and, and_true, ldA_A, ldB_B, ldS_S, stA_A, stB_B, aL_A, aL_B, aL_S, aC_A, hRd_eq, hRd_ne, cp6, cp8, tl_some, tl_none, List.cons_append, List.nil_append, ofI_t0, ofI_t1, Int.add_zero, Int.zero_add, x161_35, x161_36, x161_37, x161_38, x161_39, x161_40, x161_41, x161_42, x161_43, x161_44, x161_45, gf11_0, pf11_0, gf11_1, pf11_1, gf11_2, pf11_2, gf11_3, gf11_4, gf11_5, gf11_6, gf11_7, pf11_7, gf11_8, gf11_9, pf11_9, gf11_10, pf11_10, gf11_11, pf11_11, gf11_12, pf11_12, gf11_13, pf11_13, gf11_14, gf11_15, pf11_15, gf11_16, gf11_17, pf11_17, gf11_18, gf11_19, gf11_20, gf11_21, gf11_22, gf11_23, gf11_24, pf11_24, gf11_25, gf11_26, gf11_27, gf11_28, pf11_28, gf11_29, pf11_29, gf11_30, gf11_31, gf11_32, pf11_32, gf11_33, gf11_34, gf11_35, pf11_35, gf11_36, gf11_37, gf11_38, gf11_39, uN_eq, uN_ne, e1, e4]
      refine ⟨by omega, ?_⟩
      refine m_in (by omega) (by omega) (by omega) (by omega) ?_
      by_cases q5 : 0 ≤ w ∧ w < R.2.length
      · rw [if_pos q5] at k3
        rw [if_pos (by omega)]
        have hlt : w.toNat < R.2.length := by omega
        have e7 := e6 (by omega) w.toNat _ (List.getElem?_eq_getElem hlt)
        rw [show ((w.toNat : Nat) : Int) = w by omega] at e7
        have e8 : fL R.2 w = rr w := by rw [e7]; unfold fL; rw [List.getD_eq_getElem?_getD, List.getElem?_eq_getElem hlt]; rfl
        simp (disch := omega) only [wr_id, wr_m1, sd_t, nl_I, nl_R, nl_none, c1_I, c1_R, sh_0, sh_1, sh_2, sh_3, sh_4, true_and, and_true, ldA_A, ldB_B, ldS_S, stA_A, stB_B, aL_A, aL_B, aL_S, aC_A, hRd_eq, hRd_ne, cp6, cp8, tl_some, tl_none, List.cons_append, List.nil_append, ofI_t0, ofI_t1, Int.add_zero, Int.zero_add, x161_46, x161_47, x161_48, x161_49, x161_50, x161_51, x161_52, x161_53, gf11_0, pf11_0, gf11_1, pf11_1, gf11_2, pf11_2, gf11_3, gf11_4, gf11_5, gf11_6, gf11_7, pf11_7, gf11_8, gf11_9, pf11_9, gf11_10, pf11_10, gf11_11, pf11_11, gf11_12, pf11_12, gf11_13, pf11_13, gf11_14, gf11_15, pf11_15, gf11_16, gf11_17, pf11_17, gf11_18, gf11_19, gf11_20, gf11_21, gf11_22, gf11_23, gf11_24, pf11_24, gf11_25, gf11_26, gf11_27, gf11_28, pf11_28, gf11_29, pf11_29, gf11_30, gf11_31, gf11_32, pf11_32, gf11_33, gf11_34, gf11_35, pf11_35, gf11_36, gf11_37, gf11_38, gf11_39, uN_eq, uN_ne, e1, e5]
        rw [← e8]
        exact ⟨fun q => by first | omega | exact absurd rfl q | exact absurd trivial q | exact absurd q (by omega), fun _ => ⟨by omega, k3⟩⟩
      · rw [if_neg q5] at k3
        rw [if_neg (by omega)]
        simp (disch := omega) only [wr_id, wr_m1, sd_t, nl_I, nl_R, nl_none, c1_I, c1_R, sh_0, sh_1, sh_2, sh_3, sh_4, true_and, and_true, ldA_A, ldB_B, ldS_S, stA_A, stB_B, aL_A, aL_B, aL_S, aC_A, hRd_eq, hRd_ne, cp6, cp8, tl_some, tl_none, List.cons_append, List.nil_append, ofI_t0, ofI_t1, Int.add_zero, Int.zero_add, x161_46, x161_47, x161_48, x161_49, x161_50, x161_51, x161_52, x161_53, gf11_0, pf11_0, gf11_1, pf11_1, gf11_2, pf11_2, gf11_3, gf11_4, gf11_5, gf11_6, gf11_7, pf11_7, gf11_8, gf11_9, pf11_9, gf11_10, pf11_10, gf11_11, pf11_11, gf11_12, pf11_12, gf11_13, pf11_13, gf11_14, gf11_15, pf11_15, gf11_16, gf11_17, pf11_17, gf11_18, gf11_19, gf11_20, gf11_21, gf11_22, gf11_23, gf11_24, pf11_24, gf11_25, gf11_26, gf11_27, gf11_28, pf11_28, gf11_29, pf11_29, gf11_30, gf11_31, gf11_32, pf11_32, gf11_33, gf11_34, gf11_35, pf11_35, gf11_36, gf11_37, gf11_38, gf11_39, uN_eq, uN_ne, e1, e5]
        exact ⟨fun _ => k3, fun q => by first | omega | exact absurd rfl q | exact absurd trivial q | exact absurd q (by omega)⟩
    · rw [if_neg q2]
      simp (disch := omega) only [wr_id, wr_m1, sd_t, nl_I, nl_R, nl_none, c1_I, c1_R, sh_0, sh_1, sh_2, sh_3, sh_4, true_and, and_true, ldA_A, ldB_B, ldS_S, stA_A, stB_B, aL_A, aL_B, aL_S, aC_A, hRd_eq, hRd_ne, cp6, cp8, tl_some, tl_none, List.cons_append, List.nil_append, ofI_t0, ofI_t1, Int.add_zero, Int.zero_add, x161_19, x161_20, x161_21]
      exact ⟨fun q => by first | omega | exact absurd rfl q | exact absurd trivial q | exact absurd q (by omega), fun _ => k2 q.1 q.2 q2⟩
  · rw [if_neg q]
    simp (disch := omega) only [wr_id, wr_m1, sd_t, nl_I, nl_R, nl_none, c1_I, c1_R, sh_0, sh_1, sh_2, sh_3, sh_4, true_and, and_true, ldA_A, ldB_B, ldS_S, stA_A, stB_B, aL_A, aL_B, aL_S, aC_A, hRd_eq, hRd_ne, cp6, cp8, tl_some, tl_none, List.cons_append, List.nil_append, ofI_t0, ofI_t1, Int.add_zero, Int.zero_add, x161_11, x161_12, x161_13]
    exact ⟨fun q => by first | omega | exact absurd rfl q | exact absurd trivial q | exact absurd q (by omega), fun _ => k1 q⟩
end
section
variable {d : Nat} {Q : Option Value → LHeap → Prop} {wk wt dr tk bh g : Int → Int} {M P J sh p y : Int} {z : Nat → Int} {L : List Int}
theorem l_mh {h0 : LHeap} (hd : 5 ≤ d) (hB : CapB M P J wk wt dr tk bh) (hM : MC M P J wt tk bh z h0) (hS : SC P J L wk dr sh g) (hN : NR L g) (hn : L.Nodup) (hP : Prs P L) (hy : 0 ≤ y ∧ y ≤ 1) (hp : ¬ pfrom L p 0 = -1) : ∀ (n : Nat) (pl bp ha le : Int) (h : LHeap) (l7 l8 : Option Value), (n : Int) = L.length - pl → 0 ≤ pl → (bp = -1 ↔ ha = -1) → (¬ bp = -1 → le = ha) → -1 ≤ bp → bp ≤ 5 → 0 ≤ le → le ≤ 10000 → OS h0 h → hRd h 156 = oM z → hRd h 160 = cA 24 g → (∃ u, hRd h 168 = cA 6 u) → (∃ u, hRd h 169 = cA 8 u) → hRd h 171 = cA 24 g → nl l7 → ¬ (hpF M J sh wk wt dr tk bh L p n pl bp ha).1 = -1 → (∀ h1, OS h0 h1 → hRd h1 156 = oM z → hRd h1 160 = cA 24 g → Q (some (vI (if y = 0 then (hpF M J sh wk wt dr tk bh L p n pl bp ha).1 else (hpF M J sh wk wt dr tk bh L p n pl bp ha).2))) h1) → WPC d 163 31 [some (.ref 156), some (vI p), some (vI y), some (vI (pfrom L p 0)), some (vI bp), some (vI le), some (vI pl), l7, l8] [] h Q := by
  have g6 := hN.g6
  have hN2 := hN.2
  have hpf := pfrom_ge L p 0 (by omega)
  have hpm := pfrom_mem L p 0 (by omega) hp
  have hp6 := hP p hpm
  have hP6 := hB.2.1
  have hM6 := hB.1
  intro n
  induction n with
  | zero =>
    intro pl bp ha le h l7 l8 hn0 hpl hb1 hb2 hb3 hb4 hl1 hl2 o h1 hg h168 h169 hw hl7 hne kk
    have kk := kk h o h1 hg
    rw [hpF] at kk hne
    rw [WPC_iff]
    simp (disch := omega) only [wr_id, wr_m1, sd_t, nl_I, nl_R, nl_none, c1_I, c1_R, sh_0, sh_1, sh_2, sh_3, sh_4, true_and, and_true, ldA_A, ldB_B, ldS_S, stA_A, stB_B, aL_A, aL_B, aL_S, aC_A, hRd_eq, hRd_ne, cp6, cp8, tl_some, tl_none, List.cons_append, List.nil_append, ofI_t0, ofI_t1, Int.add_zero, Int.zero_add, x163_31, x163_32, x163_33, x163_34, x163_35, x163_36, x163_75, x163_76, x163_77, x163_78, x163_79, x163_80, gf11_0, pf11_0, gf11_1, pf11_1, gf11_2, pf11_2, gf11_3, gf11_4, gf11_5, gf11_6, gf11_7, pf11_7, gf11_8, gf11_9, pf11_9, gf11_10, pf11_10, gf11_11, pf11_11, gf11_12, pf11_12, gf11_13, pf11_13, gf11_14, gf11_15, pf11_15, gf11_16, gf11_17, pf11_17, gf11_18, gf11_19, gf11_20, gf11_21, gf11_22, gf11_23, gf11_24, pf11_24, gf11_25, gf11_26, gf11_27, gf11_28, pf11_28, gf11_29, pf11_29, gf11_30, gf11_31, gf11_32, pf11_32, gf11_33, gf11_34, gf11_35, pf11_35, gf11_36, gf11_37, gf11_38, gf11_39, uN_eq, uN_ne, h1, hw]
    refine ⟨by omega, fun _ => ⟨fun q => ?_, fun q => ?_⟩, fun q => by omega⟩
    · rw [if_neg q, ← hb2 hne] at kk
      exact kk
    · rw [if_pos (by omega)] at kk
      exact kk
  | succ n ih =>
    intro pl bp ha le h l7 l8 hn0 hpl hb1 hb2 hb3 hb4 hl1 hl2 o h1 hg ⟨u1, h168⟩ ⟨u2, h169⟩ hw hl7 hne kk
    have ed : delL L (pfrom L p 0) = outL L p := (if_neg hp).symm
    have eol := out_len hpm
    rw [WPC_iff]
    simp (disch := omega) only [wr_id, wr_m1, sd_t, nl_I, nl_R, nl_none, c1_I, c1_R, sh_0, sh_1, sh_2, sh_3, sh_4, true_and, and_true, ldA_A, ldB_B, ldS_S, stA_A, stB_B, aL_A, aL_B, aL_S, aC_A, hRd_eq, hRd_ne, cp6, cp8, tl_some, tl_none, List.cons_append, List.nil_append, ofI_t0, ofI_t1, Int.add_zero, Int.zero_add, x163_31, x163_32, x163_33, x163_34, x163_35, x163_36, x163_37, x163_38, x163_39, gf11_0, pf11_0, gf11_1, pf11_1, gf11_2, pf11_2, gf11_3, gf11_4, gf11_5, gf11_6, gf11_7, pf11_7, gf11_8, gf11_9, pf11_9, gf11_10, pf11_10, gf11_11, pf11_11, gf11_12, pf11_12, gf11_13, pf11_13, gf11_14, gf11_15, pf11_15, gf11_16, gf11_17, pf11_17, gf11_18, gf11_19, gf11_20, gf11_21, gf11_22, gf11_23, gf11_24, pf11_24, gf11_25, gf11_26, gf11_27, gf11_28, pf11_28, gf11_29, pf11_29, gf11_30, gf11_31, gf11_32, pf11_32, gf11_33, gf11_34, gf11_35, pf11_35, gf11_36, gf11_37, gf11_38, gf11_39, uN_eq, uN_ne, h1, hw]
    refine ⟨by omega, fun q => by omega, fun _ => ?_⟩
    refine m_tkOut (by omega) h1 hg hN (by omega) (fun g2 n2 k2 h2 e2 o2 => ?_)
    rw [ed] at n2
    have h21 : hRd h2 156 = oM z := by rw [o2.2.2 _ (by omega)]; exact h1
    have g26 := n2.2
    simp (disch := omega) only [wr_id, wr_m1, sd_t, nl_I, nl_R, nl_none, c1_I, c1_R, sh_0, sh_1, sh_2, sh_3, sh_4, true_and, and_true, ldA_A, ldB_B, ldS_S, stA_A, stB_B, aL_A, aL_B, aL_S, aC_A, hRd_eq, hRd_ne, cp6, cp8, tl_some, tl_none, List.cons_append, List.nil_append, ofI_t0, ofI_t1, Int.add_zero, Int.zero_add, x163_40, x163_41, x163_42, x163_43]
    refine m_ptIn (by omega) h21 e2 n2 (by omega) (by omega) (by omega) (fun g3 n3 k3 h3 e3 o3 => ?_)
    have eT : insL (outL L p) pl p = hrT L p pl := rfl
    rw [eT] at n3
    have hpo : ¬ p ∈ outL L p := fun q => ((out_mem hn).mp q).1 rfl
    have hT : Prs P (hrT L p pl) := fun q hq => by
      rcases ins_mem.mp hq with e | e
      · rw [e]; exact hp6
      · exact hP q ((out_mem hn).mp e).2
    have hTn : (hrT L p pl).Nodup := ins_nd (out_nd hn) hpo
    have hTl : (hrT L p pl).length = L.length := by
      have := ins_len (L := outL L p) (pl := pl) (p := p)
      rw [eT] at this
      omega
    have kg : ∀ i, 7 ≤ i → g3 i = g i := fun i hi => (k3 i hi).trans (k2 i hi)
    have hS3 : SC P J (hrT L p pl) wk dr sh g3 := SC.of n3 (by rw [kg 7 (by omega)]; exact hS.2.2.1) (fun j j0 j1 => by rw [kg _ (by omega)]; exact hS.2.2.2.1 j j0 j1) (fun p p0 p1 => by rw [kg _ (by omega)]; exact hS.2.2.2.2 p p0 p1)
    have o13 := (o.trans (OS.o160 o2)).trans (OS.o160 o3)
    have h31 : hRd h3 156 = oM z := by rw [o3.2.2 _ (by omega)]; exact h21
    simp (disch := omega) only [wr_id, wr_m1, sd_t, nl_I, nl_R, nl_none, c1_I, c1_R, sh_0, sh_1, sh_2, sh_3, sh_4, true_and, and_true, ldA_A, ldB_B, ldS_S, stA_A, stB_B, aL_A, aL_B, aL_S, aC_A, hRd_eq, hRd_ne, cp6, cp8, tl_some, tl_none, List.cons_append, List.nil_append, ofI_t0, ofI_t1, Int.add_zero, Int.zero_add, x163_44, x163_45]
    refine m_settle (by omega) hB hS3 hT (by omega) hTn (hM.os o13 h31 ⟨rfl, rfl, rfl⟩) e3 (U := u1) (D := u2) (by rw [o3.2.2 _ (by omega), o2.2.2 _ (by omega)]; exact h168) (by rw [o3.2.2 _ (by omega), o2.2.2 _ (by omega)]; exact h169) (fun h4 e4 f4 o4 => ?_)
    have o14 := o13.trans (OS.set o4 e4 f4)
    have h41 : hRd h4 156 = oM z := by rw [o4.2.2 _ (by omega)]; exact h31
    have e43 : hRd h4 160 = cA 24 g3 := by rw [o4.2.2 _ (by omega)]; exact e3
    have hU := TVF_recU (sh := sh) hB hT
    have hsu := suF_b (but := p) hU hM6 (hrT L p pl) 0
    simp (disch := omega) only [wr_id, wr_m1, sd_t, nl_I, nl_R, nl_none, c1_I, c1_R, sh_0, sh_1, sh_2, sh_3, sh_4, true_and, and_true, ldA_A, ldB_B, ldS_S, stA_A, stB_B, aL_A, aL_B, aL_S, aC_A, hRd_eq, hRd_ne, cp6, cp8, tl_some, tl_none, List.cons_append, List.nil_append, ofI_t0, ofI_t1, Int.add_zero, Int.zero_add, x163_46, x163_47, x163_48]
    refine m_ups (by omega) h41 hM.2.1.1 e43 e4 n3 hU (by omega) ?_
    rw [hpF] at kk hne
    generalize hsm : suF M p (recU M J sh wk wt dr tk bh (hrT L p pl)) (hrT L p pl) 0 = sm at kk hne hsu
    -- behind the comparison
    have nxt : ∀ (c8 bp1 ha1 le1 : Int), c8 = (if ha = -1 ∨ sm < ha then 1 else 0) → bp1 = (if ha = -1 ∨ sm < ha then pl else bp) → le1 = (if ha = -1 ∨ sm < ha then sm else le) → WP d 163 71 [some (.ref 156), some (vI p), some (vI y), some (vI (pfrom L p 0)), some (vI bp1), some (vI le1), some (vI pl), some (vI sm), some (vI c8)] [] h4 Q := by
      intro c8 bp1 ha1 le1 hc8 hbp1 hle1
      simp (disch := omega) only [wr_id, wr_m1, sd_t, nl_I, nl_R, nl_none, c1_I, c1_R, sh_0, sh_1, sh_2, sh_3, sh_4, true_and, and_true, ldA_A, ldB_B, ldS_S, stA_A, stB_B, aL_A, aL_B, aL_S, aC_A, hRd_eq, hRd_ne, cp6, cp8, tl_some, tl_none, List.cons_append, List.nil_append, ofI_t0, ofI_t1, Int.add_zero, Int.zero_add, x163_71, x163_72]
      refine m_putBack (by omega) h41 (by rw [o4.2.2 _ (by omega), o3.2.2 _ (by omega), o2.2.2 _ (by omega)]; exact hw) e43 (fun h5 e5 o5 => ?_)
      simp (disch := omega) only [wr_id, wr_m1, sd_t, nl_I, nl_R, nl_none, c1_I, c1_R, sh_0, sh_1, sh_2, sh_3, sh_4, true_and, and_true, ldA_A, ldB_B, ldS_S, stA_A, stB_B, aL_A, aL_B, aL_S, aC_A, hRd_eq, hRd_ne, cp6, cp8, tl_some, tl_none, List.cons_append, List.nil_append, ofI_t0, ofI_t1, Int.add_zero, Int.zero_add, x163_30, x163_73, x163_74]
      have h51 : hRd h5 156 = oM z := by rw [o5.2.2 _ (by omega)]; exact h41
      have w5 : hRd h5 171 = cA 24 g := by rw [o5.2.2 _ (by omega), o4.2.2 _ (by omega), o3.2.2 _ (by omega), o2.2.2 _ (by omega)]; exact hw
      by_cases q : ha = -1 ∨ sm < ha
      · rw [if_pos q] at kk hne hbp1 hle1
        exact ih (pl + 1) bp1 sm le1 h5 _ _ (by omega) (by omega) (by omega) (fun _ => hle1) (by omega) (by omega) (by omega) (by omega) (o14.trans (OS.o160 o5)) h51 e5 ⟨_, by rw [o5.2.2 _ (by omega)]; exact e4⟩ ⟨_, by rw [o5.2.2 _ (by omega)]; exact f4⟩ w5 (by rw [nl_I]; trivial) (by rw [hbp1]; exact hne) (by rw [hbp1]; exact kk)
      · rw [if_neg q] at kk hne hbp1 hle1
        exact ih (pl + 1) bp1 ha le1 h5 _ _ (by omega) (by omega) (by omega) (fun q2 => by rw [hle1]; exact hb2 (by omega)) (by omega) (by omega) (by omega) (by omega) (o14.trans (OS.o160 o5)) h51 e5 ⟨_, by rw [o5.2.2 _ (by omega)]; exact e4⟩ ⟨_, by rw [o5.2.2 _ (by omega)]; exact f4⟩ w5 (by rw [nl_I]; trivial) (by rw [hbp1]; exact hne) (by rw [hbp1]; exact kk)
    have bt1 : (ha = -1 ∨ sm < ha) → ∀ c8, c8 = 1 → WP d 163 59 [some (.ref 156), some (vI p), some (vI y), some (vI (pfrom L p 0)), some (vI bp), some (vI le), some (vI pl), some (vI sm), some (vI c8)] [] h4 Q := fun q c8 hc8 => by
      simp (disch := omega) only [wr_id, wr_m1, sd_t, nl_I, nl_R, nl_none, c1_I, c1_R, sh_0, sh_1, sh_2, sh_3, sh_4, true_and, and_true, ldA_A, ldB_B, ldS_S, stA_A, stB_B, aL_A, aL_B, aL_S, aC_A, hRd_eq, hRd_ne, cp6, cp8, tl_some, tl_none, List.cons_append, List.nil_append, ofI_t0, ofI_t1, Int.add_zero, Int.zero_add, x163_59, x163_60, x163_61, x163_62, x163_63, x163_64, x163_65, x163_66, x163_67, x163_68, x163_69, x163_70]
      refine ⟨fun q => by omega, fun _ => ⟨fun q => by omega, fun _ => nxt _ _ ha _ ?_ ?_ ?_⟩⟩
      · rw [if_pos q]; exact hc8
      · rw [if_pos q]
      · rw [if_pos q]
    have bt0 : ¬ (ha = -1 ∨ sm < ha) → ∀ c8, c8 = 0 → WP d 163 59 [some (.ref 156), some (vI p), some (vI y), some (vI (pfrom L p 0)), some (vI bp), some (vI le), some (vI pl), some (vI sm), some (vI c8)] [] h4 Q := fun q c8 hc8 => by
      simp (disch := omega) only [wr_id, wr_m1, sd_t, nl_I, nl_R, nl_none, c1_I, c1_R, sh_0, sh_1, sh_2, sh_3, sh_4, true_and, and_true, ldA_A, ldB_B, ldS_S, stA_A, stB_B, aL_A, aL_B, aL_S, aC_A, hRd_eq, hRd_ne, cp6, cp8, tl_some, tl_none, List.cons_append, List.nil_append, ofI_t0, ofI_t1, Int.add_zero, Int.zero_add, x163_59, x163_60, x163_61, x163_62, x163_63, x163_64, x163_65, x163_66, x163_67, x163_68, x163_69, x163_70]
      refine ⟨fun _ => ⟨fun _ => nxt _ _ ha _ ?_ ?_ ?_, fun q => absurd hc8 q⟩, fun q => absurd hc8 q⟩
      · rw [if_neg q]; exact hc8
      · rw [if_neg q]
      · rw [if_neg q]
    simp (disch := omega) only [wr_id, wr_m1, sd_t, nl_I, nl_R, nl_none, c1_I, c1_R, sh_0, sh_1, sh_2, sh_3, sh_4, true_and, and_true, ldA_A, ldB_B, ldS_S, stA_A, stB_B, aL_A, aL_B, aL_S, aC_A, hRd_eq, hRd_ne, cp6, cp8, tl_some, tl_none, List.cons_append, List.nil_append, ofI_t0, ofI_t1, Int.add_zero, Int.zero_add, hl7, x163_49, x163_50, x163_51, x163_52, x163_53, x163_54, x163_55, x163_56, x163_57, x163_58]
    refine ⟨fun q => bt1 (by omega) _ rfl, fun q => ⟨fun q2 => bt0 (fun q3 => ?_) _ rfl, fun q2 => bt1 (Or.inr ?_) _ rfl⟩⟩
    · have := hb2 (by omega); omega
    · have := hb2 (by omega); omega
end
