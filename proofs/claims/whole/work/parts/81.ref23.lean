-- THE REFERENCE'S READER: persons, jobs, who waits
/-- what is read so far, as the reference has it -/
def RE (D : CC) (zz : Nat → Int) (h : LHeap) : Prop := zz 15 = D.2.1 ∧ zz 17 = D.2.2.1 ∧ (∃ r, hRd h 162 = cA 1 r ∧ r 0 = D.1) ∧ (∃ r, hRd h 163 = cA 6 r ∧ ∀ p, 0 ≤ p → p < D.2.1 → r p = D.2.2.2.1 p) ∧ (∃ r, hRd h 164 = cA 8 r ∧ ∀ j, 0 ≤ j → j < D.2.2.1 → r j = D.2.2.2.2.2.1 j) ∧ (∃ r, hRd h 165 = cA 8 r ∧ ∀ j, 0 ≤ j → j < D.2.2.1 → r j = D.2.2.2.2.2.2.1 j) ∧ (∃ r, hRd h 166 = cA 8 r ∧ ∀ j, 0 ≤ j → j < D.2.2.1 → r j = D.2.2.2.2.2.2.2 j) ∧ ∃ r, hRd h 167 = cA 6 r ∧ ∀ p, 0 ≤ p → p < D.2.1 → r p = D.2.2.2.2.1 p
def RX (h : LHeap) : Prop := (∃ r, hRd h 162 = cA 1 r) ∧ (∃ r, hRd h 163 = cA 6 r) ∧ (∃ r, hRd h 164 = cA 8 r) ∧ (∃ r, hRd h 165 = cA 8 r) ∧ (∃ r, hRd h 166 = cA 8 r) ∧ ∃ r, hRd h 167 = cA 6 r
theorem RE.rx {D : CC} {zz : Nat → Int} {h : LHeap} (e : RE D zz h) : RX h := by
  obtain ⟨-, -, ⟨r1, a1, -⟩, ⟨r2, a2, -⟩, ⟨r3, a3, -⟩, ⟨r4, a4, -⟩, ⟨r5, a5, -⟩, ⟨r6, a6, -⟩⟩ := e
  exact ⟨⟨r1, a1⟩, ⟨r2, a2⟩, ⟨r3, a3⟩, ⟨r4, a4⟩, ⟨r5, a5⟩, ⟨r6, a6⟩⟩
/-- the reader's cells alone -/
def OR (h h1 : LHeap) : Prop := h1.1 = h.1 ∧ h1.2.1 = h.2.1 ∧ (∀ a, ¬ (a = 156 ∨ (162 ≤ a ∧ a ≤ 167)) → hRd h1 a = hRd h a) ∧ RX h1
theorem OR.trans {h h1 h2 : LHeap} (a : OR h h1) (b : OR h1 h2) : OR h h2 := ⟨b.1.trans a.1, b.2.1.trans a.2.1, fun q hq => (b.2.2.1 q hq).trans (a.2.2.1 q hq), b.2.2.2⟩
/-- the reader's own numbers alone -/
def ZR (z zz : Nat → Int) : Prop := ∀ i, ¬ (i = 10 ∨ i = 11 ∨ i = 12 ∨ i = 13 ∨ i = 15 ∨ i = 17) → zz i = z i
theorem ZR.trans {z z1 z2 : Nat → Int} (a : ZR z z1) (b : ZR z1 z2) : ZR z z2 := fun i hi => (b i hi).trans (a i hi)
theorem ZN.zr {z zz : Nat → Int} (a : ZN z zz) : ZR z zz := fun i hi => a i (by omega)
/-- a fault's end; the end of what was taken -/
def FF (Q : Option Value → LHeap → Prop) (h : LHeap) (z : Nat → Int) (fl pl : Int) : Prop := ∀ (h1 : LHeap) (zz : Nat → Int), hRd h1 156 = oM zz → ZR z zz → zz 10 = pl → OR h h1 → Q (some (vI fl)) h1
def SU (Q : Option Value → LHeap → Prop) (h : LHeap) (z : Nat → Int) (D : CC) (b : Int) : Prop := ∀ (h1 : LHeap) (zz : Nat → Int), hRd h1 156 = oM zz → ZR z zz → zz 10 = z 10 → zz 11 = b → OR h h1 → RE D zz h1 → Q (some (vI 0)) h1
section
variable {h h1 : LHeap} {z zz : Nat → Int} {Q : Option Value → LHeap → Prop} {D : CC} {fl pl b : Int}
theorem FF.of (hf : FF Q h z fl pl) (o : OR h h1) (e : ZR z zz) : FF Q h1 zz fl pl := fun h2 z2 e1 e2 e3 o2 => hf h2 z2 e1 (e.trans e2) e3 (o.trans o2)
theorem SU.of (hf : SU Q h z D b) (o : OR h h1) (e : ZR z zz) (e10 : zz 10 = z 10) : SU Q h1 zz D b := fun h2 z2 e1 e2 e3 e4 o2 r2 => hf h2 z2 e1 (e.trans e2) (e3.trans e10) e4 (o.trans o2) r2
end
theorem OR.o156 {h h1 : LHeap} (x : RX h) (o : Out 156 156 h h1) : OR h h1 := by
  obtain ⟨⟨r1, a1⟩, ⟨r2, a2⟩, ⟨r3, a3⟩, ⟨r4, a4⟩, ⟨r5, a5⟩, ⟨r6, a6⟩⟩ := x
  exact ⟨o.1, o.2.1, fun q hq => o.2.2 q (by omega), ⟨r1, by rw [o.2.2 _ (by omega)]; exact a1⟩, ⟨r2, by rw [o.2.2 _ (by omega)]; exact a2⟩, ⟨r3, by rw [o.2.2 _ (by omega)]; exact a3⟩, ⟨r4, by rw [o.2.2 _ (by omega)]; exact a4⟩, ⟨r5, by rw [o.2.2 _ (by omega)]; exact a5⟩, ⟨r6, by rw [o.2.2 _ (by omega)]; exact a6⟩⟩
section
variable {d : Nat} {h : LHeap} {Q : Option Value → LHeap → Prop} {f : Int → Int} {n a w : Int} {z : Nat → Int} {D : CC}
/-- reading goes on: what all takers want -/
def RG (f : Int → Int) (n a : Int) (z : Nat → Int) (h : LHeap) : Prop := TxB f n ∧ (0 ≤ a ∧ a ≤ n) ∧ z 9 = n ∧ z 11 = a ∧ hRd h 156 = oM z ∧ hRd h 161 = cA 220 f
theorem m_tkP (hd : 4 ≤ d) (g : RG f n a z h) (hD : DB D) (r : RE D z h) (hP : D.2.1 < 6) (k1 : ¬ nK f n 0 999 a = 0 → FF Q h z (nK f n 0 999 a) (nA f n a)) (k2 : nK f n 0 999 a = 0 → SU Q h z (addP D (nV f n a)) (nB f n a)) : CALL d 120 [.ref 156] h Q := by
  obtain ⟨hT, ha, z9, z11, h1, h6⟩ := g
  have rx := r.rx
  obtain ⟨z15, z17, ⟨r1, a1, b1⟩, ⟨r2, a2, b2⟩, ⟨r3, a3, b3⟩, ⟨r4, a4, b4⟩, ⟨r5, a5, b5⟩, ⟨r6, a6, b6⟩⟩ := r
  have hP0 := hD.1.2.1
  refine cl120 (by omega) h1 ?_
  simp (disch := omega) only [wr_id, wr_m1, sd_t, nl_I, nl_R, nl_none, c1_I, c1_R, sh_0, sh_1, sh_2, sh_3, sh_4, true_and, and_true, ldA_A, ldB_B, ldS_S, stA_A, stB_B, aL_A, aL_B, aL_S, aC_A, hRd_eq, hRd_ne, cp6, cp8, tl_some, tl_none, List.cons_append, List.nil_append, ofI_t0, ofI_t1, Int.add_zero, Int.zero_add, x120_0, x120_1, x120_2, x120_3, x120_4, x120_5, x120_6, x120_7, x120_8, x120_9, x120_10, x120_11, x120_12, x120_13, x120_14, x120_15, x120_16, x120_17, x120_18, x120_19, x120_20, gf11_0, pf11_0, gf11_1, pf11_1, gf11_2, pf11_2, gf11_3, gf11_4, gf11_5, gf11_6, gf11_7, pf11_7, gf11_8, gf11_9, pf11_9, gf11_10, pf11_10, gf11_11, pf11_11, gf11_12, pf11_12, gf11_13, pf11_13, gf11_14, gf11_15, pf11_15, gf11_16, gf11_17, pf11_17, gf11_18, gf11_19, gf11_20, gf11_21, gf11_22, gf11_23, gf11_24, pf11_24, gf11_25, gf11_26, gf11_27, gf11_28, pf11_28, gf11_29, pf11_29, gf11_30, gf11_31, gf11_32, pf11_32, gf11_33, gf11_34, gf11_35, pf11_35, gf11_36, gf11_37, gf11_38, gf11_39, uN_eq, uN_ne, h1, a2, a6, z15]
  refine ⟨by omega, ?_⟩
  refine m_into (z := uN z 15 (D.2.1 + 1)) (by omega) hT (by omega) (by omega) ha z9 z11 (by rw [hRd_ne (by omega)]; exact hRd_eq) (by rw [hRd_ne (by omega), hRd_ne (by omega)]; exact h6) (by rw [hRd_ne (by omega), hRd_ne (by omega)]; exact a2) (by omega) (by omega) (by omega) (fun h2 z2 v e1 e2 e3 e4 e5 k o => ?_)
  simp (disch := omega) only [wr_id, wr_m1, sd_t, nl_I, nl_R, nl_none, c1_I, c1_R, sh_0, sh_1, sh_2, sh_3, sh_4, true_and, and_true, ldA_A, ldB_B, ldS_S, stA_A, stB_B, aL_A, aL_B, aL_S, aC_A, hRd_eq, hRd_ne, cp6, cp8, tl_some, tl_none, List.cons_append, List.nil_append, ofI_t0, ofI_t1, Int.add_zero, Int.zero_add, x120_21]
  have k0 : ∀ b, ¬ (b = 156 ∨ b = 163 ∨ b = 167) → hRd h2 b = hRd h b := fun b hb => by rw [k b (by omega), hRd_ne (by omega), hRd_ne (by omega)]
  have w167 : hRd h2 167 = cA 6 (uA r6 D.2.1 (-1)) := by rw [k _ (by omega)]; exact hRd_eq
  have zr : ZR z z2 := fun i hi => (e2 i (by omega)).trans (uN_ne (by omega))
  have orr : OR h h2 := ⟨o.1, o.2, fun b hb => k0 b (by omega), ⟨r1, by rw [k0 _ (by omega)]; exact a1⟩, ⟨_, e5⟩, ⟨r3, by rw [k0 _ (by omega)]; exact a3⟩, ⟨r4, by rw [k0 _ (by omega)]; exact a4⟩, ⟨r5, by rw [k0 _ (by omega)]; exact a5⟩, ⟨_, w167⟩⟩
  by_cases q : nK f n 0 999 a = 0
  · obtain ⟨q1, q2, q3, q4⟩ := e4 q
    rw [q]
    refine k2 q h2 z2 e1 zr (q1.trans (uN_ne (by omega))) q2 orr ⟨(e2 15 (by omega)).trans uN_eq, (e2 17 (by omega)).trans ((uN_ne (by omega)).trans z17), ⟨r1, by rw [k0 _ (by omega)]; exact a1, b1⟩, ⟨_, e5, fun p p0 p1 => ?_⟩, ⟨r3, by rw [k0 _ (by omega)]; exact a3, b3⟩, ⟨r4, by rw [k0 _ (by omega)]; exact a4, b4⟩, ⟨r5, by rw [k0 _ (by omega)]; exact a5, b5⟩, ⟨_, w167, fun p p0 p1 => ?_⟩⟩
    · have p1 : p < D.2.1 + 1 := p1
      show uA r2 D.2.1 v p = uA D.2.2.2.1 D.2.1 (nV f n a) p
      unfold uA
      split
      · exact q3
      · exact b2 p p0 (by omega)
    · have p1 : p < D.2.1 + 1 := p1
      show uA r6 D.2.1 (-1) p = uA D.2.2.2.2.1 D.2.1 (-1) p
      unfold uA
      split
      · rfl
      · exact b6 p p0 (by omega)
  · exact k1 q h2 z2 e1 zr (e3 q) orr
theorem m_tkJ (hd : 4 ≤ d) (g : RG f n a z h) (hD : DB D) (r : RE D z h) (hJ : D.2.2.1 < 8) (k1 : ¬ nK f n 0 (D.2.1 - 1) a = 0 → FF Q h z (nK f n 0 (D.2.1 - 1) a) (nA f n a)) (k2 : nK f n 0 (D.2.1 - 1) a = 0 → ¬ nK f n 1 99 (nB f n a) = 0 → FF Q h z (nK f n 1 99 (nB f n a)) (nA f n (nB f n a))) (k3 : nK f n 0 (D.2.1 - 1) a = 0 → nK f n 1 99 (nB f n a) = 0 → ¬ nK f n 0 999 (nB f n (nB f n a)) = 0 → FF Q h z (nK f n 0 999 (nB f n (nB f n a))) (nA f n (nB f n (nB f n a)))) (k4 : nK f n 0 (D.2.1 - 1) a = 0 → nK f n 1 99 (nB f n a) = 0 → nK f n 0 999 (nB f n (nB f n a)) = 0 → ¬ (nV f n (nB f n (nB f n a)) = 9 ∨ nV f n (nB f n (nB f n a)) < D.2.2.1) → FF Q h z 2 (nA f n (nB f n (nB f n a)))) (k5 : nK f n 0 (D.2.1 - 1) a = 0 → nK f n 1 99 (nB f n a) = 0 → nK f n 0 999 (nB f n (nB f n a)) = 0 → (nV f n (nB f n (nB f n a)) = 9 ∨ nV f n (nB f n (nB f n a)) < D.2.2.1) → SU Q h z (addJ D (nV f n a) (nV f n (nB f n a)) (if nV f n (nB f n (nB f n a)) = 9 then -1 else nV f n (nB f n (nB f n a)))) (nB f n (nB f n (nB f n a)))) : CALL d 121 [.ref 156] h Q := by
  obtain ⟨hT, ha, z9, z11, h1, h6⟩ := g
  have rx := r.rx
  obtain ⟨z15, z17, ⟨r1, a1, b1⟩, ⟨r2, a2, b2⟩, ⟨r3, a3, b3⟩, ⟨r4, a4, b4⟩, ⟨r5, a5, b5⟩, ⟨r6, a6, b6⟩⟩ := r
  have hP0 := hD.1.2.1
  have hJ0 := hD.1.2.2.1
  have hn := hT.1
  -- the end, behind a fault: it is written, and nobody looks
  have bad : ∀ (f0 fl pl : Int) (h2 : LHeap) (z2 : Nat → Int), (¬ fl = 0 ∧ 0 ≤ fl ∧ fl ≤ 2) → FF Q h z fl pl → hRd h2 156 = oM z2 → ZR z z2 → z2 10 = pl → z2 17 = D.2.2.1 → OR h h2 → WP (d - 1) 121 34 [some (.ref 156), some (vI D.2.2.1), some (vI f0)] [vI fl] h2 Q := by
    intro f0 fl pl h2 z2 hfl hf e1 e2 e3 e4 o
    obtain ⟨o1, o2, o3, ⟨q1, x1⟩, ⟨q2, x2⟩, ⟨q3, x3⟩, ⟨q4, x4⟩, ⟨q5, x5⟩, ⟨q6, x6⟩⟩ := o
    have fin : ∀ v : Int, Q (some (vI fl)) (hWr (hWr h2 166 (cA 8 (uA q5 D.2.2.1 v))) 156 (oM (uN z2 17 (D.2.2.1 + 1)))) := fun v => by
      refine hf _ (uN z2 17 (D.2.2.1 + 1)) hRd_eq (fun i hi => by rw [uN_ne (by omega)]; exact e2 i hi) (by rw [uN_ne (by omega)]; exact e3) ⟨o1, o2, fun b hb => by rw [hRd_ne (by omega), hRd_ne (by omega)]; exact o3 b hb, ⟨q1, by rw [hRd_ne (by omega), hRd_ne (by omega)]; exact x1⟩, ⟨q2, by rw [hRd_ne (by omega), hRd_ne (by omega)]; exact x2⟩, ⟨q3, by rw [hRd_ne (by omega), hRd_ne (by omega)]; exact x3⟩, ⟨q4, by rw [hRd_ne (by omega), hRd_ne (by omega)]; exact x4⟩, ⟨_, by rw [hRd_ne (by omega)]; exact hRd_eq⟩, ⟨q6, by rw [hRd_ne (by omega), hRd_ne (by omega)]; exact x6⟩⟩
    simp (disch := omega) only [wr_id, wr_m1, sd_t, nl_I, nl_R, nl_none, c1_I, c1_R, sh_0, sh_1, sh_2, sh_3, sh_4, true_and, and_true, ldA_A, ldB_B, ldS_S, stA_A, stB_B, aL_A, aL_B, aL_S, aC_A, hRd_eq, hRd_ne, cp6, cp8, tl_some, tl_none, List.cons_append, List.nil_append, ofI_t0, ofI_t1, Int.add_zero, Int.zero_add, x121_34, x121_35, x121_36, x121_52, x121_53, x121_54, x121_55, x121_56, x121_57, x121_58, x121_59, x121_60, x121_61, x121_62, x121_63, x121_64, x121_65, x121_66, x121_67, x121_68, x121_69, x121_70, x121_71, gf11_0, pf11_0, gf11_1, pf11_1, gf11_2, pf11_2, gf11_3, gf11_4, gf11_5, gf11_6, gf11_7, pf11_7, gf11_8, gf11_9, pf11_9, gf11_10, pf11_10, gf11_11, pf11_11, gf11_12, pf11_12, gf11_13, pf11_13, gf11_14, gf11_15, pf11_15, gf11_16, gf11_17, pf11_17, gf11_18, gf11_19, gf11_20, gf11_21, gf11_22, gf11_23, gf11_24, pf11_24, gf11_25, gf11_26, gf11_27, gf11_28, pf11_28, gf11_29, pf11_29, gf11_30, gf11_31, gf11_32, pf11_32, gf11_33, gf11_34, gf11_35, pf11_35, gf11_36, gf11_37, gf11_38, gf11_39, uN_eq, uN_ne, e1, e4, x5]
    exact ⟨fun _ => ⟨fun _ => ⟨by omega, fin _⟩, fun _ => ⟨by omega, fin _⟩⟩, fun q => absurd q (by omega)⟩
  refine cl121 (by omega) h1 ?_
  simp (disch := omega) only [wr_id, wr_m1, sd_t, nl_I, nl_R, nl_none, c1_I, c1_R, sh_0, sh_1, sh_2, sh_3, sh_4, true_and, and_true, ldA_A, ldB_B, ldS_S, stA_A, stB_B, aL_A, aL_B, aL_S, aC_A, hRd_eq, hRd_ne, cp6, cp8, tl_some, tl_none, List.cons_append, List.nil_append, ofI_t0, ofI_t1, Int.add_zero, Int.zero_add, x121_0, x121_1, x121_2, x121_3, x121_4, x121_5, x121_6, x121_7, x121_8, x121_9, x121_10, x121_11, x121_12, gf11_0, pf11_0, gf11_1, pf11_1, gf11_2, pf11_2, gf11_3, gf11_4, gf11_5, gf11_6, gf11_7, pf11_7, gf11_8, gf11_9, pf11_9, gf11_10, pf11_10, gf11_11, pf11_11, gf11_12, pf11_12, gf11_13, pf11_13, gf11_14, gf11_15, pf11_15, gf11_16, gf11_17, pf11_17, gf11_18, gf11_19, gf11_20, gf11_21, gf11_22, gf11_23, gf11_24, pf11_24, gf11_25, gf11_26, gf11_27, gf11_28, pf11_28, gf11_29, pf11_29, gf11_30, gf11_31, gf11_32, pf11_32, gf11_33, gf11_34, gf11_35, pf11_35, gf11_36, gf11_37, gf11_38, gf11_39, uN_eq, uN_ne, h1, z15, z17]
  have kb1 := nK_b f n 0 (D.2.1 - 1) a
  refine m_into (by omega) hT (by omega) (by omega) ha z9 z11 h1 h6 a3 (by omega) (by omega) (by omega) (fun h2 z2 v2 e1 e2 e3 e4 e5 k o => ?_)
  have o2 : OR h h2 := ⟨o.1, o.2, fun b hb => k b (by omega), ⟨r1, by rw [k _ (by omega)]; exact a1⟩, ⟨r2, by rw [k _ (by omega)]; exact a2⟩, ⟨_, e5⟩, ⟨r4, by rw [k _ (by omega)]; exact a4⟩, ⟨r5, by rw [k _ (by omega)]; exact a5⟩, ⟨r6, by rw [k _ (by omega)]; exact a6⟩⟩
  by_cases q1 : nK f n 0 (D.2.1 - 1) a = 0
  · obtain ⟨c1, c2, c3, c4⟩ := e4 q1
    rw [q1]
    have hb1 := nB_b (f := f) (n := n) (a := a) ha.2
    have kb2 := nK_b f n 1 99 (nB f n a)
    simp (disch := omega) only [wr_id, wr_m1, sd_t, nl_I, nl_R, nl_none, c1_I, c1_R, sh_0, sh_1, sh_2, sh_3, sh_4, true_and, and_true, ldA_A, ldB_B, ldS_S, stA_A, stB_B, aL_A, aL_B, aL_S, aC_A, hRd_eq, hRd_ne, cp6, cp8, tl_some, tl_none, List.cons_append, List.nil_append, ofI_t0, ofI_t1, Int.add_zero, Int.zero_add, x121_13, x121_14, x121_15, x121_18, x121_19, x121_20, x121_21, x121_22, x121_23, x121_24, gf11_0, pf11_0, gf11_1, pf11_1, gf11_2, pf11_2, gf11_3, gf11_4, gf11_5, gf11_6, gf11_7, pf11_7, gf11_8, gf11_9, pf11_9, gf11_10, pf11_10, gf11_11, pf11_11, gf11_12, pf11_12, gf11_13, pf11_13, gf11_14, gf11_15, pf11_15, gf11_16, gf11_17, pf11_17, gf11_18, gf11_19, gf11_20, gf11_21, gf11_22, gf11_23, gf11_24, pf11_24, gf11_25, gf11_26, gf11_27, gf11_28, pf11_28, gf11_29, pf11_29, gf11_30, gf11_31, gf11_32, pf11_32, gf11_33, gf11_34, gf11_35, pf11_35, gf11_36, gf11_37, gf11_38, gf11_39, uN_eq, uN_ne, e1]
    refine ⟨fun _ => ?_, fun q => by first | omega | exact absurd rfl q | exact absurd trivial q | exact absurd q (by omega)⟩
    refine m_into (by omega) hT (by omega) (by omega) (a := nB f n a) (by omega) ((e2 9 (by omega)).trans z9) c2 e1 (by rw [k _ (by omega)]; exact h6) (by rw [k _ (by omega)]; exact a4) (by omega) (by omega) (by omega) (fun h3 z3 v3 f1 f2 f3 f4 f5 k3' o3 => ?_)
    have k03 : ∀ b, ¬ (b = 156 ∨ b = 164 ∨ b = 165) → hRd h3 b = hRd h b := fun b hb => by rw [k3' b (by omega), k b (by omega)]
    have w164 : hRd h3 164 = cA 8 (uA r3 D.2.2.1 v2) := by rw [k3' _ (by omega)]; exact e5
    have or3 : OR h h3 := ⟨o3.1.trans o.1, o3.2.trans o.2, fun b hb => k03 b (by omega), ⟨r1, by rw [k03 _ (by omega)]; exact a1⟩, ⟨r2, by rw [k03 _ (by omega)]; exact a2⟩, ⟨_, w164⟩, ⟨_, f5⟩, ⟨r5, by rw [k03 _ (by omega)]; exact a5⟩, ⟨r6, by rw [k03 _ (by omega)]; exact a6⟩⟩
    have zr3 : ZR z z3 := e2.zr.trans f2.zr
    by_cases q2 : nK f n 1 99 (nB f n a) = 0
    · obtain ⟨g1, g2, g3, g4⟩ := f4 q2
      rw [q2]
      have hb2 := nB_b (f := f) (n := n) (a := nB f n a) (by omega)
      have kb3 := nK_b f n 0 999 (nB f n (nB f n a))
      simp (disch := omega) only [wr_id, wr_m1, sd_t, nl_I, nl_R, nl_none, c1_I, c1_R, sh_0, sh_1, sh_2, sh_3, sh_4, true_and, and_true, ldA_A, ldB_B, ldS_S, stA_A, stB_B, aL_A, aL_B, aL_S, aC_A, hRd_eq, hRd_ne, cp6, cp8, tl_some, tl_none, List.cons_append, List.nil_append, ofI_t0, ofI_t1, Int.add_zero, Int.zero_add, x121_25, x121_26, x121_27, x121_30, x121_31, x121_32, x121_33]
      refine ⟨fun _ => ?_, fun q => by first | omega | exact absurd rfl q | exact absurd trivial q | exact absurd q (by omega)⟩
      refine m_num (by omega) hT (by omega) (by omega) (a := nB f n (nB f n a)) (by omega) ((f2 9 (by omega)).trans ((e2 9 (by omega)).trans z9)) g2 f1 (by rw [k03 _ (by omega)]; exact h6) (fun h4 z4 m1 m2 m3 m4 o4 => ?_)
      have k04 : ∀ b, ¬ (b = 156 ∨ b = 164 ∨ b = 165) → hRd h4 b = hRd h b := fun b hb => by rw [o4.2.2 b (by omega), k03 b (by omega)]
      have x164 : hRd h4 164 = cA 8 (uA r3 D.2.2.1 v2) := by rw [o4.2.2 _ (by omega)]; exact w164
      have x165 : hRd h4 165 = cA 8 (uA r4 D.2.2.1 v3) := by rw [o4.2.2 _ (by omega)]; exact f5
      have x166 : hRd h4 166 = cA 8 r5 := by rw [k04 _ (by omega)]; exact a5
      have or4 : OR h h4 := or3.trans (OR.o156 or3.2.2.2 o4)
      have zr4 : ZR z z4 := zr3.trans m2.zr
      have z417 : z4 17 = D.2.2.1 := (m2 17 (by omega)).trans ((f2 17 (by omega)).trans ((e2 17 (by omega)).trans z17))
      have hb3 := nB_b (f := f) (n := n) (a := nB f n (nB f n a)) (by omega)
      have hv := nV_b (f := f) (n := n) (a := nB f n (nB f n a)) hn.2 (by omega)
      have kb9 := nK_b f n 0 9 (nB f n (nB f n a))
      -- the two bounds of the last number
      have e90 : nK f n 0 9 (nB f n (nB f n a)) = 0 ↔ nK f n 0 999 (nB f n (nB f n a)) = 0 ∧ nV f n (nB f n (nB f n a)) ≤ 9 := by
        unfold nK
        repeat' split
        all_goals omega
      have e91 : ¬ nK f n 0 9 (nB f n (nB f n a)) = 0 → ¬ nK f n 0 999 (nB f n (nB f n a)) = 0 → nK f n 0 9 (nB f n (nB f n a)) = nK f n 0 999 (nB f n (nB f n a)) := by
        unfold nK
        repeat' split
        all_goals omega
      have e92 : ¬ nK f n 0 9 (nB f n (nB f n a)) = 0 → nK f n 0 999 (nB f n (nB f n a)) = 0 → nK f n 0 9 (nB f n (nB f n a)) = 2 := by
        unfold nK
        repeat' split
        all_goals omega
      by_cases q3 : nK f n 0 9 (nB f n (nB f n a)) = 0
      · obtain ⟨s1, s2, s3, s4⟩ := m4 q3
        obtain ⟨t1, t2⟩ := e90.mp q3
        rw [q3]
        have z410 : z4 10 = z 10 := s1.trans (g1.trans c1)
        have good : (nV f n (nB f n (nB f n a)) = 9 ∨ nV f n (nB f n (nB f n a)) < D.2.2.1) → ∀ v : Int, v = (if nV f n (nB f n (nB f n a)) = 9 then -1 else nV f n (nB f n (nB f n a))) → Q (some (vI 0)) (hWr (hWr h4 166 (cA 8 (uA r5 D.2.2.1 v))) 156 (oM (uN z4 17 (D.2.2.1 + 1)))) := fun hc v hv => by
          refine k5 q1 q2 t1 hc _ (uN z4 17 (D.2.2.1 + 1)) hRd_eq (fun i hi => by rw [uN_ne (by omega)]; exact zr4 i hi) (by rw [uN_ne (by omega)]; exact z410) (by rw [uN_ne (by omega)]; exact s2) ⟨or4.1, or4.2.1, fun b hb => by rw [hRd_ne (by omega), hRd_ne (by omega)]; exact or4.2.2.1 b hb, ⟨r1, ?_⟩, ⟨r2, ?_⟩, ⟨uA r3 D.2.2.1 v2, ?_⟩, ⟨uA r4 D.2.2.1 v3, ?_⟩, ⟨uA r5 D.2.2.1 v, ?_⟩, ⟨r6, ?_⟩⟩ ⟨(uN_ne (by omega)).trans ((m2 15 (by omega)).trans ((f2 15 (by omega)).trans ((e2 15 (by omega)).trans z15))), uN_eq, ⟨r1, ?_, b1⟩, ⟨r2, ?_, b2⟩, ⟨uA r3 D.2.2.1 v2, ?_, fun j j0 j1 => ?_⟩, ⟨uA r4 D.2.2.1 v3, ?_, fun j j0 j1 => ?_⟩, ⟨uA r5 D.2.2.1 v, ?_, fun j j0 j1 => ?_⟩, ⟨r6, ?_, b6⟩⟩
          · rw [hRd_ne (by omega), hRd_ne (by omega), k04 _ (by omega)]; exact a1
          · rw [hRd_ne (by omega), hRd_ne (by omega), k04 _ (by omega)]; exact a2
          · rw [hRd_ne (by omega), hRd_ne (by omega)]; exact x164
          · rw [hRd_ne (by omega), hRd_ne (by omega)]; exact x165
          · rw [hRd_ne (by omega)]; exact hRd_eq
          · rw [hRd_ne (by omega), hRd_ne (by omega), k04 _ (by omega)]; exact a6
          · rw [hRd_ne (by omega), hRd_ne (by omega), k04 _ (by omega)]; exact a1
          · rw [hRd_ne (by omega), hRd_ne (by omega), k04 _ (by omega)]; exact a2
          · rw [hRd_ne (by omega), hRd_ne (by omega)]; exact x164
          · have j1 : j < D.2.2.1 + 1 := j1
            show uA r3 D.2.2.1 v2 j = uA D.2.2.2.2.2.1 D.2.2.1 (nV f n a) j
            unfold uA
            split
            · exact c3
            · exact b3 j j0 (by omega)
          · rw [hRd_ne (by omega), hRd_ne (by omega)]; exact x165
          · have j1 : j < D.2.2.1 + 1 := j1
            show uA r4 D.2.2.1 v3 j = uA D.2.2.2.2.2.2.1 D.2.2.1 (nV f n (nB f n a)) j
            unfold uA
            split
            · exact g3
            · exact b4 j j0 (by omega)
          · rw [hRd_ne (by omega)]; exact hRd_eq
          · have j1 : j < D.2.2.1 + 1 := j1
            show uA r5 D.2.2.1 v j = uA D.2.2.2.2.2.2.2 D.2.2.1 _ j
            unfold uA
            split
            · exact hv
            · exact b5 j j0 (by omega)
          · rw [hRd_ne (by omega), hRd_ne (by omega), k04 _ (by omega)]; exact a6
        simp (disch := omega) only [wr_id, wr_m1, sd_t, nl_I, nl_R, nl_none, c1_I, c1_R, sh_0, sh_1, sh_2, sh_3, sh_4, true_and, and_true, ldA_A, ldB_B, ldS_S, stA_A, stB_B, aL_A, aL_B, aL_S, aC_A, hRd_eq, hRd_ne, cp6, cp8, tl_some, tl_none, List.cons_append, List.nil_append, ofI_t0, ofI_t1, Int.add_zero, Int.zero_add, x121_34, x121_35, x121_36, x121_37, x121_38, x121_39, x121_40, x121_41, x121_42, x121_43, x121_44, x121_45, x121_46, x121_47, x121_48, x121_49, x121_50, x121_52, x121_53, x121_54, x121_55, x121_56, x121_57, x121_58, x121_59, x121_60, x121_61, x121_62, x121_63, x121_64, x121_65, x121_66, x121_67, x121_68, x121_69, x121_70, x121_71, gf11_0, pf11_0, gf11_1, pf11_1, gf11_2, pf11_2, gf11_3, gf11_4, gf11_5, gf11_6, gf11_7, pf11_7, gf11_8, gf11_9, pf11_9, gf11_10, pf11_10, gf11_11, pf11_11, gf11_12, pf11_12, gf11_13, pf11_13, gf11_14, gf11_15, pf11_15, gf11_16, gf11_17, pf11_17, gf11_18, gf11_19, gf11_20, gf11_21, gf11_22, gf11_23, gf11_24, pf11_24, gf11_25, gf11_26, gf11_27, gf11_28, pf11_28, gf11_29, pf11_29, gf11_30, gf11_31, gf11_32, pf11_32, gf11_33, gf11_34, gf11_35, pf11_35, gf11_36, gf11_37, gf11_38, gf11_39, uN_eq, uN_ne, m1, s3, s4, z417, x166]
        refine ⟨fun q => by first | omega | exact absurd rfl q | exact absurd trivial q | exact absurd q (by omega), fun _ => ⟨fun q => ⟨fun q2 => absurd q (by omega), fun _ => ⟨by omega, good (Or.inl q) _ (by rw [if_pos q])⟩⟩, fun q => ⟨fun q4 => ⟨fun _ => ⟨by omega, good (Or.inr q4) _ (by rw [if_neg q])⟩, fun q5 => absurd q (by omega)⟩, fun q4 => ?_⟩⟩⟩
        refine m_fails (by omega) m1 ?_
        simp (disch := omega) only [wr_id, wr_m1, sd_t, nl_I, nl_R, nl_none, c1_I, c1_R, sh_0, sh_1, sh_2, sh_3, sh_4, true_and, and_true, ldA_A, ldB_B, ldS_S, stA_A, stB_B, aL_A, aL_B, aL_S, aC_A, hRd_eq, hRd_ne, cp6, cp8, tl_some, tl_none, List.cons_append, List.nil_append, ofI_t0, ofI_t1, Int.add_zero, Int.zero_add, x121_51]
        refine k4 q1 q2 t1 (by omega) _ (uN z4 10 (nA f n (nB f n (nB f n a)))) hRd_eq (fun i hi => by rw [uN_ne (by omega)]; exact zr4 i hi) uN_eq (or4.trans (OR.o156 or4.2.2.2 (Out.refl.wr (by omega) (by omega))))
      · by_cases q4 : nK f n 0 999 (nB f n (nB f n a)) = 0
        · rw [e92 q3 q4]
          simp (disch := omega) only [wr_id, wr_m1, sd_t, nl_I, nl_R, nl_none, c1_I, c1_R, sh_0, sh_1, sh_2, sh_3, sh_4, true_and, and_true, ldA_A, ldB_B, ldS_S, stA_A, stB_B, aL_A, aL_B, aL_S, aC_A, hRd_eq, hRd_ne, cp6, cp8, tl_some, tl_none, List.cons_append, List.nil_append, ofI_t0, ofI_t1, Int.add_zero, Int.zero_add]
          exact bad _ 2 _ h4 z4 (by omega) (k4 q1 q2 q4 (fun z => q3 (e90.mpr ⟨q4, by omega⟩))) m1 zr4 (m3 q3) z417 or4
        · rw [e91 q3 q4]
          simp (disch := omega) only [wr_id, wr_m1, sd_t, nl_I, nl_R, nl_none, c1_I, c1_R, sh_0, sh_1, sh_2, sh_3, sh_4, true_and, and_true, ldA_A, ldB_B, ldS_S, stA_A, stB_B, aL_A, aL_B, aL_S, aC_A, hRd_eq, hRd_ne, cp6, cp8, tl_some, tl_none, List.cons_append, List.nil_append, ofI_t0, ofI_t1, Int.add_zero, Int.zero_add]
          exact bad _ _ _ h4 z4 (by omega) (k3 q1 q2 q4) m1 zr4 (m3 q3) z417 or4
    · generalize nK f n 1 99 (nB f n a) = fl at *
      simp (disch := omega) only [wr_id, wr_m1, sd_t, nl_I, nl_R, nl_none, c1_I, c1_R, sh_0, sh_1, sh_2, sh_3, sh_4, true_and, and_true, ldA_A, ldB_B, ldS_S, stA_A, stB_B, aL_A, aL_B, aL_S, aC_A, hRd_eq, hRd_ne, cp6, cp8, tl_some, tl_none, List.cons_append, List.nil_append, ofI_t0, ofI_t1, Int.add_zero, Int.zero_add, x121_25, x121_26, x121_27, x121_28, x121_29]
      refine ⟨fun q => by omega, fun _ => ?_⟩
      exact bad _ fl _ h3 z3 (by omega) (k2 q1 q2) f1 zr3 (f3 q2) ((f2 17 (by omega)).trans ((e2 17 (by omega)).trans z17)) or3
  · generalize nK f n 0 (D.2.1 - 1) a = fl at *
    simp (disch := omega) only [wr_id, wr_m1, sd_t, nl_I, nl_R, nl_none, c1_I, c1_R, sh_0, sh_1, sh_2, sh_3, sh_4, true_and, and_true, ldA_A, ldB_B, ldS_S, stA_A, stB_B, aL_A, aL_B, aL_S, aC_A, hRd_eq, hRd_ne, cp6, cp8, tl_some, tl_none, List.cons_append, List.nil_append, ofI_t0, ofI_t1, Int.add_zero, Int.zero_add, x121_13, x121_14, x121_15, x121_16, x121_17, x121_25, x121_26, x121_27, x121_28, x121_29]
    refine ⟨fun q => by omega, fun _ => ⟨fun q => by omega, fun _ => ?_⟩⟩
    exact bad _ fl _ h2 z2 (by omega) (k1 q1) e1 e2.zr (e3 q1) ((e2 17 (by omega)).trans z17) o2
theorem m_tkW (hd : 4 ≤ d) (g : RG f n a z h) (hD : DB D) (r : RE D z h) (k1 : ¬ nK f n 0 (D.2.1 - 1) a = 0 → FF Q h z (nK f n 0 (D.2.1 - 1) a) (nA f n a)) (k2 : nK f n 0 (D.2.1 - 1) a = 0 → ¬ D.2.2.2.2.1 (nV f n a) = -1 → FF Q h z 4 (nA f n a)) (k3 : nK f n 0 (D.2.1 - 1) a = 0 → D.2.2.2.2.1 (nV f n a) = -1 → ¬ nK f n 0 (D.2.2.1 - 1) (nB f n a) = 0 → FF Q h z (nK f n 0 (D.2.2.1 - 1) (nB f n a)) (nA f n (nB f n a))) (k4 : nK f n 0 (D.2.1 - 1) a = 0 → D.2.2.2.2.1 (nV f n a) = -1 → nK f n 0 (D.2.2.1 - 1) (nB f n a) = 0 → SU Q h z (addW D (nV f n a) (nV f n (nB f n a))) (nB f n (nB f n a))) : CALL d 122 [.ref 156] h Q := by
  obtain ⟨hT, ha, z9, z11, h1, h6⟩ := g
  have rx := r.rx
  obtain ⟨z15, z17, ⟨r1, a1, b1⟩, ⟨r2, a2, b2⟩, ⟨r3, a3, b3⟩, ⟨r4, a4, b4⟩, ⟨r5, a5, b5⟩, ⟨r6, a6, b6⟩⟩ := r
  have hP0 := hD.1.2.1
  have hJ0 := hD.1.2.2.1
  have hn := hT.1
  refine cl122 (by omega) h1 ?_
  simp (disch := omega) only [wr_id, wr_m1, sd_t, nl_I, nl_R, nl_none, c1_I, c1_R, sh_0, sh_1, sh_2, sh_3, sh_4, true_and, and_true, ldA_A, ldB_B, ldS_S, stA_A, stB_B, aL_A, aL_B, aL_S, aC_A, hRd_eq, hRd_ne, cp6, cp8, tl_some, tl_none, List.cons_append, List.nil_append, ofI_t0, ofI_t1, Int.add_zero, Int.zero_add, x122_0, x122_1, x122_2, x122_3, x122_4, x122_5, x122_6, gf11_0, pf11_0, gf11_1, pf11_1, gf11_2, pf11_2, gf11_3, gf11_4, gf11_5, gf11_6, gf11_7, pf11_7, gf11_8, gf11_9, pf11_9, gf11_10, pf11_10, gf11_11, pf11_11, gf11_12, pf11_12, gf11_13, pf11_13, gf11_14, gf11_15, pf11_15, gf11_16, gf11_17, pf11_17, gf11_18, gf11_19, gf11_20, gf11_21, gf11_22, gf11_23, gf11_24, pf11_24, gf11_25, gf11_26, gf11_27, gf11_28, pf11_28, gf11_29, pf11_29, gf11_30, gf11_31, gf11_32, pf11_32, gf11_33, gf11_34, gf11_35, pf11_35, gf11_36, gf11_37, gf11_38, gf11_39, uN_eq, uN_ne, h1, z15]
  have kb1 := nK_b f n 0 (D.2.1 - 1) a
  refine m_num (by omega) hT (by omega) (by omega) ha z9 z11 h1 h6 (fun h2 z2 e1 e2 e3 e4 o2 => ?_)
  have or2 := OR.o156 rx o2
  by_cases q1 : nK f n 0 (D.2.1 - 1) a = 0
  · obtain ⟨c1, c2, c3, c4⟩ := e4 q1
    rw [q1]
    have hv := nV_b (f := f) (n := n) (a := a) hn.2 ha.2
    have hb1 := nB_b (f := f) (n := n) (a := a) ha.2
    have hvP : nV f n a ≤ D.2.1 - 1 := by
      have := nK_v q1
      omega
    have hwt := hD.2 (nV f n a)
    have e6 := b6 (nV f n a) hv.1 (by omega)
    have h2r : hRd h2 167 = cA 6 r6 := by rw [o2.2.2 _ (by omega)]; exact a6
    simp (disch := omega) only [wr_id, wr_m1, sd_t, nl_I, nl_R, nl_none, c1_I, c1_R, sh_0, sh_1, sh_2, sh_3, sh_4, true_and, and_true, ldA_A, ldB_B, ldS_S, stA_A, stB_B, aL_A, aL_B, aL_S, aC_A, hRd_eq, hRd_ne, cp6, cp8, tl_some, tl_none, List.cons_append, List.nil_append, ofI_t0, ofI_t1, Int.add_zero, Int.zero_add, x122_7, x122_8, x122_9, x122_10, x122_11, x122_12, x122_13, x122_14, x122_15, x122_16, x122_17, x122_18, x122_19, x122_20, x122_21, x122_22, gf11_0, pf11_0, gf11_1, pf11_1, gf11_2, pf11_2, gf11_3, gf11_4, gf11_5, gf11_6, gf11_7, pf11_7, gf11_8, gf11_9, pf11_9, gf11_10, pf11_10, gf11_11, pf11_11, gf11_12, pf11_12, gf11_13, pf11_13, gf11_14, gf11_15, pf11_15, gf11_16, gf11_17, pf11_17, gf11_18, gf11_19, gf11_20, gf11_21, gf11_22, gf11_23, gf11_24, pf11_24, gf11_25, gf11_26, gf11_27, gf11_28, pf11_28, gf11_29, pf11_29, gf11_30, gf11_31, gf11_32, pf11_32, gf11_33, gf11_34, gf11_35, pf11_35, gf11_36, gf11_37, gf11_38, gf11_39, uN_eq, uN_ne, e1, c3, c4, h2r, e6]
    refine ⟨fun q => by first | omega | exact absurd rfl q | exact absurd trivial q | exact absurd q (by omega), fun _ => ⟨by omega, fun q => ?_, fun q => ?_⟩⟩
    · have q2 : D.2.2.2.2.1 (nV f n a) = -1 := by omega
      have kb2 := nK_b f n 0 (D.2.2.1 - 1) (nB f n a)
      have z217 : z2 17 = D.2.2.1 := (e2 17 (by omega)).trans z17
      simp (disch := omega) only [wr_id, wr_m1, sd_t, nl_I, nl_R, nl_none, c1_I, c1_R, sh_0, sh_1, sh_2, sh_3, sh_4, true_and, and_true, ldA_A, ldB_B, ldS_S, stA_A, stB_B, aL_A, aL_B, aL_S, aC_A, hRd_eq, hRd_ne, cp6, cp8, tl_some, tl_none, List.cons_append, List.nil_append, ofI_t0, ofI_t1, Int.add_zero, Int.zero_add, x122_24, x122_25, x122_28, x122_29, x122_30, x122_31, x122_32, x122_33, x122_34, gf11_0, pf11_0, gf11_1, pf11_1, gf11_2, pf11_2, gf11_3, gf11_4, gf11_5, gf11_6, gf11_7, pf11_7, gf11_8, gf11_9, pf11_9, gf11_10, pf11_10, gf11_11, pf11_11, gf11_12, pf11_12, gf11_13, pf11_13, gf11_14, gf11_15, pf11_15, gf11_16, gf11_17, pf11_17, gf11_18, gf11_19, gf11_20, gf11_21, gf11_22, gf11_23, gf11_24, pf11_24, gf11_25, gf11_26, gf11_27, gf11_28, pf11_28, gf11_29, pf11_29, gf11_30, gf11_31, gf11_32, pf11_32, gf11_33, gf11_34, gf11_35, pf11_35, gf11_36, gf11_37, gf11_38, gf11_39, uN_eq, uN_ne, e1, z217]
      refine ⟨fun _ => ?_, fun q => by first | omega | exact absurd rfl q | exact absurd trivial q | exact absurd q (by omega)⟩
      refine m_num (by omega) hT (by omega) (by omega) (a := nB f n a) (by omega) ((e2 9 (by omega)).trans z9) c2 e1 (by rw [o2.2.2 _ (by omega)]; exact h6) (fun h3 z3 f1 f2 f3 f4 o3 => ?_)
      have or3 := or2.trans (OR.o156 or2.2.2.2 o3)
      have zr3 : ZR z z3 := e2.zr.trans f2.zr
      by_cases q3 : nK f n 0 (D.2.2.1 - 1) (nB f n a) = 0
      · obtain ⟨g1, g2, g3, g4⟩ := f4 q3
        rw [q3]
        have h3r : hRd h3 167 = cA 6 r6 := by rw [o3.2.2 _ (by omega)]; exact h2r
        have k03 : ∀ b, ¬ b = 156 → hRd h3 b = hRd h b := fun b hb => by rw [o3.2.2 _ (by omega), o2.2.2 _ (by omega)]
        simp (disch := omega) only [wr_id, wr_m1, sd_t, nl_I, nl_R, nl_none, c1_I, c1_R, sh_0, sh_1, sh_2, sh_3, sh_4, true_and, and_true, ldA_A, ldB_B, ldS_S, stA_A, stB_B, aL_A, aL_B, aL_S, aC_A, hRd_eq, hRd_ne, cp6, cp8, tl_some, tl_none, List.cons_append, List.nil_append, ofI_t0, ofI_t1, Int.add_zero, Int.zero_add, x122_35, x122_36, x122_37, x122_38, x122_39, x122_40, x122_41, x122_42, x122_43, x122_44, x122_45, gf11_0, pf11_0, gf11_1, pf11_1, gf11_2, pf11_2, gf11_3, gf11_4, gf11_5, gf11_6, gf11_7, pf11_7, gf11_8, gf11_9, pf11_9, gf11_10, pf11_10, gf11_11, pf11_11, gf11_12, pf11_12, gf11_13, pf11_13, gf11_14, gf11_15, pf11_15, gf11_16, gf11_17, pf11_17, gf11_18, gf11_19, gf11_20, gf11_21, gf11_22, gf11_23, gf11_24, pf11_24, gf11_25, gf11_26, gf11_27, gf11_28, pf11_28, gf11_29, pf11_29, gf11_30, gf11_31, gf11_32, pf11_32, gf11_33, gf11_34, gf11_35, pf11_35, gf11_36, gf11_37, gf11_38, gf11_39, uN_eq, uN_ne, f1, g3, h3r]
        refine ⟨fun q => by first | omega | exact absurd rfl q | exact absurd trivial q | exact absurd q (by omega), fun _ => ⟨by omega, ?_⟩⟩
        refine k4 q1 q2 q3 _ z3 (by rw [hRd_ne (by omega)]; exact f1) zr3 (g1.trans c1) g2 ⟨or3.1, or3.2.1, fun b hb => by rw [hRd_ne (by omega)]; exact or3.2.2.1 b hb, ⟨r1, ?_⟩, ⟨r2, ?_⟩, ⟨r3, ?_⟩, ⟨r4, ?_⟩, ⟨r5, ?_⟩, ⟨_, hRd_eq⟩⟩ ⟨(f2 15 (by omega)).trans ((e2 15 (by omega)).trans z15), (f2 17 (by omega)).trans z217, ⟨r1, ?_, b1⟩, ⟨r2, ?_, b2⟩, ⟨r3, ?_, b3⟩, ⟨r4, ?_, b4⟩, ⟨r5, ?_, b5⟩, ⟨_, hRd_eq, fun p p0 p1 => ?_⟩⟩
        · rw [hRd_ne (by omega), k03 _ (by omega)]; exact a1
        · rw [hRd_ne (by omega), k03 _ (by omega)]; exact a2
        · rw [hRd_ne (by omega), k03 _ (by omega)]; exact a3
        · rw [hRd_ne (by omega), k03 _ (by omega)]; exact a4
        · rw [hRd_ne (by omega), k03 _ (by omega)]; exact a5
        · rw [hRd_ne (by omega), k03 _ (by omega)]; exact a1
        · rw [hRd_ne (by omega), k03 _ (by omega)]; exact a2
        · rw [hRd_ne (by omega), k03 _ (by omega)]; exact a3
        · rw [hRd_ne (by omega), k03 _ (by omega)]; exact a4
        · rw [hRd_ne (by omega), k03 _ (by omega)]; exact a5
        · show uA r6 (nV f n a) _ p = uA D.2.2.2.2.1 (nV f n a) _ p
          unfold uA
          split
          · rfl
          · exact b6 p p0 p1
      · have k3' := k3 q1 q2 q3
        have f3' := f3 q3
        generalize nK f n 0 (D.2.2.1 - 1) (nB f n a) = fl at *
        simp (disch := omega) only [wr_id, wr_m1, sd_t, nl_I, nl_R, nl_none, c1_I, c1_R, sh_0, sh_1, sh_2, sh_3, sh_4, true_and, and_true, ldA_A, ldB_B, ldS_S, stA_A, stB_B, aL_A, aL_B, aL_S, aC_A, hRd_eq, hRd_ne, cp6, cp8, tl_some, tl_none, List.cons_append, List.nil_append, ofI_t0, ofI_t1, Int.add_zero, Int.zero_add, x122_35, x122_36, x122_37, x122_44, x122_45]
        exact ⟨fun _ => k3' h3 z3 f1 zr3 f3' or3, fun q => absurd q3 (by omega)⟩
    · refine m_fails (by omega) e1 ?_
      simp (disch := omega) only [wr_id, wr_m1, sd_t, nl_I, nl_R, nl_none, c1_I, c1_R, sh_0, sh_1, sh_2, sh_3, sh_4, true_and, and_true, ldA_A, ldB_B, ldS_S, stA_A, stB_B, aL_A, aL_B, aL_S, aC_A, hRd_eq, hRd_ne, cp6, cp8, tl_some, tl_none, List.cons_append, List.nil_append, ofI_t0, ofI_t1, Int.add_zero, Int.zero_add, x122_23]
      exact k2 q1 (by omega) _ (uN z2 10 (nA f n a)) hRd_eq (fun i hi => by rw [uN_ne (by omega)]; exact e2.zr i hi) uN_eq (or2.trans (OR.o156 or2.2.2.2 (Out.refl.wr (by omega) (by omega))))
  · have k1' := k1 q1
    have e3' := e3 q1
    generalize nK f n 0 (D.2.1 - 1) a = fl at *
    simp (disch := omega) only [wr_id, wr_m1, sd_t, nl_I, nl_R, nl_none, c1_I, c1_R, sh_0, sh_1, sh_2, sh_3, sh_4, true_and, and_true, ldA_A, ldB_B, ldS_S, stA_A, stB_B, aL_A, aL_B, aL_S, aC_A, hRd_eq, hRd_ne, cp6, cp8, tl_some, tl_none, List.cons_append, List.nil_append, ofI_t0, ofI_t1, Int.add_zero, Int.zero_add, x122_7, x122_8, x122_9, x122_10, x122_11, x122_12, x122_24, x122_25, x122_26, x122_27, x122_35, x122_36, x122_37, x122_44, x122_45, gf11_0, pf11_0, gf11_1, pf11_1, gf11_2, pf11_2, gf11_3, gf11_4, gf11_5, gf11_6, gf11_7, pf11_7, gf11_8, gf11_9, pf11_9, gf11_10, pf11_10, gf11_11, pf11_11, gf11_12, pf11_12, gf11_13, pf11_13, gf11_14, gf11_15, pf11_15, gf11_16, gf11_17, pf11_17, gf11_18, gf11_19, gf11_20, gf11_21, gf11_22, gf11_23, gf11_24, pf11_24, gf11_25, gf11_26, gf11_27, gf11_28, pf11_28, gf11_29, pf11_29, gf11_30, gf11_31, gf11_32, pf11_32, gf11_33, gf11_34, gf11_35, pf11_35, gf11_36, gf11_37, gf11_38, gf11_39, uN_eq, uN_ne, e1]
    exact ⟨fun _ => ⟨fun q => by omega, fun _ => ⟨fun _ => k1' h2 z2 e1 e2.zr e3' or2, fun q => absurd q1 (by omega)⟩⟩, fun q => absurd q1 (by omega)⟩
end
