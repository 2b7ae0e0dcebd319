-- THE REFERENCE'S READER: a clause
def RC (Q : Option Value → LHeap → Prop) (h : LHeap) (z : Nat → Int) (r : CR) : Prop := (¬ r.1 = 0 → FF Q h z r.1 r.2.1) ∧ (r.1 = 0 → SU Q h z r.2.2.1 r.2.2.2)
def isF (c : Int) : Int := if c = 99 then 0 else if c = 112 then 1 else if c = 106 then 2 else if c = 119 then 3 else -1
section
variable {d : Nat} {h h3 : LHeap} {Q : Option Value → LHeap → Prop} {f : Int → Int} {n a w c v u fl pl b lo hi : Int} {z z3 : Nat → Int} {D D1 : CC} {pc0 : Nat}
theorem RC.nu {k : CR} (hp : RC Q h z (nuC f n lo hi a D k)) : (¬ nK f n lo hi a = 0 → FF Q h z (nK f n lo hi a) (nA f n a)) ∧ (nK f n lo hi a = 0 → RC Q h z k) := by
  unfold nuC at hp
  refine ⟨fun q => ?_, fun q => ?_⟩
  · rw [if_neg q] at hp; exact hp.1 q
  · rw [if_pos q] at hp; exact hp
theorem RC.en (hp : RC Q h z (enC f n b D D1)) : (¬ (sk f n b < n ∧ f (sk f n b) = 59) → FF Q h z 1 (sk f n b)) ∧ (sk f n b < n ∧ f (sk f n b) = 59 → SU Q h z D1 (sk f n b + 1)) := by
  unfold enC at hp
  refine ⟨fun q => ?_, fun q => ?_⟩
  · rw [if_neg q] at hp; exact hp.1 (by show ¬ (1 : Int) = 0; omega)
  · rw [if_pos q] at hp; exact hp.2 rfl
theorem RC.bad {x : Int} (hp : RC Q h z (fl, pl, D, x)) (q : ¬ fl = 0) : FF Q h z fl pl := hp.1 q
/-- behind what was taken: a fault -/
theorem cl_fl (hpc : ∀ (x : Int) (h1 : LHeap), WP d 123 111 [some (.ref 156), some (vI c), some (vI v), some (vI u), none] [vI x] h1 Q → WP d 123 pc0 [some (.ref 156), some (vI c), some (vI v), some (vI u), none] ((some (vI x)).toList ++ []) h1 Q) (hne : ¬ fl = 0) (hfl : 0 ≤ fl ∧ fl ≤ 5) (hf : FF Q h z fl pl) (o : OR h h3) (e : ZR z z3) : FF (fun r h1 => WP d 123 pc0 [some (.ref 156), some (vI c), some (vI v), some (vI u), none] (r.toList ++ []) h1 Q) h3 z3 fl pl := by
  intro h4 z4 e1 e2 e3 o4
  refine hpc fl h4 ?_
  simp (disch := omega) only [wr_id, wr_m1, sd_t, nl_I, nl_R, nl_none, c1_I, c1_R, sh_0, sh_1, sh_2, sh_3, sh_4, true_and, and_true, ldA_A, ldB_B, ldS_S, stA_A, stB_B, aL_A, aL_B, aL_S, aC_A, hRd_eq, hRd_ne, cp6, cp8, tl_some, tl_none, List.cons_append, List.nil_append, ofI_t0, ofI_t1, Int.add_zero, Int.zero_add, x123_111, x123_112, x123_113, x123_124, x123_125, x123_126, x123_127, x123_128, x123_129, x123_130, x123_131, gf11_0, pf11_0, gf11_1, pf11_1, gf11_2, pf11_2, gf11_3, gf11_4, gf11_5, gf11_6, gf11_7, pf11_7, gf11_8, gf11_9, pf11_9, gf11_10, pf11_10, gf11_11, pf11_11, gf11_12, pf11_12, gf11_13, pf11_13, gf11_14, gf11_15, pf11_15, gf11_16, gf11_17, pf11_17, gf11_18, gf11_19, gf11_20, gf11_21, gf11_22, gf11_23, gf11_24, pf11_24, gf11_25, gf11_26, gf11_27, gf11_28, pf11_28, gf11_29, pf11_29, gf11_30, gf11_31, gf11_32, pf11_32, gf11_33, gf11_34, gf11_35, pf11_35, gf11_36, gf11_37, gf11_38, gf11_39, uN_eq, uN_ne, e1]
  refine ⟨fun _ => ?_, fun q => absurd hne q⟩
  exact hf _ (uN z4 11 (z4 11 + 1)) hRd_eq (fun i hi => by rw [uN_ne (by omega)]; exact (e.trans e2) i hi) (by rw [uN_ne (by omega)]; exact e3) ((o.trans o4).trans (OR.o156 o4.2.2.2 (Out.refl.wr (by omega) (by omega))))
/-- behind what was taken: the clause's end -/
theorem cl_en (hd : 1 ≤ d) (hpc : ∀ (x : Int) (h1 : LHeap), WP d 123 111 [some (.ref 156), some (vI c), some (vI v), some (vI u), none] [vI x] h1 Q → WP d 123 pc0 [some (.ref 156), some (vI c), some (vI v), some (vI u), none] ((some (vI x)).toList ++ []) h1 Q) (hT : TxB f n) (hb : 0 ≤ b ∧ b ≤ n) (z9 : z 9 = n) (h6 : hRd h 161 = cA 220 f) (hf : RC Q h z (enC f n b D D1)) (o : OR h h3) (e : ZR z z3) (e10 : z3 10 = z 10) : SU (fun r h1 => WP d 123 pc0 [some (.ref 156), some (vI c), some (vI v), some (vI u), none] (r.toList ++ []) h1 Q) h3 z3 D1 b := by
  intro h4 z4 e1 e2 e3 e4 o4 r4
  obtain ⟨k1, k2⟩ := hf.en
  have hn := hT.1
  have hs := sk_b (f := f) (n := n) (a := b) hb.2
  refine hpc 0 h4 ?_
  simp (disch := omega) only [wr_id, wr_m1, sd_t, nl_I, nl_R, nl_none, c1_I, c1_R, sh_0, sh_1, sh_2, sh_3, sh_4, true_and, and_true, ldA_A, ldB_B, ldS_S, stA_A, stB_B, aL_A, aL_B, aL_S, aC_A, hRd_eq, hRd_ne, cp6, cp8, tl_some, tl_none, List.cons_append, List.nil_append, ofI_t0, ofI_t1, Int.add_zero, Int.zero_add, x123_111, x123_112, x123_113, x123_114, x123_115]
  refine ⟨fun q => by first | omega | exact absurd rfl q | exact absurd trivial q | exact absurd q (by omega), fun _ => ?_⟩
  refine m_here hd hT hb ((e2 9 (by omega)).trans ((e 9 (by omega)).trans z9)) e4 e1 (by rw [o4.2.2.1 _ (by omega), o.2.2.1 _ (by omega)]; exact h6) (fun h5 z5 g1 g2 g3 o5 => ?_)
  have or5 := (o.trans o4).trans (OR.o156 o4.2.2.2 o5)
  have zr5 : ZR z z5 := fun i hi => (g3 i (by omega)).trans ((e.trans e2) i hi)
  have hc : -1 ≤ (if sk f n b < n then f (sk f n b) else -1) ∧ (if sk f n b < n then f (sk f n b) else -1) ≤ 255 := by
    split
    · rename_i q
      have := hT.2 (sk f n b) (by omega) q
      omega
    · omega
  have hiff : (if sk f n b < n then f (sk f n b) else -1) = 59 ↔ (sk f n b < n ∧ f (sk f n b) = 59) := by
    by_cases q : sk f n b < n
    · rw [if_pos q]
      exact ⟨fun z => ⟨q, z⟩, fun z => z.2⟩
    · rw [if_neg q]
      exact ⟨fun z => by omega, fun z => absurd z.1 q⟩
  generalize (if sk f n b < n then f (sk f n b) else -1) = x at hc hiff
  simp (disch := omega) only [wr_id, wr_m1, sd_t, nl_I, nl_R, nl_none, c1_I, c1_R, sh_0, sh_1, sh_2, sh_3, sh_4, true_and, and_true, ldA_A, ldB_B, ldS_S, stA_A, stB_B, aL_A, aL_B, aL_S, aC_A, hRd_eq, hRd_ne, cp6, cp8, tl_some, tl_none, List.cons_append, List.nil_append, ofI_t0, ofI_t1, Int.add_zero, Int.zero_add, x123_116, x123_117, x123_118, x123_119, x123_120, x123_121, x123_122, x123_124, x123_125, x123_126, x123_127, x123_128, x123_129, x123_130, x123_131, gf11_0, pf11_0, gf11_1, pf11_1, gf11_2, pf11_2, gf11_3, gf11_4, gf11_5, gf11_6, gf11_7, pf11_7, gf11_8, gf11_9, pf11_9, gf11_10, pf11_10, gf11_11, pf11_11, gf11_12, pf11_12, gf11_13, pf11_13, gf11_14, gf11_15, pf11_15, gf11_16, gf11_17, pf11_17, gf11_18, gf11_19, gf11_20, gf11_21, gf11_22, gf11_23, gf11_24, pf11_24, gf11_25, gf11_26, gf11_27, gf11_28, pf11_28, gf11_29, pf11_29, gf11_30, gf11_31, gf11_32, pf11_32, gf11_33, gf11_34, gf11_35, pf11_35, gf11_36, gf11_37, gf11_38, gf11_39, uN_eq, uN_ne, g1, g2]
  refine ⟨fun q => ?_, fun q => ?_⟩
  · have ow : Out 156 156 h5 (hWr h5 156 (oM (uN z5 11 (sk f n b + 1)))) := Out.refl.wr (by omega) (by omega)
    obtain ⟨w15, w17, ⟨r1, a1, b1⟩, ⟨r2, a2, b2⟩, ⟨r3, a3, b3⟩, ⟨r5, a5, b5⟩, ⟨r6, a6, b6⟩, ⟨r7, a7, b7⟩⟩ := r4
    exact k2 (hiff.mp q) _ (uN z5 11 (sk f n b + 1)) hRd_eq (fun i hi => by rw [uN_ne (by omega)]; exact zr5 i hi) (by rw [uN_ne (by omega), g3 10 (by omega), e3, e10]) uN_eq (or5.trans (OR.o156 or5.2.2.2 ow)) ⟨by rw [uN_ne (by omega), g3 15 (by omega)]; exact w15, by rw [uN_ne (by omega), g3 17 (by omega)]; exact w17, ⟨r1, by rw [hRd_ne (by omega), o5.2.2 _ (by omega)]; exact a1, b1⟩, ⟨r2, by rw [hRd_ne (by omega), o5.2.2 _ (by omega)]; exact a2, b2⟩, ⟨r3, by rw [hRd_ne (by omega), o5.2.2 _ (by omega)]; exact a3, b3⟩, ⟨r5, by rw [hRd_ne (by omega), o5.2.2 _ (by omega)]; exact a5, b5⟩, ⟨r6, by rw [hRd_ne (by omega), o5.2.2 _ (by omega)]; exact a6, b6⟩, ⟨r7, by rw [hRd_ne (by omega), o5.2.2 _ (by omega)]; exact a7, b7⟩⟩
  · refine m_fails (by omega) g1 ?_
    simp (disch := omega) only [wr_id, wr_m1, sd_t, nl_I, nl_R, nl_none, c1_I, c1_R, sh_0, sh_1, sh_2, sh_3, sh_4, true_and, and_true, ldA_A, ldB_B, ldS_S, stA_A, stB_B, aL_A, aL_B, aL_S, aC_A, hRd_eq, hRd_ne, cp6, cp8, tl_some, tl_none, List.cons_append, List.nil_append, ofI_t0, ofI_t1, Int.add_zero, Int.zero_add, x123_123]
    exact k1 (fun z => q (hiff.mpr z)) _ (uN z5 10 (sk f n b)) hRd_eq (fun i hi => by rw [uN_ne (by omega)]; exact zr5 i hi) uN_eq (or5.trans (OR.o156 or5.2.2.2 (Out.refl.wr (by omega) (by omega))))
theorem cl_is {l2 l3 l4 : Option Value} (hc : -1 ≤ c ∧ c ≤ 255) (k : WP d 123 25 [some (.ref 156), some (vI c), some (vI (isF c)), l3, l4] [] h Q) : WP d 123 3 [some (.ref 156), some (vI c), l2, l3, l4] [] h Q := by
  have k2 : ∀ v, v = isF c → WP d 123 25 [some (.ref 156), some (vI c), some (vI v), l3, l4] [] h Q := fun v hv => by rw [hv]; exact k
  unfold isF at k2
  simp (disch := omega) only [wr_id, wr_m1, sd_t, nl_I, nl_R, nl_none, c1_I, c1_R, sh_0, sh_1, sh_2, sh_3, sh_4, true_and, and_true, ldA_A, ldB_B, ldS_S, stA_A, stB_B, aL_A, aL_B, aL_S, aC_A, hRd_eq, hRd_ne, cp6, cp8, tl_some, tl_none, List.cons_append, List.nil_append, ofI_t0, ofI_t1, Int.add_zero, Int.zero_add, x123_3, x123_4, x123_5, x123_6, x123_7, x123_8, x123_9, x123_10, x123_11, x123_12, x123_13, x123_14, x123_15, x123_16, x123_17, x123_18, x123_19, x123_20, x123_21, x123_22, x123_23, x123_24]
  refine ⟨fun q => ⟨fun q2 => ⟨fun q3 => ⟨fun q4 => k2 _ ?_, fun q4 => k2 _ ?_⟩, fun q3 => k2 _ ?_⟩, fun q2 => k2 _ ?_⟩, fun q => k2 _ ?_⟩
  · rw [if_neg q, if_neg q2, if_neg q3, if_neg q4]
  · rw [if_neg q, if_neg q2, if_neg q3, if_pos (by omega)]
  · rw [if_neg q, if_neg q2, if_pos (by omega)]
  · rw [if_neg q, if_pos (by omega)]
  · rw [if_pos (by omega)]
theorem m_clause (hd : 6 ≤ d) (g : RG f n w z h) (hw : w < n) (h32 : ¬ f w = 32) (hD : DB D) (r : RE D z h) (kk : RC Q h z (clF f n w D)) : CALL d 123 [.ref 156] h Q := by
  obtain ⟨hT, ha, z9, z11, h1, h6⟩ := g
  have rx := r.rx
  have hn := hT.1
  have hM0 := hD.1.1
  have hP0 := hD.1.2.1
  have hJ0 := hD.1.2.2.1
  have hfw := hT.2 w ha.1 hw
  have esk : sk f n w = w := by rw [sk_eq, if_neg (fun q => h32 q.2)]
  refine cl123 (by omega) h1 ?_
  simp (disch := omega) only [wr_id, wr_m1, sd_t, nl_I, nl_R, nl_none, c1_I, c1_R, sh_0, sh_1, sh_2, sh_3, sh_4, true_and, and_true, ldA_A, ldB_B, ldS_S, stA_A, stB_B, aL_A, aL_B, aL_S, aC_A, hRd_eq, hRd_ne, cp6, cp8, tl_some, tl_none, List.cons_append, List.nil_append, ofI_t0, ofI_t1, Int.add_zero, Int.zero_add, x123_0, x123_1]
  refine m_here (by omega) hT ha z9 z11 h1 h6 (fun h2 z2 e1 e2 e3 o2 => ?_)
  rw [esk] at e2
  rw [esk, if_pos hw]
  simp (disch := omega) only [wr_id, wr_m1, sd_t, nl_I, nl_R, nl_none, c1_I, c1_R, sh_0, sh_1, sh_2, sh_3, sh_4, true_and, and_true, ldA_A, ldB_B, ldS_S, stA_A, stB_B, aL_A, aL_B, aL_S, aC_A, hRd_eq, hRd_ne, cp6, cp8, tl_some, tl_none, List.cons_append, List.nil_append, ofI_t0, ofI_t1, Int.add_zero, Int.zero_add, x123_2]
  refine cl_is (by omega) ?_
  have or2 := OR.o156 rx o2
  have zr2 : ZR z z2 := fun i hi => e3 i (by omega)
  obtain ⟨w15, w17, ⟨r1, a1, b1⟩, ⟨r2, a2, b2⟩, ⟨r3, a3, b3⟩, ⟨r5, a5, b5⟩, ⟨r6, a6, b6⟩, ⟨r7, a7, b7⟩⟩ := r
  have a12 : hRd h2 162 = cA 1 r1 := by rw [o2.2.2 _ (by omega)]; exact a1
  have w152 : z2 15 = D.2.1 := (e3 15 (by omega)).trans w15
  have w172 : z2 17 = D.2.2.1 := (e3 17 (by omega)).trans w17
  -- what cannot stand there
  have bad1 : ∀ v, FF Q h z 1 w → WP (d - 1) 123 34 [some (.ref 156), some (vI (f w)), some (vI v), none, none] [] h2 Q := fun v hf => by
    simp (disch := omega) only [wr_id, wr_m1, sd_t, nl_I, nl_R, nl_none, c1_I, c1_R, sh_0, sh_1, sh_2, sh_3, sh_4, true_and, and_true, ldA_A, ldB_B, ldS_S, stA_A, stB_B, aL_A, aL_B, aL_S, aC_A, hRd_eq, hRd_ne, cp6, cp8, tl_some, tl_none, List.cons_append, List.nil_append, ofI_t0, ofI_t1, Int.add_zero, Int.zero_add, x123_34, x123_35, x123_36, x123_37, x123_38, gf11_0, pf11_0, gf11_1, pf11_1, gf11_2, pf11_2, gf11_3, gf11_4, gf11_5, gf11_6, gf11_7, pf11_7, gf11_8, gf11_9, pf11_9, gf11_10, pf11_10, gf11_11, pf11_11, gf11_12, pf11_12, gf11_13, pf11_13, gf11_14, gf11_15, pf11_15, gf11_16, gf11_17, pf11_17, gf11_18, gf11_19, gf11_20, gf11_21, gf11_22, gf11_23, gf11_24, pf11_24, gf11_25, gf11_26, gf11_27, gf11_28, pf11_28, gf11_29, pf11_29, gf11_30, gf11_31, gf11_32, pf11_32, gf11_33, gf11_34, gf11_35, pf11_35, gf11_36, gf11_37, gf11_38, gf11_39, uN_eq, uN_ne, e1, e2]
    refine m_fails (by omega) e1 ?_
    simp (disch := omega) only [wr_id, wr_m1, sd_t, nl_I, nl_R, nl_none, c1_I, c1_R, sh_0, sh_1, sh_2, sh_3, sh_4, true_and, and_true, ldA_A, ldB_B, ldS_S, stA_A, stB_B, aL_A, aL_B, aL_S, aC_A, hRd_eq, hRd_ne, cp6, cp8, tl_some, tl_none, List.cons_append, List.nil_append, ofI_t0, ofI_t1, Int.add_zero, Int.zero_add, x123_39]
    exact hf _ (uN z2 10 w) hRd_eq (fun i hi => by rw [uN_ne (by omega)]; exact zr2 i hi) uN_eq (or2.trans (OR.o156 or2.2.2.2 (Out.refl.wr (by omega) (by omega))))
  have bad3 : ∀ v u, ¬ u = 0 → 0 ≤ u → u ≤ 1 → FF Q h z 3 w → WP (d - 1) 123 73 [some (.ref 156), some (vI (f w)), some (vI v), some (vI u), none] [] h2 Q := fun v u hu hu1 hu2 hf => by
    simp (disch := omega) only [wr_id, wr_m1, sd_t, nl_I, nl_R, nl_none, c1_I, c1_R, sh_0, sh_1, sh_2, sh_3, sh_4, true_and, and_true, ldA_A, ldB_B, ldS_S, stA_A, stB_B, aL_A, aL_B, aL_S, aC_A, hRd_eq, hRd_ne, cp6, cp8, tl_some, tl_none, List.cons_append, List.nil_append, ofI_t0, ofI_t1, Int.add_zero, Int.zero_add, x123_73, x123_74, x123_75, x123_76, x123_77, x123_78, x123_79, gf11_0, pf11_0, gf11_1, pf11_1, gf11_2, pf11_2, gf11_3, gf11_4, gf11_5, gf11_6, gf11_7, pf11_7, gf11_8, gf11_9, pf11_9, gf11_10, pf11_10, gf11_11, pf11_11, gf11_12, pf11_12, gf11_13, pf11_13, gf11_14, gf11_15, pf11_15, gf11_16, gf11_17, pf11_17, gf11_18, gf11_19, gf11_20, gf11_21, gf11_22, gf11_23, gf11_24, pf11_24, gf11_25, gf11_26, gf11_27, gf11_28, pf11_28, gf11_29, pf11_29, gf11_30, gf11_31, gf11_32, pf11_32, gf11_33, gf11_34, gf11_35, pf11_35, gf11_36, gf11_37, gf11_38, gf11_39, uN_eq, uN_ne, e1, e2]
    refine ⟨fun q => by omega, fun _ => ?_⟩
    refine m_fails (by omega) e1 ?_
    simp (disch := omega) only [wr_id, wr_m1, sd_t, nl_I, nl_R, nl_none, c1_I, c1_R, sh_0, sh_1, sh_2, sh_3, sh_4, true_and, and_true, ldA_A, ldB_B, ldS_S, stA_A, stB_B, aL_A, aL_B, aL_S, aC_A, hRd_eq, hRd_ne, cp6, cp8, tl_some, tl_none, List.cons_append, List.nil_append, ofI_t0, ofI_t1, Int.add_zero, Int.zero_add, x123_80]
    exact hf _ (uN z2 10 w) hRd_eq (fun i hi => by rw [uN_ne (by omega)]; exact zr2 i hi) uN_eq (or2.trans (OR.o156 or2.2.2.2 (Out.refl.wr (by omega) (by omega))))
  -- a letter on
  have go : ∀ v u, u = 0 → (∀ (h3 : LHeap), hRd h3 156 = oM (uN z2 11 (w + 1)) → Out 156 156 h h3 → OR h h3 → WP (d - 1) 123 87 [some (.ref 156), some (vI (f w)), some (vI v), some (vI u), none] [] h3 Q) → WP (d - 1) 123 73 [some (.ref 156), some (vI (f w)), some (vI v), some (vI u), none] [] h2 Q := fun v u hu k => by
    simp (disch := omega) only [wr_id, wr_m1, sd_t, nl_I, nl_R, nl_none, c1_I, c1_R, sh_0, sh_1, sh_2, sh_3, sh_4, true_and, and_true, ldA_A, ldB_B, ldS_S, stA_A, stB_B, aL_A, aL_B, aL_S, aC_A, hRd_eq, hRd_ne, cp6, cp8, tl_some, tl_none, List.cons_append, List.nil_append, ofI_t0, ofI_t1, Int.add_zero, Int.zero_add, x123_73, x123_74, x123_81, x123_82, x123_83, x123_84, x123_85, x123_86, gf11_0, pf11_0, gf11_1, pf11_1, gf11_2, pf11_2, gf11_3, gf11_4, gf11_5, gf11_6, gf11_7, pf11_7, gf11_8, gf11_9, pf11_9, gf11_10, pf11_10, gf11_11, pf11_11, gf11_12, pf11_12, gf11_13, pf11_13, gf11_14, gf11_15, pf11_15, gf11_16, gf11_17, pf11_17, gf11_18, gf11_19, gf11_20, gf11_21, gf11_22, gf11_23, gf11_24, pf11_24, gf11_25, gf11_26, gf11_27, gf11_28, pf11_28, gf11_29, pf11_29, gf11_30, gf11_31, gf11_32, pf11_32, gf11_33, gf11_34, gf11_35, pf11_35, gf11_36, gf11_37, gf11_38, gf11_39, uN_eq, uN_ne, e1, e2]
    refine ⟨fun _ => ?_, fun q => absurd hu q⟩
    have ow : Out 156 156 h2 (hWr h2 156 (oM (uN z2 11 (w + 1)))) := Out.refl.wr (by omega) (by omega)
    exact k _ hRd_eq (o2.trans ow) (or2.trans (OR.o156 or2.2.2.2 ow))
  have zr3 : ZR z (uN z2 11 (w + 1)) := fun i hi => by rw [uN_ne (by omega)]; exact zr2 i hi
  have z310 : uN z2 11 (w + 1) 10 = z 10 := by rw [uN_ne (by omega)]; exact e3 10 (by omega)
  have re3 : ∀ h3, Out 156 156 h h3 → RE D (uN z2 11 (w + 1)) h3 := fun h3 o3 => ⟨by rw [uN_ne (by omega)]; exact w152, by rw [uN_ne (by omega)]; exact w172, ⟨r1, by rw [o3.2.2 _ (by omega)]; exact a1, b1⟩, ⟨r2, by rw [o3.2.2 _ (by omega)]; exact a2, b2⟩, ⟨r3, by rw [o3.2.2 _ (by omega)]; exact a3, b3⟩, ⟨r5, by rw [o3.2.2 _ (by omega)]; exact a5, b5⟩, ⟨r6, by rw [o3.2.2 _ (by omega)]; exact a6, b6⟩, ⟨r7, by rw [o3.2.2 _ (by omega)]; exact a7, b7⟩⟩
  have rg3 : ∀ h3, hRd h3 156 = oM (uN z2 11 (w + 1)) → Out 156 156 h h3 → RG f n (w + 1) (uN z2 11 (w + 1)) h3 := fun h3 e o3 => ⟨hT, by omega, by rw [uN_ne (by omega), e3 9 (by omega)]; exact z9, uN_eq, e, by rw [o3.2.2 _ (by omega)]; exact h6⟩
  have hB1 := nB_b (f := f) (n := n) (a := w + 1) (by omega)
  have hB2 := nB_b (f := f) (n := n) (a := nB f n (w + 1)) (by omega)
  have hB3 := nB_b (f := f) (n := n) (a := nB f n (nB f n (w + 1))) (by omega)
  unfold clF at kk
  by_cases q99 : f w = 99
  · rw [if_pos q99] at kk
    have hv : isF (f w) = 0 := by unfold isF; rw [if_pos q99]
    rw [hv]
    unfold cM at kk
    simp (disch := omega) only [wr_id, wr_m1, sd_t, nl_I, nl_R, nl_none, c1_I, c1_R, sh_0, sh_1, sh_2, sh_3, sh_4, true_and, and_true, ldA_A, ldB_B, ldS_S, stA_A, stB_B, aL_A, aL_B, aL_S, aC_A, hRd_eq, hRd_ne, cp6, cp8, tl_some, tl_none, List.cons_append, List.nil_append, ofI_t0, ofI_t1, Int.add_zero, Int.zero_add, x123_25, x123_26, x123_27, x123_28, x123_40, x123_41, x123_42, x123_43, x123_44, x123_45, x123_46, x123_47, x123_48, x123_49, x123_50, x123_72, gf11_0, pf11_0, gf11_1, pf11_1, gf11_2, pf11_2, gf11_3, gf11_4, gf11_5, gf11_6, gf11_7, pf11_7, gf11_8, gf11_9, pf11_9, gf11_10, pf11_10, gf11_11, pf11_11, gf11_12, pf11_12, gf11_13, pf11_13, gf11_14, gf11_15, pf11_15, gf11_16, gf11_17, pf11_17, gf11_18, gf11_19, gf11_20, gf11_21, gf11_22, gf11_23, gf11_24, pf11_24, gf11_25, gf11_26, gf11_27, gf11_28, pf11_28, gf11_29, pf11_29, gf11_30, gf11_31, gf11_32, pf11_32, gf11_33, gf11_34, gf11_35, pf11_35, gf11_36, gf11_37, gf11_38, gf11_39, uN_eq, uN_ne, e1, a12, b1]
    refine ⟨fun q => by first | omega | exact absurd rfl q | exact absurd trivial q | exact absurd q (by omega), fun _ => ⟨fun _ => ⟨fun q => by first | omega | exact absurd rfl q | exact absurd trivial q | exact absurd q (by omega), fun _ => ⟨by omega, fun q => ?_, fun q => ?_⟩⟩, fun q => by first | omega | exact absurd rfl q | exact absurd trivial q | exact absurd q (by omega)⟩⟩
    · have q0 : D.1 = 0 := by omega
      rw [if_pos q0] at kk
      refine go 0 0 rfl (fun h3 e31 o3 or3 => ?_)
      have a13 : hRd h3 162 = cA 1 r1 := by rw [o3.2.2 _ (by omega)]; exact a1
      have kb := nK_b f n 10 999 (w + 1)
      obtain ⟨k1, k2⟩ := kk.nu
      simp (disch := omega) only [wr_id, wr_m1, sd_t, nl_I, nl_R, nl_none, c1_I, c1_R, sh_0, sh_1, sh_2, sh_3, sh_4, true_and, and_true, ldA_A, ldB_B, ldS_S, stA_A, stB_B, aL_A, aL_B, aL_S, aC_A, hRd_eq, hRd_ne, cp6, cp8, tl_some, tl_none, List.cons_append, List.nil_append, ofI_t0, ofI_t1, Int.add_zero, Int.zero_add, x123_87, x123_88, x123_89, x123_90, x123_91, x123_92, x123_93, x123_94, x123_95, gf11_0, pf11_0, gf11_1, pf11_1, gf11_2, pf11_2, gf11_3, gf11_4, gf11_5, gf11_6, gf11_7, pf11_7, gf11_8, gf11_9, pf11_9, gf11_10, pf11_10, gf11_11, pf11_11, gf11_12, pf11_12, gf11_13, pf11_13, gf11_14, gf11_15, pf11_15, gf11_16, gf11_17, pf11_17, gf11_18, gf11_19, gf11_20, gf11_21, gf11_22, gf11_23, gf11_24, pf11_24, gf11_25, gf11_26, gf11_27, gf11_28, pf11_28, gf11_29, pf11_29, gf11_30, gf11_31, gf11_32, pf11_32, gf11_33, gf11_34, gf11_35, pf11_35, gf11_36, gf11_37, gf11_38, gf11_39, uN_eq, uN_ne, e31]
      refine ⟨fun q => by first | omega | exact absurd rfl q | exact absurd trivial q | exact absurd q (by omega), fun _ => ?_⟩
      obtain ⟨gT, ga, g9, g11, g1, g6⟩ := rg3 h3 e31 o3
      refine m_into (by omega) gT (by omega) (by omega) ga g9 g11 g1 g6 a13 (by omega) (by omega) (by omega) (fun h4 z4 x f1 f2 f3 f4 f5 k4 o4 => ?_)
      have x4 := or3.2.2.2
      have re := re3 h3 o3
      have or4 : OR h3 h4 := ⟨o4.1, o4.2, fun b hb => k4 b (by omega), ⟨_, f5⟩, by rw [k4 163 (by omega)]; exact x4.2.1, by rw [k4 164 (by omega)]; exact x4.2.2.1, by rw [k4 165 (by omega)]; exact x4.2.2.2.1, by rw [k4 166 (by omega)]; exact x4.2.2.2.2.1, by rw [k4 167 (by omega)]; exact x4.2.2.2.2.2⟩
      by_cases qk : nK f n 10 999 (w + 1) = 0
      · obtain ⟨s1, s2, s3, s4⟩ := f4 qk
        rw [qk]
        refine cl_en (pc0 := 96) (by omega) (fun y h9 hy => by simp (disch := omega) only [wr_id, wr_m1, sd_t, nl_I, nl_R, nl_none, c1_I, c1_R, sh_0, sh_1, sh_2, sh_3, sh_4, true_and, and_true, ldA_A, ldB_B, ldS_S, stA_A, stB_B, aL_A, aL_B, aL_S, aC_A, hRd_eq, hRd_ne, cp6, cp8, tl_some, tl_none, List.cons_append, List.nil_append, ofI_t0, ofI_t1, Int.add_zero, Int.zero_add, x123_96]; exact hy) hT (by omega) z9 h6 (k2 qk) or3 zr3 z310 h4 z4 f1 f2.zr s1 s2 or4 ⟨(f2 15 (by omega)).trans re.1, (f2 17 (by omega)).trans re.2.1, ⟨_, f5, ?_⟩, ?_, ?_, ?_, ?_, ?_⟩
        · rw [uA_eq]; exact s3
        · obtain ⟨q, x1, x2⟩ := re.2.2.2.1; exact ⟨q, by rw [k4 _ (by omega)]; exact x1, x2⟩
        · obtain ⟨q, x1, x2⟩ := re.2.2.2.2.1; exact ⟨q, by rw [k4 _ (by omega)]; exact x1, x2⟩
        · obtain ⟨q, x1, x2⟩ := re.2.2.2.2.2.1; exact ⟨q, by rw [k4 _ (by omega)]; exact x1, x2⟩
        · obtain ⟨q, x1, x2⟩ := re.2.2.2.2.2.2.1; exact ⟨q, by rw [k4 _ (by omega)]; exact x1, x2⟩
        · obtain ⟨q, x1, x2⟩ := re.2.2.2.2.2.2.2; exact ⟨q, by rw [k4 _ (by omega)]; exact x1, x2⟩
      · exact cl_fl (pc0 := 96) (fun y h9 hy => by simp (disch := omega) only [wr_id, wr_m1, sd_t, nl_I, nl_R, nl_none, c1_I, c1_R, sh_0, sh_1, sh_2, sh_3, sh_4, true_and, and_true, ldA_A, ldB_B, ldS_S, stA_A, stB_B, aL_A, aL_B, aL_S, aC_A, hRd_eq, hRd_ne, cp6, cp8, tl_some, tl_none, List.cons_append, List.nil_append, ofI_t0, ofI_t1, Int.add_zero, Int.zero_add, x123_96]; exact hy) qk (by omega) (k1 qk) or3 zr3 h4 z4 f1 f2.zr (f3 qk) or4
    · rw [if_neg (by omega)] at kk
      exact bad3 0 1 (by omega) (by omega) (by omega) (kk.bad (by omega))
  · rw [if_neg q99] at kk
    by_cases q0 : D.1 = 0
    · rw [if_pos q0] at kk
      have kk := kk.bad (by omega)
      have hv : isF (f w) = -1 ∨ (1 ≤ isF (f w) ∧ isF (f w) ≤ 3) := by unfold isF; rw [if_neg q99]; repeat' split; all_goals omega
      generalize isF (f w) = v at hv
      simp (disch := omega) only [wr_id, wr_m1, sd_t, nl_I, nl_R, nl_none, c1_I, c1_R, sh_0, sh_1, sh_2, sh_3, sh_4, true_and, and_true, ldA_A, ldB_B, ldS_S, stA_A, stB_B, aL_A, aL_B, aL_S, aC_A, hRd_eq, hRd_ne, cp6, cp8, tl_some, tl_none, List.cons_append, List.nil_append, ofI_t0, ofI_t1, Int.add_zero, Int.zero_add, x123_25, x123_26, x123_27, x123_28, x123_29, x123_30, x123_31, x123_32, x123_33, gf11_0, pf11_0, gf11_1, pf11_1, gf11_2, pf11_2, gf11_3, gf11_4, gf11_5, gf11_6, gf11_7, pf11_7, gf11_8, gf11_9, pf11_9, gf11_10, pf11_10, gf11_11, pf11_11, gf11_12, pf11_12, gf11_13, pf11_13, gf11_14, gf11_15, pf11_15, gf11_16, gf11_17, pf11_17, gf11_18, gf11_19, gf11_20, gf11_21, gf11_22, gf11_23, gf11_24, pf11_24, gf11_25, gf11_26, gf11_27, gf11_28, pf11_28, gf11_29, pf11_29, gf11_30, gf11_31, gf11_32, pf11_32, gf11_33, gf11_34, gf11_35, pf11_35, gf11_36, gf11_37, gf11_38, gf11_39, uN_eq, uN_ne, e1, a12, b1]
      exact ⟨fun _ => bad1 v kk, fun q => ⟨fun q => by omega, fun _ => ⟨by omega, fun q => absurd q0 q, fun _ => bad1 v kk⟩⟩⟩
    · rw [if_neg q0] at kk
      by_cases q112 : f w = 112
      · rw [if_pos q112] at kk
        have hv : isF (f w) = 1 := by unfold isF; rw [if_neg q99, if_pos q112]
        rw [hv]
        unfold cP at kk
        have hstep : ∀ u, WP (d - 1) 123 72 [some (.ref 156), some (vI (f w)), some (vI 1), none, none] [vI u] h2 Q → (D.2.1 = 6 ↔ u = 1) → True := fun _ _ _ => trivial
        simp (disch := omega) only [wr_id, wr_m1, sd_t, nl_I, nl_R, nl_none, c1_I, c1_R, sh_0, sh_1, sh_2, sh_3, sh_4, true_and, and_true, ldA_A, ldB_B, ldS_S, stA_A, stB_B, aL_A, aL_B, aL_S, aC_A, hRd_eq, hRd_ne, cp6, cp8, tl_some, tl_none, List.cons_append, List.nil_append, ofI_t0, ofI_t1, Int.add_zero, Int.zero_add, x123_25, x123_26, x123_27, x123_28, x123_29, x123_30, x123_31, x123_32, x123_33, x123_40, x123_41, x123_51, x123_52, x123_53, x123_54, x123_55, x123_56, x123_57, x123_58, x123_59, x123_60, x123_61, x123_72, gf11_0, pf11_0, gf11_1, pf11_1, gf11_2, pf11_2, gf11_3, gf11_4, gf11_5, gf11_6, gf11_7, pf11_7, gf11_8, gf11_9, pf11_9, gf11_10, pf11_10, gf11_11, pf11_11, gf11_12, pf11_12, gf11_13, pf11_13, gf11_14, gf11_15, pf11_15, gf11_16, gf11_17, pf11_17, gf11_18, gf11_19, gf11_20, gf11_21, gf11_22, gf11_23, gf11_24, pf11_24, gf11_25, gf11_26, gf11_27, gf11_28, pf11_28, gf11_29, pf11_29, gf11_30, gf11_31, gf11_32, pf11_32, gf11_33, gf11_34, gf11_35, pf11_35, gf11_36, gf11_37, gf11_38, gf11_39, uN_eq, uN_ne, e1, a12, b1, w152]
        refine ⟨fun q => by first | omega | exact absurd rfl q | exact absurd trivial q | exact absurd q (by omega), fun _ => ⟨fun q => by first | omega | exact absurd rfl q | exact absurd trivial q | exact absurd q (by omega), fun _ => ⟨by omega, fun _ => ⟨fun _ => ⟨fun q => by first | omega | exact absurd rfl q | exact absurd trivial q | exact absurd q (by omega), fun _ => ⟨fun q => ?_, fun q => ?_⟩⟩, fun q => by first | omega | exact absurd rfl q | exact absurd trivial q | exact absurd q (by omega)⟩, fun q => absurd q0 q⟩⟩⟩
        · rw [if_pos (by omega)] at kk
          refine go 1 0 rfl (fun h3 e31 o3 or3 => ?_)
          obtain ⟨k1, k2⟩ := kk.nu
          have kb := nK_b f n 0 999 (w + 1)
          simp (disch := omega) only [wr_id, wr_m1, sd_t, nl_I, nl_R, nl_none, c1_I, c1_R, sh_0, sh_1, sh_2, sh_3, sh_4, true_and, and_true, ldA_A, ldB_B, ldS_S, stA_A, stB_B, aL_A, aL_B, aL_S, aC_A, hRd_eq, hRd_ne, cp6, cp8, tl_some, tl_none, List.cons_append, List.nil_append, ofI_t0, ofI_t1, Int.add_zero, Int.zero_add, x123_87, x123_88, x123_97, x123_98, x123_99, x123_100, x123_101]
          refine ⟨fun _ => ⟨fun q => by first | omega | exact absurd rfl q | exact absurd trivial q | exact absurd q (by omega), fun _ => ?_⟩, fun q => by first | omega | exact absurd rfl q | exact absurd trivial q | exact absurd q (by omega)⟩
          refine m_tkP (by omega) (rg3 h3 e31 o3) hD (re3 h3 o3) (by omega) (fun qk => ?_) (fun qk => ?_)
          · exact cl_fl (pc0 := 102) (fun y h9 hy => by simp (disch := omega) only [wr_id, wr_m1, sd_t, nl_I, nl_R, nl_none, c1_I, c1_R, sh_0, sh_1, sh_2, sh_3, sh_4, true_and, and_true, ldA_A, ldB_B, ldS_S, stA_A, stB_B, aL_A, aL_B, aL_S, aC_A, hRd_eq, hRd_ne, cp6, cp8, tl_some, tl_none, List.cons_append, List.nil_append, ofI_t0, ofI_t1, Int.add_zero, Int.zero_add, x123_102]; exact hy) qk (by omega) (k1 qk) or3 zr3
          · exact cl_en (pc0 := 102) (by omega) (fun y h9 hy => by simp (disch := omega) only [wr_id, wr_m1, sd_t, nl_I, nl_R, nl_none, c1_I, c1_R, sh_0, sh_1, sh_2, sh_3, sh_4, true_and, and_true, ldA_A, ldB_B, ldS_S, stA_A, stB_B, aL_A, aL_B, aL_S, aC_A, hRd_eq, hRd_ne, cp6, cp8, tl_some, tl_none, List.cons_append, List.nil_append, ofI_t0, ofI_t1, Int.add_zero, Int.zero_add, x123_102]; exact hy) hT (by omega) z9 h6 (k2 qk) or3 zr3 z310
        · rw [if_neg (by omega)] at kk
          exact bad3 1 1 (by omega) (by omega) (by omega) (kk.bad (by omega))
      · rw [if_neg q112] at kk
        by_cases q106 : f w = 106
        · rw [if_pos q106] at kk
          have hv : isF (f w) = 2 := by unfold isF; rw [if_neg q99, if_neg q112, if_pos q106]
          rw [hv]
          unfold cJ at kk
          simp (disch := omega) only [wr_id, wr_m1, sd_t, nl_I, nl_R, nl_none, c1_I, c1_R, sh_0, sh_1, sh_2, sh_3, sh_4, true_and, and_true, ldA_A, ldB_B, ldS_S, stA_A, stB_B, aL_A, aL_B, aL_S, aC_A, hRd_eq, hRd_ne, cp6, cp8, tl_some, tl_none, List.cons_append, List.nil_append, ofI_t0, ofI_t1, Int.add_zero, Int.zero_add, x123_25, x123_26, x123_27, x123_28, x123_29, x123_30, x123_31, x123_32, x123_33, x123_40, x123_41, x123_51, x123_52, x123_53, x123_62, x123_63, x123_64, x123_65, x123_66, x123_67, x123_68, x123_69, x123_70, x123_71, x123_72, gf11_0, pf11_0, gf11_1, pf11_1, gf11_2, pf11_2, gf11_3, gf11_4, gf11_5, gf11_6, gf11_7, pf11_7, gf11_8, gf11_9, pf11_9, gf11_10, pf11_10, gf11_11, pf11_11, gf11_12, pf11_12, gf11_13, pf11_13, gf11_14, gf11_15, pf11_15, gf11_16, gf11_17, pf11_17, gf11_18, gf11_19, gf11_20, gf11_21, gf11_22, gf11_23, gf11_24, pf11_24, gf11_25, gf11_26, gf11_27, gf11_28, pf11_28, gf11_29, pf11_29, gf11_30, gf11_31, gf11_32, pf11_32, gf11_33, gf11_34, gf11_35, pf11_35, gf11_36, gf11_37, gf11_38, gf11_39, uN_eq, uN_ne, e1, a12, b1, w172]
          refine ⟨fun q => by first | omega | exact absurd rfl q | exact absurd trivial q | exact absurd q (by omega), fun _ => ⟨fun q => by first | omega | exact absurd rfl q | exact absurd trivial q | exact absurd q (by omega), fun _ => ⟨by omega, fun _ => ⟨fun _ => ⟨fun _ => ⟨fun q => by first | omega | exact absurd rfl q | exact absurd trivial q | exact absurd q (by omega), fun _ => ⟨fun q => ?_, fun q => ?_⟩⟩, fun q => by first | omega | exact absurd rfl q | exact absurd trivial q | exact absurd q (by omega)⟩, fun q => by first | omega | exact absurd rfl q | exact absurd trivial q | exact absurd q (by omega)⟩, fun q => absurd q0 q⟩⟩⟩
          · rw [if_pos (by omega)] at kk
            refine go 2 0 rfl (fun h3 e31 o3 or3 => ?_)
            obtain ⟨k1, k2⟩ := kk.nu
            have kb1 := nK_b f n 0 (D.2.1 - 1) (w + 1)
            have kb2 := nK_b f n 1 99 (nB f n (w + 1))
            have kb3 := nK_b f n 0 999 (nB f n (nB f n (w + 1)))
            simp (disch := omega) only [wr_id, wr_m1, sd_t, nl_I, nl_R, nl_none, c1_I, c1_R, sh_0, sh_1, sh_2, sh_3, sh_4, true_and, and_true, ldA_A, ldB_B, ldS_S, stA_A, stB_B, aL_A, aL_B, aL_S, aC_A, hRd_eq, hRd_ne, cp6, cp8, tl_some, tl_none, List.cons_append, List.nil_append, ofI_t0, ofI_t1, Int.add_zero, Int.zero_add, x123_87, x123_88, x123_97, x123_98, x123_99, x123_103, x123_104, x123_105, x123_106, x123_107]
            refine ⟨fun _ => ⟨fun _ => ⟨fun q => by first | omega | exact absurd rfl q | exact absurd trivial q | exact absurd q (by omega), fun _ => ?_⟩, fun q => by first | omega | exact absurd rfl q | exact absurd trivial q | exact absurd q (by omega)⟩, fun q => by first | omega | exact absurd rfl q | exact absurd trivial q | exact absurd q (by omega)⟩
            have hpc : ∀ (x : Int) (h1 : LHeap), WP (d - 1) 123 111 [some (.ref 156), some (vI (f w)), some (vI 2), some (vI 0), none] [vI x] h1 Q → WP (d - 1) 123 108 [some (.ref 156), some (vI (f w)), some (vI 2), some (vI 0), none] ((some (vI x)).toList ++ []) h1 Q := fun y h9 hy => by simp (disch := omega) only [wr_id, wr_m1, sd_t, nl_I, nl_R, nl_none, c1_I, c1_R, sh_0, sh_1, sh_2, sh_3, sh_4, true_and, and_true, ldA_A, ldB_B, ldS_S, stA_A, stB_B, aL_A, aL_B, aL_S, aC_A, hRd_eq, hRd_ne, cp6, cp8, tl_some, tl_none, List.cons_append, List.nil_append, ofI_t0, ofI_t1, Int.add_zero, Int.zero_add, x123_108]; exact hy
            refine m_tkJ (by omega) (rg3 h3 e31 o3) hD (re3 h3 o3) (by omega) (fun qk => ?_) (fun p1 qk => ?_) (fun p1 p2 qk => ?_) (fun p1 p2 p3 qk => ?_) (fun p1 p2 p3 qk => ?_)
            · exact cl_fl hpc qk (by omega) (k1 qk) or3 zr3
            · exact cl_fl hpc qk (by omega) ((k2 p1).nu.1 qk) or3 zr3
            · exact cl_fl hpc qk (by omega) (((k2 p1).nu.2 p2).nu.1 qk) or3 zr3
            · have k3 := ((k2 p1).nu.2 p2).nu.2 p3
              rw [if_neg qk] at k3
              exact cl_fl hpc (by omega) (by omega) (k3.bad (by omega)) or3 zr3
            · have k3 := ((k2 p1).nu.2 p2).nu.2 p3
              rw [if_pos qk] at k3
              exact cl_en (by omega) hpc hT (by omega) z9 h6 k3 or3 zr3 z310
          · rw [if_neg (by omega)] at kk
            exact bad3 2 1 (by omega) (by omega) (by omega) (kk.bad (by omega))
        · rw [if_neg q106] at kk
          by_cases q119 : f w = 119
          · rw [if_pos q119] at kk
            have hv : isF (f w) = 3 := by unfold isF; rw [if_neg q99, if_neg q112, if_neg q106, if_pos q119]
            rw [hv]
            unfold cW at kk
            simp (disch := omega) only [wr_id, wr_m1, sd_t, nl_I, nl_R, nl_none, c1_I, c1_R, sh_0, sh_1, sh_2, sh_3, sh_4, true_and, and_true, ldA_A, ldB_B, ldS_S, stA_A, stB_B, aL_A, aL_B, aL_S, aC_A, hRd_eq, hRd_ne, cp6, cp8, tl_some, tl_none, List.cons_append, List.nil_append, ofI_t0, ofI_t1, Int.add_zero, Int.zero_add, x123_25, x123_26, x123_27, x123_28, x123_29, x123_30, x123_31, x123_32, x123_33, x123_40, x123_41, x123_51, x123_52, x123_53, x123_62, x123_63, x123_64, x123_71, x123_72, gf11_0, pf11_0, gf11_1, pf11_1, gf11_2, pf11_2, gf11_3, gf11_4, gf11_5, gf11_6, gf11_7, pf11_7, gf11_8, gf11_9, pf11_9, gf11_10, pf11_10, gf11_11, pf11_11, gf11_12, pf11_12, gf11_13, pf11_13, gf11_14, gf11_15, pf11_15, gf11_16, gf11_17, pf11_17, gf11_18, gf11_19, gf11_20, gf11_21, gf11_22, gf11_23, gf11_24, pf11_24, gf11_25, gf11_26, gf11_27, gf11_28, pf11_28, gf11_29, pf11_29, gf11_30, gf11_31, gf11_32, pf11_32, gf11_33, gf11_34, gf11_35, pf11_35, gf11_36, gf11_37, gf11_38, gf11_39, uN_eq, uN_ne, e1, a12, b1]
            refine ⟨fun q => by first | omega | exact absurd rfl q | exact absurd trivial q | exact absurd q (by omega), fun _ => ⟨fun q => by first | omega | exact absurd rfl q | exact absurd trivial q | exact absurd q (by omega), fun _ => ⟨by omega, fun _ => ⟨fun _ => ⟨fun _ => ⟨fun _ => ?_, fun q => by first | omega | exact absurd rfl q | exact absurd trivial q | exact absurd q (by omega)⟩, fun q => by first | omega | exact absurd rfl q | exact absurd trivial q | exact absurd q (by omega)⟩, fun q => by first | omega | exact absurd rfl q | exact absurd trivial q | exact absurd q (by omega)⟩, fun q => absurd q0 q⟩⟩⟩
            refine go 3 0 rfl (fun h3 e31 o3 or3 => ?_)
            obtain ⟨k1, k2⟩ := kk.nu
            have kb1 := nK_b f n 0 (D.2.1 - 1) (w + 1)
            have kb2 := nK_b f n 0 (D.2.2.1 - 1) (nB f n (w + 1))
            simp (disch := omega) only [wr_id, wr_m1, sd_t, nl_I, nl_R, nl_none, c1_I, c1_R, sh_0, sh_1, sh_2, sh_3, sh_4, true_and, and_true, ldA_A, ldB_B, ldS_S, stA_A, stB_B, aL_A, aL_B, aL_S, aC_A, hRd_eq, hRd_ne, cp6, cp8, tl_some, tl_none, List.cons_append, List.nil_append, ofI_t0, ofI_t1, Int.add_zero, Int.zero_add, x123_87, x123_88, x123_97, x123_98, x123_99, x123_103, x123_104, x123_105, x123_109, x123_110]
            refine ⟨fun _ => ⟨fun _ => ⟨fun _ => ?_, fun q => by first | omega | exact absurd rfl q | exact absurd trivial q | exact absurd q (by omega)⟩, fun q => by first | omega | exact absurd rfl q | exact absurd trivial q | exact absurd q (by omega)⟩, fun q => by first | omega | exact absurd rfl q | exact absurd trivial q | exact absurd q (by omega)⟩
            have hpc : ∀ (x : Int) (h1 : LHeap), WP (d - 1) 123 111 [some (.ref 156), some (vI (f w)), some (vI 3), some (vI 0), none] [vI x] h1 Q → WP (d - 1) 123 111 [some (.ref 156), some (vI (f w)), some (vI 3), some (vI 0), none] ((some (vI x)).toList ++ []) h1 Q := fun y h9 hy => hy
            refine m_tkW (by omega) (rg3 h3 e31 o3) hD (re3 h3 o3) (fun qk => ?_) (fun p1 qk => ?_) (fun p1 p2 qk => ?_) (fun p1 p2 qk => ?_)
            · exact cl_fl hpc qk (by omega) (k1 qk) or3 zr3
            · have k3 := k2 p1
              rw [if_neg qk] at k3
              exact cl_fl hpc (by omega) (by omega) (k3.bad (by omega)) or3 zr3
            · have k3 := k2 p1
              rw [if_pos p2] at k3
              exact cl_fl hpc qk (by omega) (k3.nu.1 qk) or3 zr3
            · have k3 := k2 p1
              rw [if_pos p2] at k3
              exact cl_en (by omega) hpc hT (by omega) z9 h6 (k3.nu.2 qk) or3 zr3 z310
          · rw [if_neg q119] at kk
            have hv : isF (f w) = -1 := by unfold isF; rw [if_neg q99, if_neg q112, if_neg q106, if_neg q119]
            rw [hv]
            simp (disch := omega) only [wr_id, wr_m1, sd_t, nl_I, nl_R, nl_none, c1_I, c1_R, sh_0, sh_1, sh_2, sh_3, sh_4, true_and, and_true, ldA_A, ldB_B, ldS_S, stA_A, stB_B, aL_A, aL_B, aL_S, aC_A, hRd_eq, hRd_ne, cp6, cp8, tl_some, tl_none, List.cons_append, List.nil_append, ofI_t0, ofI_t1, Int.add_zero, Int.zero_add, x123_25, x123_26]
            exact ⟨fun _ => bad1 (-1) (kk.bad (by omega)), fun q => by first | omega | exact absurd rfl q | exact absurd trivial q | exact absurd q (by omega)⟩
end
