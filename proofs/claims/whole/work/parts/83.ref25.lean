-- THE REFERENCE'S READER: the text; what is read becomes the city
/-- a clause without a fault leads on -/
def RR (n w : Int) (r : CR) : Prop := r.1 = 0 → DB r.2.2.1 ∧ w + 1 ≤ r.2.2.2 ∧ r.2.2.2 ≤ n
section
variable {f : Int → Int} {n w lo hi a b : Int} {D D1 : CC} {k : CR}
theorem RR.nu (h : nK f n lo hi a = 0 → RR n w k) : RR n w (nuC f n lo hi a D k) := by
  unfold nuC
  by_cases q : nK f n lo hi a = 0
  · rw [if_pos q]; exact h q
  · rw [if_neg q]; exact fun z => absurd z q
theorem RR.en (hb : w + 1 ≤ b ∧ b ≤ n) (hD : DB D1) : RR n w (enC f n b D D1) := by
  unfold enC
  have hs := sk_b (f := f) (n := n) (a := b) hb.2
  by_cases q : sk f n b < n ∧ f (sk f n b) = 59
  · rw [if_pos q]
    exact fun _ => ⟨hD, by show w + 1 ≤ sk f n b + 1; omega, by show sk f n b + 1 ≤ n; omega⟩
  · rw [if_neg q]
    exact fun z => absurd (show (1 : Int) = 0 from z) (by omega)
theorem RR.no {fl pl x : Int} (h : ¬ fl = 0) : RR n w (fl, pl, D, x) := fun z => absurd z h
theorem clF_rr (hT : TxB f n) (hw : 0 ≤ w ∧ w < n) (hD : DB D) : RR n w (clF f n w D) := by
  have hn := hT.1
  have hB1 := nB_b (f := f) (n := n) (a := w + 1) (by omega)
  have hB2 := nB_b (f := f) (n := n) (a := nB f n (w + 1)) (by omega)
  have hB3 := nB_b (f := f) (n := n) (a := nB f n (nB f n (w + 1))) (by omega)
  have v1 := nV_b (f := f) (n := n) (a := w + 1) hn.2 (by omega)
  have v2 := nV_b (f := f) (n := n) (a := nB f n (w + 1)) hn.2 (by omega)
  have v3 := nV_b (f := f) (n := n) (a := nB f n (nB f n (w + 1))) hn.2 (by omega)
  have hP0 := hD.1.2.1
  have hJ0 := hD.1.2.2.1
  unfold clF
  split
  · unfold cM
    split
    · refine RR.nu (fun q => RR.en (by omega) ?_)
      have := nK_v q
      exact ⟨⟨⟨by show 0 ≤ nV f n (w + 1); omega, by show nV f n (w + 1) ≤ 999; omega⟩, hD.1.2⟩, hD.2⟩
    · exact RR.no (by omega)
  · split
    · exact RR.no (by omega)
    · split
      · unfold cP
        split
        · exact RR.nu (fun q => RR.en (by omega) (db_addP hD (by omega) (by omega)))
        · exact RR.no (by omega)
      · split
        · unfold cJ
          split
          · refine RR.nu (fun q1 => RR.nu (fun q2 => RR.nu (fun q3 => ?_)))
            have := nK_v q1
            have := nK_v q2
            split
            · refine RR.en (by omega) (db_addJ hD (by omega) (by omega) (by omega) ?_)
              split <;> omega
            · exact RR.no (by omega)
          · exact RR.no (by omega)
        · split
          · unfold cW
            refine RR.nu (fun q1 => ?_)
            split
            · refine RR.nu (fun q2 => RR.en (by omega) (db_addW hD ?_))
              have := nK_v q2
              omega
            · exact RR.no (by omega)
          · exact RR.no (by omega)
theorem sk_ne (ha : a ≤ n) : sk f n a < n → ¬ f (sk f n a) = 32 := fun h q => by
  have e := sk_sk (f := f) ha
  have hs := sk_b (f := f) (n := n) (a := sk f n a + 1) (by omega)
  rw [sk_eq, if_pos ⟨h, q⟩] at e
  omega
end
theorem cB_ext {n : Nat} {f g : Int → Int} (h : ∀ j : Int, 0 ≤ j → j < n → f j = g j) : cB n f = cB n g := by
  unfold cB
  congr 3
  apply List.map_congr_left
  intro j hj
  have := List.mem_range.mp hj
  rw [h (j : Int) (by omega) (by omega)]
section
variable {d : Nat} {Q : Option Value → LHeap → Prop} {f : Int → Int} {n : Int}
/-- the text's end -/
def TF (Q : Option Value → LHeap → Prop) (h0 : LHeap) (z0 : Nat → Int) (d : Nat) (r : Int × Int × CC) : Prop := ∀ (h1 : LHeap) (zz : Nat → Int), hRd h1 156 = oM zz → ZR z0 zz → OR h0 h1 → (¬ r.1 = 0 → zz 10 = r.2.1) → (r.1 = 0 → zz 10 = -1 ∧ RE r.2.2 zz h1 ∧ DB r.2.2) → WP d 125 29 [some (.ref 156), some (vI r.1)] [] h1 Q
theorem l_mtext {h0 : LHeap} {z0 : Nat → Int} (hd : 6 ≤ d) (hT : TxB f n) (z9 : z0 9 = n) (h6 : hRd h0 161 = cA 220 f) : ∀ (m : Nat) (a : Int) (D : CC) (fl : Int) (z : Nat → Int) (h : LHeap), n - a ≤ (m : Int) → 0 ≤ a → a ≤ n → fl = 0 → hRd h 156 = oM z → ZR z0 z → OR h0 h → z 10 = -1 → z 11 = a → RE D z h → DB D → TF Q h0 z0 d (txF f n m a D) → WPC d 125 20 [some (.ref 156), some (vI fl)] [] h Q := by
  have hn := hT.1
  -- the end of it
  have stop : ∀ (a : Int) (D : CC) (fl : Int) (z : Nat → Int) (h : LHeap), 0 ≤ a → a ≤ n → ¬ sk f n a < n → fl = 0 → hRd h 156 = oM z → ZR z0 z → OR h0 h → z 10 = -1 → z 11 = a → RE D z h → DB D → TF Q h0 z0 d (0, -1, D) → WPC d 125 20 [some (.ref 156), some (vI fl)] [] h Q := by
    intro a D fl z h ha0 han hs hfl h1 zr o z10 z11 r hD kk
    rw [WPC_iff]
    simp (disch := omega) only [wr_id, wr_m1, sd_t, nl_I, nl_R, nl_none, c1_I, c1_R, sh_0, sh_1, sh_2, sh_3, sh_4, true_and, and_true, ldA_A, ldB_B, ldS_S, stA_A, stB_B, aL_A, aL_B, aL_S, aC_A, hRd_eq, hRd_ne, cp6, cp8, tl_some, tl_none, List.cons_append, List.nil_append, ofI_t0, ofI_t1, Int.add_zero, Int.zero_add, x125_20, x125_21, x125_22, x125_23]
    refine ⟨fun q => by omega, fun _ => ?_⟩
    refine m_here (by omega) hT ⟨ha0, han⟩ ((zr 9 (by omega)).trans z9) z11 h1 (by rw [o.2.2.1 _ (by omega)]; exact h6) (fun h2 z2 e1 e2 e3 o2 => ?_)
    rw [if_neg hs]
    simp (disch := omega) only [wr_id, wr_m1, sd_t, nl_I, nl_R, nl_none, c1_I, c1_R, sh_0, sh_1, sh_2, sh_3, sh_4, true_and, and_true, ldA_A, ldB_B, ldS_S, stA_A, stB_B, aL_A, aL_B, aL_S, aC_A, hRd_eq, hRd_ne, cp6, cp8, tl_some, tl_none, List.cons_append, List.nil_append, ofI_t0, ofI_t1, Int.add_zero, Int.zero_add, x125_24]
    refine ⟨fun _ => ?_, fun q => by first | omega | exact absurd rfl q | exact absurd trivial q | exact absurd q (by omega)⟩
    rw [hfl]
    obtain ⟨w15, w17, ⟨r1, a1, b1⟩, ⟨r2, a2, b2⟩, ⟨r3, a3, b3⟩, ⟨r5, a5, b5⟩, ⟨r6, a6, b6⟩, ⟨r7, a7, b7⟩⟩ := r
    exact kk h2 z2 e1 (fun i hi => (e3 i (by omega)).trans (zr i hi)) (o.trans (OR.o156 o.2.2.2 o2)) (fun q => absurd rfl q) (fun _ => ⟨(e3 10 (by omega)).trans z10, ⟨(e3 15 (by omega)).trans w15, (e3 17 (by omega)).trans w17, ⟨r1, by rw [o2.2.2 _ (by omega)]; exact a1, b1⟩, ⟨r2, by rw [o2.2.2 _ (by omega)]; exact a2, b2⟩, ⟨r3, by rw [o2.2.2 _ (by omega)]; exact a3, b3⟩, ⟨r5, by rw [o2.2.2 _ (by omega)]; exact a5, b5⟩, ⟨r6, by rw [o2.2.2 _ (by omega)]; exact a6, b6⟩, ⟨r7, by rw [o2.2.2 _ (by omega)]; exact a7, b7⟩⟩, hD⟩)
  intro m
  induction m with
  | zero =>
    intro a D fl z h hm ha0 han hfl h1 zr o z10 z11 r hD kk
    have hs := sk_b (f := f) (n := n) (a := a) han
    exact stop a D fl z h ha0 han (by omega) hfl h1 zr o z10 z11 r hD kk
  | succ m ih =>
    intro a D fl z h hm ha0 han hfl h1 zr o z10 z11 r hD kk
    have hs := sk_b (f := f) (n := n) (a := a) han
    rw [txF] at kk
    by_cases q : sk f n a < n
    · rw [if_pos q] at kk
      have hfs := hT.2 (sk f n a) (by omega) q
      have hrr := clF_rr (D := D) hT (w := sk f n a) ⟨by omega, q⟩ hD
      have hcb := clF_b (f := f) (n := n) (w := sk f n a) (D := D)
      rw [WPC_iff]
      simp (disch := omega) only [wr_id, wr_m1, sd_t, nl_I, nl_R, nl_none, c1_I, c1_R, sh_0, sh_1, sh_2, sh_3, sh_4, true_and, and_true, ldA_A, ldB_B, ldS_S, stA_A, stB_B, aL_A, aL_B, aL_S, aC_A, hRd_eq, hRd_ne, cp6, cp8, tl_some, tl_none, List.cons_append, List.nil_append, ofI_t0, ofI_t1, Int.add_zero, Int.zero_add, x125_20, x125_21, x125_22, x125_23]
      refine ⟨fun q => by omega, fun _ => ?_⟩
      refine m_here (by omega) hT ⟨ha0, han⟩ ((zr 9 (by omega)).trans z9) z11 h1 (by rw [o.2.2.1 _ (by omega)]; exact h6) (fun h2 z2 e1 e2 e3 o2 => ?_)
      rw [if_pos q]
      have or2 := o.trans (OR.o156 o.2.2.2 o2)
      have zr2 : ZR z0 z2 := fun i hi => (e3 i (by omega)).trans (zr i hi)
      have re2 : RE D z2 h2 := by
        obtain ⟨w15, w17, ⟨r1, a1, b1⟩, ⟨r2, a2, b2⟩, ⟨r3, a3, b3⟩, ⟨r5, a5, b5⟩, ⟨r6, a6, b6⟩, ⟨r7, a7, b7⟩⟩ := r
        exact ⟨(e3 15 (by omega)).trans w15, (e3 17 (by omega)).trans w17, ⟨r1, by rw [o2.2.2 _ (by omega)]; exact a1, b1⟩, ⟨r2, by rw [o2.2.2 _ (by omega)]; exact a2, b2⟩, ⟨r3, by rw [o2.2.2 _ (by omega)]; exact a3, b3⟩, ⟨r5, by rw [o2.2.2 _ (by omega)]; exact a5, b5⟩, ⟨r6, by rw [o2.2.2 _ (by omega)]; exact a6, b6⟩, ⟨r7, by rw [o2.2.2 _ (by omega)]; exact a7, b7⟩⟩
      simp (disch := omega) only [wr_id, wr_m1, sd_t, nl_I, nl_R, nl_none, c1_I, c1_R, sh_0, sh_1, sh_2, sh_3, sh_4, true_and, and_true, ldA_A, ldB_B, ldS_S, stA_A, stB_B, aL_A, aL_B, aL_S, aC_A, hRd_eq, hRd_ne, cp6, cp8, tl_some, tl_none, List.cons_append, List.nil_append, ofI_t0, ofI_t1, Int.add_zero, Int.zero_add, x125_24, x125_25, x125_26]
      refine ⟨fun q => by omega, fun _ => ?_⟩
      refine m_clause (by omega) ⟨hT, ⟨by omega, by omega⟩, (zr2 9 (by omega)).trans z9, e2, e1, by rw [or2.2.2.1 _ (by omega)]; exact h6⟩ q (sk_ne han q) hD re2 ⟨fun qf => ?_, fun qf => ?_⟩
      · rw [if_neg qf] at kk
        intro h3 z3 f1 f2 f3 o3
        have kk := kk h3 z3 f1 (zr2.trans f2) (or2.trans o3) (fun _ => f3) (fun q => absurd q qf)
        simp only at kk
        generalize (clF f n (sk f n a) D).1 = x at kk hcb qf
        simp (disch := omega) only [wr_id, wr_m1, sd_t, nl_I, nl_R, nl_none, c1_I, c1_R, sh_0, sh_1, sh_2, sh_3, sh_4, true_and, and_true, ldA_A, ldB_B, ldS_S, stA_A, stB_B, aL_A, aL_B, aL_S, aC_A, hRd_eq, hRd_ne, cp6, cp8, tl_some, tl_none, List.cons_append, List.nil_append, ofI_t0, ofI_t1, Int.add_zero, Int.zero_add, x125_19, x125_27, x125_28]
        rw [WPC_iff]
        simp (disch := omega) only [wr_id, wr_m1, sd_t, nl_I, nl_R, nl_none, c1_I, c1_R, sh_0, sh_1, sh_2, sh_3, sh_4, true_and, and_true, ldA_A, ldB_B, ldS_S, stA_A, stB_B, aL_A, aL_B, aL_S, aC_A, hRd_eq, hRd_ne, cp6, cp8, tl_some, tl_none, List.cons_append, List.nil_append, ofI_t0, ofI_t1, Int.add_zero, Int.zero_add, x125_20, x125_21]
        exact ⟨fun _ => kk, fun q => absurd qf (by omega)⟩
      · rw [if_pos qf] at kk
        obtain ⟨d1, d2, d3⟩ := hrr qf
        intro h3 z3 f1 f2 f3 f4 o3 r3
        simp (disch := omega) only [wr_id, wr_m1, sd_t, nl_I, nl_R, nl_none, c1_I, c1_R, sh_0, sh_1, sh_2, sh_3, sh_4, true_and, and_true, ldA_A, ldB_B, ldS_S, stA_A, stB_B, aL_A, aL_B, aL_S, aC_A, hRd_eq, hRd_ne, cp6, cp8, tl_some, tl_none, List.cons_append, List.nil_append, ofI_t0, ofI_t1, Int.add_zero, Int.zero_add, x125_19, x125_27, x125_28]
        exact ih (clF f n (sk f n a) D).2.2.2 (clF f n (sk f n a) D).2.2.1 0 z3 h3 (by omega) (by omega) d3 rfl f1 (zr2.trans f2) (or2.trans o3) (f3.trans ((e3 10 (by omega)).trans z10)) f4 r3 d1 kk
    · rw [if_neg q] at kk
      exact stop a D fl z h ha0 han q hfl h1 zr o z10 z11 r hD kk
end
theorem line0_tab : ∀ P : Nat, P ≤ 6 → lineL (zshl 1 (P : Int) - 1) P6 = jl P 0 ∧ disF (P : Int) (jl P 0) = 0 := by decide +kernel
theorem jl_get : ∀ (n : Nat) (j : Int) (i : Nat) (x : Int), (jl n j)[i]? = some x → x = j + (i : Int) := by
  intro n
  induction n with
  | zero => intro j i x h; simp [jl] at h
  | succ n ih =>
    intro j i x h
    rw [jl] at h
    cases i with
    | zero => simp at h; omega
    | succ i =>
      rw [List.getElem?_cons_succ] at h
      have := ih _ _ _ h
      omega
section
variable {d : Nat} {Q : Option Value → LHeap → Prop} {D : CC}
theorem l_rd1 {z : Nat → Int} : ∀ (m : Nat) (k : Int) (g : Int → Int) (h : LHeap), (m : Int) = 24 - k → 0 ≤ k → hRd h 156 = oM z → hRd h 160 = cA 24 g → (∀ j, 0 ≤ j → j < k → g j = 0) → (∀ (h1 : LHeap) (x : Int), hRd h1 160 = cA 24 (fun _ => 0) → Out 160 160 h h1 → WP d 124 27 [some (.ref 156), some (vI x)] [] h1 Q) → WPC d 124 17 [some (.ref 156), some (vI k)] [] h Q := by
  intro m
  induction m with
  | zero =>
    intro k g h hm hk h1 hg hj kk
    rw [WPC_iff]
    simp (disch := omega) only [wr_id, wr_m1, sd_t, nl_I, nl_R, nl_none, c1_I, c1_R, sh_0, sh_1, sh_2, sh_3, sh_4, true_and, and_true, ldA_A, ldB_B, ldS_S, stA_A, stB_B, aL_A, aL_B, aL_S, aC_A, hRd_eq, hRd_ne, cp6, cp8, tl_some, tl_none, List.cons_append, List.nil_append, ofI_t0, ofI_t1, Int.add_zero, Int.zero_add, x124_17, x124_18, x124_19]
    refine ⟨fun _ => kk h k ?_ Out.refl, fun q => by omega⟩
    rw [hg]
    exact cA_ext (fun j h0 h1 => hj j h0 (by omega))
  | succ m ih =>
    intro k g h hm hk h1 hg hj kk
    rw [WPC_iff]
    simp (disch := omega) only [wr_id, wr_m1, sd_t, nl_I, nl_R, nl_none, c1_I, c1_R, sh_0, sh_1, sh_2, sh_3, sh_4, true_and, and_true, ldA_A, ldB_B, ldS_S, stA_A, stB_B, aL_A, aL_B, aL_S, aC_A, hRd_eq, hRd_ne, cp6, cp8, tl_some, tl_none, List.cons_append, List.nil_append, ofI_t0, ofI_t1, Int.add_zero, Int.zero_add, x124_16, x124_17, x124_18, x124_19, x124_20, x124_21, x124_22, x124_23, x124_24, x124_25, x124_26, gf11_0, pf11_0, gf11_1, pf11_1, gf11_2, pf11_2, gf11_3, gf11_4, gf11_5, gf11_6, gf11_7, pf11_7, gf11_8, gf11_9, pf11_9, gf11_10, pf11_10, gf11_11, pf11_11, gf11_12, pf11_12, gf11_13, pf11_13, gf11_14, gf11_15, pf11_15, gf11_16, gf11_17, pf11_17, gf11_18, gf11_19, gf11_20, gf11_21, gf11_22, gf11_23, gf11_24, pf11_24, gf11_25, gf11_26, gf11_27, gf11_28, pf11_28, gf11_29, pf11_29, gf11_30, gf11_31, gf11_32, pf11_32, gf11_33, gf11_34, gf11_35, pf11_35, gf11_36, gf11_37, gf11_38, gf11_39, uN_eq, uN_ne, h1, hg]
    have ow : Out 160 160 h (hWr h 160 (cA 24 (uA g k 0))) := Out.refl.wr (by omega) (by omega)
    refine ⟨fun q => by omega, fun _ => ⟨by omega, ?_⟩⟩
    refine ih (k + 1) (uA g k 0) _ (by omega) (by omega) (by rw [hRd_ne (by omega)]; exact h1) hRd_eq (fun j h0 h1 => ?_) (fun h2 x e2 o2 => kk h2 x e2 (ow.trans o2))
    unfold uA
    split
    · rfl
    · exact hj j h0 (by omega)
theorem l_rd2 {z : Nat → Int} (z1 : z 1 = D.2.1) (hP : 0 ≤ D.2.1 ∧ D.2.1 ≤ 6) : ∀ (m : Nat) (k : Int) (g w : Int → Int) (h : LHeap), (m : Int) = D.2.1 - k → 0 ≤ k → hRd h 156 = oM z → hRd h 160 = cA 24 g → hRd h 159 = cA 6 w → (∃ r, hRd h 163 = cA 6 r ∧ ∀ p, 0 ≤ p → p < D.2.1 → r p = D.2.2.2.1 p) → (∃ r, hRd h 167 = cA 6 r ∧ ∀ p, 0 ≤ p → p < D.2.1 → r p = D.2.2.2.2.1 p) → (∀ j, 0 ≤ j → j < k → g j = j ∧ g (17 + j) = D.2.2.2.1 j ∧ w j = D.2.2.2.2.1 j) → (∀ j, 6 ≤ j → ¬ (17 ≤ j ∧ j < 17 + k) → g j = 0) → (∀ (h1 : LHeap) (x : Int) (g1 w1 : Int → Int), hRd h1 160 = cA 24 g1 → hRd h1 159 = cA 6 w1 → (∀ j, 0 ≤ j → j < D.2.1 → g1 j = j ∧ g1 (17 + j) = D.2.2.2.1 j ∧ w1 j = D.2.2.2.2.1 j) → (∀ j, 6 ≤ j → ¬ (17 ≤ j ∧ j < 17 + D.2.1) → g1 j = 0) → Out 159 160 h h1 → WP d 124 59 [some (.ref 156), some (vI x)] [] h1 Q) → WPC d 124 30 [some (.ref 156), some (vI k)] [] h Q := by
  intro m
  induction m with
  | zero =>
    intro k g w h hm hk h1 hg hw hr1 hr2 hj hj2 kk
    rw [WPC_iff]
    simp (disch := omega) only [wr_id, wr_m1, sd_t, nl_I, nl_R, nl_none, c1_I, c1_R, sh_0, sh_1, sh_2, sh_3, sh_4, true_and, and_true, ldA_A, ldB_B, ldS_S, stA_A, stB_B, aL_A, aL_B, aL_S, aC_A, hRd_eq, hRd_ne, cp6, cp8, tl_some, tl_none, List.cons_append, List.nil_append, ofI_t0, ofI_t1, Int.add_zero, Int.zero_add, x124_30, x124_31, x124_32, x124_33, gf11_0, pf11_0, gf11_1, pf11_1, gf11_2, pf11_2, gf11_3, gf11_4, gf11_5, gf11_6, gf11_7, pf11_7, gf11_8, gf11_9, pf11_9, gf11_10, pf11_10, gf11_11, pf11_11, gf11_12, pf11_12, gf11_13, pf11_13, gf11_14, gf11_15, pf11_15, gf11_16, gf11_17, pf11_17, gf11_18, gf11_19, gf11_20, gf11_21, gf11_22, gf11_23, gf11_24, pf11_24, gf11_25, gf11_26, gf11_27, gf11_28, pf11_28, gf11_29, pf11_29, gf11_30, gf11_31, gf11_32, pf11_32, gf11_33, gf11_34, gf11_35, pf11_35, gf11_36, gf11_37, gf11_38, gf11_39, uN_eq, uN_ne, h1]
    exact ⟨fun _ => kk h k g w hg hw (fun j j0 j1 => hj j j0 (by omega)) (fun j j0 j1 => hj2 j j0 (by omega)) Out.refl, fun q => by omega⟩
  | succ m ih =>
    intro k g w h hm hk h1 hg hw ⟨r1, x1, y1⟩ ⟨r2, x2, y2⟩ hj hj2 kk
    have e1 := y1 k hk (by omega)
    have e2 := y2 k hk (by omega)
    rw [WPC_iff]
    simp (disch := omega) only [wr_id, wr_m1, sd_t, nl_I, nl_R, nl_none, c1_I, c1_R, sh_0, sh_1, sh_2, sh_3, sh_4, true_and, and_true, ldA_A, ldB_B, ldS_S, stA_A, stB_B, aL_A, aL_B, aL_S, aC_A, hRd_eq, hRd_ne, cp6, cp8, tl_some, tl_none, List.cons_append, List.nil_append, ofI_t0, ofI_t1, Int.add_zero, Int.zero_add, x124_29, x124_30, x124_31, x124_32, x124_33, x124_34, x124_35, x124_36, x124_37, x124_38, x124_39, x124_40, x124_41, x124_42, x124_43, x124_44, x124_45, x124_46, x124_47, x124_48, x124_49, x124_50, x124_51, x124_52, x124_53, x124_54, x124_55, x124_56, x124_57, x124_58, gf11_0, pf11_0, gf11_1, pf11_1, gf11_2, pf11_2, gf11_3, gf11_4, gf11_5, gf11_6, gf11_7, pf11_7, gf11_8, gf11_9, pf11_9, gf11_10, pf11_10, gf11_11, pf11_11, gf11_12, pf11_12, gf11_13, pf11_13, gf11_14, gf11_15, pf11_15, gf11_16, gf11_17, pf11_17, gf11_18, gf11_19, gf11_20, gf11_21, gf11_22, gf11_23, gf11_24, pf11_24, gf11_25, gf11_26, gf11_27, gf11_28, pf11_28, gf11_29, pf11_29, gf11_30, gf11_31, gf11_32, pf11_32, gf11_33, gf11_34, gf11_35, pf11_35, gf11_36, gf11_37, gf11_38, gf11_39, uN_eq, uN_ne, h1, hg, hw, x1, x2, e1, e2, hWr_same]
    have ow : Out 159 160 h (hWr (hWr h 159 (cA 6 (uA w k (D.2.2.2.2.1 k)))) 160 (cA 24 (uA (uA g k k) (17 + k) (D.2.2.2.1 k)))) := (Out.refl.wr (by omega) (by omega)).wr (by omega) (by omega)
    refine ⟨fun q => by omega, fun _ => ⟨by omega, by omega, by omega, by omega, by omega, ?_⟩⟩
    refine ih (k + 1) (uA (uA g k k) (17 + k) (D.2.2.2.1 k)) (uA w k (D.2.2.2.2.1 k)) _ (by omega) (by omega) (by rw [hRd_ne (by omega), hRd_ne (by omega)]; exact h1) hRd_eq (by rw [hRd_ne (by omega)]; exact hRd_eq) ⟨r1, by rw [hRd_ne (by omega), hRd_ne (by omega)]; exact x1, y1⟩ ⟨r2, by rw [hRd_ne (by omega), hRd_ne (by omega)]; exact x2, y2⟩ (fun j j0 j1 => ?_) (fun j j0 j1 => ?_) (fun h2 x g1 w1 q1 q2 q3 q4 o2 => kk h2 x g1 w1 q1 q2 q3 q4 (ow.trans o2))
    · by_cases e : j = k
      · subst e
        refine ⟨by rw [uA_ne (by omega), uA_eq], uA_eq, uA_eq⟩
      · rw [uA_ne (by omega), uA_ne e, uA_ne (by omega), uA_ne (by omega), uA_ne e]
        exact hj j j0 (by omega)
    · rw [uA_ne (by omega), uA_ne (by omega)]
      exact hj2 j j0 (by omega)
theorem l_rd3 {z : Nat → Int} (z2 : z 2 = D.2.2.1) (hJ : 0 ≤ D.2.2.1 ∧ D.2.2.1 ≤ 8) : ∀ (m : Nat) (k : Int) (g t b : Int → Int) (h : LHeap), (m : Int) = D.2.2.1 - k → 0 ≤ k → hRd h 156 = oM z → hRd h 160 = cA 24 g → hRd h 157 = cA 8 t → hRd h 158 = cA 8 b → (∃ r, hRd h 164 = cA 8 r ∧ ∀ j, 0 ≤ j → j < D.2.2.1 → r j = D.2.2.2.2.2.1 j) → (∃ r, hRd h 165 = cA 8 r ∧ ∀ j, 0 ≤ j → j < D.2.2.1 → r j = D.2.2.2.2.2.2.1 j) → (∃ r, hRd h 166 = cA 8 r ∧ ∀ j, 0 ≤ j → j < D.2.2.1 → r j = D.2.2.2.2.2.2.2 j) → (∀ j, 0 ≤ j → j < k → g (9 + j) = D.2.2.2.2.2.1 j ∧ t j = D.2.2.2.2.2.2.1 j ∧ b j = D.2.2.2.2.2.2.2 j) → (∀ (h1 : LHeap) (g1 t1 b1 : Int → Int), hRd h1 160 = cA 24 g1 → hRd h1 157 = cA 8 t1 → hRd h1 158 = cA 8 b1 → (∀ j, 0 ≤ j → j < D.2.2.1 → g1 (9 + j) = D.2.2.2.2.2.1 j ∧ t1 j = D.2.2.2.2.2.2.1 j ∧ b1 j = D.2.2.2.2.2.2.2 j) → (∀ j, ¬ (9 ≤ j ∧ j < 17) → g1 j = g j) → (∀ a, ¬ (a = 157 ∨ a = 158 ∨ a = 160) → hRd h1 a = hRd h a) → h1.1 = h.1 ∧ h1.2.1 = h.2.1 → Q none h1) → WPC d 124 68 [some (.ref 156), some (vI k)] [] h Q := by
  intro m
  induction m with
  | zero =>
    intro k g t b h hm hk h1 hg ht hb hr1 hr2 hr3 hj kk
    rw [WPC_iff]
    simp (disch := omega) only [wr_id, wr_m1, sd_t, nl_I, nl_R, nl_none, c1_I, c1_R, sh_0, sh_1, sh_2, sh_3, sh_4, true_and, and_true, ldA_A, ldB_B, ldS_S, stA_A, stB_B, aL_A, aL_B, aL_S, aC_A, hRd_eq, hRd_ne, cp6, cp8, tl_some, tl_none, List.cons_append, List.nil_append, ofI_t0, ofI_t1, Int.add_zero, Int.zero_add, x124_68, x124_69, x124_70, x124_71, x124_100, gf11_0, pf11_0, gf11_1, pf11_1, gf11_2, pf11_2, gf11_3, gf11_4, gf11_5, gf11_6, gf11_7, pf11_7, gf11_8, gf11_9, pf11_9, gf11_10, pf11_10, gf11_11, pf11_11, gf11_12, pf11_12, gf11_13, pf11_13, gf11_14, gf11_15, pf11_15, gf11_16, gf11_17, pf11_17, gf11_18, gf11_19, gf11_20, gf11_21, gf11_22, gf11_23, gf11_24, pf11_24, gf11_25, gf11_26, gf11_27, gf11_28, pf11_28, gf11_29, pf11_29, gf11_30, gf11_31, gf11_32, pf11_32, gf11_33, gf11_34, gf11_35, pf11_35, gf11_36, gf11_37, gf11_38, gf11_39, uN_eq, uN_ne, h1]
    exact ⟨fun _ => kk h g t b hg ht hb (fun j j0 j1 => hj j j0 (by omega)) (fun _ _ => rfl) (fun _ _ => rfl) ⟨rfl, rfl⟩, fun q => by omega⟩
  | succ m ih =>
    intro k g t b h hm hk h1 hg ht hb ⟨r1, x1, y1⟩ ⟨r2, x2, y2⟩ ⟨r3, x3, y3⟩ hj kk
    have e1 := y1 k hk (by omega)
    have e2 := y2 k hk (by omega)
    have e3 := y3 k hk (by omega)
    rw [WPC_iff]
    simp (disch := omega) only [wr_id, wr_m1, sd_t, nl_I, nl_R, nl_none, c1_I, c1_R, sh_0, sh_1, sh_2, sh_3, sh_4, true_and, and_true, ldA_A, ldB_B, ldS_S, stA_A, stB_B, aL_A, aL_B, aL_S, aC_A, hRd_eq, hRd_ne, cp6, cp8, tl_some, tl_none, List.cons_append, List.nil_append, ofI_t0, ofI_t1, Int.add_zero, Int.zero_add, x124_67, x124_68, x124_69, x124_70, x124_71, x124_72, x124_73, x124_74, x124_75, x124_76, x124_77, x124_78, x124_79, x124_80, x124_81, x124_82, x124_83, x124_84, x124_85, x124_86, x124_87, x124_88, x124_89, x124_90, x124_91, x124_92, x124_93, x124_94, x124_95, x124_96, x124_97, x124_98, x124_99, gf11_0, pf11_0, gf11_1, pf11_1, gf11_2, pf11_2, gf11_3, gf11_4, gf11_5, gf11_6, gf11_7, pf11_7, gf11_8, gf11_9, pf11_9, gf11_10, pf11_10, gf11_11, pf11_11, gf11_12, pf11_12, gf11_13, pf11_13, gf11_14, gf11_15, pf11_15, gf11_16, gf11_17, pf11_17, gf11_18, gf11_19, gf11_20, gf11_21, gf11_22, gf11_23, gf11_24, pf11_24, gf11_25, gf11_26, gf11_27, gf11_28, pf11_28, gf11_29, pf11_29, gf11_30, gf11_31, gf11_32, pf11_32, gf11_33, gf11_34, gf11_35, pf11_35, gf11_36, gf11_37, gf11_38, gf11_39, uN_eq, uN_ne, h1, hg, ht, hb, x1, x2, x3, e1, e2, e3, hWr_same]
    refine ⟨fun q => by omega, fun _ => ⟨by omega, by omega, by omega, by omega, by omega, by omega, ?_⟩⟩
    refine ih (k + 1) (uA g (9 + k) (D.2.2.2.2.2.1 k)) (uA t k (D.2.2.2.2.2.2.1 k)) (uA b k (D.2.2.2.2.2.2.2 k)) _ (by omega) (by omega) (by rw [hRd_ne (by omega), hRd_ne (by omega), hRd_ne (by omega)]; exact h1) hRd_eq (by rw [hRd_ne (by omega), hRd_ne (by omega)]; exact hRd_eq) (by rw [hRd_ne (by omega)]; exact hRd_eq) ⟨r1, by rw [hRd_ne (by omega), hRd_ne (by omega), hRd_ne (by omega)]; exact x1, y1⟩ ⟨r2, by rw [hRd_ne (by omega), hRd_ne (by omega), hRd_ne (by omega)]; exact x2, y2⟩ ⟨r3, by rw [hRd_ne (by omega), hRd_ne (by omega), hRd_ne (by omega)]; exact x3, y3⟩ (fun j j0 j1 => ?_) (fun h2 g1 t1 b1 q1 q2 q3 q4 q5 q6 q7 => kk h2 g1 t1 b1 q1 q2 q3 q4 (fun j hj => (q5 j hj).trans (uA_ne (by omega))) (fun a ha => by rw [q6 a ha, hRd_ne (by omega), hRd_ne (by omega), hRd_ne (by omega)]) q7)
    by_cases e : j = k
    · subst e
      exact ⟨uA_eq, uA_eq, uA_eq⟩
    · rw [uA_ne (by omega), uA_ne e, uA_ne e]
      exact hj j j0 (by omega)
theorem m_read {z : Nat → Int} {h : LHeap} {g0 t0 b0 w0 : Int → Int} (hd : 1 ≤ d) (h1 : hRd h 156 = oM z) (r : RE D z h) (hD : DB D) (h157 : hRd h 157 = cA 8 t0) (h158 : hRd h 158 = cA 8 b0) (h159 : hRd h 159 = cA 6 w0) (h160 : hRd h 160 = cA 24 g0) (kk : ∀ (h1 : LHeap) (g t b w : Int → Int), hRd h1 156 = oM (uN (uN (uN z 0 D.1) 1 D.2.1) 2 D.2.2.1) → hRd h1 160 = cA 24 g → SG D.2.1 D.2.2.1 (lineL (zshl 1 D.2.1 - 1) P6, D.2.2.2.1, D.2.2.2.2.2.1, 0, 0) g 0 → hRd h1 157 = cA 8 t → (∀ j, 0 ≤ j → j < D.2.2.1 → t j = D.2.2.2.2.2.2.1 j) → hRd h1 158 = cA 8 b → (∀ j, 0 ≤ j → j < D.2.2.1 → b j = D.2.2.2.2.2.2.2 j) → hRd h1 159 = cA 6 w → (∀ p, 0 ≤ p → p < D.2.1 → w p = D.2.2.2.2.1 p) → (∀ a, ¬ (156 ≤ a ∧ a ≤ 160) → hRd h1 a = hRd h a) → h1.1 = h.1 ∧ h1.2.1 = h.2.1 → Q none h1) : CALL d 124 [.ref 156] h Q := by
  have hP := hD.1.2.1
  have hJ := hD.1.2.2.1
  obtain ⟨w15, w17, ⟨r1, a1, b1⟩, ⟨r2, a2, b2⟩, ⟨r3, a3, b3⟩, ⟨r5, a5, b5⟩, ⟨r6, a6, b6⟩, ⟨r7, a7, b7⟩⟩ := r
  obtain ⟨tb1, tb2⟩ := line0_tab D.2.1.toNat (by omega)
  rw [show ((D.2.1.toNat : Nat) : Int) = D.2.1 by omega] at tb1 tb2
  refine cl124 (by omega) h1 ?_
  simp (disch := omega) only [wr_id, wr_m1, sd_t, nl_I, nl_R, nl_none, c1_I, c1_R, sh_0, sh_1, sh_2, sh_3, sh_4, true_and, and_true, ldA_A, ldB_B, ldS_S, stA_A, stB_B, aL_A, aL_B, aL_S, aC_A, hRd_eq, hRd_ne, cp6, cp8, tl_some, tl_none, List.cons_append, List.nil_append, ofI_t0, ofI_t1, Int.add_zero, Int.zero_add, x124_0, x124_1, x124_2, x124_3, x124_4, x124_5, x124_6, x124_7, x124_8, x124_9, x124_10, x124_11, x124_12, x124_13, x124_14, x124_15, x124_16, gf11_0, pf11_0, gf11_1, pf11_1, gf11_2, pf11_2, gf11_3, gf11_4, gf11_5, gf11_6, gf11_7, pf11_7, gf11_8, gf11_9, pf11_9, gf11_10, pf11_10, gf11_11, pf11_11, gf11_12, pf11_12, gf11_13, pf11_13, gf11_14, gf11_15, pf11_15, gf11_16, gf11_17, pf11_17, gf11_18, gf11_19, gf11_20, gf11_21, gf11_22, gf11_23, gf11_24, pf11_24, gf11_25, gf11_26, gf11_27, gf11_28, pf11_28, gf11_29, pf11_29, gf11_30, gf11_31, gf11_32, pf11_32, gf11_33, gf11_34, gf11_35, pf11_35, gf11_36, gf11_37, gf11_38, gf11_39, uN_eq, uN_ne, h1, a1, b1, w15, w17, hWr_same]
  refine ⟨by omega, ?_⟩
  generalize hzq : uN (uN (uN z 0 D.1) 1 D.2.1) 2 D.2.2.1 = zq at kk ⊢
  have q1 : zq 1 = D.2.1 := by rw [← hzq]; rfl
  have q2 : zq 2 = D.2.2.1 := by rw [← hzq]; rfl
  refine l_rd1 24 0 g0 _ (by omega) (by omega) hRd_eq (by rw [hRd_ne (by omega)]; exact h160) (fun j j0 j1 => by omega) (fun h2 x e2 o2 => ?_)
  simp (disch := omega) only [wr_id, wr_m1, sd_t, nl_I, nl_R, nl_none, c1_I, c1_R, sh_0, sh_1, sh_2, sh_3, sh_4, true_and, and_true, ldA_A, ldB_B, ldS_S, stA_A, stB_B, aL_A, aL_B, aL_S, aC_A, hRd_eq, hRd_ne, cp6, cp8, tl_some, tl_none, List.cons_append, List.nil_append, ofI_t0, ofI_t1, Int.add_zero, Int.zero_add, x124_27, x124_28, x124_29]
  have h21 : hRd h2 156 = oM zq := by rw [o2.2.2 _ (by omega)]; exact hRd_eq
  refine l_rd2 (D := D) q1 hP D.2.1.toNat 0 (fun _ => 0) w0 h2 (by omega) (by omega) h21 e2 (by rw [o2.2.2 _ (by omega), hRd_ne (by omega)]; exact h159) ⟨r2, by rw [o2.2.2 _ (by omega), hRd_ne (by omega)]; exact a2, b2⟩ ⟨r7, by rw [o2.2.2 _ (by omega), hRd_ne (by omega)]; exact a7, b7⟩ (fun j j0 j1 => by omega) (fun _ _ _ => rfl) (fun h3 x g1 w1 f1 f2 f3 f4 o3 => ?_)
  have h31 : hRd h3 156 = oM zq := by rw [o3.2.2 _ (by omega)]; exact h21
  simp (disch := omega) only [wr_id, wr_m1, sd_t, nl_I, nl_R, nl_none, c1_I, c1_R, sh_0, sh_1, sh_2, sh_3, sh_4, true_and, and_true, ldA_A, ldB_B, ldS_S, stA_A, stB_B, aL_A, aL_B, aL_S, aC_A, hRd_eq, hRd_ne, cp6, cp8, tl_some, tl_none, List.cons_append, List.nil_append, ofI_t0, ofI_t1, Int.add_zero, Int.zero_add, x124_59, x124_60, x124_61, x124_62, x124_63, x124_64, x124_65, x124_66, x124_67, gf11_0, pf11_0, gf11_1, pf11_1, gf11_2, pf11_2, gf11_3, gf11_4, gf11_5, gf11_6, gf11_7, pf11_7, gf11_8, gf11_9, pf11_9, gf11_10, pf11_10, gf11_11, pf11_11, gf11_12, pf11_12, gf11_13, pf11_13, gf11_14, gf11_15, pf11_15, gf11_16, gf11_17, pf11_17, gf11_18, gf11_19, gf11_20, gf11_21, gf11_22, gf11_23, gf11_24, pf11_24, gf11_25, gf11_26, gf11_27, gf11_28, pf11_28, gf11_29, pf11_29, gf11_30, gf11_31, gf11_32, pf11_32, gf11_33, gf11_34, gf11_35, pf11_35, gf11_36, gf11_37, gf11_38, gf11_39, uN_eq, uN_ne, h31, f1, q1]
  refine ⟨by omega, ?_⟩
  refine l_rd3 (D := D) q2 hJ D.2.2.1.toNat 0 (uA g1 6 D.2.1) t0 b0 _ (by omega) (by omega) (by rw [hRd_ne (by omega)]; exact h31) hRd_eq (by rw [hRd_ne (by omega), o3.2.2 _ (by omega), o2.2.2 _ (by omega), hRd_ne (by omega)]; exact h157) (by rw [hRd_ne (by omega), o3.2.2 _ (by omega), o2.2.2 _ (by omega), hRd_ne (by omega)]; exact h158) ⟨r3, by rw [hRd_ne (by omega), o3.2.2 _ (by omega), o2.2.2 _ (by omega), hRd_ne (by omega)]; exact a3, b3⟩ ⟨r5, by rw [hRd_ne (by omega), o3.2.2 _ (by omega), o2.2.2 _ (by omega), hRd_ne (by omega)]; exact a5, b5⟩ ⟨r6, by rw [hRd_ne (by omega), o3.2.2 _ (by omega), o2.2.2 _ (by omega), hRd_ne (by omega)]; exact a6, b6⟩ (fun j j0 j1 => by omega) (fun h4 g2 t b k1 k2 k3 k4 k5 k6 k7 => ?_)
  have kg : ∀ i, ¬ (9 ≤ i ∧ i < 17) → ¬ i = 6 → g2 i = g1 i := fun i hi h6 => (k5 i hi).trans (uA_ne h6)
  refine kk h4 g2 t b w1 (by rw [k6 _ (by omega), hRd_ne (by omega)]; exact h31) k1 ?_ k2 (fun j j0 j1 => (k4 j j0 j1).2.1) k3 (fun j j0 j1 => (k4 j j0 j1).2.2) (by rw [k6 _ (by omega), hRd_ne (by omega)]; exact f2) (fun p p0 p1 => (f3 p p0 p1).2.2) (fun a ha => by rw [k6 _ (by omega), hRd_ne (by omega), o3.2.2 _ (by omega), o2.2.2 _ (by omega), hRd_ne (by omega)]) ⟨by rw [k7.1]; exact o3.1.trans o2.1, by rw [k7.2]; exact o3.2.1.trans o2.2.1⟩
  rw [tb1]
  refine SG.mk0 ⟨⟨rfl, by rw [jl_len]; omega, fun i y hi => ?_, fun y hy => ?_⟩, ?_⟩ ?_ ?_ (fun j j0 j1 => (k4 j j0 j1).1) (fun p p0 p1 => ?_) ?_
  · have h3 := jl_get _ _ _ _ hi
    have h4 := (List.getElem?_eq_some_iff.mp hi).1
    rw [jl_len] at h4
    rw [kg _ (by omega) (by omega), (f3 i (by omega) (by omega)).1]
    omega
  · have := (jl_mem _ _ _).mp hy
    omega
  · rw [k5 6 (by omega), uA_eq, jl_len]; omega
  · rw [kg 7 (by omega) (by omega)]; exact f4 7 (by omega) (by omega)
  · rw [kg 8 (by omega) (by omega), f4 8 (by omega) (by omega)]; exact tb2.symm
  · rw [kg _ (by omega) (by omega)]; exact (f3 p p0 p1).2.1
  · rw [kg 23 (by omega) (by omega)]; exact f4 23 (by omega) (by omega)
end
