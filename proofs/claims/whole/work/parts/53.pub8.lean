-- THE CLASS'S OWN METHODS: raise, orders, the city
theorem rsF_B {M J sh : Int} {wk wt dr tk bh : Int → Int} {O : List Int} {jobs t : Int} : ∀ (n : Nat) (T : List Int) (fw : Int) (B B1 : List Int), -1 ≤ fw → (¬ fw = -1 → B = B1) → (rsF M J sh wk wt dr tk bh O jobs t n T fw B).1 = (rsF M J sh wk wt dr tk bh O jobs t n T fw B1).1 ∧ (¬ (rsF M J sh wk wt dr tk bh O jobs t n T fw B).1 = -1 → (rsF M J sh wk wt dr tk bh O jobs t n T fw B).2 = (rsF M J sh wk wt dr tk bh O jobs t n T fw B1).2) := by
  intro n
  induction n with
  | zero => intro T fw B B1 h0 h; exact ⟨rfl, h⟩
  | succ n ih =>
    intro T fw B B1 h0 h
    have hr := raisF_b O T 0 0
    rw [rsF, rsF]
    split
    · split
      · exact ⟨rfl, fun _ => rfl⟩
      · exact ih _ _ _ _ (by omega) (fun _ => rfl)
    · split
      · exact ⟨rfl, h⟩
      · exact ih _ _ _ _ h0 h
theorem rsF_fw {M J sh : Int} {wk wt dr tk bh : Int → Int} {O : List Int} {jobs t : Int} : ∀ (n : Nat) (T : List Int) (fw : Int) (B : List Int), -1 ≤ fw → fw ≤ 6 → T.length ≤ 6 → -1 ≤ (rsF M J sh wk wt dr tk bh O jobs t n T fw B).1 ∧ (rsF M J sh wk wt dr tk bh O jobs t n T fw B).1 ≤ 6 := by
  intro n
  induction n with
  | zero => intro T fw B h0 h1 h2; exact ⟨h0, h1⟩
  | succ n ih =>
    intro T fw B h0 h1 h2
    have hr := raisF_b O T 0 0
    rw [rsF]
    split
    · split
      · exact ⟨by show -1 ≤ raisF O T 0 0; omega, by show raisF O T 0 0 ≤ 6; omega⟩
      · rename_i T1 e
        exact ih _ _ _ (by omega) (by omega) (by have := (nxtL_mem e).1; omega)
    · split
      · exact ⟨h0, h1⟩
      · rename_i T1 e
        exact ih _ _ _ h0 h1 (by have := (nxtL_mem e).1; omega)
theorem lineL_len {set : Int} : ∀ S : List Int, (lineL set S).length ≤ S.length := by
  intro S
  induction S with
  | nil => simp [lineL]
  | cons a S ih =>
    rw [lineL]
    split
    · simp only [List.length_cons]; omega
    · simp only [List.length_cons]; omega
theorem line6 {set : Int} : (lineL set P6).length ≤ 6 := lineL_len P6
def raF (M J : Int) (wt tk bh : Int → Int) (S : SS) (x y : Int) : Int × List Int := rsF M J S.2.2.2.1 S.2.1 wt S.2.2.1 tk bh S.1 x y 720 (lineL (memF S.1 0) P6) (-1) []
def svA (M J : Int) (wt tk bh : Int → Int) (S : SS) (ct : Int) (ea la : Int → Int) : Int × (Int → Int) × (Int → Int) := svF M J S.2.2.2.1 S.2.1 wt S.2.2.1 tk bh ct ea la 720 (lineL (memF S.1 0) P6) 0 (fun _ => -1) (fun _ => 0)
section
variable {d : Nat} {f wt tk bh kp sd ea la bj bm : Int → Int} {n pl M P J s ct bt : Int} {S : SS} {Hs : List SS} {im : Int → SS} {h : LHeap} {Q : Option Value → LHeap → Prop} {x y w : Int}
theorem s_lowB {J : Int} (hd : 1 ≤ d) (kk : Q (some (vI (zshl 1 J - 1))) h) : CALL d 101 [vI J] h Q := s_lowBits hd kk
theorem c_raise (hd : 8 ≤ d) (c : CI f n pl M P J wt tk bh S Hs kp sd im s ct ea la bt bj bm h) (hB : BD f n pl M P J wt tk bh S Hs kp sd im s ct ea la bt bj bm) (hx : -2147483648 ≤ x ∧ x ≤ 2147483647) (hy : -2147483648 ≤ y ∧ y ≤ 2147483647) (hw : -2147483648 ≤ w ∧ w ≤ 2147483647) (k1 : ¬ (0 ≤ x ∧ x ≤ zshl 1 J - 1) → Q (some (vI (-1000000001))) h) (k2 : 0 ≤ x → x ≤ zshl 1 J - 1 → ¬ (0 ≤ y ∧ y ≤ 999) → Q (some (vI (-1000000002))) h) (k3 : 0 ≤ x → x ≤ zshl 1 J - 1 → 0 ≤ y → y ≤ 999 → ∀ h1, CI f n pl M P J wt tk bh S Hs kp sd im s ct ea la bt bj bm h1 → Out 1 155 h h1 → Q (some (vI (if (raF M J wt tk bh S x y).1 = -1 then -1 else if w = -1 then (raF M J wt tk bh S x y).1 else if 0 ≤ w ∧ w < (raF M J wt tk bh S x y).2.length then fL (raF M J wt tk bh S x y).2 w else -1))) h1) : CALL d 85 [.ref 1, vI x, vI y, vI w] h Q := by
  have a1 := c.w
  have hJ := hB.2.1.2.2.1
  obtain ⟨wk0, dr0, i1, i2⟩ := c.2.2.2.2.1
  have hlow := low_iff hx.1 hx.2 hJ
  refine cl85 (by omega) a1 ?_
  simp (disch := omega) only [wr_id, wr_m1, sd_t, nl_I, nl_R, nl_none, c1_I, c1_R, sh_0, sh_1, sh_2, sh_3, sh_4, true_and, and_true, ldA_A, ldB_B, ldS_S, stA_A, stB_B, aL_A, aL_B, aL_S, aC_A, hRd_eq, hRd_ne, cp6, cp8, tl_some, tl_none, List.cons_append, List.nil_append, ofI_t0, ofI_t1, Int.add_zero, Int.zero_add, x85_0, x85_1, x85_2, x85_3, x85_4, gf0_0, gf0_1, gf0_2, gf1_0, gf1_1, gf1_2, gf1_3, gf1_4, gf2_0, gf2_1, gf2_2, gf2_3, gf2_4, gf2_5, gf2_6, gf2_7, gf3_0, gf3_1, gf3_2, gf4_0, gf4_1, gf4_2, gf5_0, gf5_1, gf5_2, gf5_3, gf5_4, gf5_5, gf5_6, gf6_0, gf6_1, gf7_0, gf7_1, gf7_2, gf7_3, gf7_4, gf8_0, gf8_1, gf8_2, gf8_3, gf8_4, gf9_0, gf9_1, gf9_2, gf9_3, gf9_4, gf9_5, gf9_6, gf10_0, gf10_1, gf10_2, gf10_3, gf10_4, gf10_5, gf10_6, gf10_7, gf10_8, gf10_9, a1, i1]
  refine s_lowB (by omega) ?_
  have hzb := z_bit x (zxor (zshl 1 J - 1) (-1))
  simp (disch := omega) only [wr_id, wr_m1, sd_t, nl_I, nl_R, nl_none, c1_I, c1_R, sh_0, sh_1, sh_2, sh_3, sh_4, true_and, and_true, ldA_A, ldB_B, ldS_S, stA_A, stB_B, aL_A, aL_B, aL_S, aC_A, hRd_eq, hRd_ne, cp6, cp8, tl_some, tl_none, List.cons_append, List.nil_append, ofI_t0, ofI_t1, Int.add_zero, Int.zero_add, x85_5, x85_6, x85_7, x85_8, x85_9, x85_10, x85_11, x85_12, x85_13, x85_14, x85_15, x85_16, x85_17, x85_18, x85_19, x85_20, x85_21, x85_22, x85_23, x85_24, gf0_0, gf0_1, gf0_2, gf1_0, gf1_1, gf1_2, gf1_3, gf1_4, gf2_0, gf2_1, gf2_2, gf2_3, gf2_4, gf2_5, gf2_6, gf2_7, gf3_0, gf3_1, gf3_2, gf4_0, gf4_1, gf4_2, gf5_0, gf5_1, gf5_2, gf5_3, gf5_4, gf5_5, gf5_6, gf6_0, gf6_1, gf7_0, gf7_1, gf7_2, gf7_3, gf7_4, gf8_0, gf8_1, gf8_2, gf8_3, gf8_4, gf9_0, gf9_1, gf9_2, gf9_3, gf9_4, gf9_5, gf9_6, gf10_0, gf10_1, gf10_2, gf10_3, gf10_4, gf10_5, gf10_6, gf10_7, gf10_8, gf10_9, a1]
  refine ⟨fun z => ⟨fun z2 => k2 (hlow.mp (by omega)).1 (hlow.mp (by omega)).2 (by omega), fun z2 => ⟨fun z3 => ?_, fun z3 => k2 (hlow.mp (by omega)).1 (hlow.mp (by omega)).2 (by omega)⟩⟩, fun z => k1 (fun z2 => z (hlow.mpr z2))⟩
  obtain ⟨T, B, fw, bp, ha, hT⟩ := c.tr
  obtain ⟨hC, -⟩ := c.cap
  obtain ⟨e1, e2, e3, e4⟩ := c.c17
  have hx2 := hlow.mp (by omega)
  refine p_tryR (by omega) hC e1 hB.2.1 e2 (line_prs e2.prs hB.2.2.1.1) (by omega) hT (fun h1 ⟨T1, hT1⟩ o1 => ?_)
  have hrb := rsF_B (M := M) (J := J) (sh := S.2.2.2.1) (wk := S.2.1) (wt := wt) (dr := S.2.2.1) (tk := tk) (bh := bh) (O := S.1) (jobs := x) (t := y) 720 (lineL (memF S.1 0) P6) (-1) B [] (by omega) (fun z => absurd rfl z)
  have hfw := rsF_fw (M := M) (J := J) (sh := S.2.2.2.1) (wk := S.2.1) (wt := wt) (dr := S.2.2.1) (tk := tk) (bh := bh) (O := S.1) (jobs := x) (t := y) 720 (lineL (memF S.1 0) P6) (-1) B (by omega) (by omega) line6
  generalize hr : rsF M J S.2.2.2.1 S.2.1 wt S.2.2.1 tk bh S.1 x y 720 (lineL (memF S.1 0) P6) (-1) B = r at hT1 hrb hfw
  have c1 := c.sT o1 hT1
  have a11 := c1.w
  have fin := k3 hx2.1 hx2.2 (by omega) (by omega) h1 c1 o1.lo
  unfold raF at fin
  rw [← hrb.1] at fin
  obtain ⟨t1, t2, t3, t4⟩ := hT1
  simp (disch := omega) only [wr_id, wr_m1, sd_t, nl_I, nl_R, nl_none, c1_I, c1_R, sh_0, sh_1, sh_2, sh_3, sh_4, true_and, and_true, ldA_A, ldB_B, ldS_S, stA_A, stB_B, aL_A, aL_B, aL_S, aC_A, hRd_eq, hRd_ne, cp6, cp8, tl_some, tl_none, List.cons_append, List.nil_append, ofI_t0, ofI_t1, Int.add_zero, Int.zero_add, x85_25, x85_26, x85_27, x85_28, x85_29, x85_30, x85_31, x85_32, x85_33, x85_34, x85_35, x85_36, x85_37, x85_38, x85_39, x85_40, x85_41, x85_42, x85_43, gf0_0, gf0_1, gf0_2, gf1_0, gf1_1, gf1_2, gf1_3, gf1_4, gf2_0, gf2_1, gf2_2, gf2_3, gf2_4, gf2_5, gf2_6, gf2_7, gf3_0, gf3_1, gf3_2, gf4_0, gf4_1, gf4_2, gf5_0, gf5_1, gf5_2, gf5_3, gf5_4, gf5_5, gf5_6, gf6_0, gf6_1, gf7_0, gf7_1, gf7_2, gf7_3, gf7_4, gf8_0, gf8_1, gf8_2, gf8_3, gf8_4, gf9_0, gf9_1, gf9_2, gf9_3, gf9_4, gf9_5, gf9_6, gf10_0, gf10_1, gf10_2, gf10_3, gf10_4, gf10_5, gf10_6, gf10_7, gf10_8, gf10_9, t1, a11]
  refine ⟨fun z => ⟨fun z2 => ?_, fun z2 => ?_⟩, fun z => ?_⟩
  · rw [if_neg z, if_neg z2, ← hrb.2 z] at fin
    obtain ⟨gg, g1, g2, g3⟩ := t3
    have := g3.2.1
    refine s_Row_at (by omega) g1 g2 (by omega) (by omega) (by omega) (by omega) ?_
    simp (disch := omega) only [wr_id, wr_m1, sd_t, nl_I, nl_R, nl_none, c1_I, c1_R, sh_0, sh_1, sh_2, sh_3, sh_4, true_and, and_true, ldA_A, ldB_B, ldS_S, stA_A, stB_B, aL_A, aL_B, aL_S, aC_A, hRd_eq, hRd_ne, cp6, cp8, tl_some, tl_none, List.cons_append, List.nil_append, ofI_t0, ofI_t1, Int.add_zero, Int.zero_add, x85_44]
    by_cases q : 0 ≤ w ∧ w < r.2.length
    · rw [if_pos q] at fin ⊢
      rw [g3.ag.1 w q.1 q.2]
      exact fin
    · rw [if_neg q] at fin ⊢
      exact fin
  · rw [if_neg z, if_pos (by omega)] at fin
    simp (disch := omega) only [wr_id, wr_m1, sd_t, nl_I, nl_R, nl_none, c1_I, c1_R, sh_0, sh_1, sh_2, sh_3, sh_4, true_and, and_true, ldA_A, ldB_B, ldS_S, stA_A, stB_B, aL_A, aL_B, aL_S, aC_A, hRd_eq, hRd_ne, cp6, cp8, tl_some, tl_none, List.cons_append, List.nil_append, ofI_t0, ofI_t1, Int.add_zero, Int.zero_add, x85_44]
    exact fin
  · rw [if_pos (by omega)] at fin
    exact fin
end
