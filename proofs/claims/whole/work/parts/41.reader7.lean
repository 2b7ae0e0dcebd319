-- THE READER: a clause, the text
/-- a text from a place on: its first fault (0: none), the place, the draft -/
def txF (f : Int → Int) (n : Int) : Nat → Int → CC → Int × Int × CC
  | 0, _, D => (0, -1, D)
  | m + 1, a, D => if sk f n a < n then (if (clF f n (sk f n a) D).1 = 0 then txF f n m (clF f n (sk f n a) D).2.2.2 (clF f n (sk f n a) D).2.2.1 else ((clF f n (sk f n a) D).1, (clF f n (sk f n a) D).2.1, D)) else (0, -1, D)
section
variable {d : Nat} {h h0 : LHeap} {Q : Option Value → LHeap → Prop} {f wk wt dr tk bh : Int → Int} {n tr pl a na M P J w : Int} {D : CC}
theorem nuC_b {lo hi a1 : Int} {k : CR} (hk : k.1 = 0 ∨ 1 ≤ k.1 ∧ k.1 ≤ 4) : (nuC f n lo hi a1 D k).1 = 0 ∨ 1 ≤ (nuC f n lo hi a1 D k).1 ∧ (nuC f n lo hi a1 D k).1 ≤ 4 := by
  unfold nuC
  have := nK_b f n lo hi a1
  split
  · exact hk
  · exact Or.inr ⟨by show 1 ≤ nK f n lo hi a1; omega, by show nK f n lo hi a1 ≤ 4; omega⟩
theorem enC_b {a1 : Int} {D1 : CC} : (enC f n a1 D D1).1 = 0 ∨ 1 ≤ (enC f n a1 D D1).1 ∧ (enC f n a1 D D1).1 ≤ 4 := by
  unfold enC
  split
  · exact Or.inl rfl
  · exact Or.inr ⟨by show (1 : Int) ≤ 1; omega, by show (1 : Int) ≤ 4; omega⟩
theorem clF_b : (clF f n w D).1 = 0 ∨ 1 ≤ (clF f n w D).1 ∧ (clF f n w D).1 ≤ 4 := by
  have c : ∀ (x y z : Int) (E : CC), 1 ≤ x ∧ x ≤ 4 → ((x, y, E, z) : CR).1 = 0 ∨ 1 ≤ ((x, y, E, z) : CR).1 ∧ ((x, y, E, z) : CR).1 ≤ 4 := fun x y z E h => Or.inr h
  unfold clF
  split
  · unfold cM
    split
    · exact nuC_b enC_b
    · exact c _ _ _ _ (by omega)
  · split
    · exact c _ _ _ _ (by omega)
    · split
      · unfold cP
        split
        · exact nuC_b enC_b
        · exact c _ _ _ _ (by omega)
      · split
        · unfold cJ
          split
          · refine nuC_b (nuC_b (nuC_b ?_))
            split
            · exact enC_b
            · exact c _ _ _ _ (by omega)
          · exact c _ _ _ _ (by omega)
        · split
          · unfold cW
            refine nuC_b ?_
            split
            · exact nuC_b enC_b
            · exact c _ _ _ _ (by omega)
          · exact c _ _ _ _ (by omega)
theorem FP.of {h1 : LHeap} {t p : Int} (o : Out 2 2 h h1) (hp : FP Q h f n a t p) : FP Q h1 f n a t p := fun h2 D1 a1 na1 r c b e1 e2 o2 => hp h2 D1 a1 na1 r c b e1 e2 ((o.widen (by omega) (by omega)).trans o2)
theorem PC.of {h1 : LHeap} {r : CR} (o : Out 2 2 h h1) (hp : PC Q h f n a r) : PC Q h1 f n a r := ⟨fun z => (hp.1 z).of o, fun z h2 na1 r1 c b e1 e2 o2 => hp.2 z h2 na1 r1 c b e1 e2 ((o.widen (by omega) (by omega)).trans o2)⟩
theorem PC.mono {Q1 : Option Value → LHeap → Prop} {r : CR} (g : ∀ h, Q none h → Q1 none h) (hp : PC Q h f n a r) : PC Q1 h f n a r := ⟨fun z h2 D1 a1 na1 r1 c b e1 e2 o2 => g _ (hp.1 z h2 D1 a1 na1 r1 c b e1 e2 o2), fun z h2 na1 r1 c b e1 e2 o2 => g _ (hp.2 z h2 na1 r1 c b e1 e2 o2)⟩
theorem s_rdClause (hd : 6 ≤ d) (hT : TxB f n) (hr : RdAt f n 0 (-1) w na h) (h0 : 0 ≤ w ∧ w < n) (hc : CiC 4 D h) (hD : DB D) (kk : PC Q h f n (w + 1) (clF f n w D)) : CALL d 32 [.ref 2] h Q := by
  have hM := hD.1.1
  have hc4 : hRd h 4 = oCity D.1 D.2.1 D.2.2.1 5 6 7 8 9 := hc.1
  have hn := hT.1
  have hv := hT.2 w h0.1 h0.2
  have hr1 := hr.1
  refine cl32 (by omega) hr.1 ?_
  simp (disch := omega) only [wr_id, wr_m1, sd_t, nl_I, nl_R, nl_none, c1_I, c1_R, sh_0, sh_1, sh_2, sh_3, sh_4, true_and, and_true, ldA_A, ldB_B, ldS_S, stA_A, stB_B, aL_A, aL_B, aL_S, aC_A, hRd_eq, hRd_ne, cp6, cp8, tl_some, tl_none, List.cons_append, List.nil_append, ofI_t0, ofI_t1, Int.add_zero, Int.zero_add, x32_0, x32_1]
  refine s_letter (by omega) hr hT ⟨h0.1, by omega⟩ ?_
  rw [if_pos h0.2]
  have o1 : Out 2 2 h (hWr h 2 (oRead 3 4 n 0 (-1) (w + 1) na)) := Out.refl.wr (by omega) (by omega)
  have r1 : RdAt f n 0 (-1) (w + 1) na (hWr h 2 (oRead 3 4 n 0 (-1) (w + 1) na)) := hr.at 0 (-1)
  have r11 := r1.1
  have hc1 := hc.out o1 (by omega)
  have hc14 : hRd (hWr h 2 (oRead 3 4 n 0 (-1) (w + 1) na)) 4 = oCity D.1 D.2.1 D.2.2.1 5 6 7 8 9 := hc1.1
  have kk1 := kk.of o1
  simp (disch := omega) only [wr_id, wr_m1, sd_t, nl_I, nl_R, nl_none, c1_I, c1_R, sh_0, sh_1, sh_2, sh_3, sh_4, true_and, and_true, ldA_A, ldB_B, ldS_S, stA_A, stB_B, aL_A, aL_B, aL_S, aC_A, hRd_eq, hRd_ne, cp6, cp8, tl_some, tl_none, List.cons_append, List.nil_append, ofI_t0, ofI_t1, Int.add_zero, Int.zero_add, x32_2, x32_3, x32_4, x32_5, x32_6, x32_7, x32_8, x32_9, x32_10, x32_11, x32_12, x32_13, x32_14, x32_15, x32_16, x32_17, x32_18, gf5_5, pf5_5, gf5_1, gf2_0, hr1, hc4]
  -- the words
  have word : (¬ D.1 = 0 ∨ f w = 99) → WP (d - 1) 32 24 [some (.ref 2), some (vI (f w)), some (vI w)] [] (hWr h 2 (oRead 3 4 n 0 (-1) (w + 1) na)) Q := by
    intro hz
    have hwr : wr (f w) = f w := wr_id (by omega) (by omega)
    simp (disch := omega) only [wr_id, wr_m1, sd_t, nl_I, nl_R, nl_none, c1_I, c1_R, sh_0, sh_1, sh_2, sh_3, sh_4, true_and, and_true, ldA_A, ldB_B, ldS_S, stA_A, stB_B, aL_A, aL_B, aL_S, aC_A, hRd_eq, hRd_ne, cp6, cp8, tl_some, tl_none, List.cons_append, List.nil_append, ofI_t0, ofI_t1, Int.add_zero, Int.zero_add, x32_24]
    refine x32_25 (fun z => ?_) (fun z => ?_) (fun z => ?_) (fun z => ?_) (fun z1 z2 z3 z4 => ?_)
    · rw [hwr] at z
      simp (disch := omega) only [wr_id, wr_m1, sd_t, nl_I, nl_R, nl_none, c1_I, c1_R, sh_0, sh_1, sh_2, sh_3, sh_4, true_and, and_true, ldA_A, ldB_B, ldS_S, stA_A, stB_B, aL_A, aL_B, aL_S, aC_A, hRd_eq, hRd_ne, cp6, cp8, tl_some, tl_none, List.cons_append, List.nil_append, ofI_t0, ofI_t1, Int.add_zero, Int.zero_add, x32_26, x32_27, x32_28]
      refine s_rdMorning (by omega) hT r1 ⟨by omega, by omega⟩ rfl hc1 hD ?_
      have gm : ∀ h1, Q none h1 → WP (d - 1) 32 29 [some (.ref 2), some (vI (f w)), some (vI w)] [] h1 Q := fun h1 q => by simp (disch := omega) only [wr_id, wr_m1, sd_t, nl_I, nl_R, nl_none, c1_I, c1_R, sh_0, sh_1, sh_2, sh_3, sh_4, true_and, and_true, ldA_A, ldB_B, ldS_S, stA_A, stB_B, aL_A, aL_B, aL_S, aC_A, hRd_eq, hRd_ne, cp6, cp8, tl_some, tl_none, List.cons_append, List.nil_append, ofI_t0, ofI_t1, Int.add_zero, Int.zero_add, x32_29, x32_45]; exact q
      unfold clF at kk1
      rw [if_pos z] at kk1
      exact kk1.mono gm
    · rw [hwr] at z
      simp (disch := omega) only [wr_id, wr_m1, sd_t, nl_I, nl_R, nl_none, c1_I, c1_R, sh_0, sh_1, sh_2, sh_3, sh_4, true_and, and_true, ldA_A, ldB_B, ldS_S, stA_A, stB_B, aL_A, aL_B, aL_S, aC_A, hRd_eq, hRd_ne, cp6, cp8, tl_some, tl_none, List.cons_append, List.nil_append, ofI_t0, ofI_t1, Int.add_zero, Int.zero_add, x32_34, x32_35, x32_36]
      refine s_rdJob (by omega) hT r1 ⟨by omega, by omega⟩ rfl hc1 hD ?_
      have gm : ∀ h1, Q none h1 → WP (d - 1) 32 37 [some (.ref 2), some (vI (f w)), some (vI w)] [] h1 Q := fun h1 q => by simp (disch := omega) only [wr_id, wr_m1, sd_t, nl_I, nl_R, nl_none, c1_I, c1_R, sh_0, sh_1, sh_2, sh_3, sh_4, true_and, and_true, ldA_A, ldB_B, ldS_S, stA_A, stB_B, aL_A, aL_B, aL_S, aC_A, hRd_eq, hRd_ne, cp6, cp8, tl_some, tl_none, List.cons_append, List.nil_append, ofI_t0, ofI_t1, Int.add_zero, Int.zero_add, x32_37, x32_45]; exact q
      unfold clF at kk1
      rw [if_neg (by omega), if_neg (by omega), if_neg (by omega), if_pos z] at kk1
      exact kk1.mono gm
    · rw [hwr] at z
      simp (disch := omega) only [wr_id, wr_m1, sd_t, nl_I, nl_R, nl_none, c1_I, c1_R, sh_0, sh_1, sh_2, sh_3, sh_4, true_and, and_true, ldA_A, ldB_B, ldS_S, stA_A, stB_B, aL_A, aL_B, aL_S, aC_A, hRd_eq, hRd_ne, cp6, cp8, tl_some, tl_none, List.cons_append, List.nil_append, ofI_t0, ofI_t1, Int.add_zero, Int.zero_add, x32_30, x32_31, x32_32]
      refine s_rdPerson (by omega) hT r1 ⟨by omega, by omega⟩ rfl hc1 hD ?_
      have gm : ∀ h1, Q none h1 → WP (d - 1) 32 33 [some (.ref 2), some (vI (f w)), some (vI w)] [] h1 Q := fun h1 q => by simp (disch := omega) only [wr_id, wr_m1, sd_t, nl_I, nl_R, nl_none, c1_I, c1_R, sh_0, sh_1, sh_2, sh_3, sh_4, true_and, and_true, ldA_A, ldB_B, ldS_S, stA_A, stB_B, aL_A, aL_B, aL_S, aC_A, hRd_eq, hRd_ne, cp6, cp8, tl_some, tl_none, List.cons_append, List.nil_append, ofI_t0, ofI_t1, Int.add_zero, Int.zero_add, x32_33, x32_45]; exact q
      unfold clF at kk1
      rw [if_neg (by omega), if_neg (by omega), if_pos z] at kk1
      exact kk1.mono gm
    · rw [hwr] at z
      simp (disch := omega) only [wr_id, wr_m1, sd_t, nl_I, nl_R, nl_none, c1_I, c1_R, sh_0, sh_1, sh_2, sh_3, sh_4, true_and, and_true, ldA_A, ldB_B, ldS_S, stA_A, stB_B, aL_A, aL_B, aL_S, aC_A, hRd_eq, hRd_ne, cp6, cp8, tl_some, tl_none, List.cons_append, List.nil_append, ofI_t0, ofI_t1, Int.add_zero, Int.zero_add, x32_38, x32_39]
      refine s_rdWait (by omega) hT r1 ⟨by omega, by omega⟩ rfl hc1 hD ?_
      have gm : ∀ h1, Q none h1 → WP (d - 1) 32 40 [some (.ref 2), some (vI (f w)), some (vI w)] [] h1 Q := fun h1 q => by simp (disch := omega) only [wr_id, wr_m1, sd_t, nl_I, nl_R, nl_none, c1_I, c1_R, sh_0, sh_1, sh_2, sh_3, sh_4, true_and, and_true, ldA_A, ldB_B, ldS_S, stA_A, stB_B, aL_A, aL_B, aL_S, aC_A, hRd_eq, hRd_ne, cp6, cp8, tl_some, tl_none, List.cons_append, List.nil_append, ofI_t0, ofI_t1, Int.add_zero, Int.zero_add, x32_40, x32_45]; exact q
      unfold clF at kk1
      rw [if_neg (by omega), if_neg (by omega), if_neg (by omega), if_neg (by omega), if_pos z] at kk1
      exact kk1.mono gm
    · rw [hwr] at z1 z2 z3 z4
      simp (disch := omega) only [wr_id, wr_m1, sd_t, nl_I, nl_R, nl_none, c1_I, c1_R, sh_0, sh_1, sh_2, sh_3, sh_4, true_and, and_true, ldA_A, ldB_B, ldS_S, stA_A, stB_B, aL_A, aL_B, aL_S, aC_A, hRd_eq, hRd_ne, cp6, cp8, tl_some, tl_none, List.cons_append, List.nil_append, ofI_t0, ofI_t1, Int.add_zero, Int.zero_add, x32_41, x32_42, x32_43, x32_44]
      unfold clF at kk
      rw [if_neg (by omega), if_neg (by omega), if_neg (by omega), if_neg (by omega), if_neg (by omega)] at kk
      refine s_blame (by omega) r1 (by omega) (fun _ => ?_) (fun z => absurd rfl z)
      simp (disch := omega) only [wr_id, wr_m1, sd_t, nl_I, nl_R, nl_none, c1_I, c1_R, sh_0, sh_1, sh_2, sh_3, sh_4, true_and, and_true, ldA_A, ldB_B, ldS_S, stA_A, stB_B, aL_A, aL_B, aL_S, aC_A, hRd_eq, hRd_ne, cp6, cp8, tl_some, tl_none, List.cons_append, List.nil_append, ofI_t0, ofI_t1, Int.add_zero, Int.zero_add, x32_45]
      rw [hWr_same]
      exact kk.1 (by show ¬ (1 : Int) = 0; omega) _ _ (w + 1) na (hr.at 1 w) (hc.out (Out.refl.wr (lo := 2) (hi := 2) (by omega) (by omega)) (by omega)) hD (by omega) (by omega) (Out.refl.wr (by omega) (by omega))
  refine ⟨fun z => word (Or.inl z), fun z => ⟨fun z2 => word (Or.inr z2), fun z2 => ?_⟩⟩
  simp (disch := omega) only [wr_id, wr_m1, sd_t, nl_I, nl_R, nl_none, c1_I, c1_R, sh_0, sh_1, sh_2, sh_3, sh_4, true_and, and_true, ldA_A, ldB_B, ldS_S, stA_A, stB_B, aL_A, aL_B, aL_S, aC_A, hRd_eq, hRd_ne, cp6, cp8, tl_some, tl_none, List.cons_append, List.nil_append, ofI_t0, ofI_t1, Int.add_zero, Int.zero_add, x32_19, x32_20, x32_21, x32_22]
  unfold clF at kk
  rw [if_neg (by omega), if_pos (by omega)] at kk
  refine s_blame (by omega) r1 (by omega) (fun _ => ?_) (fun z => absurd rfl z)
  simp (disch := omega) only [wr_id, wr_m1, sd_t, nl_I, nl_R, nl_none, c1_I, c1_R, sh_0, sh_1, sh_2, sh_3, sh_4, true_and, and_true, ldA_A, ldB_B, ldS_S, stA_A, stB_B, aL_A, aL_B, aL_S, aC_A, hRd_eq, hRd_ne, cp6, cp8, tl_some, tl_none, List.cons_append, List.nil_append, ofI_t0, ofI_t1, Int.add_zero, Int.zero_add, x32_23]
  rw [hWr_same]
  exact kk.1 (by show ¬ (1 : Int) = 0; omega) _ _ (w + 1) na (hr.at 1 w) (hc.out (Out.refl.wr (lo := 2) (hi := 2) (by omega) (by omega)) (by omega)) hD (by omega) (by omega) (Out.refl.wr (by omega) (by omega))
end
