-- THE BOOK, WHAT IS SEEN, and the small methods of the class itself
def BkAt (ct : Int) (bj bm : Int → Int) (h : LHeap) : Prop := hRd h 153 = oBook 154 155 ct ∧ hRd h 154 = cA 15 bj ∧ hRd h 155 = cA 15 bm
def nxS (s : Int) : Int := (s * 1103515245 + 12345) % 2147483648
def drw (s n : Int) : Int := nxS s / 65536 % n
/-- the persons draw, one behind the other, from p on -/
def drMF (M : Int) : Nat → Int → Int → (Int → Int) → (Int → Int) × Int
  | 0, _, s, w => (w, s)
  | n + 1, p, s, w => drMF M n (p + 1) (nxS s) (uA w p (drw s M))
def fwF (en : Int → Int) (bj bm : Int → Int) : Nat → Int → Int
  | 0, _ => -1
  | n + 1, i => if en (bj i) = bm i then fwF en bj bm n (i + 1) else i
def jofF (dr : Int → Int) (p : Int) : Nat → Int → Int → Int
  | 0, _, c => c
  | n + 1, j, c => jofF dr p n (j + 1) (if dr j = p then c + 1 else c)
theorem nxS_b (s : Int) : 0 ≤ nxS s ∧ nxS s < 2147483648 := ⟨Int.emod_nonneg _ (by omega), Int.emod_lt_of_pos _ (by omega)⟩
theorem drw_b {s n : Int} (h : 0 < n) : 0 ≤ drw s n ∧ drw s n < n := ⟨Int.emod_nonneg _ (by omega), Int.emod_lt_of_pos _ h⟩
section
variable {d : Nat} {h : LHeap} {Q : Option Value → LHeap → Prop} {bj bm U D : Int → Int} {ct x y : Int}
theorem s_bkApp (hd : 1 ≤ d) (hb : BkAt ct bj bm h) (h0 : 0 ≤ ct ∧ ct ≤ 15) (k1 : ct = 15 → Q (some (vI 0)) h) (k2 : ct < 15 → ∀ h1, BkAt (ct + 1) (uA bj ct x) (uA bm ct y) h1 → Out 153 155 h h1 → Q (some (vI 1)) h1) : CALL d 1 [.ref 153, vI x, vI y] h Q := by
  obtain ⟨a1, a2, a3⟩ := hb
  refine cl1 (by omega) a1 ?_
  simp (disch := omega) only [wr_id, wr_m1, sd_t, nl_I, nl_R, nl_none, c1_I, c1_R, sh_0, sh_1, sh_2, sh_3, sh_4, true_and, and_true, ldA_A, ldB_B, ldS_S, stA_A, stB_B, aL_A, aL_B, aL_S, aC_A, hRd_eq, hRd_ne, cp6, cp8, tl_some, tl_none, List.cons_append, List.nil_append, ofI_t0, ofI_t1, Int.add_zero, Int.zero_add, x1_0, x1_1, x1_2, x1_3, x1_4, x1_5, x1_6, x1_7, x1_8, x1_9, x1_10, x1_11, x1_12, x1_13, x1_14, x1_15, x1_16, x1_17, x1_18, x1_19, x1_20, x1_21, x1_22, x1_23, x1_24, x1_25, x1_26, x1_27, x1_28, gf0_2, gf0_0, gf0_1, pf0_2, a1, a2, a3, hWr_same]
  refine ⟨fun q => by omega, fun _ => ⟨fun q => ⟨by omega, by omega, ?_⟩, fun q => k1 (by omega)⟩⟩
  refine k2 q _ ⟨?_, ?_, ?_⟩ (((Out.refl.wr (by omega) (by omega)).wr (by omega) (by omega)).wr (by omega) (by omega)) <;> simp (disch := omega) only [hRd_eq, hRd_ne]
theorem l_fw (hd : 2 ≤ d) (hb : BkAt ct bj bm h) (h10 : hRd h 10 = oCap 11 17 22 23 24) (h23 : hRd h 23 = cA 8 (fun q => en (D q))) (hD : TVF D) (hbj : ∀ i, 0 ≤ i → i < ct → 0 ≤ bj i ∧ bj i < 8 ∧ -1 ≤ bm i ∧ bm i ≤ 999) (h0 : 0 ≤ ct ∧ ct ≤ 15) : ∀ (n : Nat) (i : Int), (n : Int) = ct - i → 0 ≤ i → Q (some (vI (fwF (fun j => en (D j)) bj bm n i))) h → WPC d 2 3 [some (.ref 153), some (.ref 10), some (vI i)] [] h Q := by
  obtain ⟨a1, a2, a3⟩ := hb
  intro n
  induction n with
  | zero =>
    intro i hn hi kk
    rw [WPC_iff]
    simp (disch := omega) only [wr_id, wr_m1, sd_t, nl_I, nl_R, nl_none, c1_I, c1_R, sh_0, sh_1, sh_2, sh_3, sh_4, true_and, and_true, ldA_A, ldB_B, ldS_S, stA_A, stB_B, aL_A, aL_B, aL_S, aC_A, hRd_eq, hRd_ne, cp6, cp8, tl_some, tl_none, List.cons_append, List.nil_append, ofI_t0, ofI_t1, Int.add_zero, Int.zero_add, x2_0, x2_1, x2_2, x2_3, x2_4, x2_5, x2_6, x2_7, x2_8, x2_9, x2_10, x2_11, x2_12, x2_13, x2_14, x2_15, x2_16, x2_17, x2_18, x2_19, x2_20, x2_21, x2_22, x2_23, x2_24, x2_25, x2_26, x2_27, gf0_2, gf1_3, gf0_0, gf0_1, a1]
    exact ⟨fun _ => kk, fun q => by omega⟩
  | succ n ih =>
    intro i hn hi kk
    have hb := hbj i hi (by omega)
    have he := en_b (hD (bj i))
    rw [WPC_iff]
    rw [fwF] at kk
    simp (disch := omega) only [wr_id, wr_m1, sd_t, nl_I, nl_R, nl_none, c1_I, c1_R, sh_0, sh_1, sh_2, sh_3, sh_4, true_and, and_true, ldA_A, ldB_B, ldS_S, stA_A, stB_B, aL_A, aL_B, aL_S, aC_A, hRd_eq, hRd_ne, cp6, cp8, tl_some, tl_none, List.cons_append, List.nil_append, ofI_t0, ofI_t1, Int.add_zero, Int.zero_add, x2_0, x2_1, x2_2, x2_3, x2_4, x2_5, x2_6, x2_7, x2_8, x2_9, x2_10, x2_11, x2_12, x2_13, x2_14, x2_15, x2_16, x2_17, x2_18, x2_19, x2_20, x2_21, x2_22, x2_23, x2_24, x2_25, x2_26, x2_27, gf0_2, gf1_3, gf0_0, gf0_1, a1, a2, h10]
    refine ⟨fun q => by omega, fun _ => ⟨fun q => by omega, fun _ => ⟨by omega, ?_⟩⟩⟩
    refine s_valueAt (by omega) h23 (by omega) (by omega) (by omega) ?_
    rw [if_pos (by omega)]
    simp (disch := omega) only [wr_id, wr_m1, sd_t, nl_I, nl_R, nl_none, c1_I, c1_R, sh_0, sh_1, sh_2, sh_3, sh_4, true_and, and_true, ldA_A, ldB_B, ldS_S, stA_A, stB_B, aL_A, aL_B, aL_S, aC_A, hRd_eq, hRd_ne, cp6, cp8, tl_some, tl_none, List.cons_append, List.nil_append, ofI_t0, ofI_t1, Int.add_zero, Int.zero_add, x2_0, x2_1, x2_2, x2_3, x2_4, x2_5, x2_6, x2_7, x2_8, x2_9, x2_10, x2_11, x2_12, x2_13, x2_14, x2_15, x2_16, x2_17, x2_18, x2_19, x2_20, x2_21, x2_22, x2_23, x2_24, x2_25, x2_26, x2_27, gf0_2, gf1_3, gf0_0, gf0_1, a1, a3]
    refine ⟨by omega, fun q => ?_, fun q => ?_⟩
    · rw [if_pos q] at kk
      exact ih (i + 1) (by omega) (by omega) kk
    · rw [if_neg q] at kk
      exact kk
theorem s_fw (hd : 3 ≤ d) (hb : BkAt ct bj bm h) (h10 : hRd h 10 = oCap 11 17 22 23 24) (h23 : hRd h 23 = cA 8 (fun q => en (D q))) (hD : TVF D) (hbj : ∀ i, 0 ≤ i → i < ct → 0 ≤ bj i ∧ bj i < 8 ∧ -1 ≤ bm i ∧ bm i ≤ 999) (h0 : 0 ≤ ct ∧ ct ≤ 15) (kk : Q (some (vI (fwF (fun j => en (D j)) bj bm ct.toNat 0))) h) : CALL d 2 [.ref 153, .ref 10] h Q := by
  refine cl2 (by omega) hb.1 ?_
  simp (disch := omega) only [wr_id, wr_m1, sd_t, nl_I, nl_R, nl_none, c1_I, c1_R, sh_0, sh_1, sh_2, sh_3, sh_4, true_and, and_true, ldA_A, ldB_B, ldS_S, stA_A, stB_B, aL_A, aL_B, aL_S, aC_A, hRd_eq, hRd_ne, cp6, cp8, tl_some, tl_none, List.cons_append, List.nil_append, ofI_t0, ofI_t1, Int.add_zero, Int.zero_add, x2_0, x2_1, x2_2, x2_3, x2_4, x2_5, x2_6, x2_7, x2_8, x2_9, x2_10, x2_11, x2_12, x2_13, x2_14, x2_15, x2_16, x2_17, x2_18, x2_19, x2_20, x2_21, x2_22, x2_23, x2_24, x2_25, x2_26, x2_27, gf0_2, gf1_3, gf0_0, gf0_1]
  exact l_fw (by omega) hb h10 h23 hD hbj h0 ct.toNat 0 (by omega) (by omega) kk
theorem s_winApp {tt tr su pa : Nat} {tot : Int} (hd : 1 ≤ d) (hw : hRd h 146 = oWin 147 148 ct tr tot su pa) (h147 : hRd h 147 = cA 6 bj) (h148 : hRd h 148 = cA 6 bm) (h0 : 0 ≤ ct ∧ ct ≤ 6) (k1 : ct = 6 → Q (some (vI 0)) h) (k2 : ct < 6 → Q (some (vI 1)) (hWr (hWr (hWr h 146 (oWin 147 148 (ct + 1) tr tot su pa)) 147 (cA 6 (uA bj ct x))) 148 (cA 6 (uA bm ct y)))) : CALL d 64 [.ref 146, vI x, vI y] h Q := by
  refine cl64 (by omega) hw ?_
  simp (disch := omega) only [wr_id, wr_m1, sd_t, nl_I, nl_R, nl_none, c1_I, c1_R, sh_0, sh_1, sh_2, sh_3, sh_4, true_and, and_true, ldA_A, ldB_B, ldS_S, stA_A, stB_B, aL_A, aL_B, aL_S, aC_A, hRd_eq, hRd_ne, cp6, cp8, tl_some, tl_none, List.cons_append, List.nil_append, ofI_t0, ofI_t1, Int.add_zero, Int.zero_add, x64_0, x64_1, x64_2, x64_3, x64_4, x64_5, x64_6, x64_7, x64_8, x64_9, x64_10, x64_11, x64_12, x64_13, x64_14, x64_15, x64_16, x64_17, x64_18, x64_19, x64_20, x64_21, x64_22, x64_23, x64_24, x64_25, x64_26, x64_27, x64_28, gf9_2, gf9_0, gf9_1, pf9_2, hw, h147, h148, hWr_same, hWr_comm]
  exact ⟨fun q => by omega, fun _ => ⟨fun q => ⟨by omega, by omega, k2 q⟩, fun q => k1 (by omega)⟩⟩
end
section
variable {d : Nat} {h : LHeap} {Q : Option Value → LHeap → Prop} {wk wt dr tk bh : Int → Int} {M P J p sd : Int}
def tWake (sd : Int) : LCell := oWake 2 10 11 17 25 127 141 146 153 sd
theorem s_isPerson (hd : 1 ≤ d) (h1 : hRd h 1 = tWake sd) (hC : CiAt 11 M P J wk wt dr tk bh h) (hP : 0 ≤ P ∧ P ≤ 6) (hp : -2147483648 ≤ p ∧ p ≤ 2147483647) (kk : Q (some (vI (if 0 ≤ p ∧ p < P then 1 else 0))) h) : CALL d 99 [.ref 1, vI p] h Q := by
  obtain ⟨c1, -⟩ := hC
  unfold tWake at h1
  refine cl99 (by omega) h1 ?_
  simp (disch := omega) only [wr_id, wr_m1, sd_t, nl_I, nl_R, nl_none, c1_I, c1_R, sh_0, sh_1, sh_2, sh_3, sh_4, true_and, and_true, ldA_A, ldB_B, ldS_S, stA_A, stB_B, aL_A, aL_B, aL_S, aC_A, hRd_eq, hRd_ne, cp6, cp8, tl_some, tl_none, List.cons_append, List.nil_append, ofI_t0, ofI_t1, Int.add_zero, Int.zero_add, x99_0, x99_1, x99_2, x99_3, x99_4, x99_5, x99_6, x99_7, x99_8, x99_9, x99_10, x99_11, x99_12, x99_13, gf10_2, gf2_1, h1, c1]
  repeat' (first | (refine ⟨?_, ?_⟩) | intro _)
  all_goals first
    | omega
    | (rw [if_pos (by omega)] at kk; exact kk)
    | (rw [if_neg (by omega)] at kk; exact kk)
theorem s_isJob (hd : 1 ≤ d) (h1 : hRd h 1 = tWake sd) (hC : CiAt 11 M P J wk wt dr tk bh h) (hP : 0 ≤ J ∧ J ≤ 8) (hp : -2147483648 ≤ p ∧ p ≤ 2147483647) (kk : Q (some (vI (if 0 ≤ p ∧ p < J then 1 else 0))) h) : CALL d 100 [.ref 1, vI p] h Q := by
  obtain ⟨c1, -⟩ := hC
  unfold tWake at h1
  refine cl100 (by omega) h1 ?_
  simp (disch := omega) only [wr_id, wr_m1, sd_t, nl_I, nl_R, nl_none, c1_I, c1_R, sh_0, sh_1, sh_2, sh_3, sh_4, true_and, and_true, ldA_A, ldB_B, ldS_S, stA_A, stB_B, aL_A, aL_B, aL_S, aC_A, hRd_eq, hRd_ne, cp6, cp8, tl_some, tl_none, List.cons_append, List.nil_append, ofI_t0, ofI_t1, Int.add_zero, Int.zero_add, x100_0, x100_1, x100_2, x100_3, x100_4, x100_5, x100_6, x100_7, x100_8, x100_9, x100_10, x100_11, x100_12, x100_13, gf10_2, gf2_2, h1, c1]
  repeat' (first | (refine ⟨?_, ?_⟩) | intro _)
  all_goals first
    | omega
    | (rw [if_pos (by omega)] at kk; exact kk)
    | (rw [if_neg (by omega)] at kk; exact kk)
theorem s_dismissed {S : SS} (hd : 2 ≤ d) (h1 : hRd h 1 = tWake sd) (hC : CiAt 11 M P J wk wt dr tk bh h) (hS : StAt 17 S h) (kk : Q (some (vI (zand (zshl 1 P - 1) (zxor (memF S.1 0) (-1))))) h) : CALL d 102 [.ref 1] h Q := by
  obtain ⟨c1, -⟩ := hC
  obtain ⟨a1, ⟨f, a2, a3, a4⟩, a5, a6⟩ := hS
  unfold tWake at h1
  refine cl102 (by omega) h1 ?_
  simp (disch := omega) only [wr_id, wr_m1, sd_t, nl_I, nl_R, nl_none, c1_I, c1_R, sh_0, sh_1, sh_2, sh_3, sh_4, true_and, and_true, ldA_A, ldB_B, ldS_S, stA_A, stB_B, aL_A, aL_B, aL_S, aC_A, hRd_eq, hRd_ne, cp6, cp8, tl_some, tl_none, List.cons_append, List.nil_append, ofI_t0, ofI_t1, Int.add_zero, Int.zero_add, x102_0, x102_1, x102_2, x102_3, x102_4, x102_5, x102_6, x102_7, x102_8, x102_9, x102_10, x102_11, gf10_2, gf2_1, gf10_3, gf7_0, h1, c1]
  refine s_lowBits (by omega) ?_
  simp (disch := omega) only [wr_id, wr_m1, sd_t, nl_I, nl_R, nl_none, c1_I, c1_R, sh_0, sh_1, sh_2, sh_3, sh_4, true_and, and_true, ldA_A, ldB_B, ldS_S, stA_A, stB_B, aL_A, aL_B, aL_S, aC_A, hRd_eq, hRd_ne, cp6, cp8, tl_some, tl_none, List.cons_append, List.nil_append, ofI_t0, ofI_t1, Int.add_zero, Int.zero_add, x102_0, x102_1, x102_2, x102_3, x102_4, x102_5, x102_6, x102_7, x102_8, x102_9, x102_10, x102_11, gf10_2, gf2_1, gf10_3, gf7_0, h1, a1]
  refine s_members (by omega) a2 a3 a4 ?_
  simp (disch := omega) only [wr_id, wr_m1, sd_t, nl_I, nl_R, nl_none, c1_I, c1_R, sh_0, sh_1, sh_2, sh_3, sh_4, true_and, and_true, ldA_A, ldB_B, ldS_S, stA_A, stB_B, aL_A, aL_B, aL_S, aC_A, hRd_eq, hRd_ne, cp6, cp8, tl_some, tl_none, List.cons_append, List.nil_append, ofI_t0, ofI_t1, Int.add_zero, Int.zero_add, x102_0, x102_1, x102_2, x102_3, x102_4, x102_5, x102_6, x102_7, x102_8, x102_9, x102_10, x102_11, gf10_2, gf2_1, gf10_3, gf7_0]
  exact kk
theorem l_jobsOf {S : SS} (h1 : hRd h 1 = tWake sd) (hC : CiAt 11 M P J wk wt dr tk bh h) (hS : StAt 17 S h) (hJ : 0 ≤ J ∧ J ≤ 8) (hp : 0 ≤ p ∧ p ≤ 5) (hdr : ∀ j, 0 ≤ j → j < J → 0 ≤ S.2.2.1 j ∧ S.2.2.1 j ≤ 5) : ∀ (n : Nat) (j c : Int), (n : Int) = J - j → 0 ≤ j → Q (some (vI (jofF S.2.2.1 p n j c))) h → WPC d 103 5 [some (.ref 1), some (vI p), some (vI c), some (vI j)] [] h Q := by
  obtain ⟨c1, -⟩ := hC
  obtain ⟨a1, -, -, a6⟩ := hS
  unfold tWake at h1
  intro n
  induction n with
  | zero =>
    intro j c hn hj kk
    rw [WPC_iff]
    simp (disch := omega) only [wr_id, wr_m1, sd_t, nl_I, nl_R, nl_none, c1_I, c1_R, sh_0, sh_1, sh_2, sh_3, sh_4, true_and, and_true, ldA_A, ldB_B, ldS_S, stA_A, stB_B, aL_A, aL_B, aL_S, aC_A, hRd_eq, hRd_ne, cp6, cp8, tl_some, tl_none, List.cons_append, List.nil_append, ofI_t0, ofI_t1, Int.add_zero, Int.zero_add, x103_0, x103_1, x103_2, x103_3, x103_4, x103_5, x103_6, x103_7, x103_8, x103_9, x103_10, x103_11, x103_12, x103_13, x103_14, x103_15, x103_16, x103_17, x103_18, x103_19, x103_20, x103_21, x103_22, x103_23, x103_24, gf10_2, gf2_2, gf10_3, gf7_2, h1, c1]
    exact ⟨fun _ => kk, fun q => ⟨fun _ => kk, fun q => by omega⟩⟩
  | succ n ih =>
    intro j c hn hj kk
    have hb := hdr j hj (by omega)
    rw [WPC_iff]
    rw [jofF] at kk
    simp (disch := omega) only [wr_id, wr_m1, sd_t, nl_I, nl_R, nl_none, c1_I, c1_R, sh_0, sh_1, sh_2, sh_3, sh_4, true_and, and_true, ldA_A, ldB_B, ldS_S, stA_A, stB_B, aL_A, aL_B, aL_S, aC_A, hRd_eq, hRd_ne, cp6, cp8, tl_some, tl_none, List.cons_append, List.nil_append, ofI_t0, ofI_t1, Int.add_zero, Int.zero_add, x103_0, x103_1, x103_2, x103_3, x103_4, x103_5, x103_6, x103_7, x103_8, x103_9, x103_10, x103_11, x103_12, x103_13, x103_14, x103_15, x103_16, x103_17, x103_18, x103_19, x103_20, x103_21, x103_22, x103_23, x103_24, gf10_2, gf2_2, gf10_3, gf7_2, h1, c1, a1, a6]
    refine ⟨fun q => by omega, fun _ => ⟨fun q => by omega, fun _ => ⟨by omega, fun q => ?_, fun q => ?_⟩⟩⟩
    · rw [if_neg q] at kk
      exact ih (j + 1) _ (by omega) (by omega) kk
    · rw [if_pos (by omega)] at kk
      exact ih (j + 1) _ (by omega) (by omega) kk
theorem s_jobsOf {S : SS} (hd : 1 ≤ d) (h1 : hRd h 1 = tWake sd) (hC : CiAt 11 M P J wk wt dr tk bh h) (hS : StAt 17 S h) (hJ : 0 ≤ J ∧ J ≤ 8) (hp : 0 ≤ p ∧ p ≤ 5) (hdr : ∀ j, 0 ≤ j → j < J → 0 ≤ S.2.2.1 j ∧ S.2.2.1 j ≤ 5) (kk : Q (some (vI (jofF S.2.2.1 p J.toNat 0 0))) h) : CALL d 103 [.ref 1, vI p] h Q := by
  have h1' := h1
  unfold tWake at h1'
  refine cl103 (by omega) h1' ?_
  simp (disch := omega) only [wr_id, wr_m1, sd_t, nl_I, nl_R, nl_none, c1_I, c1_R, sh_0, sh_1, sh_2, sh_3, sh_4, true_and, and_true, ldA_A, ldB_B, ldS_S, stA_A, stB_B, aL_A, aL_B, aL_S, aC_A, hRd_eq, hRd_ne, cp6, cp8, tl_some, tl_none, List.cons_append, List.nil_append, ofI_t0, ofI_t1, Int.add_zero, Int.zero_add, x103_0, x103_1, x103_2, x103_3, x103_4, x103_5, x103_6, x103_7, x103_8, x103_9, x103_10, x103_11, x103_12, x103_13, x103_14, x103_15, x103_16, x103_17, x103_18, x103_19, x103_20, x103_21, x103_22, x103_23, x103_24, gf10_2, gf2_2, gf10_3, gf7_2]
  exact l_jobsOf h1 hC hS hJ hp hdr J.toNat 0 0 (by omega) (by omega) kk
theorem s_drawBelow (hd : 1 ≤ d) (h1 : hRd h 1 = tWake sd) (hs : 0 ≤ sd ∧ sd ≤ 2147483647) (hp : 0 < p ∧ p ≤ 999) (kk : Q (some (vI (drw sd p))) (hWr h 1 (tWake (nxS sd)))) : CALL d 105 [.ref 1, vI p] h Q := by
  have h1' := h1
  unfold tWake at h1'
  have hb := nxS_b sd
  refine cl105 (by omega) h1' ?_
  have e1 : zland (sd * 1103515245 + 12345) 2147483647 = nxS sd := by
    rw [zland_m (by omega) (by omega)]
    rfl
  have e2 : zdiv (nxS sd) 65536 = nxS sd / 65536 := zdiv_nn hb.1 hb.2 (by omega) (by omega)
  have e3 : zrem (nxS sd / 65536) p = drw sd p := zrem_nn (by omega) (by omega) (by omega) (by omega)
  simp (disch := omega) only [wr_id, wr_m1, sd_t, nl_I, nl_R, nl_none, c1_I, c1_R, sh_0, sh_1, sh_2, sh_3, sh_4, true_and, and_true, ldA_A, ldB_B, ldS_S, stA_A, stB_B, aL_A, aL_B, aL_S, aC_A, hRd_eq, hRd_ne, cp6, cp8, tl_some, tl_none, List.cons_append, List.nil_append, ofI_t0, ofI_t1, Int.add_zero, Int.zero_add, x105_0, x105_1, x105_2, x105_3, x105_4, x105_5, x105_6, x105_7, x105_8, x105_9, x105_10, x105_11, x105_12, x105_13, x105_14, x105_15, x105_16, x105_17, x105_18, x105_19, x105_20, x105_21, x105_22, gf10_9, pf10_9, h1', e1, e2, e3]
  exact ⟨fun q => by omega, fun _ => ⟨by omega, by omega, kk⟩⟩
theorem l_drawM {h0 : LHeap} {S : SS} (hd : 2 ≤ d) (hC : CiAt 11 M P J wk wt dr tk bh h0) (h17 : hRd h0 17 = oState 18 20 21 S.2.2.2.1 S.2.2.2.2) (hM : 0 < M ∧ M ≤ 999) (hP : 0 ≤ P ∧ P ≤ 6) : ∀ (n : Nat) (p s : Int) (w : Int → Int), (n : Int) = P - p → 0 ≤ p → (0 ≤ s ∧ s ≤ 2147483647) → Q none (hWr (hWr h0 1 (tWake (drMF M n p s w).2)) 20 (cA 6 (drMF M n p s w).1)) → WPC d 104 3 [some (.ref 1), some (vI p)] [] (hWr (hWr h0 1 (tWake s)) 20 (cA 6 w)) Q := by
  obtain ⟨c1, -⟩ := hC
  have g1 : ∀ (x : Int) (c : LCell), hRd (hWr (hWr h0 1 (tWake x)) 20 c) 1 = oWake 2 10 11 17 25 127 141 146 153 x := fun x c => by rw [hRd_ne (by omega), hRd_eq]; rfl
  have g11 : ∀ (x : Int) (c : LCell), hRd (hWr (hWr h0 1 (tWake x)) 20 c) 11 = oCity M P J 12 13 14 15 16 := fun x c => by rw [hRd_ne (by omega), hRd_ne (by omega)]; exact c1
  have g17 : ∀ (x : Int) (c : LCell), hRd (hWr (hWr h0 1 (tWake x)) 20 c) 17 = oState 18 20 21 S.2.2.2.1 S.2.2.2.2 := fun x c => by rw [hRd_ne (by omega), hRd_ne (by omega)]; exact h17
  intro n
  induction n with
  | zero =>
    intro p s w hn hp hs kk
    rw [WPC_iff]
    simp (disch := omega) only [wr_id, wr_m1, sd_t, nl_I, nl_R, nl_none, c1_I, c1_R, sh_0, sh_1, sh_2, sh_3, sh_4, true_and, and_true, ldA_A, ldB_B, ldS_S, stA_A, stB_B, aL_A, aL_B, aL_S, aC_A, hRd_eq, hRd_ne, cp6, cp8, tl_some, tl_none, List.cons_append, List.nil_append, ofI_t0, ofI_t1, Int.add_zero, Int.zero_add, x104_0, x104_1, x104_2, x104_3, x104_4, x104_5, x104_6, x104_7, x104_8, x104_9, x104_10, x104_11, x104_12, x104_13, x104_14, x104_15, x104_16, x104_17, x104_18, x104_19, x104_20, x104_21, x104_22, x104_23, gf10_2, gf2_1, gf10_3, gf7_1, gf2_0, g1, g11]
    exact ⟨fun _ => kk, fun q => ⟨fun _ => kk, fun q => by omega⟩⟩
  | succ n ih =>
    intro p s w hn hp hs kk
    rw [drMF] at kk
    have hb := nxS_b s
    rw [WPC_iff]
    simp (disch := omega) only [wr_id, wr_m1, sd_t, nl_I, nl_R, nl_none, c1_I, c1_R, sh_0, sh_1, sh_2, sh_3, sh_4, true_and, and_true, ldA_A, ldB_B, ldS_S, stA_A, stB_B, aL_A, aL_B, aL_S, aC_A, hRd_eq, hRd_ne, cp6, cp8, tl_some, tl_none, List.cons_append, List.nil_append, ofI_t0, ofI_t1, Int.add_zero, Int.zero_add, x104_0, x104_1, x104_2, x104_3, x104_4, x104_5, x104_6, x104_7, x104_8, x104_9, x104_10, x104_11, x104_12, x104_13, x104_14, x104_15, x104_16, x104_17, x104_18, x104_19, x104_20, x104_21, x104_22, x104_23, gf10_2, gf2_1, gf10_3, gf7_1, gf2_0, g1, g11, g17]
    refine ⟨fun q => by omega, fun _ => ⟨fun q => by omega, fun _ => ?_⟩⟩
    refine s_drawBelow (sd := s) (by omega) (g1 _ _) hs hM ?_
    simp (disch := omega) only [wr_id, wr_m1, sd_t, nl_I, nl_R, nl_none, c1_I, c1_R, sh_0, sh_1, sh_2, sh_3, sh_4, true_and, and_true, ldA_A, ldB_B, ldS_S, stA_A, stB_B, aL_A, aL_B, aL_S, aC_A, hRd_eq, hRd_ne, cp6, cp8, tl_some, tl_none, List.cons_append, List.nil_append, ofI_t0, ofI_t1, Int.add_zero, Int.zero_add, x104_0, x104_1, x104_2, x104_3, x104_4, x104_5, x104_6, x104_7, x104_8, x104_9, x104_10, x104_11, x104_12, x104_13, x104_14, x104_15, x104_16, x104_17, x104_18, x104_19, x104_20, x104_21, x104_22, x104_23, gf10_2, gf2_1, gf10_3, gf7_1, gf2_0, hWr_comm, hWr_same]
    refine ⟨by omega, ?_⟩
    rw [hWr_comm (a := 20) (b := 1) (by omega), hWr_same, hWr_same]
    exact ih (p + 1) (nxS s) _ (by omega) (by omega) ⟨hb.1, by omega⟩ kk
theorem s_drawM {S : SS} {m : Int} (hd : 3 ≤ d) (h1 : hRd h 1 = tWake sd) (hC : CiAt 11 M P J wk wt dr tk bh h) (hS : StAt 17 S h) (hM : 0 < M ∧ M ≤ 999) (hP : 0 ≤ P ∧ P ≤ 6) (hs : 0 ≤ sd ∧ sd ≤ 2147483647) (kk : Q none (hWr (hWr h 1 (tWake (drMF M P.toNat 0 sd S.2.1).2)) 20 (cA 6 (drMF M P.toNat 0 sd S.2.1).1))) : CALL d 104 [.ref 1] h Q := by
  have h1' := h1
  unfold tWake at h1'
  refine cl104 (by omega) h1' ?_
  simp (disch := omega) only [wr_id, wr_m1, sd_t, nl_I, nl_R, nl_none, c1_I, c1_R, sh_0, sh_1, sh_2, sh_3, sh_4, true_and, and_true, ldA_A, ldB_B, ldS_S, stA_A, stB_B, aL_A, aL_B, aL_S, aC_A, hRd_eq, hRd_ne, cp6, cp8, tl_some, tl_none, List.cons_append, List.nil_append, ofI_t0, ofI_t1, Int.add_zero, Int.zero_add, x104_0, x104_1, x104_2, x104_3, x104_4, x104_5, x104_6, x104_7, x104_8, x104_9, x104_10, x104_11, x104_12, x104_13, x104_14, x104_15, x104_16, x104_17, x104_18, x104_19, x104_20, x104_21, x104_22, x104_23, gf10_2, gf2_1, gf10_3, gf7_1, gf2_0]
  have := l_drawM (d := d - 1) (Q := Q) (S := S) (by omega) hC hS.1 hM hP P.toNat 0 sd S.2.1 (by omega) (by omega) hs kk
  rw [hWr_self h1, hWr_self hS.2.2.1] at this
  exact this
end
