-- THE CAPITAL: what is reckoned (1000000: never; -1 in the component's rows)
def en (t : Int) : Int := if t = 1000000 then -1 else t
def mx (a b : Int) : Int := if a < b then b else a
def inT (M v : Int) : Int := if v < M then v else 1000000
def wkF (wk wt D : Int → Int) (p : Int) : Int := mx (wk p) (if wt p < 0 then 0 else D (wt p))
def rouV (M sh : Int) (wk wt D : Int → Int) (ab p : Int) : Int := inT M (if zand (zshr sh p) 1 = 0 then mx (wkF wk wt D p) ab else wkF wk wt D p)
def rouF (M sh : Int) (wk wt D : Int → Int) : List Int → Int → (Int → Int) → Int → Int
  | [], _, U => U
  | p :: L, ab, U => rouF M sh wk wt D L (if zand (zshr sh p) 1 = 0 then rouV M sh wk wt D ab p else ab) (uA U p (rouV M sh wk wt D ab p))
def wrkV (M : Int) (dr tk bh I D : Int → Int) (j : Int) : Int := inT M (mx (I (dr j)) (if bh j < 0 then 0 else D (bh j)) + tk j)
def wrkF (M : Int) (dr tk bh : Int → Int) : Nat → Int → (Int → Int) → (Int → Int) → Int → Int
  | 0, _, _, D => D
  | n + 1, j, I, D => wrkF M dr tk bh n (j + 1) (uA I (dr j) (wrkV M dr tk bh I D j)) (uA D j (wrkV M dr tk bh I D j))
def wrkN (M : Int) (dr tk bh : Int → Int) : Nat → Int → (Int → Int) → (Int → Int) → Int → Int
  | 0, _, _, _, c => c
  | n + 1, j, I, D, c => wrkN M dr tk bh n (j + 1) (uA I (dr j) (wrkV M dr tk bh I D j)) (uA D j (wrkV M dr tk bh I D j)) (if wrkV M dr tk bh I D j = 1000000 then c else c + 1)
/-- a minute, or never -/
def TV (x : Int) : Prop := (0 ≤ x ∧ x ≤ 999) ∨ x = 1000000
def TVF (f : Int → Int) : Prop := ∀ j, TV (f j)
theorem en_b {x : Int} (h : TV x) : -1 ≤ en x ∧ en x ≤ 999 ∧ (en x = -1 ↔ x = 1000000) ∧ (¬ x = 1000000 → en x = x) := by
  unfold en
  unfold TV at h
  split <;> omega
theorem TV_inT {M v : Int} (h0 : 0 ≤ v) (hM : M ≤ 999) : TV (inT M v) := by
  unfold inT TV
  split <;> omega
theorem TV_mx {a b : Int} (ha : TV a) (hb : TV b) : TV (mx a b) := by
  unfold mx
  split
  · exact hb
  · exact ha
theorem TV_uA {f : Int → Int} {i x : Int} (hf : TVF f) (hx : TV x) : TVF (uA f i x) := fun j => by
  unfold uA
  split
  · exact hx
  · exact hf j
theorem en_uA {f : Int → Int} {i x : Int} : uA (fun j => en (f j)) i (en x) = fun j => en (uA f i x j) := by
  funext j
  unfold uA
  split <;> rfl
theorem TV_ge {x : Int} (h : TV x) : 0 ≤ x ∧ x ≤ 1000000 := by
  unfold TV at h
  omega
theorem en_mx {a b : Int} (ha : TV a) (hb : TV b) : (if en a = -1 ∨ en b = -1 then -1 else if en a < en b then en b else en a) = en (mx a b) := by
  unfold TV at ha hb
  unfold en mx
  repeat' split
  all_goals omega
theorem en_inT {M v : Int} (hv : TV v) (hM0 : 0 ≤ M) (hM : M ≤ 999) : (if en v < M then en v else -1) = en (inT M v) := by
  unfold TV at hv
  unfold en inT
  repeat' split
  all_goals omega
def hK (h : LHeap) (U D I : Int → Int) : LHeap := hWr (hWr (hWr h 22 (cA 6 U)) 23 (cA 8 D)) 24 (cA 6 I)
theorem hK_22 {h : LHeap} {U D I : Int → Int} : hRd (hK h U D I) 22 = cA 6 U := rfl
theorem hK_23 {h : LHeap} {U D I : Int → Int} : hRd (hK h U D I) 23 = cA 8 D := rfl
theorem hK_24 {h : LHeap} {U D I : Int → Int} : hRd (hK h U D I) 24 = cA 6 I := rfl
theorem hK_lt {h : LHeap} {U D I : Int → Int} {a : Nat} (e : a < 22) : hRd (hK h U D I) a = hRd h a := by
  unfold hK
  rw [hRd_lt (by omega), hRd_lt (by omega), hRd_lt (by omega)]
theorem hK_gt {h : LHeap} {U D I : Int → Int} {a : Nat} (e : 24 < a) : hRd (hK h U D I) a = hRd h a := by
  unfold hK
  rw [hRd_gt (by omega), hRd_gt (by omega), hRd_gt (by omega)]
theorem hK_w22 {h : LHeap} {U D I U1 : Int → Int} : hWr (hK h U D I) 22 (cA 6 U1) = hK h U1 D I := by
  unfold hK
  simp (disch := omega) only [hWr_comm, hWr_same]
theorem hK_w23 {h : LHeap} {U D I D1 : Int → Int} : hWr (hK h U D I) 23 (cA 8 D1) = hK h U D1 I := by
  unfold hK
  simp (disch := omega) only [hWr_comm, hWr_same]
theorem hK_w24 {h : LHeap} {U D I I1 : Int → Int} : hWr (hK h U D I) 24 (cA 6 I1) = hK h U D I1 := by
  unfold hK
  rw [hWr_same]
def CapH (h : LHeap) (M P J : Int) (wk wt dr tk bh : Int → Int) : Prop := hRd h 10 = oCap 11 17 22 23 24 ∧ hRd h 11 = oCity M P J 12 13 14 15 16 ∧ (∃ sh mo, hRd h 17 = oState 18 20 21 sh mo) ∧ hRd h 20 = cA 6 wk ∧ hRd h 13 = cA 6 wt ∧ hRd h 21 = cA 8 dr ∧ hRd h 15 = cA 8 tk ∧ hRd h 16 = cA 8 bh
def CapB (M P J : Int) (wk wt dr tk bh : Int → Int) : Prop := (0 ≤ M ∧ M ≤ 999) ∧ (0 ≤ P ∧ P ≤ 6) ∧ (0 ≤ J ∧ J ≤ 8) ∧ (∀ p, 0 ≤ p → p < P → 0 ≤ wk p ∧ wk p ≤ 999 ∧ -1 ≤ wt p ∧ wt p < J) ∧ ∀ j, 0 ≤ j → j < J → 0 ≤ dr j ∧ dr j < P ∧ 1 ≤ tk j ∧ tk j ≤ 99 ∧ -1 ≤ bh j ∧ bh j < j
theorem CapH.hK {h : LHeap} {M P J : Int} {wk wt dr tk bh U D I : Int → Int} (hC : CapH h M P J wk wt dr tk bh) : CapH (hK h U D I) M P J wk wt dr tk bh := by
  obtain ⟨h10, h11, ⟨sh, mo, h17⟩, h20, h13, h21, h15, h16⟩ := hC
  exact ⟨by rw [hK_lt (by omega)]; exact h10, by rw [hK_lt (by omega)]; exact h11, ⟨sh, mo, by rw [hK_lt (by omega)]; exact h17⟩, by rw [hK_lt (by omega)]; exact h20, by rw [hK_lt (by omega)]; exact h13, by rw [hK_lt (by omega)]; exact h21, by rw [hK_lt (by omega)]; exact h15, by rw [hK_lt (by omega)]; exact h16⟩
section
variable {d r c a n : Nat} {h : LHeap} {Q : Option Value → LHeap → Prop} {f wk wt dr tk bh U D I : Int → Int} {i p m M P J sh : Int} {L : List Int}
theorem l_fill {x : Int} (hn : n ≤ 1000) (ha : ¬ a = 0) : ∀ (k : Nat) (i : Int) (f : Int → Int), 0 ≤ i → i ≤ n → n - i ≤ k → (∀ j, 0 ≤ j → j < i → f j = x) → Q none (hWr h a (cA n (fun _ => x))) → WPC d 183 6 [some (.ref a), some (vI x), some (vI i), some (vI n)] [] (hWr h a (cA n f)) Q := by
  intro k
  induction k with
  | zero =>
    intro i f h0 h1 hk hf kk
    rw [WPC_iff]
    simp (disch := omega) only [wr_id, wr_m1, sd_t, nl_I, nl_R, nl_none, c1_I, c1_R, sh_0, sh_1, sh_2, sh_3, sh_4, true_and, and_true, ldA_A, ldB_B, ldS_S, stA_A, stB_B, aL_A, aL_B, aL_S, aC_A, hRd_eq, hRd_ne, cp6, cp8, tl_some, tl_none, List.cons_append, List.nil_append, ofI_t0, ofI_t1, Int.add_zero, Int.zero_add, x183_0, x183_1, x183_2, x183_3, x183_4, x183_5, x183_6, x183_7, x183_8, x183_9, x183_10, x183_11, x183_12, x183_13, x183_14, x183_15, hWr_same]
    refine ⟨fun _ => ?_, fun q => by omega⟩
    rw [cA_ext (g := fun _ => x) (fun j q1 q2 => hf j q1 (by omega))]
    exact kk
  | succ k ih =>
    intro i f h0 h1 hk hf kk
    rw [WPC_iff]
    simp (disch := omega) only [wr_id, wr_m1, sd_t, nl_I, nl_R, nl_none, c1_I, c1_R, sh_0, sh_1, sh_2, sh_3, sh_4, true_and, and_true, ldA_A, ldB_B, ldS_S, stA_A, stB_B, aL_A, aL_B, aL_S, aC_A, hRd_eq, hRd_ne, cp6, cp8, tl_some, tl_none, List.cons_append, List.nil_append, ofI_t0, ofI_t1, Int.add_zero, Int.zero_add, x183_0, x183_1, x183_2, x183_3, x183_4, x183_5, x183_6, x183_7, x183_8, x183_9, x183_10, x183_11, x183_12, x183_13, x183_14, x183_15, hWr_same]
    refine ⟨fun q => ?_, fun q => ⟨⟨ha, by omega, by omega⟩, ?_⟩⟩
    · rw [cA_ext (g := fun _ => x) (fun j q1 q2 => hf j q1 (by omega))]
      exact kk
    · refine ih (i + 1) (uA f i x) (by omega) (by omega) (by omega) (fun j q1 q2 => ?_) kk
      unfold uA
      split
      · rfl
      · exact hf j q1 (by omega)
theorem s_fill {x : Int} (hd : 1 ≤ d) (hc : hRd h a = cA n f) (hn : n ≤ 1000) (ha : ¬ a = 0) (kk : Q none (hWr h a (cA n (fun _ => x)))) : CALL d 183 [.ref a, vI x] h Q := by
  refine cl183 (by omega) ?_
  simp (disch := omega) only [wr_id, wr_m1, sd_t, nl_I, nl_R, nl_none, c1_I, c1_R, sh_0, sh_1, sh_2, sh_3, sh_4, true_and, and_true, ldA_A, ldB_B, ldS_S, stA_A, stB_B, aL_A, aL_B, aL_S, aC_A, hRd_eq, hRd_ne, cp6, cp8, tl_some, tl_none, List.cons_append, List.nil_append, ofI_t0, ofI_t1, Int.add_zero, Int.zero_add, x183_0, x183_1, x183_2, x183_3, x183_4, x183_5, x183_6, x183_7, x183_8, x183_9, x183_10, x183_11, x183_12, x183_13, x183_14, x183_15, hc]
  have := l_fill (d := d - 1) (Q := Q) (h := h) (x := x) hn ha n 0 f (Int.le_refl _) (by omega) (by omega) (fun j q1 q2 => by omega) kk
  rw [hWr_self hc] at this
  exact this
theorem s_inMorning {x : Int} (hd : 1 ≤ d) (hC : CapH h M P J wk wt dr tk bh) (hM : 0 ≤ M ∧ M ≤ 999) (h1 : -1 ≤ x) (h2 : x ≤ 5000) (kk : Q (some (vI (if x < M then x else -1))) h) : CALL d 9 [.ref 10, vI x] h Q := by
  obtain ⟨h10, h11, -⟩ := hC
  refine cl9 (by omega) h10 ?_
  simp (disch := omega) only [wr_id, wr_m1, sd_t, nl_I, nl_R, nl_none, c1_I, c1_R, sh_0, sh_1, sh_2, sh_3, sh_4, true_and, and_true, ldA_A, ldB_B, ldS_S, stA_A, stB_B, aL_A, aL_B, aL_S, aC_A, hRd_eq, hRd_ne, cp6, cp8, tl_some, tl_none, List.cons_append, List.nil_append, ofI_t0, ofI_t1, Int.add_zero, Int.zero_add, x9_0, x9_1, x9_2, x9_3, x9_4, x9_5, x9_6, x9_7, x9_8, gf1_0, gf2_0, h10, h11]
  refine ⟨fun q => ?_, fun q => ?_⟩
  · rw [if_neg (by omega)] at kk; exact kk
  · rw [if_pos (by omega)] at kk; exact kk
theorem s_orMornings {x : Int} (hd : 1 ≤ d) (hC : CapH h M P J wk wt dr tk bh) (h1 : -1 ≤ x) (h2 : x ≤ 5000) (kk : Q (some (vI (if x = -1 then M else x))) h) : CALL d 10 [.ref 10, vI x] h Q := by
  obtain ⟨h10, h11, -⟩ := hC
  refine cl10 (by omega) h10 ?_
  simp (disch := omega) only [wr_id, wr_m1, sd_t, nl_I, nl_R, nl_none, c1_I, c1_R, sh_0, sh_1, sh_2, sh_3, sh_4, true_and, and_true, ldA_A, ldB_B, ldS_S, stA_A, stB_B, aL_A, aL_B, aL_S, aC_A, hRd_eq, hRd_ne, cp6, cp8, tl_some, tl_none, List.cons_append, List.nil_append, ofI_t0, ofI_t1, Int.add_zero, Int.zero_add, x10_0, x10_1, x10_2, x10_3, x10_4, x10_5, x10_6, x10_7, x10_8, gf1_0, gf2_0, h10, h11]
  refine ⟨fun q => ?_, fun q => ?_⟩
  · rw [if_neg (by omega)] at kk; exact kk
  · rw [if_pos (by omega)] at kk; exact kk
theorem TV_wkF (hB : CapB M P J wk wt dr tk bh) (hD : TVF D) (h0 : 0 ≤ p) (hP : p < P) : TV (wkF wk wt D p) := by
  have hb := hB.2.2.2.1 p h0 hP
  unfold wkF
  refine TV_mx (Or.inl ⟨hb.1, hb.2.1⟩) ?_
  split
  · exact Or.inl ⟨by omega, by omega⟩
  · exact hD _
theorem s_wakesAt (hd : 3 ≤ d) (hC : CapH h M P J wk wt dr tk bh) (hB : CapB M P J wk wt dr tk bh) (hD : TVF D) (h0 : 0 ≤ p) (hP : p < P) (kk : Q (some (vI (en (wkF wk wt D p)))) (hK h U (fun j => en (D j)) I)) : CALL d 7 [.ref 10, vI p] (hK h U (fun j => en (D j)) I) Q := by
  have hCK := hC.hK (U := U) (D := fun j => en (D j)) (I := I)
  obtain ⟨h10, h11, ⟨sh, mo, h17⟩, h20, h13, h21, h15, h16⟩ := hCK
  obtain ⟨hBM, hBP, hBJ, hB1, hB2⟩ := hB
  have hb := hB1 p h0 hP
  refine cl7 (by omega) h10 ?_
  simp (disch := omega) only [wr_id, wr_m1, sd_t, nl_I, nl_R, nl_none, c1_I, c1_R, sh_0, sh_1, sh_2, sh_3, sh_4, true_and, and_true, ldA_A, ldB_B, ldS_S, stA_A, stB_B, aL_A, aL_B, aL_S, aC_A, hRd_eq, hRd_ne, cp6, cp8, tl_some, tl_none, List.cons_append, List.nil_append, ofI_t0, ofI_t1, Int.add_zero, Int.zero_add, x7_0, x7_1, x7_2, x7_3, x7_4, x7_5, x7_6, x7_7, x7_8, x7_9, x7_10, x7_11, x7_12, x7_13, x7_14, x7_15, x7_16, x7_17, x7_18, x7_19, x7_20, x7_21, x7_22, x7_23, gf1_1, gf7_1, gf1_0, gf2_4, gf1_3, h10, h11, h17]
  refine s_valueAt (by omega) h20 (by omega) (by omega) (by omega) ?_
  rw [if_pos (by omega)]
  simp (disch := omega) only [wr_id, wr_m1, sd_t, nl_I, nl_R, nl_none, c1_I, c1_R, sh_0, sh_1, sh_2, sh_3, sh_4, true_and, and_true, ldA_A, ldB_B, ldS_S, stA_A, stB_B, aL_A, aL_B, aL_S, aC_A, hRd_eq, hRd_ne, cp6, cp8, tl_some, tl_none, List.cons_append, List.nil_append, ofI_t0, ofI_t1, Int.add_zero, Int.zero_add, x7_0, x7_1, x7_2, x7_3, x7_4, x7_5, x7_6, x7_7, x7_8, x7_9, x7_10, x7_11, x7_12, x7_13, x7_14, x7_15, x7_16, x7_17, x7_18, x7_19, x7_20, x7_21, x7_22, x7_23, gf1_1, gf7_1, gf1_0, gf2_4, gf1_3, h10, h11, h17]
  refine s_valueAt (by omega) h13 (by omega) (by omega) (by omega) ?_
  rw [if_pos (by omega)]
  simp (disch := omega) only [wr_id, wr_m1, sd_t, nl_I, nl_R, nl_none, c1_I, c1_R, sh_0, sh_1, sh_2, sh_3, sh_4, true_and, and_true, ldA_A, ldB_B, ldS_S, stA_A, stB_B, aL_A, aL_B, aL_S, aC_A, hRd_eq, hRd_ne, cp6, cp8, tl_some, tl_none, List.cons_append, List.nil_append, ofI_t0, ofI_t1, Int.add_zero, Int.zero_add, x7_0, x7_1, x7_2, x7_3, x7_4, x7_5, x7_6, x7_7, x7_8, x7_9, x7_10, x7_11, x7_12, x7_13, x7_14, x7_15, x7_16, x7_17, x7_18, x7_19, x7_20, x7_21, x7_22, x7_23, gf1_1, gf7_1, gf1_0, gf2_4, gf1_3, h10, h11, h17]
  refine ⟨fun q => ?_, fun q => ?_⟩
  · refine s_valueAt (by omega) hK_23 (by omega) (by omega) (by omega) ?_
    rw [if_pos (by omega)]
    simp (disch := omega) only [wr_id, wr_m1, sd_t, nl_I, nl_R, nl_none, c1_I, c1_R, sh_0, sh_1, sh_2, sh_3, sh_4, true_and, and_true, ldA_A, ldB_B, ldS_S, stA_A, stB_B, aL_A, aL_B, aL_S, aC_A, hRd_eq, hRd_ne, cp6, cp8, tl_some, tl_none, List.cons_append, List.nil_append, ofI_t0, ofI_t1, Int.add_zero, Int.zero_add, x7_0, x7_1, x7_2, x7_3, x7_4, x7_5, x7_6, x7_7, x7_8, x7_9, x7_10, x7_11, x7_12, x7_13, x7_14, x7_15, x7_16, x7_17, x7_18, x7_19, x7_20, x7_21, x7_22, x7_23, gf1_1, gf7_1, gf1_0, gf2_4, gf1_3]
    have hd1 := hD (wt p)
    have he := en_b hd1
    have hw : TV (wk p) := Or.inl ⟨hb.1, hb.2.1⟩
    have hew : en (wk p) = wk p := (en_b hw).2.2.2 (by omega)
    refine s_laterOf (by omega) (by omega) (by omega) (by omega) (by omega) ?_
    simp (disch := omega) only [wr_id, wr_m1, sd_t, nl_I, nl_R, nl_none, c1_I, c1_R, sh_0, sh_1, sh_2, sh_3, sh_4, true_and, and_true, ldA_A, ldB_B, ldS_S, stA_A, stB_B, aL_A, aL_B, aL_S, aC_A, hRd_eq, hRd_ne, cp6, cp8, tl_some, tl_none, List.cons_append, List.nil_append, ofI_t0, ofI_t1, Int.add_zero, Int.zero_add, x7_0, x7_1, x7_2, x7_3, x7_4, x7_5, x7_6, x7_7, x7_8, x7_9, x7_10, x7_11, x7_12, x7_13, x7_14, x7_15, x7_16, x7_17, x7_18, x7_19, x7_20, x7_21, x7_22, x7_23, gf1_1, gf7_1, gf1_0, gf2_4, gf1_3]
    have e1 := en_mx hw hd1
    rw [hew] at e1
    rw [e1]
    unfold wkF at kk
    rw [if_neg (by omega)] at kk
    exact kk
  · unfold wkF at kk
    rw [if_pos (by omega)] at kk
    have e1 : mx (wk p) 0 = wk p := by unfold mx; split <;> omega
    rw [e1, (en_b (Or.inl ⟨hb.1, hb.2.1⟩)).2.2.2 (by omega)] at kk
    exact kk
end
