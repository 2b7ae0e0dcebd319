-- HISTORY'S END, IMAGES, CITIES
section
variable {d b : Nat} {h : LHeap} {Q : Option Value → LHeap → Prop} {S S0 : SS} {Hs : List SS}
theorem s_takeBack0 (hd : 1 ≤ d) (hh : HiAt [] h) (kk : Q (some (vI 0)) h) : CALL d 23 [.ref 25, .ref b] h Q := by
  obtain ⟨nx, a1, -⟩ := hh
  refine cl23 (by omega) a1 ?_
  simp (disch := omega) only [wr_id, wr_m1, sd_t, nl_I, nl_R, nl_none, c1_I, c1_R, sh_0, sh_1, sh_2, sh_3, sh_4, true_and, and_true, ldA_A, ldB_B, ldS_S, stA_A, stB_B, aL_A, aL_B, aL_S, aC_A, hRd_eq, hRd_ne, cp6, cp8, tl_some, tl_none, List.cons_append, List.nil_append, ofI_t0, ofI_t1, Int.add_zero, Int.zero_add, x23_0, x23_1, x23_2, x23_3, x23_4, gf3_2, a1, List.length_nil]
  exact ⟨fun q => absurd rfl q, fun _ => kk⟩
theorem s_takeBack (hd : 4 ≤ d) (hh : HiAt (S :: Hs) h) (hs : StAt b S0 h) (hb : (0 < b ∧ b + 4 < 25) ∨ 126 < b) (kk : ∀ h1 h2, HiAt Hs h2 → StAt b S h2 → Out 25 126 h h1 → Out b (b + 4) h1 h2 → Q (some (vI 1)) h2) : CALL d 23 [.ref 25, .ref b] h Q := by
  obtain ⟨nx, a1, a2, a3, a4, a5, a6, a7⟩ := hh
  simp only [List.length_cons] at a1 a4
  refine cl23 (by omega) a1 ?_
  have key : ∀ n2 : Int, 0 ≤ n2 → n2 < 20 → (n2 - nx + 1) % 20 = 0 → WP (d - 1) 23 19 [some (.ref 25), some (.ref b), none] [vI n2, .ref 25] h Q := by
    intro n2 hn0 hn1 hmod
    have hr : histR n2 = 27 + 5 * n2.toNat := rfl
    have e26 : hRd (hWr h 25 (oHist 26 n2 (((Hs.length + 1 : Nat)) : Int))) 26 = cS 20 histR := by rw [hRd_ne (by omega)]; exact a5
    simp (disch := omega) only [wr_id, wr_m1, sd_t, nl_I, nl_R, nl_none, c1_I, c1_R, sh_0, sh_1, sh_2, sh_3, sh_4, true_and, and_true, ldA_A, ldB_B, ldS_S, stA_A, stB_B, aL_A, aL_B, aL_S, aC_A, hRd_eq, hRd_ne, cp6, cp8, tl_some, tl_none, List.cons_append, List.nil_append, ofI_t0, ofI_t1, Int.add_zero, Int.zero_add, x23_0, x23_1, x23_2, x23_3, x23_4, x23_5, x23_6, x23_7, x23_8, x23_9, x23_10, x23_11, x23_12, x23_13, x23_14, x23_15, x23_16, x23_17, x23_18, x23_19, x23_20, x23_21, x23_22, x23_23, x23_24, x23_25, x23_26, x23_27, x23_28, x23_29, x23_30, x23_31, x23_32, x23_33, x23_34, x23_35, x23_36, x23_37, x23_38, x23_39, x23_40, x23_41, x23_42, x23_43, x23_44, x23_45, x23_46, gf3_2, gf3_1, gf3_0, pf3_1, pf3_2, a1, e26]
    refine ⟨fun q => by omega, fun _ => ⟨⟨hn0, by omega⟩, ?_⟩⟩
    have o1 : Out 25 25 h (hWr h 25 (oHist 26 n2 (((Hs.length + 1 : Nat)) : Int))) := Out.refl.wr (by omega) (by omega)
    have es : slotH nx 0 = n2.toNat := by unfold slotH; omega
    have hS1 : StAt (histR n2) S (hWr h 25 (oHist 26 n2 (((Hs.length + 1 : Nat)) : Int))) := by
      have := a7 0 S rfl
      rw [es] at this
      exact this.out o1 (by omega)
    refine s_St_become (by omega) (hs.out o1 (by omega)) hS1 (by rw [hr]; omega) (by omega) (by rw [hr]; omega) (fun h2 hS2 o2 => ?_)
    have e25 : hRd h2 25 = oHist 26 n2 (((Hs.length + 1 : Nat)) : Int) := by rw [o2.2.2 _ (by omega)]; exact hRd_eq
    simp (disch := omega) only [wr_id, wr_m1, sd_t, nl_I, nl_R, nl_none, c1_I, c1_R, sh_0, sh_1, sh_2, sh_3, sh_4, true_and, and_true, ldA_A, ldB_B, ldS_S, stA_A, stB_B, aL_A, aL_B, aL_S, aC_A, hRd_eq, hRd_ne, cp6, cp8, tl_some, tl_none, List.cons_append, List.nil_append, ofI_t0, ofI_t1, Int.add_zero, Int.zero_add, x23_0, x23_1, x23_2, x23_3, x23_4, x23_5, x23_6, x23_7, x23_8, x23_9, x23_10, x23_11, x23_12, x23_13, x23_14, x23_15, x23_16, x23_17, x23_18, x23_19, x23_20, x23_21, x23_22, x23_23, x23_24, x23_25, x23_26, x23_27, x23_28, x23_29, x23_30, x23_31, x23_32, x23_33, x23_34, x23_35, x23_36, x23_37, x23_38, x23_39, x23_40, x23_41, x23_42, x23_43, x23_44, x23_45, x23_46, gf3_2, gf3_1, gf3_0, pf3_1, pf3_2, e25]
    have o3 : Out 25 25 h2 (hWr h2 25 (oHist 26 n2 ((((Hs.length + 1 : Nat)) : Int) - 1))) := Out.refl.wr (by omega) (by omega)
    refine kk (hWr h 25 (oHist 26 n2 ((((Hs.length + 1 : Nat)) : Int) - 1))) _ ⟨n2, ?_, by omega, by omega, by omega, ?_, fun j hj => ?_, fun k S1 hk => ?_⟩ ?_ (Out.refl.wr (by omega) (by omega)) ⟨?_, ?_, fun a ha => ?_⟩
    · rw [hRd_eq]
      congr 1
      omega
    · rw [hRd_ne (by omega), o2.2.2 _ (by omega)]
      exact e26
    · obtain ⟨S1, h9⟩ := a6 j hj
      exact ⟨S1, ((h9.out o1 (by omega)).out o2 (by omega)).out o3 (by omega)⟩
    · have hk2 : (S :: Hs)[k + 1]? = some S1 := hk
      have hl := (List.getElem?_eq_some_iff.mp hk).1
      have e9 : slotH n2 k = slotH nx (k + 1) := by unfold slotH; omega
      have e10 : slotH nx (k + 1) < 20 := by unfold slotH; omega
      rw [e9]
      exact (((a7 (k + 1) S1 hk2).out o1 (by omega)).out o2 (by omega)).out o3 (by omega)
    · exact hS2.out o3 (by omega)
    · exact o2.1
    · exact o2.2.1
    · by_cases e : a = 25
      · subst e
        rw [hRd_eq, hRd_eq]
      · rw [hRd_ne e, hRd_ne e, o2.2.2 a ha, hRd_ne e]
  simp (disch := omega) only [wr_id, wr_m1, sd_t, nl_I, nl_R, nl_none, c1_I, c1_R, sh_0, sh_1, sh_2, sh_3, sh_4, true_and, and_true, ldA_A, ldB_B, ldS_S, stA_A, stB_B, aL_A, aL_B, aL_S, aC_A, hRd_eq, hRd_ne, cp6, cp8, tl_some, tl_none, List.cons_append, List.nil_append, ofI_t0, ofI_t1, Int.add_zero, Int.zero_add, x23_0, x23_1, x23_2, x23_3, x23_4, x23_5, x23_6, x23_7, x23_8, x23_9, x23_10, x23_11, x23_12, x23_13, x23_14, x23_15, x23_16, x23_17, x23_18, gf3_0, gf3_1, gf3_2, a1, a5]
  refine ⟨fun _ => ⟨fun q => ?_, fun q => ?_⟩, fun q => by omega⟩
  · exact key (((20 : Nat) : Int) - 1) (by omega) (by omega) (by omega)
  · exact key (nx - 1) (by omega) (by omega) (by omega)
theorem s_hForget (hd : 1 ≤ d) (hh : HiAt Hs h) (kk : ∀ h1, HiAt [] h1 → Out 25 25 h h1 → Q none h1) : CALL d 24 [.ref 25] h Q := by
  obtain ⟨nx, a1, a2, a3, a4, a5, a6, a7⟩ := hh
  refine cl24 (by omega) a1 ?_
  simp (disch := omega) only [wr_id, wr_m1, sd_t, nl_I, nl_R, nl_none, c1_I, c1_R, sh_0, sh_1, sh_2, sh_3, sh_4, true_and, and_true, ldA_A, ldB_B, ldS_S, stA_A, stB_B, aL_A, aL_B, aL_S, aC_A, hRd_eq, hRd_ne, cp6, cp8, tl_some, tl_none, List.cons_append, List.nil_append, ofI_t0, ofI_t1, Int.add_zero, Int.zero_add, x24_0, x24_1, x24_2, x24_3, pf3_2, a1]
  have o : Out 25 25 h (hWr h 25 (oHist 26 nx 0)) := Out.refl.wr (by omega) (by omega)
  refine kk _ ⟨nx, hRd_eq, a2, a3, by simp, ?_, fun j hj => ?_, fun k S hk => by simp at hk⟩ o
  · rw [hRd_ne (by omega)]; exact a5
  · obtain ⟨S1, h9⟩ := a6 j hj
    exact ⟨S1, h9.out o (by omega)⟩
def imgR : Int → Nat := fun i => 131 + 5 * i.toNat
def uS (f : Int → SS) (k : Int) (x : SS) : Int → SS := fun j => if j = k then x else f j
def ImAt (kp sd : Int → Int) (im : Int → SS) (h : LHeap) : Prop := hRd h 127 = oImg 128 129 130 ∧ hRd h 128 = cS 2 imgR ∧ hRd h 129 = cA 2 sd ∧ hRd h 130 = cB 2 kp ∧ (∀ i, 0 ≤ i → i < 2 → kp i = 0 ∨ kp i = 1) ∧ ∀ i, 0 ≤ i → i < 2 → StAt (imgR i) (im i) h
theorem ImAt.out {kp sd : Int → Int} {im : Int → SS} {lo hi : Nat} {h1 : LHeap} (hh : ImAt kp sd im h) (o : Out lo hi h h1) (e : 140 < lo ∨ hi < 127) : ImAt kp sd im h1 := by
  obtain ⟨a1, a2, a3, a4, a5, a6⟩ := hh
  refine ⟨by rw [o.2.2 _ (by omega)]; exact a1, by rw [o.2.2 _ (by omega)]; exact a2, by rw [o.2.2 _ (by omega)]; exact a3, by rw [o.2.2 _ (by omega)]; exact a4, a5, fun i h0 h2 => (a6 i h0 h2).out o ?_⟩
  have : imgR i = 131 + 5 * i.toNat := rfl
  omega
theorem s_store {kp sd : Int → Int} {im : Int → SS} {i x : Int} (hd : 4 ≤ d) (hh : ImAt kp sd im h) (hs : StAt b S h) (hb : 0 < b ∧ b + 4 < 127) (h0 : 0 ≤ i) (h2 : i < 2) (kk : ∀ h1, ImAt (uA kp i 1) (uA sd i x) (uS im i S) h1 → Out 127 140 h h1 → Q none h1) : CALL d 26 [.ref 127, vI i, .ref b, vI x] h Q := by
  obtain ⟨a1, a2, a3, a4, a5, a6⟩ := hh
  refine cl26 (by omega) a1 ?_
  have hr : imgR i = 131 + 5 * i.toNat := rfl
  simp (disch := omega) only [wr_id, wr_m1, sd_t, nl_I, nl_R, nl_none, c1_I, c1_R, sh_0, sh_1, sh_2, sh_3, sh_4, true_and, and_true, ldA_A, ldB_B, ldS_S, stA_A, stB_B, aL_A, aL_B, aL_S, aC_A, hRd_eq, hRd_ne, cp6, cp8, tl_some, tl_none, List.cons_append, List.nil_append, ofI_t0, ofI_t1, Int.add_zero, Int.zero_add, x26_0, x26_1, x26_2, x26_3, x26_4, x26_5, x26_6, x26_7, x26_8, x26_9, x26_10, x26_11, x26_12, x26_13, x26_14, x26_15, x26_16, x26_17, x26_18, x26_19, x26_20, x26_21, x26_22, x26_23, x26_24, x26_25, x26_26, x26_27, x26_28, x26_29, gf4_0, gf4_1, gf4_2, a1, a2]
  refine ⟨fun q => by omega, fun _ => ⟨fun q => by omega, fun _ => ⟨by omega, ?_⟩⟩⟩
  refine s_St_become (by omega) (a6 i h0 h2) hs (by rw [hr]; omega) (by rw [hr]; omega) (by omega) (fun h1 hS1 o1 => ?_)
  have b1 : hRd h1 127 = oImg 128 129 130 := by rw [o1.2.2 _ (by rw [hr]; omega)]; exact a1
  have b3 : hRd h1 129 = cA 2 sd := by rw [o1.2.2 _ (by rw [hr]; omega)]; exact a3
  have b4 : hRd h1 130 = cB 2 kp := by rw [o1.2.2 _ (by rw [hr]; omega)]; exact a4
  simp (disch := omega) only [wr_id, wr_m1, sd_t, nl_I, nl_R, nl_none, c1_I, c1_R, sh_0, sh_1, sh_2, sh_3, sh_4, true_and, and_true, ldA_A, ldB_B, ldS_S, stA_A, stB_B, aL_A, aL_B, aL_S, aC_A, hRd_eq, hRd_ne, cp6, cp8, tl_some, tl_none, List.cons_append, List.nil_append, ofI_t0, ofI_t1, Int.add_zero, Int.zero_add, x26_0, x26_1, x26_2, x26_3, x26_4, x26_5, x26_6, x26_7, x26_8, x26_9, x26_10, x26_11, x26_12, x26_13, x26_14, x26_15, x26_16, x26_17, x26_18, x26_19, x26_20, x26_21, x26_22, x26_23, x26_24, x26_25, x26_26, x26_27, x26_28, x26_29, gf4_0, gf4_1, gf4_2, b1, b3, b4]
  refine ⟨by omega, by omega, ?_⟩
  have o2 : Out 129 130 h1 (hWr (hWr h1 129 (cA 2 (uA sd i x))) 130 (cB 2 (uA kp i 1))) := (Out.refl.wr (by omega) (by omega)).wr (by omega) (by omega)
  refine kk _ ⟨?_, ?_, ?_, ?_, fun j q1 q2 => ?_, fun j q1 q2 => ?_⟩ ((o1.widen (by rw [hr]; omega) (by rw [hr]; omega)).trans (o2.widen (by omega) (by omega)))
  · rw [hRd_ne (by omega), hRd_ne (by omega)]; exact b1
  · rw [hRd_ne (by omega), hRd_ne (by omega), o1.2.2 _ (by rw [hr]; omega)]; exact a2
  · rw [hRd_ne (by omega), hRd_eq]
  · exact hRd_eq
  · unfold uA
    split
    · exact Or.inr rfl
    · exact a5 j q1 q2
  · unfold uS
    have hrj : imgR j = 131 + 5 * j.toNat := rfl
    split
    · rename_i e
      subst e
      exact hS1.out o2 (by rw [hr]; omega)
    · exact ((a6 j q1 q2).out o1 (by rw [hr, hrj]; omega)).out o2 (by rw [hrj]; omega)
theorem s_restore {kp sd : Int → Int} {im : Int → SS} {i : Int} (hd : 4 ≤ d) (hh : ImAt kp sd im h) (hs : StAt b S h) (hb : 0 < b ∧ b + 4 < 127) (h0 : 0 ≤ i) (h2 : i < 2) (kk : ∀ h1, StAt b (im i) h1 → Out b (b + 4) h h1 → Q none h1) : CALL d 27 [.ref 127, vI i, .ref b] h Q := by
  obtain ⟨a1, a2, a3, a4, a5, a6⟩ := hh
  refine cl27 (by omega) a1 ?_
  have hr : imgR i = 131 + 5 * i.toNat := rfl
  simp (disch := omega) only [wr_id, wr_m1, sd_t, nl_I, nl_R, nl_none, c1_I, c1_R, sh_0, sh_1, sh_2, sh_3, sh_4, true_and, and_true, ldA_A, ldB_B, ldS_S, stA_A, stB_B, aL_A, aL_B, aL_S, aC_A, hRd_eq, hRd_ne, cp6, cp8, tl_some, tl_none, List.cons_append, List.nil_append, ofI_t0, ofI_t1, Int.add_zero, Int.zero_add, x27_0, x27_1, x27_2, x27_3, x27_4, x27_5, x27_6, x27_7, x27_8, x27_9, x27_10, x27_11, x27_12, x27_13, x27_14, x27_15, x27_16, x27_17, x27_18, x27_19, gf4_0, a1, a2]
  refine ⟨fun q => by omega, fun _ => ⟨fun q => by omega, fun _ => ⟨by omega, ?_⟩⟩⟩
  refine s_St_become (by omega) hs (a6 i h0 h2) (by rw [hr]; omega) (by omega) (by rw [hr]; omega) (fun h1 hS1 o1 => ?_)
  simp (disch := omega) only [wr_id, wr_m1, sd_t, nl_I, nl_R, nl_none, c1_I, c1_R, sh_0, sh_1, sh_2, sh_3, sh_4, true_and, and_true, ldA_A, ldB_B, ldS_S, stA_A, stB_B, aL_A, aL_B, aL_S, aC_A, hRd_eq, hRd_ne, cp6, cp8, tl_some, tl_none, List.cons_append, List.nil_append, ofI_t0, ofI_t1, Int.add_zero, Int.zero_add, x27_0, x27_1, x27_2, x27_3, x27_4, x27_5, x27_6, x27_7, x27_8, x27_9, x27_10, x27_11, x27_12, x27_13, x27_14, x27_15, x27_16, x27_17, x27_18, x27_19, gf4_0]
  exact kk h1 hS1 o1
theorem s_iForget {kp sd : Int → Int} {im : Int → SS} (hd : 1 ≤ d) (hh : ImAt kp sd im h) (kk : ∀ h1, ImAt (fun _ => 0) sd im h1 → Out 130 130 h h1 → Q none h1) : CALL d 28 [.ref 127] h Q := by
  obtain ⟨a1, a2, a3, a4, a5, a6⟩ := hh
  refine cl28 (by omega) a1 ?_
  have key : ∀ (n : Nat) (i : Int) (kp : Int → Int), (n : Int) = 2 - i → 0 ≤ i → (∀ j, 0 ≤ j → j < i → kp j = 0) → WPC (d - 1) 28 3 [some (.ref 127), some (vI i)] [] (hWr h 130 (cB 2 kp)) Q := by
    intro n
    induction n with
    | zero =>
      intro i kp hn h0 hk
      rw [WPC_iff]
      simp (disch := omega) only [wr_id, wr_m1, sd_t, nl_I, nl_R, nl_none, c1_I, c1_R, sh_0, sh_1, sh_2, sh_3, sh_4, true_and, and_true, ldA_A, ldB_B, ldS_S, stA_A, stB_B, aL_A, aL_B, aL_S, aC_A, hRd_eq, hRd_ne, cp6, cp8, tl_some, tl_none, List.cons_append, List.nil_append, ofI_t0, ofI_t1, Int.add_zero, Int.zero_add, x28_0, x28_1, x28_2, x28_3, x28_4, x28_5, x28_6, x28_7, x28_8, x28_9, x28_10, x28_11, x28_12, x28_13, x28_14, x28_15, gf4_2, a1]
      refine ⟨fun _ => ?_, fun q => by omega⟩
      have e : cB 2 kp = cB 2 (fun _ => 0) := by
        unfold cB
        congr 3
        apply List.map_congr_left
        intro j hj
        have := List.mem_range.mp hj
        rw [hk (j : Int) (by omega) (by omega)]
      rw [e]
      have o : Out 130 130 h (hWr h 130 (cB 2 (fun _ => 0))) := Out.refl.wr (by omega) (by omega)
      refine kk _ ⟨?_, ?_, ?_, hRd_eq, fun i _ _ => Or.inl rfl, fun i q1 q2 => (a6 i q1 q2).out o ?_⟩ o
      · rw [hRd_ne (by omega)]; exact a1
      · rw [hRd_ne (by omega)]; exact a2
      · rw [hRd_ne (by omega)]; exact a3
      · have : imgR i = 131 + 5 * i.toNat := rfl
        omega
    | succ n ih =>
      intro i kp hn h0 hk
      rw [WPC_iff]
      simp (disch := omega) only [wr_id, wr_m1, sd_t, nl_I, nl_R, nl_none, c1_I, c1_R, sh_0, sh_1, sh_2, sh_3, sh_4, true_and, and_true, ldA_A, ldB_B, ldS_S, stA_A, stB_B, aL_A, aL_B, aL_S, aC_A, hRd_eq, hRd_ne, cp6, cp8, tl_some, tl_none, List.cons_append, List.nil_append, ofI_t0, ofI_t1, Int.add_zero, Int.zero_add, x28_0, x28_1, x28_2, x28_3, x28_4, x28_5, x28_6, x28_7, x28_8, x28_9, x28_10, x28_11, x28_12, x28_13, x28_14, x28_15, gf4_2, a1, hWr_same]
      refine ⟨fun q => by omega, fun _ => ⟨by omega, ?_⟩⟩
      refine ih (i + 1) _ (by omega) (by omega) (fun j q1 q2 => ?_)
      unfold uA
      split
      · rfl
      · exact hk j q1 (by omega)
  simp (disch := omega) only [wr_id, wr_m1, sd_t, nl_I, nl_R, nl_none, c1_I, c1_R, sh_0, sh_1, sh_2, sh_3, sh_4, true_and, and_true, ldA_A, ldB_B, ldS_S, stA_A, stB_B, aL_A, aL_B, aL_S, aC_A, hRd_eq, hRd_ne, cp6, cp8, tl_some, tl_none, List.cons_append, List.nil_append, ofI_t0, ofI_t1, Int.add_zero, Int.zero_add, x28_0, x28_1, x28_2, x28_3, x28_4, x28_5, x28_6, x28_7, x28_8, x28_9, x28_10, x28_11, x28_12, x28_13, x28_14, x28_15, gf4_2]
  have := key 2 0 kp (by omega) (by omega) (fun j q1 q2 => by omega)
  rw [hWr_self a4] at this
  exact this
end
def CiAt (b : Nat) (M P J : Int) (wk wt dr tk bh : Int → Int) (h : LHeap) : Prop := hRd h b = oCity M P J (b + 1) (b + 2) (b + 3) (b + 4) (b + 5) ∧ hRd h (b + 1) = cA 6 wk ∧ hRd h (b + 2) = cA 6 wt ∧ hRd h (b + 3) = cA 8 dr ∧ hRd h (b + 4) = cA 8 tk ∧ hRd h (b + 5) = cA 8 bh
section
variable {d b b2 : Nat} {h : LHeap} {Q : Option Value → LHeap → Prop} {M P J M2 P2 J2 : Int} {wk wt dr tk bh wk2 wt2 dr2 tk2 bh2 : Int → Int}
theorem CiAt.out {lo hi : Nat} {h1 : LHeap} (hh : CiAt b M P J wk wt dr tk bh h) (o : Out lo hi h h1) (e : b + 5 < lo ∨ hi < b) : CiAt b M P J wk wt dr tk bh h1 := by
  obtain ⟨a1, a2, a3, a4, a5, a6⟩ := hh
  exact ⟨by rw [o.2.2 _ (by omega)]; exact a1, by rw [o.2.2 _ (by omega)]; exact a2, by rw [o.2.2 _ (by omega)]; exact a3, by rw [o.2.2 _ (by omega)]; exact a4, by rw [o.2.2 _ (by omega)]; exact a5, by rw [o.2.2 _ (by omega)]; exact a6⟩
theorem s_Ci_become (hd : 2 ≤ d) (hs : CiAt b M P J wk wt dr tk bh h) (hs2 : CiAt b2 M2 P2 J2 wk2 wt2 dr2 tk2 bh2 h) (hne : b + 5 < b2 ∨ b2 + 5 < b) (h0 : 0 < b) (h02 : 0 < b2) (kk : ∀ h1, CiAt b M2 P2 J2 wk2 wt2 dr2 tk2 bh2 h1 → Out b (b + 5) h h1 → Q none h1) : CALL d 18 [.ref b, .ref b2] h Q := by
  obtain ⟨a1, a2, a3, a4, a5, a6⟩ := hs
  obtain ⟨c1, c2, c3, c4, c5, c6⟩ := hs2
  refine cl18 (by omega) a1 ?_
  simp (disch := omega) only [wr_id, wr_m1, sd_t, nl_I, nl_R, nl_none, c1_I, c1_R, sh_0, sh_1, sh_2, sh_3, sh_4, true_and, and_true, ldA_A, ldB_B, ldS_S, stA_A, stB_B, aL_A, aL_B, aL_S, aC_A, hRd_eq, hRd_ne, cp6, cp8, tl_some, tl_none, List.cons_append, List.nil_append, ofI_t0, ofI_t1, Int.add_zero, Int.zero_add, x18_0, x18_1, x18_2, x18_3, x18_4, x18_5, x18_6, x18_7, x18_8, x18_9, x18_10, x18_11, x18_12, x18_13, x18_14, x18_15, x18_16, x18_17, x18_18, x18_19, x18_20, x18_21, x18_22, x18_23, x18_24, x18_25, x18_26, x18_27, x18_28, x18_29, x18_30, x18_31, x18_32, x18_33, x18_34, x18_35, x18_36, x18_37, x18_38, x18_39, x18_40, x18_41, x18_42, x18_43, x18_44, x18_45, x18_46, x18_47, x18_48, x18_49, x18_50, x18_51, x18_52, gf2_0, pf2_0, gf2_1, pf2_1, gf2_2, pf2_2, gf2_3, gf2_4, gf2_5, gf2_6, gf2_7, a1, a2, a3, a4, a5, a6, c1, c2, c3, c4, c5, c6, hWr_same]
  refine ⟨⟨by omega, by omega⟩, ⟨by omega, by omega⟩, ⟨by omega, by omega⟩, ⟨by omega, by omega⟩, ⟨by omega, by omega⟩, ?_⟩
  apply kk
  · refine ⟨?_, ?_, ?_, ?_, ?_, ?_⟩ <;> simp (disch := omega) only [hRd_eq, hRd_ne]
  · exact (((((Out.refl.wr (by omega) (by omega)).wr (by omega) (by omega)).wr (by omega) (by omega)).wr (by omega) (by omega)).wr (by omega) (by omega)).wr (by omega) (by omega)
theorem s_Ci_clear (hd : 1 ≤ d) (hs : CiAt b M P J wk wt dr tk bh h) (kk : ∀ h1, CiAt b 0 0 0 wk wt dr tk bh h1 → Out b b h h1 → Q none h1) : CALL d 17 [.ref b] h Q := by
  obtain ⟨a1, a2, a3, a4, a5, a6⟩ := hs
  refine cl17 (by omega) a1 ?_
  simp (disch := omega) only [wr_id, wr_m1, sd_t, nl_I, nl_R, nl_none, c1_I, c1_R, sh_0, sh_1, sh_2, sh_3, sh_4, true_and, and_true, ldA_A, ldB_B, ldS_S, stA_A, stB_B, aL_A, aL_B, aL_S, aC_A, hRd_eq, hRd_ne, cp6, cp8, tl_some, tl_none, List.cons_append, List.nil_append, ofI_t0, ofI_t1, Int.add_zero, Int.zero_add, x17_0, x17_1, x17_2, x17_3, x17_4, x17_5, x17_6, x17_7, x17_8, x17_9, pf2_0, pf2_1, pf2_2, a1, hWr_same]
  apply kk
  · refine ⟨?_, ?_, ?_, ?_, ?_, ?_⟩ <;> simp (disch := omega) only [hRd_eq, hRd_ne, a2, a3, a4, a5, a6]
  · exact Out.refl.wr (by omega) (by omega)
theorem s_Ci_addP {x : Int} (hd : 1 ≤ d) (hs : CiAt b M P J wk wt dr tk bh h) (h0 : 0 < b) (hP : 0 ≤ P ∧ P < 6) (kk : ∀ h1, CiAt b M (P + 1) J (uA wk P x) (uA wt P (-1)) dr tk bh h1 → Out b (b + 5) h h1 → Q none h1) : CALL d 19 [.ref b, vI x] h Q := by
  obtain ⟨a1, a2, a3, a4, a5, a6⟩ := hs
  refine cl19 (by omega) a1 ?_
  simp (disch := omega) only [wr_id, wr_m1, sd_t, nl_I, nl_R, nl_none, c1_I, c1_R, sh_0, sh_1, sh_2, sh_3, sh_4, true_and, and_true, ldA_A, ldB_B, ldS_S, stA_A, stB_B, aL_A, aL_B, aL_S, aC_A, hRd_eq, hRd_ne, cp6, cp8, tl_some, tl_none, List.cons_append, List.nil_append, ofI_t0, ofI_t1, Int.add_zero, Int.zero_add, x19_0, x19_1, x19_2, x19_3, x19_4, x19_5, x19_6, x19_7, x19_8, x19_9, x19_10, x19_11, x19_12, x19_13, x19_14, x19_15, x19_16, x19_17, x19_18, x19_19, x19_20, x19_21, x19_22, gf2_1, gf2_3, gf2_4, pf2_1, a1, a2, a3, a4, a5, a6, hWr_same]
  refine ⟨fun q => by omega, fun _ => ⟨by omega, by omega, ?_⟩⟩
  apply kk
  · refine ⟨?_, ?_, ?_, ?_, ?_, ?_⟩ <;> simp (disch := omega) only [hRd_eq, hRd_ne, a4, a5, a6]
  · exact ((Out.refl.wr (by omega) (by omega)).wr (by omega) (by omega)).wr (by omega) (by omega)
theorem s_Ci_addJ {x y z : Int} (hd : 1 ≤ d) (hs : CiAt b M P J wk wt dr tk bh h) (h0 : 0 < b) (hJ : 0 ≤ J ∧ J < 8) (kk : ∀ h1, CiAt b M P (J + 1) wk wt (uA dr J x) (uA tk J y) (uA bh J z) h1 → Out b (b + 5) h h1 → Q none h1) : CALL d 20 [.ref b, vI x, vI y, vI z] h Q := by
  obtain ⟨a1, a2, a3, a4, a5, a6⟩ := hs
  refine cl20 (by omega) a1 ?_
  simp (disch := omega) only [wr_id, wr_m1, sd_t, nl_I, nl_R, nl_none, c1_I, c1_R, sh_0, sh_1, sh_2, sh_3, sh_4, true_and, and_true, ldA_A, ldB_B, ldS_S, stA_A, stB_B, aL_A, aL_B, aL_S, aC_A, hRd_eq, hRd_ne, cp6, cp8, tl_some, tl_none, List.cons_append, List.nil_append, ofI_t0, ofI_t1, Int.add_zero, Int.zero_add, x20_0, x20_1, x20_2, x20_3, x20_4, x20_5, x20_6, x20_7, x20_8, x20_9, x20_10, x20_11, x20_12, x20_13, x20_14, x20_15, x20_16, x20_17, x20_18, x20_19, x20_20, x20_21, x20_22, x20_23, x20_24, x20_25, x20_26, x20_27, x20_28, gf2_2, gf2_5, gf2_6, gf2_7, pf2_2, a1, a2, a3, a4, a5, a6, hWr_same]
  refine ⟨fun q => by omega, fun _ => ⟨by omega, by omega, by omega, ?_⟩⟩
  apply kk
  · refine ⟨?_, ?_, ?_, ?_, ?_, ?_⟩ <;> simp (disch := omega) only [hRd_eq, hRd_ne, a2, a3]
  · exact (((Out.refl.wr (by omega) (by omega)).wr (by omega) (by omega)).wr (by omega) (by omega)).wr (by omega) (by omega)
theorem s_lowBits {x : Int} (hd : 1 ≤ d) (kk : Q (some (vI (zshl 1 x - 1))) h) : CALL d 101 [vI x] h Q := by
  refine cl101 (by omega) ?_
  simp (disch := omega) only [wr_id, wr_m1, sd_t, nl_I, nl_R, nl_none, c1_I, c1_R, sh_0, sh_1, sh_2, sh_3, sh_4, true_and, and_true, ldA_A, ldB_B, ldS_S, stA_A, stB_B, aL_A, aL_B, aL_S, aC_A, hRd_eq, hRd_ne, cp6, cp8, tl_some, tl_none, List.cons_append, List.nil_append, ofI_t0, ofI_t1, Int.add_zero, Int.zero_add, x101_0, x101_1, x101_2, x101_3, x101_4, x101_5]
  exact kk
theorem s_St_begin {S : SS} (hd : 4 ≤ d) (hs : StAt b S h) (hs2 : CiAt b2 M P J wk wt dr tk bh h) (hne : b + 4 < b2 ∨ b2 + 5 < b) (h0 : 0 < b) (h02 : 0 < b2) (kk : ∀ h1, StAt b (lineL (zshl 1 P - 1) P6, wk, dr, 0, 0) h1 → Out b (b + 4) h h1 → Q none h1) : CALL d 55 [.ref b, .ref b2] h Q := by
  obtain ⟨a1, ⟨f, a2, a3, a4⟩, a5, a6⟩ := hs
  obtain ⟨c1, c2, c3, c4, c5, c6⟩ := hs2
  refine cl55 (by omega) a1 ?_
  simp (disch := omega) only [wr_id, wr_m1, sd_t, nl_I, nl_R, nl_none, c1_I, c1_R, sh_0, sh_1, sh_2, sh_3, sh_4, true_and, and_true, ldA_A, ldB_B, ldS_S, stA_A, stB_B, aL_A, aL_B, aL_S, aC_A, hRd_eq, hRd_ne, cp6, cp8, tl_some, tl_none, List.cons_append, List.nil_append, ofI_t0, ofI_t1, Int.add_zero, Int.zero_add, x55_0, x55_1, x55_2, x55_3, x55_4, x55_5, x55_6, x55_7, x55_8, x55_9, x55_10, x55_11, x55_12, x55_13, x55_14, x55_15, x55_16, x55_17, x55_18, x55_19, x55_20, x55_21, x55_22, x55_23, x55_24, x55_25, x55_26, x55_27, x55_28, gf7_0, gf2_1, gf2_3, gf7_1, gf2_5, gf7_2, pf7_3, pf7_4, a1, c1]
  refine s_lowBits (by omega) ?_
  simp (disch := omega) only [wr_id, wr_m1, sd_t, nl_I, nl_R, nl_none, c1_I, c1_R, sh_0, sh_1, sh_2, sh_3, sh_4, true_and, and_true, ldA_A, ldB_B, ldS_S, stA_A, stB_B, aL_A, aL_B, aL_S, aC_A, hRd_eq, hRd_ne, cp6, cp8, tl_some, tl_none, List.cons_append, List.nil_append, ofI_t0, ofI_t1, Int.add_zero, Int.zero_add, x55_0, x55_1, x55_2, x55_3, x55_4, x55_5, x55_6, x55_7, x55_8, x55_9, x55_10, x55_11, x55_12, x55_13, x55_14, x55_15, x55_16, x55_17, x55_18, x55_19, x55_20, x55_21, x55_22, x55_23, x55_24, x55_25, x55_26, x55_27, x55_28, gf7_0, gf2_1, gf2_3, gf7_1, gf2_5, gf7_2, pf7_3, pf7_4, a1, c1]
  refine s_line (by omega) a2 a3 (by omega) (fun f1 hR1 => ?_)
  simp (disch := omega) only [wr_id, wr_m1, sd_t, nl_I, nl_R, nl_none, c1_I, c1_R, sh_0, sh_1, sh_2, sh_3, sh_4, true_and, and_true, ldA_A, ldB_B, ldS_S, stA_A, stB_B, aL_A, aL_B, aL_S, aC_A, hRd_eq, hRd_ne, cp6, cp8, tl_some, tl_none, List.cons_append, List.nil_append, ofI_t0, ofI_t1, Int.add_zero, Int.zero_add, x55_0, x55_1, x55_2, x55_3, x55_4, x55_5, x55_6, x55_7, x55_8, x55_9, x55_10, x55_11, x55_12, x55_13, x55_14, x55_15, x55_16, x55_17, x55_18, x55_19, x55_20, x55_21, x55_22, x55_23, x55_24, x55_25, x55_26, x55_27, x55_28, gf7_0, gf2_1, gf2_3, gf7_1, gf2_5, gf7_2, pf7_3, pf7_4, a1, c1, a5, a6, c2, c4, hWr_same]
  refine ⟨⟨by omega, by omega⟩, ⟨by omega, by omega⟩, ?_⟩
  apply kk
  · refine ⟨?_, ⟨f1, ?_, ?_, hR1⟩, ?_, ?_⟩ <;> simp (disch := omega) only [hRd_eq, hRd_ne]
  · exact ((((Out.refl.wr (by omega) (by omega)).wr (by omega) (by omega)).wr (by omega) (by omega)).wr (by omega) (by omega)).wr (by omega) (by omega)
end
