-- THE REFERENCE: orders changed
theorem RI.u6 {f : Int → Int} {m x i : Int} {L : List Int} (h : RI f m L) (hi : 6 ≤ i) : RI (uA f i x) m L := by
  obtain ⟨h1, h2, h3, h4⟩ := h
  refine ⟨h1, h2, fun j y hj => ?_, h4⟩
  have hl := (List.getElem?_eq_some_iff.mp hj).1
  unfold uA
  rw [if_neg (by omega)]
  exact h3 j y hj
theorem RI.same {f g : Int → Int} {m : Int} {L : List Int} (h : RI f m L) (e : ∀ i, 0 ≤ i → i < m → g i = f i) : RI g m L := by
  obtain ⟨h1, h2, h3, h4⟩ := h
  refine ⟨h1, h2, fun j y hj => ?_, h4⟩
  have hl := (List.getElem?_eq_some_iff.mp hj).1
  rw [e _ (by omega) (by omega)]
  exact h3 j y hj
theorem RI.nr {f : Int → Int} {m : Int} {L : List Int} (h : RI f m L) (e : f 6 = m) : NR L f := by
  have := h.1
  exact ⟨by rw [← this]; exact h, by omega⟩
theorem NR.ri {g : Int → Int} {L : List Int} (h : NR L g) : RI g (g 6) L := by rw [h.2]; exact h.1
theorem shD_ge {f : Int → Int} {a i j : Int} (h : i ≤ j) : shD f a i j = f j := if_neg (by omega)
theorem shU_gt {f : Int → Int} {a i j : Int} (h : i < j) : shU f a i j = f j := if_neg (by omega)
theorem uA_ne {f : Int → Int} {i x j : Int} (h : ¬ j = i) : uA f i x j = f j := if_neg h
theorem uA_eq {f : Int → Int} {i x : Int} : uA f i x i = x := if_pos rfl
theorem swF_ge {f : Int → Int} {a b i : Int} (ha : a < i) (hb : b < i) : swF f a b i = f i := by
  unfold swF
  rw [uA_ne (by omega), uA_ne (by omega)]
theorem rvF_ge : ∀ (n : Nat) {f : Int → Int} {a b i : Int}, b < i → rvF n f a b i = f i := by
  intro n
  induction n with
  | zero => intro f a b i _; rfl
  | succ n ih =>
    intro f a b i hb
    rw [rvF]
    split
    · rw [ih (by omega), swF_ge (by omega) hb]
    · rfl
theorem nxF_ge {f : Int → Int} {m i : Int} (hm : m ≤ i) (h0 : 0 ≤ nxK f m) : nxF f m i = f i := by
  have h1 := nxK_b f m
  have h2 := (jSr_le 7 f (nxK f m) (m - 1)).1
  unfold nxF
  rw [rvF_ge 7 (by omega), swF_ge (by omega) (by omega)]
section
variable {d : Nat} {h : LHeap} {Q : Option Value → LHeap → Prop} {wk wt dr tk bh g w D U : Int → Int} {M P J sh x y s p pl : Int} {z : Nat → Int} {L O : List Int}
theorem l_tkOut (hN : NR L g) (h0 : 0 ≤ pl) : ∀ (n : Nat) (i : Int) (h : LHeap), (n : Int) = g 6 - 1 - i → pl ≤ i → i ≤ g 6 - 1 → hRd h 156 = oM z → hRd h 160 = cA 24 (shD g pl i) → (∀ h1, hRd h1 160 = cA 24 (uA (shD g pl (g 6 - 1)) 6 (g 6 - 1)) → Out 160 160 h h1 → Q none h1) → WPC d 141 3 [some (.ref 156), some (vI pl), some (vI i)] [] h Q := by
  have g6 := hN.g6
  intro n
  induction n with
  | zero =>
    intro i h hn hi hi2 h1 hg kk
    have e6 : shD g pl i 6 = g 6 := shD_ge (by omega)
    have ei : i = g 6 - 1 := by omega
    rw [WPC_iff]
    simp (disch := omega) only [wr_id, wr_m1, sd_t, nl_I, nl_R, nl_none, c1_I, c1_R, sh_0, sh_1, sh_2, sh_3, sh_4, true_and, and_true, ldA_A, ldB_B, ldS_S, stA_A, stB_B, aL_A, aL_B, aL_S, aC_A, hRd_eq, hRd_ne, cp6, cp8, tl_some, tl_none, List.cons_append, List.nil_append, ofI_t0, ofI_t1, Int.add_zero, Int.zero_add, x141_3, x141_4, x141_5, x141_6, x141_7, x141_8, x141_9, x141_10, x141_23, x141_24, x141_25, x141_26, x141_27, x141_28, x141_29, x141_30, x141_31, gf11_0, pf11_0, gf11_1, pf11_1, gf11_2, pf11_2, gf11_3, gf11_4, gf11_5, gf11_6, gf11_7, pf11_7, gf11_8, gf11_9, pf11_9, gf11_10, pf11_10, gf11_11, pf11_11, gf11_12, pf11_12, gf11_13, pf11_13, gf11_14, gf11_15, pf11_15, gf11_16, gf11_17, pf11_17, gf11_18, gf11_19, gf11_20, gf11_21, gf11_22, gf11_23, gf11_24, pf11_24, gf11_25, gf11_26, gf11_27, gf11_28, pf11_28, gf11_29, pf11_29, gf11_30, gf11_31, gf11_32, pf11_32, gf11_33, gf11_34, gf11_35, pf11_35, gf11_36, gf11_37, gf11_38, gf11_39, uN_eq, uN_ne, h1, hg, e6]
    refine ⟨by omega, fun _ => ⟨by omega, by omega, ?_⟩, fun q => by omega⟩
    have kk := kk (hWr h 160 (cA 24 (uA (shD g pl i) 6 (g 6 - 1)))) (by rw [hRd_eq, ei]) (Out.refl.wr (by omega) (by omega))
    exact kk
  | succ n ih =>
    intro i h hn hi hi2 h1 hg kk
    have e6 : shD g pl i 6 = g 6 := shD_ge (by omega)
    rw [WPC_iff]
    simp (disch := omega) only [wr_id, wr_m1, sd_t, nl_I, nl_R, nl_none, c1_I, c1_R, sh_0, sh_1, sh_2, sh_3, sh_4, true_and, and_true, ldA_A, ldB_B, ldS_S, stA_A, stB_B, aL_A, aL_B, aL_S, aC_A, hRd_eq, hRd_ne, cp6, cp8, tl_some, tl_none, List.cons_append, List.nil_append, ofI_t0, ofI_t1, Int.add_zero, Int.zero_add, x141_2, x141_3, x141_4, x141_5, x141_6, x141_7, x141_8, x141_9, x141_10, x141_11, x141_12, x141_13, x141_14, x141_15, x141_16, x141_17, x141_18, x141_19, x141_20, x141_21, x141_22, gf11_0, pf11_0, gf11_1, pf11_1, gf11_2, pf11_2, gf11_3, gf11_4, gf11_5, gf11_6, gf11_7, pf11_7, gf11_8, gf11_9, pf11_9, gf11_10, pf11_10, gf11_11, pf11_11, gf11_12, pf11_12, gf11_13, pf11_13, gf11_14, gf11_15, pf11_15, gf11_16, gf11_17, pf11_17, gf11_18, gf11_19, gf11_20, gf11_21, gf11_22, gf11_23, gf11_24, pf11_24, gf11_25, gf11_26, gf11_27, gf11_28, pf11_28, gf11_29, pf11_29, gf11_30, gf11_31, gf11_32, pf11_32, gf11_33, gf11_34, gf11_35, pf11_35, gf11_36, gf11_37, gf11_38, gf11_39, uN_eq, uN_ne, h1, hg, e6]
    refine ⟨by omega, fun q => by omega, fun _ => ⟨by omega, by omega, ?_⟩⟩
    rw [shD_s hi]
    have ow : Out 160 160 h (hWr h 160 (cA 24 (shD g pl (i + 1)))) := Out.refl.wr (by omega) (by omega)
    exact ih (i + 1) _ (by omega) (by omega) (by omega) (by rw [hRd_ne (by omega)]; exact h1) hRd_eq (fun h2 e2 o2 => kk h2 e2 (ow.trans o2))
theorem m_tkOut (hd : 1 ≤ d) (h1 : hRd h 156 = oM z) (hg : hRd h 160 = cA 24 g) (hN : NR L g) (hp : 0 ≤ pl ∧ pl < g 6) (kk : ∀ g1 : Int → Int, NR (delL L pl) g1 → (∀ i, 7 ≤ i → g1 i = g i) → ∀ h1, hRd h1 160 = cA 24 g1 → Out 160 160 h h1 → Q none h1) : CALL d 141 [.ref 156, vI pl] h Q := by
  have g6 := hN.g6
  refine cl141 (by omega) h1 ?_
  simp (disch := omega) only [wr_id, wr_m1, sd_t, nl_I, nl_R, nl_none, c1_I, c1_R, sh_0, sh_1, sh_2, sh_3, sh_4, true_and, and_true, ldA_A, ldB_B, ldS_S, stA_A, stB_B, aL_A, aL_B, aL_S, aC_A, hRd_eq, hRd_ne, cp6, cp8, tl_some, tl_none, List.cons_append, List.nil_append, ofI_t0, ofI_t1, Int.add_zero, Int.zero_add, x141_0, x141_1, x141_2]
  refine l_tkOut hN hp.1 (g 6 - 1 - pl).toNat pl h (by omega) (by omega) (by omega) h1 (by rw [shD_0]; exact hg) (fun h1 e1 o1 => kk _ ?_ (fun i hi => ?_) h1 e1 o1)
  · exact ((hN.ri.del hp.1 hp.2).u6 (by omega)).nr uA_eq
  · rw [uA_ne (by omega), shD_ge (by omega)]
theorem l_ptIn (hN : NR L g) (h0 : 0 ≤ pl) (hm : g 6 ≤ 5) : ∀ (n : Nat) (i : Int) (h : LHeap), (n : Int) = i - pl → pl ≤ i → i ≤ g 6 → hRd h 156 = oM z → hRd h 160 = cA 24 (shU g i (g 6)) → (∀ h1, hRd h1 160 = cA 24 (uA (uA (shU g pl (g 6)) pl p) 6 (g 6 + 1)) → Out 160 160 h h1 → Q none h1) → WPC d 142 6 [some (.ref 156), some (vI p), some (vI pl), some (vI i)] [] h Q := by
  have g6 := hN.g6
  intro n
  induction n with
  | zero =>
    intro i h hn hi hi2 h1 hg kk
    have ei : i = pl := by omega
    subst ei
    have e6 : uA (shU g i (g 6)) i p 6 = g 6 := by rw [uA_ne (by omega), shU_gt (by omega)]
    rw [WPC_iff]
    simp (disch := omega) only [wr_id, wr_m1, sd_t, nl_I, nl_R, nl_none, c1_I, c1_R, sh_0, sh_1, sh_2, sh_3, sh_4, true_and, and_true, ldA_A, ldB_B, ldS_S, stA_A, stB_B, aL_A, aL_B, aL_S, aC_A, hRd_eq, hRd_ne, cp6, cp8, tl_some, tl_none, List.cons_append, List.nil_append, ofI_t0, ofI_t1, Int.add_zero, Int.zero_add, x142_6, x142_7, x142_8, x142_21, x142_22, x142_23, x142_24, x142_25, x142_26, x142_27, x142_28, x142_29, x142_30, x142_31, x142_32, x142_33, x142_34, gf11_0, pf11_0, gf11_1, pf11_1, gf11_2, pf11_2, gf11_3, gf11_4, gf11_5, gf11_6, gf11_7, pf11_7, gf11_8, gf11_9, pf11_9, gf11_10, pf11_10, gf11_11, pf11_11, gf11_12, pf11_12, gf11_13, pf11_13, gf11_14, gf11_15, pf11_15, gf11_16, gf11_17, pf11_17, gf11_18, gf11_19, gf11_20, gf11_21, gf11_22, gf11_23, gf11_24, pf11_24, gf11_25, gf11_26, gf11_27, gf11_28, pf11_28, gf11_29, pf11_29, gf11_30, gf11_31, gf11_32, pf11_32, gf11_33, gf11_34, gf11_35, pf11_35, gf11_36, gf11_37, gf11_38, gf11_39, uN_eq, uN_ne, h1, hg, e6]
    refine ⟨fun _ => ⟨by omega, by omega, by omega, ?_⟩, fun q => by omega⟩
    rw [hWr_same]
    exact kk _ hRd_eq (Out.refl.wr (by omega) (by omega))
  | succ n ih =>
    intro i h hn hi hi2 h1 hg kk
    rw [WPC_iff]
    simp (disch := omega) only [wr_id, wr_m1, sd_t, nl_I, nl_R, nl_none, c1_I, c1_R, sh_0, sh_1, sh_2, sh_3, sh_4, true_and, and_true, ldA_A, ldB_B, ldS_S, stA_A, stB_B, aL_A, aL_B, aL_S, aC_A, hRd_eq, hRd_ne, cp6, cp8, tl_some, tl_none, List.cons_append, List.nil_append, ofI_t0, ofI_t1, Int.add_zero, Int.zero_add, x142_5, x142_6, x142_7, x142_8, x142_9, x142_10, x142_11, x142_12, x142_13, x142_14, x142_15, x142_16, x142_17, x142_18, x142_19, x142_20, gf11_0, pf11_0, gf11_1, pf11_1, gf11_2, pf11_2, gf11_3, gf11_4, gf11_5, gf11_6, gf11_7, pf11_7, gf11_8, gf11_9, pf11_9, gf11_10, pf11_10, gf11_11, pf11_11, gf11_12, pf11_12, gf11_13, pf11_13, gf11_14, gf11_15, pf11_15, gf11_16, gf11_17, pf11_17, gf11_18, gf11_19, gf11_20, gf11_21, gf11_22, gf11_23, gf11_24, pf11_24, gf11_25, gf11_26, gf11_27, gf11_28, pf11_28, gf11_29, pf11_29, gf11_30, gf11_31, gf11_32, pf11_32, gf11_33, gf11_34, gf11_35, pf11_35, gf11_36, gf11_37, gf11_38, gf11_39, uN_eq, uN_ne, h1, hg]
    refine ⟨fun q => by omega, fun _ => ⟨by omega, by omega, ?_⟩⟩
    rw [shU_s hi2]
    have ow : Out 160 160 h (hWr h 160 (cA 24 (shU g (i - 1) (g 6)))) := Out.refl.wr (by omega) (by omega)
    exact ih (i - 1) _ (by omega) (by omega) (by omega) (by rw [hRd_ne (by omega)]; exact h1) hRd_eq (fun h2 e2 o2 => kk h2 e2 (ow.trans o2))
theorem m_ptIn (hd : 1 ≤ d) (h1 : hRd h 156 = oM z) (hg : hRd h 160 = cA 24 g) (hN : NR L g) (hm : g 6 ≤ 5) (hp : 0 ≤ pl ∧ pl ≤ g 6) (hx : 0 ≤ p ∧ p ≤ 5) (kk : ∀ g1 : Int → Int, NR (insL L pl p) g1 → (∀ i, 7 ≤ i → g1 i = g i) → ∀ h1, hRd h1 160 = cA 24 g1 → Out 160 160 h h1 → Q none h1) : CALL d 142 [.ref 156, vI p, vI pl] h Q := by
  have g6 := hN.g6
  refine cl142 (by omega) h1 ?_
  simp (disch := omega) only [wr_id, wr_m1, sd_t, nl_I, nl_R, nl_none, c1_I, c1_R, sh_0, sh_1, sh_2, sh_3, sh_4, true_and, and_true, ldA_A, ldB_B, ldS_S, stA_A, stB_B, aL_A, aL_B, aL_S, aC_A, hRd_eq, hRd_ne, cp6, cp8, tl_some, tl_none, List.cons_append, List.nil_append, ofI_t0, ofI_t1, Int.add_zero, Int.zero_add, x142_0, x142_1, x142_2, x142_3, x142_4, x142_5, gf11_0, pf11_0, gf11_1, pf11_1, gf11_2, pf11_2, gf11_3, gf11_4, gf11_5, gf11_6, gf11_7, pf11_7, gf11_8, gf11_9, pf11_9, gf11_10, pf11_10, gf11_11, pf11_11, gf11_12, pf11_12, gf11_13, pf11_13, gf11_14, gf11_15, pf11_15, gf11_16, gf11_17, pf11_17, gf11_18, gf11_19, gf11_20, gf11_21, gf11_22, gf11_23, gf11_24, pf11_24, gf11_25, gf11_26, gf11_27, gf11_28, pf11_28, gf11_29, pf11_29, gf11_30, gf11_31, gf11_32, pf11_32, gf11_33, gf11_34, gf11_35, pf11_35, gf11_36, gf11_37, gf11_38, gf11_39, uN_eq, uN_ne, h1, hg]
  refine ⟨by omega, ?_⟩
  refine l_ptIn hN hp.1 hm (g 6 - pl).toNat (g 6) h (by omega) (by omega) (by omega) h1 (by rw [shU_0]; exact hg) (fun h1 e1 o1 => kk _ ?_ (fun i hi => ?_) h1 e1 o1)
  · exact ((hN.ri.ins hp.1 hp.2 (by omega) hx).u6 (by omega)).nr uA_eq
  · rw [uA_ne (by omega), uA_ne (by omega), shU_gt (by omega)]
theorem m_disNow (hd : 2 ≤ d) (h1 : hRd h 156 = oM z) (hg : hRd h 160 = cA 24 g) (hN : NR L g) (hn : L.Nodup) (hx : 0 ≤ p ∧ p ≤ 5) (hp : ¬ pfrom L p 0 = -1) (kk : ∀ g1 : Int → Int, NR (outL L p) g1 → g1 8 = zor (g 8) (zshl 1 p) → (∀ i, 7 ≤ i → ¬ i = 8 → g1 i = g i) → ∀ h1, hRd h1 160 = cA 24 g1 → Out 160 160 h h1 → Q none h1) : CALL d 146 [.ref 156, vI p] h Q := by
  have g6 := hN.g6
  have hb := pfrom_ge L p 0 (by omega)
  have hN2 := hN.2
  refine cl146 (by omega) h1 ?_
  simp (disch := omega) only [wr_id, wr_m1, sd_t, nl_I, nl_R, nl_none, c1_I, c1_R, sh_0, sh_1, sh_2, sh_3, sh_4, true_and, and_true, ldA_A, ldB_B, ldS_S, stA_A, stB_B, aL_A, aL_B, aL_S, aC_A, hRd_eq, hRd_ne, cp6, cp8, tl_some, tl_none, List.cons_append, List.nil_append, ofI_t0, ofI_t1, Int.add_zero, Int.zero_add, x146_0, x146_1, x146_2, x146_3]
  refine m_placeOf (by omega) h1 hg hN hn (by omega) ?_
  simp (disch := omega) only [wr_id, wr_m1, sd_t, nl_I, nl_R, nl_none, c1_I, c1_R, sh_0, sh_1, sh_2, sh_3, sh_4, true_and, and_true, ldA_A, ldB_B, ldS_S, stA_A, stB_B, aL_A, aL_B, aL_S, aC_A, hRd_eq, hRd_ne, cp6, cp8, tl_some, tl_none, List.cons_append, List.nil_append, ofI_t0, ofI_t1, Int.add_zero, Int.zero_add, x146_4]
  refine m_tkOut (by omega) h1 hg hN (by omega) (fun g1 n1 k1 h2 e2 o2 => ?_)
  have h12 : hRd h2 156 = oM z := by rw [o2.2.2 _ (by omega)]; exact h1
  have e8 := k1 8 (by omega)
  simp (disch := omega) only [wr_id, wr_m1, sd_t, nl_I, nl_R, nl_none, c1_I, c1_R, sh_0, sh_1, sh_2, sh_3, sh_4, true_and, and_true, ldA_A, ldB_B, ldS_S, stA_A, stB_B, aL_A, aL_B, aL_S, aC_A, hRd_eq, hRd_ne, cp6, cp8, tl_some, tl_none, List.cons_append, List.nil_append, ofI_t0, ofI_t1, Int.add_zero, Int.zero_add, x146_5, x146_6, x146_7, x146_8, x146_9, x146_10, x146_11, x146_12, x146_13, x146_14, x146_15, gf11_0, pf11_0, gf11_1, pf11_1, gf11_2, pf11_2, gf11_3, gf11_4, gf11_5, gf11_6, gf11_7, pf11_7, gf11_8, gf11_9, pf11_9, gf11_10, pf11_10, gf11_11, pf11_11, gf11_12, pf11_12, gf11_13, pf11_13, gf11_14, gf11_15, pf11_15, gf11_16, gf11_17, pf11_17, gf11_18, gf11_19, gf11_20, gf11_21, gf11_22, gf11_23, gf11_24, pf11_24, gf11_25, gf11_26, gf11_27, gf11_28, pf11_28, gf11_29, pf11_29, gf11_30, gf11_31, gf11_32, pf11_32, gf11_33, gf11_34, gf11_35, pf11_35, gf11_36, gf11_37, gf11_38, gf11_39, uN_eq, uN_ne, h12, e2, e8]
  refine ⟨by omega, by omega, ?_⟩
  have eo : outL L p = delL L (pfrom L p 0) := if_neg hp
  refine kk (uA g1 8 (zor (g 8) (zshl 1 p))) ?_ uA_eq (fun i hi h8 => ?_) _ hRd_eq (o2.wr (by omega) (by omega))
  · rw [eo]
    exact (n1.ri.u6 (by omega)).nr (uA_ne (by omega))
  · rw [uA_ne h8]
    exact k1 i hi
theorem m_swap (hd : 1 ≤ d) (h1 : hRd h 156 = oM z) (hg : hRd h 160 = cA 24 g) (hx : 0 ≤ x ∧ x < 24) (hy : 0 ≤ y ∧ y < 24) (kk : ∀ h1, hRd h1 160 = cA 24 (swF g x y) → Out 160 160 h h1 → Q none h1) : CALL d 155 [.ref 156, vI x, vI y] h Q := by
  refine cl155 (by omega) h1 ?_
  simp (disch := omega) only [wr_id, wr_m1, sd_t, nl_I, nl_R, nl_none, c1_I, c1_R, sh_0, sh_1, sh_2, sh_3, sh_4, true_and, and_true, ldA_A, ldB_B, ldS_S, stA_A, stB_B, aL_A, aL_B, aL_S, aC_A, hRd_eq, hRd_ne, cp6, cp8, tl_some, tl_none, List.cons_append, List.nil_append, ofI_t0, ofI_t1, Int.add_zero, Int.zero_add, x155_0, x155_1, x155_2, x155_3, x155_4, x155_5, x155_6, x155_7, x155_8, x155_9, x155_10, x155_11, x155_12, x155_13, x155_14, x155_15, x155_16, x155_17, x155_18, gf11_6, gf11_0, pf11_0, gf11_1, pf11_1, gf11_2, pf11_2, gf11_3, gf11_4, gf11_5, gf11_6, gf11_7, pf11_7, gf11_8, gf11_9, pf11_9, gf11_10, pf11_10, gf11_11, pf11_11, gf11_12, pf11_12, gf11_13, pf11_13, gf11_14, gf11_15, pf11_15, gf11_16, gf11_17, pf11_17, gf11_18, gf11_19, gf11_20, gf11_21, gf11_22, gf11_23, gf11_24, pf11_24, gf11_25, gf11_26, gf11_27, gf11_28, pf11_28, gf11_29, pf11_29, gf11_30, gf11_31, gf11_32, pf11_32, gf11_33, gf11_34, gf11_35, pf11_35, gf11_36, gf11_37, gf11_38, gf11_39, uN_eq, uN_ne, h1, hg, hWr_same]
  exact ⟨by omega, by omega, by omega, by omega, kk _ hRd_eq (Out.refl.wr (by omega) (by omega))⟩
theorem l_nx1 (h1 : hRd h 156 = oM z) (hg : hRd h 160 = cA 24 g) (hN : NR L g) : ∀ (n : Nat) (k : Int), -1 ≤ k ∨ k = g 6 - 2 → k ≤ g 6 - 2 → k + 1 ≤ n → WP d 156 25 [some (.ref 156), some (vI (g 6)), some (vI (kSr g n k)), none, none, none] [] h Q → WPC d 156 10 [some (.ref 156), some (vI (g 6)), some (vI k), none, none, none] [] h Q := by
  have g6 := hN.g6
  intro n
  induction n with
  | zero =>
    intro k hk0 hk1 hn kk
    rw [WPC_iff]
    simp (disch := omega) only [wr_id, wr_m1, sd_t, nl_I, nl_R, nl_none, c1_I, c1_R, sh_0, sh_1, sh_2, sh_3, sh_4, true_and, and_true, ldA_A, ldB_B, ldS_S, stA_A, stB_B, aL_A, aL_B, aL_S, aC_A, hRd_eq, hRd_ne, cp6, cp8, tl_some, tl_none, List.cons_append, List.nil_append, ofI_t0, ofI_t1, Int.add_zero, Int.zero_add, x156_10, x156_11]
    exact ⟨fun _ => kk, fun q => by omega⟩
  | succ n ih =>
    intro k hk0 hk1 hn kk
    rw [kSr] at kk
    by_cases q : k < 0
    · rw [if_neg (by omega)] at kk
      rw [WPC_iff]
      simp (disch := omega) only [wr_id, wr_m1, sd_t, nl_I, nl_R, nl_none, c1_I, c1_R, sh_0, sh_1, sh_2, sh_3, sh_4, true_and, and_true, ldA_A, ldB_B, ldS_S, stA_A, stB_B, aL_A, aL_B, aL_S, aC_A, hRd_eq, hRd_ne, cp6, cp8, tl_some, tl_none, List.cons_append, List.nil_append, ofI_t0, ofI_t1, Int.add_zero, Int.zero_add, x156_10, x156_11]
      exact ⟨fun _ => kk, fun q => by omega⟩
    · have g1 := hN.ri.get (i := k) (by omega) (by omega)
      have g2 := hN.ri.get (i := k + 1) (by omega) (by omega)
      rw [WPC_iff]
      simp (disch := omega) only [wr_id, wr_m1, sd_t, nl_I, nl_R, nl_none, c1_I, c1_R, sh_0, sh_1, sh_2, sh_3, sh_4, true_and, and_true, ldA_A, ldB_B, ldS_S, stA_A, stB_B, aL_A, aL_B, aL_S, aC_A, hRd_eq, hRd_ne, cp6, cp8, tl_some, tl_none, List.cons_append, List.nil_append, ofI_t0, ofI_t1, Int.add_zero, Int.zero_add, x156_9, x156_10, x156_11, x156_12, x156_13, x156_14, x156_15, x156_16, x156_17, x156_18, x156_19, x156_20, x156_21, x156_22, x156_23, x156_24, gf11_0, pf11_0, gf11_1, pf11_1, gf11_2, pf11_2, gf11_3, gf11_4, gf11_5, gf11_6, gf11_7, pf11_7, gf11_8, gf11_9, pf11_9, gf11_10, pf11_10, gf11_11, pf11_11, gf11_12, pf11_12, gf11_13, pf11_13, gf11_14, gf11_15, pf11_15, gf11_16, gf11_17, pf11_17, gf11_18, gf11_19, gf11_20, gf11_21, gf11_22, gf11_23, gf11_24, pf11_24, gf11_25, gf11_26, gf11_27, gf11_28, pf11_28, gf11_29, pf11_29, gf11_30, gf11_31, gf11_32, pf11_32, gf11_33, gf11_34, gf11_35, pf11_35, gf11_36, gf11_37, gf11_38, gf11_39, uN_eq, uN_ne, h1, hg]
      refine ⟨fun q2 => absurd q2 q, fun _ => ⟨by omega, by omega, fun q2 => ?_, fun q2 => ?_⟩⟩
      · rw [if_neg (by omega)] at kk
        exact kk
      · rw [if_pos (by omega)] at kk
        exact ih (k - 1) (by omega) (by omega) (by omega) kk
theorem l_nx2 {k : Int} (h1 : hRd h 156 = oM z) (hg : hRd h 160 = cA 24 g) (hN : NR L g) (h0 : 0 ≤ k) : ∀ (n : Nat) (j : Int), k ≤ j → j ≤ g 6 - 1 → j - k ≤ n → WP d 156 45 [some (.ref 156), some (vI (g 6)), some (vI k), some (vI (jSr g k n j)), none, none] [] h Q → WPC d 156 34 [some (.ref 156), some (vI (g 6)), some (vI k), some (vI j), none, none] [] h Q := by
  have g6 := hN.g6
  intro n
  induction n with
  | zero =>
    intro j hk0 hk1 hn kk
    have ej : j = k := by omega
    subst ej
    have g1 := hN.ri.get (i := j) (by omega) (by omega)
    rw [WPC_iff]
    simp (disch := omega) only [wr_id, wr_m1, sd_t, nl_I, nl_R, nl_none, c1_I, c1_R, sh_0, sh_1, sh_2, sh_3, sh_4, true_and, and_true, ldA_A, ldB_B, ldS_S, stA_A, stB_B, aL_A, aL_B, aL_S, aC_A, hRd_eq, hRd_ne, cp6, cp8, tl_some, tl_none, List.cons_append, List.nil_append, ofI_t0, ofI_t1, Int.add_zero, Int.zero_add, x156_34, x156_35, x156_36, x156_37, x156_38, x156_39, x156_40, x156_41, x156_42, gf11_0, pf11_0, gf11_1, pf11_1, gf11_2, pf11_2, gf11_3, gf11_4, gf11_5, gf11_6, gf11_7, pf11_7, gf11_8, gf11_9, pf11_9, gf11_10, pf11_10, gf11_11, pf11_11, gf11_12, pf11_12, gf11_13, pf11_13, gf11_14, gf11_15, pf11_15, gf11_16, gf11_17, pf11_17, gf11_18, gf11_19, gf11_20, gf11_21, gf11_22, gf11_23, gf11_24, pf11_24, gf11_25, gf11_26, gf11_27, gf11_28, pf11_28, gf11_29, pf11_29, gf11_30, gf11_31, gf11_32, pf11_32, gf11_33, gf11_34, gf11_35, pf11_35, gf11_36, gf11_37, gf11_38, gf11_39, uN_eq, uN_ne, h1, hg]
    exact ⟨by omega, by omega, fun _ => kk, fun q => by first | omega | exact absurd (Int.le_refl _) q | exact absurd trivial q⟩
  | succ n ih =>
    intro j hk0 hk1 hn kk
    have g1 := hN.ri.get (i := k) (by omega) (by omega)
    have g2 := hN.ri.get (i := j) (by omega) (by omega)
    rw [jSr] at kk
    rw [WPC_iff]
    simp (disch := omega) only [wr_id, wr_m1, sd_t, nl_I, nl_R, nl_none, c1_I, c1_R, sh_0, sh_1, sh_2, sh_3, sh_4, true_and, and_true, ldA_A, ldB_B, ldS_S, stA_A, stB_B, aL_A, aL_B, aL_S, aC_A, hRd_eq, hRd_ne, cp6, cp8, tl_some, tl_none, List.cons_append, List.nil_append, ofI_t0, ofI_t1, Int.add_zero, Int.zero_add, x156_33, x156_34, x156_35, x156_36, x156_37, x156_38, x156_39, x156_40, x156_41, x156_42, x156_43, x156_44, gf11_0, pf11_0, gf11_1, pf11_1, gf11_2, pf11_2, gf11_3, gf11_4, gf11_5, gf11_6, gf11_7, pf11_7, gf11_8, gf11_9, pf11_9, gf11_10, pf11_10, gf11_11, pf11_11, gf11_12, pf11_12, gf11_13, pf11_13, gf11_14, gf11_15, pf11_15, gf11_16, gf11_17, pf11_17, gf11_18, gf11_19, gf11_20, gf11_21, gf11_22, gf11_23, gf11_24, pf11_24, gf11_25, gf11_26, gf11_27, gf11_28, pf11_28, gf11_29, pf11_29, gf11_30, gf11_31, gf11_32, pf11_32, gf11_33, gf11_34, gf11_35, pf11_35, gf11_36, gf11_37, gf11_38, gf11_39, uN_eq, uN_ne, h1, hg]
    refine ⟨by omega, by omega, fun q2 => ?_, fun q2 => ?_⟩
    · rw [if_neg (by omega)] at kk
      exact kk
    · have : ¬ j = k := fun e => by rw [e] at q2; exact q2 (Int.le_refl _)
      rw [if_pos (by omega)] at kk
      exact ih (j - 1) (by omega) (by omega) (by omega) kk
theorem l_nx3 {u v m : Int} (hd : 1 ≤ d) : ∀ (n : Nat) (f : Int → Int) (a b : Int) (h : LHeap), 0 ≤ a → a ≤ 6 → b < 6 → -1 ≤ b → b - a < 2 * (n : Int) → hRd h 156 = oM z → hRd h 160 = cA 24 f → (∀ h1, hRd h1 160 = cA 24 (rvF n f a b) → Out 160 160 h h1 → Q (some (vI 1)) h1) → WPC d 156 58 [some (.ref 156), some (vI m), some (vI u), some (vI v), some (vI a), some (vI b)] [] h Q := by
  intro n
  induction n with
  | zero =>
    intro f a b h ha ha6 hb hb1 hn h1 hg kk
    rw [WPC_iff]
    simp (disch := omega) only [wr_id, wr_m1, sd_t, nl_I, nl_R, nl_none, c1_I, c1_R, sh_0, sh_1, sh_2, sh_3, sh_4, true_and, and_true, ldA_A, ldB_B, ldS_S, stA_A, stB_B, aL_A, aL_B, aL_S, aC_A, hRd_eq, hRd_ne, cp6, cp8, tl_some, tl_none, List.cons_append, List.nil_append, ofI_t0, ofI_t1, Int.add_zero, Int.zero_add, x156_58, x156_59, x156_60, x156_68, x156_69]
    exact ⟨fun _ => kk h hg Out.refl, fun q => by omega⟩
  | succ n ih =>
    intro f a b h ha ha6 hb hb1 hn h1 hg kk
    rw [rvF] at kk
    rw [WPC_iff]
    simp (disch := omega) only [wr_id, wr_m1, sd_t, nl_I, nl_R, nl_none, c1_I, c1_R, sh_0, sh_1, sh_2, sh_3, sh_4, true_and, and_true, ldA_A, ldB_B, ldS_S, stA_A, stB_B, aL_A, aL_B, aL_S, aC_A, hRd_eq, hRd_ne, cp6, cp8, tl_some, tl_none, List.cons_append, List.nil_append, ofI_t0, ofI_t1, Int.add_zero, Int.zero_add, x156_58, x156_59, x156_60, x156_61, x156_62, x156_63, x156_64, x156_68, x156_69]
    refine ⟨fun q => ?_, fun q => ?_⟩
    · rw [if_neg (by omega)] at kk
      exact kk h hg Out.refl
    · rw [if_pos (by omega)] at kk
      refine m_swap (by omega) h1 hg (by omega) (by omega) (fun h2 e2 o2 => ?_)
      simp (disch := omega) only [wr_id, wr_m1, sd_t, nl_I, nl_R, nl_none, c1_I, c1_R, sh_0, sh_1, sh_2, sh_3, sh_4, true_and, and_true, ldA_A, ldB_B, ldS_S, stA_A, stB_B, aL_A, aL_B, aL_S, aC_A, hRd_eq, hRd_ne, cp6, cp8, tl_some, tl_none, List.cons_append, List.nil_append, ofI_t0, ofI_t1, Int.add_zero, Int.zero_add, x156_57, x156_65, x156_66, x156_67]
      exact ih (swF f a b) (a + 1) (b - 1) h2 (by omega) (by omega) (by omega) (by omega) (by omega) (by rw [o2.2.2 _ (by omega)]; exact h1) e2 (fun h3 e3 o3 => kk h3 e3 (o2.trans o3))
theorem m_next (hd : 2 ≤ d) (h1 : hRd h 156 = oM z) (hg : hRd h 160 = cA 24 g) (hN : NR L g) (k1 : nxtL L = none → Q (some (vI 0)) h) (k2 : ∀ L1, nxtL L = some L1 → ∀ g1 : Int → Int, NR L1 g1 → (∀ i, 7 ≤ i → g1 i = g i) → ∀ h1, hRd h1 160 = cA 24 g1 → Out 160 160 h h1 → Q (some (vI 1)) h1) : CALL d 156 [.ref 156] h Q := by
  have g6 := hN.g6
  have hb := nxK_b g (g 6)
  have hx := hN.ri.next
  have lo : -2 ≤ nxK g (g 6) := by
    by_cases q : g 6 = 0
    · unfold nxK
      rw [kSr, if_neg (by omega)]
      omega
    · have := (kSr_le 7 g (g 6 - 2)).2 (by omega)
      have e : kSr g 7 (g 6 - 2) = nxK g (g 6) := rfl
      rw [e] at this
      omega
  refine cl156 (by omega) h1 ?_
  simp (disch := omega) only [wr_id, wr_m1, sd_t, nl_I, nl_R, nl_none, c1_I, c1_R, sh_0, sh_1, sh_2, sh_3, sh_4, true_and, and_true, ldA_A, ldB_B, ldS_S, stA_A, stB_B, aL_A, aL_B, aL_S, aC_A, hRd_eq, hRd_ne, cp6, cp8, tl_some, tl_none, List.cons_append, List.nil_append, ofI_t0, ofI_t1, Int.add_zero, Int.zero_add, x156_0, x156_1, x156_2, x156_3, x156_4, x156_5, x156_6, x156_7, x156_8, x156_9, gf11_0, pf11_0, gf11_1, pf11_1, gf11_2, pf11_2, gf11_3, gf11_4, gf11_5, gf11_6, gf11_7, pf11_7, gf11_8, gf11_9, pf11_9, gf11_10, pf11_10, gf11_11, pf11_11, gf11_12, pf11_12, gf11_13, pf11_13, gf11_14, gf11_15, pf11_15, gf11_16, gf11_17, pf11_17, gf11_18, gf11_19, gf11_20, gf11_21, gf11_22, gf11_23, gf11_24, pf11_24, gf11_25, gf11_26, gf11_27, gf11_28, pf11_28, gf11_29, pf11_29, gf11_30, gf11_31, gf11_32, pf11_32, gf11_33, gf11_34, gf11_35, pf11_35, gf11_36, gf11_37, gf11_38, gf11_39, uN_eq, uN_ne, h1, hg]
  refine ⟨by omega, ?_⟩
  refine l_nx1 h1 hg hN 7 (g 6 - 2) (Or.inr rfl) (by omega) (by omega) ?_
  have e : kSr g 7 (g 6 - 2) = nxK g (g 6) := rfl
  rw [e]
  simp (disch := omega) only [wr_id, wr_m1, sd_t, nl_I, nl_R, nl_none, c1_I, c1_R, sh_0, sh_1, sh_2, sh_3, sh_4, true_and, and_true, ldA_A, ldB_B, ldS_S, stA_A, stB_B, aL_A, aL_B, aL_S, aC_A, hRd_eq, hRd_ne, cp6, cp8, tl_some, tl_none, List.cons_append, List.nil_append, ofI_t0, ofI_t1, Int.add_zero, Int.zero_add, x156_25, x156_26, x156_27, x156_28, x156_29, x156_30, x156_31, x156_32, x156_33]
  refine ⟨fun q => ?_, fun q => k1 (hx.1 (by omega))⟩
  obtain ⟨L1, q1, q2, q3⟩ := hx.2 (by omega)
  have hj := jSr_le 7 g (nxK g (g 6)) (g 6 - 1)
  refine l_nx2 h1 hg hN (by omega) 7 (g 6 - 1) (by omega) (by omega) (by omega) ?_
  simp (disch := omega) only [wr_id, wr_m1, sd_t, nl_I, nl_R, nl_none, c1_I, c1_R, sh_0, sh_1, sh_2, sh_3, sh_4, true_and, and_true, ldA_A, ldB_B, ldS_S, stA_A, stB_B, aL_A, aL_B, aL_S, aC_A, hRd_eq, hRd_ne, cp6, cp8, tl_some, tl_none, List.cons_append, List.nil_append, ofI_t0, ofI_t1, Int.add_zero, Int.zero_add, x156_45, x156_46, x156_47, x156_48]
  refine m_swap (by omega) h1 hg (by omega) (by omega) (fun h2 e2 o2 => ?_)
  simp (disch := omega) only [wr_id, wr_m1, sd_t, nl_I, nl_R, nl_none, c1_I, c1_R, sh_0, sh_1, sh_2, sh_3, sh_4, true_and, and_true, ldA_A, ldB_B, ldS_S, stA_A, stB_B, aL_A, aL_B, aL_S, aC_A, hRd_eq, hRd_ne, cp6, cp8, tl_some, tl_none, List.cons_append, List.nil_append, ofI_t0, ofI_t1, Int.add_zero, Int.zero_add, x156_49, x156_50, x156_51, x156_52, x156_53, x156_54, x156_55, x156_56, x156_57]
  refine l_nx3 (by omega) 7 _ _ _ h2 (by omega) (by omega) (by omega) (by omega) (by omega) (by rw [o2.2.2 _ (by omega)]; exact h1) e2 (fun h3 e3 o3 => ?_)
  refine k2 L1 q1 (nxF g (g 6)) ?_ (fun i hi => ?_) h3 e3 (o2.trans o3)
  · exact q3.nr (nxF_ge (by omega) (by omega))
  · exact nxF_ge (by omega) (by omega)
end
