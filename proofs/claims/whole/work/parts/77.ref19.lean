-- THE REFERENCE: what can be undone
theorem SG.mv {P J b b1 : Int} {S : SS} {g r : Int → Int} (h : SG P J S g b) (hP : P ≤ 6) (hJ : J ≤ 8) (hl : S.1.length ≤ 6) (e : ∀ i, 0 ≤ i → i < 24 → r (b1 + i) = g (b + i)) : SG P J S r b1 := by
  obtain ⟨a1, a2, a3, a4, a5, a6, a7⟩ := h
  refine ⟨fun i x hx => ?_, (e 6 (by omega) (by omega)).trans a2, (e 7 (by omega) (by omega)).trans a3, (e 8 (by omega) (by omega)).trans a4, fun j j0 j1 => ?_, fun p p0 p1 => ?_, (e 23 (by omega) (by omega)).trans a7⟩
  · have := (List.getElem?_eq_some_iff.mp hx).1
    exact (e i (by omega) (by omega)).trans (a1 i x hx)
  · rw [Int.add_assoc]
    rw [← a5 j j0 j1, Int.add_assoc]
    exact e (9 + j) (by omega) (by omega)
  · rw [Int.add_assoc]
    rw [← a6 p p0 p1, Int.add_assoc]
    exact e (17 + p) (by omega) (by omega)
theorem SG.mk0 {P J sh mo : Int} {L : List Int} {wk dr g : Int → Int} (h : NR L g) (h7 : g 7 = sh) (h8 : g 8 = disF P L) (h9 : ∀ j, 0 ≤ j → j < J → g (9 + j) = dr j) (h17 : ∀ p, 0 ≤ p → p < P → g (17 + p) = wk p) (h23 : g 23 = mo) : SG P J (L, wk, dr, sh, mo) g 0 := by
  refine ⟨fun i x hx => ?_, ?_, ?_, ?_, fun j j0 j1 => ?_, fun p p0 p1 => ?_, ?_⟩
  · rw [Int.zero_add]; exact h.1.2.2.1 i x hx
  · rw [Int.zero_add]; exact h.2
  · rw [Int.zero_add]; exact h7
  · rw [Int.zero_add]; exact h8
  · rw [show (0 : Int) + 9 + j = 9 + j by omega]; exact h9 j j0 j1
  · rw [show (0 : Int) + 17 + p = 17 + p by omega]; exact h17 p p0 p1
  · rw [Int.zero_add]; exact h23
theorem SB.len {P J : Int} {S : SS} (h : SB P J S) (hP : P ≤ 6) : S.1.length ≤ 6 := by
  have hsub : S.1 ⊆ P6 := fun x hx => P6_mem.mpr (by have := h.1 x hx; omega)
  exact List.Nodup.length_le_of_subset h.2.1 hsub
/-- one entry less, of k so far -/
def shF (r : Int → Int) (k : Int) : Int → Int := fun j => if 0 ≤ j ∧ j < k - 24 then r (j + 24) else r j
def cpS (r : Int → Int) (b : Int) (g : Int → Int) (k : Int) : Int → Int := fun j => if b ≤ j ∧ j < b + k then g (j - b) else r j
theorem shF_s {r : Int → Int} {k : Int} (hk : 24 ≤ k) : uA (shF r k) (k - 24) (shF r k k) = shF r (k + 1) := by
  funext j
  unfold uA shF
  by_cases e : j = k - 24
  · rw [if_pos e, if_neg (by omega), if_pos (by omega), show j + 24 = k by omega]
  · rw [if_neg e]
    by_cases q : 0 ≤ j ∧ j < k - 24
    · rw [if_pos q, if_pos (by omega)]
    · rw [if_neg q, if_neg (by omega)]
theorem cpS_s {r g : Int → Int} {b k : Int} (hk : 0 ≤ k) : uA (cpS r b g k) (b + k) (g k) = cpS r b g (k + 1) := by
  funext j
  unfold uA cpS
  by_cases e : j = b + k
  · rw [if_pos e, if_pos (by omega), show j - b = k by omega]
  · rw [if_neg e]
    by_cases q : b ≤ j ∧ j < b + k
    · rw [if_pos q, if_pos (by omega)]
    · rw [if_neg q, if_neg (by omega)]
theorem cpS_0 {r g : Int → Int} {b : Int} : cpS r b g 0 = r := by
  funext j
  unfold cpS
  rw [if_neg (by omega)]
theorem shF_0 {r : Int → Int} : shF r 24 = r := by
  funext j
  unfold shF
  rw [if_neg (by omega)]
section
variable {d : Nat} {Q : Option Value → LHeap → Prop} {r g : Int → Int} {z : Nat → Int} {u : Int}
theorem l_rm1 : ∀ (n : Nat) (k : Int) (h : LHeap), (n : Int) = 480 - k → 24 ≤ k → hRd h 156 = oM z → hRd h 170 = cA 480 (shF r k) → (∀ (h1 : LHeap) (x : Int), hRd h1 170 = cA 480 (shF r 480) → Out 170 170 h h1 → WP d 140 22 [some (.ref 156), some (vI x)] [] h1 Q) → WPC d 140 7 [some (.ref 156), some (vI k)] [] h Q := by
  intro n
  induction n with
  | zero =>
    intro k h hn hk h1 hr kk
    have e : k = 480 := by omega
    rw [WPC_iff]
    simp (disch := omega) only [wr_id, wr_m1, sd_t, nl_I, nl_R, nl_none, c1_I, c1_R, sh_0, sh_1, sh_2, sh_3, sh_4, true_and, and_true, ldA_A, ldB_B, ldS_S, stA_A, stB_B, aL_A, aL_B, aL_S, aC_A, hRd_eq, hRd_ne, cp6, cp8, tl_some, tl_none, List.cons_append, List.nil_append, ofI_t0, ofI_t1, Int.add_zero, Int.zero_add, x140_7, x140_8, x140_9]
    exact ⟨fun _ => kk h k (by rw [hr, e]) Out.refl, fun q => by omega⟩
  | succ n ih =>
    intro k h hn hk h1 hr kk
    rw [WPC_iff]
    simp (disch := omega) only [wr_id, wr_m1, sd_t, nl_I, nl_R, nl_none, c1_I, c1_R, sh_0, sh_1, sh_2, sh_3, sh_4, true_and, and_true, ldA_A, ldB_B, ldS_S, stA_A, stB_B, aL_A, aL_B, aL_S, aC_A, hRd_eq, hRd_ne, cp6, cp8, tl_some, tl_none, List.cons_append, List.nil_append, ofI_t0, ofI_t1, Int.add_zero, Int.zero_add, x140_6, x140_7, x140_8, x140_9, x140_10, x140_11, x140_12, x140_13, x140_14, x140_15, x140_16, x140_17, x140_18, x140_19, x140_20, x140_21, gf11_0, pf11_0, gf11_1, pf11_1, gf11_2, pf11_2, gf11_3, gf11_4, gf11_5, gf11_6, gf11_7, pf11_7, gf11_8, gf11_9, pf11_9, gf11_10, pf11_10, gf11_11, pf11_11, gf11_12, pf11_12, gf11_13, pf11_13, gf11_14, gf11_15, pf11_15, gf11_16, gf11_17, pf11_17, gf11_18, gf11_19, gf11_20, gf11_21, gf11_22, gf11_23, gf11_24, pf11_24, gf11_25, gf11_26, gf11_27, gf11_28, pf11_28, gf11_29, pf11_29, gf11_30, gf11_31, gf11_32, pf11_32, gf11_33, gf11_34, gf11_35, pf11_35, gf11_36, gf11_37, gf11_38, gf11_39, uN_eq, uN_ne, h1, hr]
    refine ⟨fun q => by omega, fun _ => ⟨by omega, by omega, ?_⟩⟩
    rw [shF_s hk]
    have ow : Out 170 170 h (hWr h 170 (cA 480 (shF r (k + 1)))) := Out.refl.wr (by omega) (by omega)
    exact ih (k + 1) _ (by omega) (by omega) (by rw [hRd_ne (by omega)]; exact h1) hRd_eq (fun h2 x e2 o2 => kk h2 x e2 (ow.trans o2))
theorem l_rm2 (hz : z 24 = u) (hu : 0 ≤ u ∧ u ≤ 19) : ∀ (n : Nat) (k : Int) (h : LHeap), (n : Int) = 24 - k → 0 ≤ k → hRd h 156 = oM z → hRd h 160 = cA 24 g → hRd h 170 = cA 480 (cpS r (24 * u) g k) → (∀ (h1 : LHeap) (x : Int), hRd h1 170 = cA 480 (cpS r (24 * u) g 24) → Out 170 170 h h1 → WP d 140 49 [some (.ref 156), some (vI x)] [] h1 Q) → WPC d 140 31 [some (.ref 156), some (vI k)] [] h Q := by
  intro n
  induction n with
  | zero =>
    intro k h hn hk h1 hg hr kk
    have e : k = 24 := by omega
    rw [WPC_iff]
    simp (disch := omega) only [wr_id, wr_m1, sd_t, nl_I, nl_R, nl_none, c1_I, c1_R, sh_0, sh_1, sh_2, sh_3, sh_4, true_and, and_true, ldA_A, ldB_B, ldS_S, stA_A, stB_B, aL_A, aL_B, aL_S, aC_A, hRd_eq, hRd_ne, cp6, cp8, tl_some, tl_none, List.cons_append, List.nil_append, ofI_t0, ofI_t1, Int.add_zero, Int.zero_add, x140_31, x140_32, x140_33]
    exact ⟨fun _ => kk h k (by rw [hr, e]) Out.refl, fun q => by omega⟩
  | succ n ih =>
    intro k h hn hk h1 hg hr kk
    rw [WPC_iff]
    simp (disch := omega) only [wr_id, wr_m1, sd_t, nl_I, nl_R, nl_none, c1_I, c1_R, sh_0, sh_1, sh_2, sh_3, sh_4, true_and, and_true, ldA_A, ldB_B, ldS_S, stA_A, stB_B, aL_A, aL_B, aL_S, aC_A, hRd_eq, hRd_ne, cp6, cp8, tl_some, tl_none, List.cons_append, List.nil_append, ofI_t0, ofI_t1, Int.add_zero, Int.zero_add, x140_30, x140_31, x140_32, x140_33, x140_34, x140_35, x140_36, x140_37, x140_38, x140_39, x140_40, x140_41, x140_42, x140_43, x140_44, x140_45, x140_46, x140_47, x140_48, gf11_0, pf11_0, gf11_1, pf11_1, gf11_2, pf11_2, gf11_3, gf11_4, gf11_5, gf11_6, gf11_7, pf11_7, gf11_8, gf11_9, pf11_9, gf11_10, pf11_10, gf11_11, pf11_11, gf11_12, pf11_12, gf11_13, pf11_13, gf11_14, gf11_15, pf11_15, gf11_16, gf11_17, pf11_17, gf11_18, gf11_19, gf11_20, gf11_21, gf11_22, gf11_23, gf11_24, pf11_24, gf11_25, gf11_26, gf11_27, gf11_28, pf11_28, gf11_29, pf11_29, gf11_30, gf11_31, gf11_32, pf11_32, gf11_33, gf11_34, gf11_35, pf11_35, gf11_36, gf11_37, gf11_38, gf11_39, uN_eq, uN_ne, h1, hr, hg, hz]
    refine ⟨fun q => by omega, fun _ => ⟨by omega, by omega, ?_⟩⟩
    rw [cpS_s hk]
    have ow : Out 170 170 h (hWr h 170 (cA 480 (cpS r (24 * u) g (k + 1)))) := Out.refl.wr (by omega) (by omega)
    exact ih (k + 1) _ (by omega) (by omega) (by rw [hRd_ne (by omega)]; exact h1) (by rw [hRd_ne (by omega)]; exact hg) hRd_eq (fun h2 x e2 o2 => kk h2 x e2 (ow.trans o2))
end
section
variable {d : Nat} {f wt tk bh kp sd ea la bj bm : Int → Int} {n pl M P J s ct bt : Int} {S : SS} {Hs : List SS} {im : Int → SS} {h : LHeap} {Q : Option Value → LHeap → Prop} {x y : Int}
theorem m_rem (hd : 1 ≤ d) (c : MI f n pl M P J wt tk bh S Hs kp sd im s ct ea la bt bj bm h) (hB : BD f n pl M P J wt tk bh S Hs kp sd im s ct ea la bt bj bm) (kk : ∀ (h1 : LHeap) (z : Nat → Int) (g : Int → Int), MR f n pl M P J wt tk bh ((S :: Hs).take 20) kp sd im s ct ea la bt bj bm z h1 → hRd h1 160 = cA 24 g → SG P J S g 0 → Out 156 180 h h1 → Q none h1) : CALL d 140 [.ref 156] h Q := by
  obtain ⟨z, g, ⟨a1, ⟨z0, z1, z2, z7, z9, z10, z24, z29, z35⟩, ⟨r1, a3, a3b⟩, ⟨r2, a4, a4b⟩, ⟨r3, a5, a5b⟩, a6, ⟨r4, a7, a7b, a7c⟩, a8, a9, a10, a11, ⟨r5, a12, a12b⟩, ⟨a13, a13b⟩, a14⟩, b1, b2⟩ := c
  have hP := hB.2.1.2.1
  have hJ := hB.2.1.2.2.1
  have hSB := hB.2.2.1
  have hHB := hB.2.2.2.1
  have hl6 := hSB.len hP.2
  -- the second loop
  have st : ∀ (h2 : LHeap) (zq : Nat → Int) (r : Int → Int) (u : Int) (l1 : Option Value), zq 24 = u → 0 ≤ u → u ≤ 19 → (∀ i, ¬ i = 24 → zq i = z i) → hRd h2 156 = oM zq → hRd h2 170 = cA 480 r → (∀ a, ¬ (a = 156 ∨ a = 170) → hRd h2 a = hRd h a) → h2.1 = h.1 ∧ h2.2.1 = h.2.1 → (((S :: Hs).take 20).length : Int) = u + 1 → (∀ (k : Nat) (S1 : SS), (S :: Hs)[k + 1]? = some S1 → (k : Int) < u → SG P J S1 r (24 * (u - 1 - (k : Int)))) → WP (d - 1) 140 28 [some (.ref 156), l1] [] h2 Q := by
    intro h2 zq r u l1 hz hu0 hu1 hzz e1 e2 k0 k01 hlen hold
    simp (disch := omega) only [wr_id, wr_m1, sd_t, nl_I, nl_R, nl_none, c1_I, c1_R, sh_0, sh_1, sh_2, sh_3, sh_4, true_and, and_true, ldA_A, ldB_B, ldS_S, stA_A, stB_B, aL_A, aL_B, aL_S, aC_A, hRd_eq, hRd_ne, cp6, cp8, tl_some, tl_none, List.cons_append, List.nil_append, ofI_t0, ofI_t1, Int.add_zero, Int.zero_add, x140_28, x140_29, x140_30]
    refine l_rm2 (r := r) (g := g) hz ⟨hu0, hu1⟩ 24 0 h2 (by omega) (by omega) e1 (by rw [k0 _ (by omega)]; exact b1) (by rw [cpS_0]; exact e2) (fun h3 x e3 o3 => ?_)
    have h31 : hRd h3 156 = oM zq := by rw [o3.2.2 _ (by omega)]; exact e1
    simp (disch := omega) only [wr_id, wr_m1, sd_t, nl_I, nl_R, nl_none, c1_I, c1_R, sh_0, sh_1, sh_2, sh_3, sh_4, true_and, and_true, ldA_A, ldB_B, ldS_S, stA_A, stB_B, aL_A, aL_B, aL_S, aC_A, hRd_eq, hRd_ne, cp6, cp8, tl_some, tl_none, List.cons_append, List.nil_append, ofI_t0, ofI_t1, Int.add_zero, Int.zero_add, x140_49, x140_50, x140_51, x140_52, x140_53, x140_54, x140_55, gf11_0, pf11_0, gf11_1, pf11_1, gf11_2, pf11_2, gf11_3, gf11_4, gf11_5, gf11_6, gf11_7, pf11_7, gf11_8, gf11_9, pf11_9, gf11_10, pf11_10, gf11_11, pf11_11, gf11_12, pf11_12, gf11_13, pf11_13, gf11_14, gf11_15, pf11_15, gf11_16, gf11_17, pf11_17, gf11_18, gf11_19, gf11_20, gf11_21, gf11_22, gf11_23, gf11_24, pf11_24, gf11_25, gf11_26, gf11_27, gf11_28, pf11_28, gf11_29, pf11_29, gf11_30, gf11_31, gf11_32, pf11_32, gf11_33, gf11_34, gf11_35, pf11_35, gf11_36, gf11_37, gf11_38, gf11_39, uN_eq, uN_ne, h31, hz]
    have k : ∀ a, ¬ (a = 156 ∨ a = 170) → hRd (hWr h3 156 (oM (uN zq 24 (u + 1)))) a = hRd h a := fun a ha => by rw [hRd_ne (by omega), o3.2.2 _ (by omega)]; exact k0 a ha
    refine kk _ (uN zq 24 (u + 1)) g ⟨hRd_eq, ⟨(hzz 0 (by omega)).trans z0, (hzz 1 (by omega)).trans z1, (hzz 2 (by omega)).trans z2, (hzz 7 (by omega)).trans z7, (hzz 9 (by omega)).trans z9, (hzz 10 (by omega)).trans z10, hlen.symm, (hzz 29 (by omega)).trans z29, (hzz 35 (by omega)).trans z35⟩, ⟨r1, by rw [k _ (by omega)]; exact a3, a3b⟩, ⟨r2, by rw [k _ (by omega)]; exact a4, a4b⟩, ⟨r3, by rw [k _ (by omega)]; exact a5, a5b⟩, by rw [k _ (by omega)]; exact a6, ⟨cpS r (24 * u) g 24, by rw [hRd_ne (by omega)]; exact e3, ?_, ?_⟩, by rw [k _ (by omega)]; exact a8, by rw [k _ (by omega)]; exact a9, by rw [k _ (by omega)]; exact a10, by rw [k _ (by omega)]; exact a11, ⟨r5, by rw [k _ (by omega)]; exact a12, a12b⟩, ⟨by rw [k _ (by omega)]; exact a13, a13b⟩, a14.agree (fun q hq => k q (by omega))⟩ (by rw [k _ (by omega)]; exact b1) b2 ⟨by show h3.1 = h.1; rw [o3.1]; exact k01.1, by show h3.2.1 = h.2.1; rw [o3.2.1]; exact k01.2, fun a ha => k a (by omega)⟩
    · rw [List.length_take]; omega
    · intro i S1 hi
      have hi20 : i < 20 ∧ (S :: Hs)[i]? = some S1 := by
        rw [List.getElem?_take] at hi
        by_cases q : i < 20
        · rw [if_pos q] at hi; exact ⟨q, hi⟩
        · rw [if_neg q] at hi; cases hi
      rw [hlen]
      cases i with
      | zero =>
        have : S = S1 := by simpa using hi20.2
        subst this
        refine b2.mv hP.2 hJ.2 hl6 (fun i i0 i1 => ?_)
        unfold cpS
        rw [if_pos (by omega), show 24 * (u + 1 - 1 - ((0 : Nat) : Int)) + i - 24 * u = 0 + i by omega]
      | succ i =>
        have hil : i + 1 < ((S :: Hs).take 20).length := (List.getElem?_eq_some_iff.mp hi).1
        have h3 := hold i S1 hi20.2 (by omega)
        have hS1 := hHB S1 (by have := List.mem_of_getElem? (show Hs[i]? = some S1 by simpa using hi20.2); exact this)
        refine h3.mv hP.2 hJ.2 (hS1.len hP.2) (fun j j0 j1 => ?_)
        unfold cpS
        rw [if_neg (by omega), show 24 * (u + 1 - 1 - ((i + 1 : Nat) : Int)) + j = 24 * (u - 1 - (i : Int)) + j by omega]
  refine cl140 (by omega) a1 ?_
  by_cases q : Hs.length = 20
  · have z24b : z 24 = 20 := by omega
    simp (disch := omega) only [wr_id, wr_m1, sd_t, nl_I, nl_R, nl_none, c1_I, c1_R, sh_0, sh_1, sh_2, sh_3, sh_4, true_and, and_true, ldA_A, ldB_B, ldS_S, stA_A, stB_B, aL_A, aL_B, aL_S, aC_A, hRd_eq, hRd_ne, cp6, cp8, tl_some, tl_none, List.cons_append, List.nil_append, ofI_t0, ofI_t1, Int.add_zero, Int.zero_add, x140_0, x140_1, x140_2, x140_3, x140_4, x140_5, x140_6, gf11_0, pf11_0, gf11_1, pf11_1, gf11_2, pf11_2, gf11_3, gf11_4, gf11_5, gf11_6, gf11_7, pf11_7, gf11_8, gf11_9, pf11_9, gf11_10, pf11_10, gf11_11, pf11_11, gf11_12, pf11_12, gf11_13, pf11_13, gf11_14, gf11_15, pf11_15, gf11_16, gf11_17, pf11_17, gf11_18, gf11_19, gf11_20, gf11_21, gf11_22, gf11_23, gf11_24, pf11_24, gf11_25, gf11_26, gf11_27, gf11_28, pf11_28, gf11_29, pf11_29, gf11_30, gf11_31, gf11_32, pf11_32, gf11_33, gf11_34, gf11_35, pf11_35, gf11_36, gf11_37, gf11_38, gf11_39, uN_eq, uN_ne, a1, z24b]
    refine ⟨fun q => by first | omega | exact absurd rfl q | exact absurd trivial q | exact absurd q (by omega), fun _ => ?_⟩
    refine l_rm1 (r := r4) 456 24 h (by omega) (by omega) a1 (by rw [shF_0]; exact a7) (fun h2 x e2 o2 => ?_)
    have h21 : hRd h2 156 = oM z := by rw [o2.2.2 _ (by omega)]; exact a1
    simp (disch := omega) only [wr_id, wr_m1, sd_t, nl_I, nl_R, nl_none, c1_I, c1_R, sh_0, sh_1, sh_2, sh_3, sh_4, true_and, and_true, ldA_A, ldB_B, ldS_S, stA_A, stB_B, aL_A, aL_B, aL_S, aC_A, hRd_eq, hRd_ne, cp6, cp8, tl_some, tl_none, List.cons_append, List.nil_append, ofI_t0, ofI_t1, Int.add_zero, Int.zero_add, x140_22, x140_23, x140_24, x140_25, x140_26, x140_27, gf11_0, pf11_0, gf11_1, pf11_1, gf11_2, pf11_2, gf11_3, gf11_4, gf11_5, gf11_6, gf11_7, pf11_7, gf11_8, gf11_9, pf11_9, gf11_10, pf11_10, gf11_11, pf11_11, gf11_12, pf11_12, gf11_13, pf11_13, gf11_14, gf11_15, pf11_15, gf11_16, gf11_17, pf11_17, gf11_18, gf11_19, gf11_20, gf11_21, gf11_22, gf11_23, gf11_24, pf11_24, gf11_25, gf11_26, gf11_27, gf11_28, pf11_28, gf11_29, pf11_29, gf11_30, gf11_31, gf11_32, pf11_32, gf11_33, gf11_34, gf11_35, pf11_35, gf11_36, gf11_37, gf11_38, gf11_39, uN_eq, uN_ne, h21, z24b]
    refine st _ (uN z 24 (20 - 1)) (shF r4 480) 19 _ rfl (by omega) (by omega) (fun i hi => uN_ne hi) hRd_eq (by rw [hRd_ne (by omega)]; exact e2) (fun a ha => by rw [hRd_ne (by omega), o2.2.2 _ (by omega)]) ⟨o2.1, o2.2.1⟩ (by simp [q]) (fun i S1 hi hlt => ?_)
    have h3 := a7c i S1 (by simpa using hi)
    have hS1 := hHB S1 (List.mem_of_getElem? (show Hs[i]? = some S1 by simpa using hi))
    refine h3.mv hP.2 hJ.2 (hS1.len hP.2) (fun j j0 j1 => ?_)
    unfold shF
    rw [if_pos (by omega), q, show 24 * (19 - 1 - (i : Int)) + j + 24 = 24 * (((20 : Nat) : Int) - 1 - (i : Int)) + j by omega]
  · simp (disch := omega) only [wr_id, wr_m1, sd_t, nl_I, nl_R, nl_none, c1_I, c1_R, sh_0, sh_1, sh_2, sh_3, sh_4, true_and, and_true, ldA_A, ldB_B, ldS_S, stA_A, stB_B, aL_A, aL_B, aL_S, aC_A, hRd_eq, hRd_ne, cp6, cp8, tl_some, tl_none, List.cons_append, List.nil_append, ofI_t0, ofI_t1, Int.add_zero, Int.zero_add, x140_0, x140_1, x140_2, x140_3, gf11_0, pf11_0, gf11_1, pf11_1, gf11_2, pf11_2, gf11_3, gf11_4, gf11_5, gf11_6, gf11_7, pf11_7, gf11_8, gf11_9, pf11_9, gf11_10, pf11_10, gf11_11, pf11_11, gf11_12, pf11_12, gf11_13, pf11_13, gf11_14, gf11_15, pf11_15, gf11_16, gf11_17, pf11_17, gf11_18, gf11_19, gf11_20, gf11_21, gf11_22, gf11_23, gf11_24, pf11_24, gf11_25, gf11_26, gf11_27, gf11_28, pf11_28, gf11_29, pf11_29, gf11_30, gf11_31, gf11_32, pf11_32, gf11_33, gf11_34, gf11_35, pf11_35, gf11_36, gf11_37, gf11_38, gf11_39, uN_eq, uN_ne, a1, z24]
    refine ⟨fun _ => ?_, fun q2 => absurd (by omega) q2⟩
    refine st h z r4 Hs.length _ z24 (by omega) (by omega) (fun _ _ => rfl) a1 a7 (fun _ _ => rfl) ⟨rfl, rfl⟩ (by rw [List.length_take, List.length_cons]; omega) (fun i S1 hi hlt => a7c i S1 (by simpa using hi))
theorem MI.now {S1 : SS} {z : Nat → Int} {g1 : Int → Int} {h1 : LHeap} (c : MR f n pl M P J wt tk bh Hs kp sd im s ct ea la bt bj bm z h) (hS : SG P J S1 g1 0) (o : Out 160 160 h h1) (e : hRd h1 160 = cA 24 g1) : MI f n pl M P J wt tk bh (S1) Hs kp sd im s ct ea la bt bj bm h1 := MI.os c (OS.o160 o) (by rw [o.2.2 _ (by omega)]; exact c.1) (fun _ _ => rfl) e hS
theorem m_hand (hd : 3 ≤ d) (c : MI f n pl M P J wt tk bh S Hs kp sd im s ct ea la bt bj bm h) (hB : BD f n pl M P J wt tk bh S Hs kp sd im s ct ea la bt bj bm) (hx : -2147483648 ≤ x ∧ x ≤ 2147483647) (hy : -2147483648 ≤ y ∧ y ≤ 2147483647) (k1 : ¬ ((0 ≤ x ∧ x < J) ∧ 0 ≤ y ∧ y < P) → Q (some (vI (-1000000001))) h) (k2 : 0 ≤ x → x < J → 0 ≤ y → y < P → ∀ h1, MI f n pl M P J wt tk bh ((S.1, S.2.1, uA S.2.2.1 x y, S.2.2.2)) ((S :: Hs).take 20) kp sd im s ct ea la bt bj bm h1 → Out 156 180 h h1 → Q (some (vI (S.2.2.1 x))) h1) : CALL d 145 [.ref 156, vI x, vI y] h Q := by
  obtain ⟨z0, g0, cR0, -, -, hM0, -⟩ := c.go hB
  have hP := hB.2.1.2.1
  have hJ := hB.2.1.2.2.1
  refine cl145 (by omega) hM0.1 ?_
  simp (disch := omega) only [wr_id, wr_m1, sd_t, nl_I, nl_R, nl_none, c1_I, c1_R, sh_0, sh_1, sh_2, sh_3, sh_4, true_and, and_true, ldA_A, ldB_B, ldS_S, stA_A, stB_B, aL_A, aL_B, aL_S, aC_A, hRd_eq, hRd_ne, cp6, cp8, tl_some, tl_none, List.cons_append, List.nil_append, ofI_t0, ofI_t1, Int.add_zero, Int.zero_add, x145_0, x145_1, x145_2]
  refine m_isJ (by omega) hM0.1 (by rw [hM0.2.1.2.2]; exact hJ) hx ?_
  rw [hM0.2.1.2.2]
  by_cases q : 0 ≤ x ∧ x < J
  · rw [if_pos q]
    simp (disch := omega) only [wr_id, wr_m1, sd_t, nl_I, nl_R, nl_none, c1_I, c1_R, sh_0, sh_1, sh_2, sh_3, sh_4, true_and, and_true, ldA_A, ldB_B, ldS_S, stA_A, stB_B, aL_A, aL_B, aL_S, aC_A, hRd_eq, hRd_ne, cp6, cp8, tl_some, tl_none, List.cons_append, List.nil_append, ofI_t0, ofI_t1, Int.add_zero, Int.zero_add, x145_3, x145_4, x145_5, x145_6]
    refine ⟨fun q => by first | omega | exact absurd rfl q | exact absurd trivial q | exact absurd q (by omega), fun _ => ?_⟩
    refine m_isP (by omega) hM0.1 (by rw [hM0.2.1.2.1]; exact hP) hy ?_
    rw [hM0.2.1.2.1]
    by_cases q2 : 0 ≤ y ∧ y < P
    · rw [if_pos q2]
      simp (disch := omega) only [wr_id, wr_m1, sd_t, nl_I, nl_R, nl_none, c1_I, c1_R, sh_0, sh_1, sh_2, sh_3, sh_4, true_and, and_true, ldA_A, ldB_B, ldS_S, stA_A, stB_B, aL_A, aL_B, aL_S, aC_A, hRd_eq, hRd_ne, cp6, cp8, tl_some, tl_none, List.cons_append, List.nil_append, ofI_t0, ofI_t1, Int.add_zero, Int.zero_add, x145_7, x145_10, x145_11]
      refine ⟨fun _ => ?_, fun q => by first | omega | exact absurd rfl q | exact absurd trivial q | exact absurd q (by omega)⟩
      refine m_rem (by omega) c hB (fun h1 z g cR b1 hSG o1 => ?_)
      have a1 := cR.1
      have hsc := hSG.sc
      have e9 := hsc.2.2.2.1 x q.1 q.2
      have hN := hSG.nr hB.2.2.1.1 hP.2 hB.2.2.1.2.1
      simp (disch := omega) only [wr_id, wr_m1, sd_t, nl_I, nl_R, nl_none, c1_I, c1_R, sh_0, sh_1, sh_2, sh_3, sh_4, true_and, and_true, ldA_A, ldB_B, ldS_S, stA_A, stB_B, aL_A, aL_B, aL_S, aC_A, hRd_eq, hRd_ne, cp6, cp8, tl_some, tl_none, List.cons_append, List.nil_append, ofI_t0, ofI_t1, Int.add_zero, Int.zero_add, x145_12, x145_13, x145_14, x145_15, x145_16, x145_17, x145_18, x145_19, x145_20, x145_21, x145_22, x145_23, x145_24, x145_25, x145_26, x145_27, gf11_0, pf11_0, gf11_1, pf11_1, gf11_2, pf11_2, gf11_3, gf11_4, gf11_5, gf11_6, gf11_7, pf11_7, gf11_8, gf11_9, pf11_9, gf11_10, pf11_10, gf11_11, pf11_11, gf11_12, pf11_12, gf11_13, pf11_13, gf11_14, gf11_15, pf11_15, gf11_16, gf11_17, pf11_17, gf11_18, gf11_19, gf11_20, gf11_21, gf11_22, gf11_23, gf11_24, pf11_24, gf11_25, gf11_26, gf11_27, gf11_28, pf11_28, gf11_29, pf11_29, gf11_30, gf11_31, gf11_32, pf11_32, gf11_33, gf11_34, gf11_35, pf11_35, gf11_36, gf11_37, gf11_38, gf11_39, uN_eq, uN_ne, a1, b1, e9]
      refine ⟨by omega, by omega, ?_⟩
      have ow : Out 160 160 h1 (hWr h1 160 (cA 24 (uA g (9 + x) y))) := Out.refl.wr (by omega) (by omega)
      refine k2 q.1 q.2 q2.1 q2.2 _ (MI.now cR (g1 := uA g (9 + x) y) ?_ ow hRd_eq) (o1.trans (ow.widen (by omega) (by omega)))
      obtain ⟨-, -, s7, s8, -, -, s23⟩ := hSG
      rw [Int.zero_add] at s7 s8 s23
      refine SG.mk0 (((hN.ri.u6 (by omega)).nr (uA_ne (by omega)))) (by rw [uA_ne (by omega)]; exact s7) (by rw [uA_ne (by omega)]; exact s8) (fun j j0 j1 => ?_) (fun p p0 p1 => by rw [uA_ne (by omega)]; exact hsc.2.2.2.2 p p0 p1) (by rw [uA_ne (by omega)]; exact s23)
      by_cases e : j = x
      · rw [e, uA_eq, uA_eq]
      · rw [uA_ne (by omega), uA_ne e]; exact hsc.2.2.2.1 j j0 j1
    · rw [if_neg q2]
      simp (disch := omega) only [wr_id, wr_m1, sd_t, nl_I, nl_R, nl_none, c1_I, c1_R, sh_0, sh_1, sh_2, sh_3, sh_4, true_and, and_true, ldA_A, ldB_B, ldS_S, stA_A, stB_B, aL_A, aL_B, aL_S, aC_A, hRd_eq, hRd_ne, cp6, cp8, tl_some, tl_none, List.cons_append, List.nil_append, ofI_t0, ofI_t1, Int.add_zero, Int.zero_add, x145_7, x145_8, x145_9]
      exact ⟨fun q => by first | omega | exact absurd rfl q | exact absurd trivial q | exact absurd q (by omega), fun _ => k1 (fun z => q2 z.2)⟩
  · rw [if_neg q]
    simp (disch := omega) only [wr_id, wr_m1, sd_t, nl_I, nl_R, nl_none, c1_I, c1_R, sh_0, sh_1, sh_2, sh_3, sh_4, true_and, and_true, ldA_A, ldB_B, ldS_S, stA_A, stB_B, aL_A, aL_B, aL_S, aC_A, hRd_eq, hRd_ne, cp6, cp8, tl_some, tl_none, List.cons_append, List.nil_append, ofI_t0, ofI_t1, Int.add_zero, Int.zero_add, x145_3, x145_8, x145_9]
    exact ⟨fun _ => k1 (fun z => q z.1), fun q => by first | omega | exact absurd rfl q | exact absurd trivial q | exact absurd q (by omega)⟩
theorem m_wake (hd : 3 ≤ d) (c : MI f n pl M P J wt tk bh S Hs kp sd im s ct ea la bt bj bm h) (hB : BD f n pl M P J wt tk bh S Hs kp sd im s ct ea la bt bj bm) (hx : -2147483648 ≤ x ∧ x ≤ 2147483647) (hy : -2147483648 ≤ y ∧ y ≤ 2147483647) (k1 : ¬ (0 ≤ x ∧ x < P) → Q (some (vI (-1000000001))) h) (k2 : 0 ≤ x → x < P → ¬ (0 ≤ y ∧ y ≤ 999) → Q (some (vI (-1000000002))) h) (k3 : 0 ≤ x → x < P → 0 ≤ y → y ≤ 999 → ∀ h1, MI f n pl M P J wt tk bh ((S.1, uA S.2.1 x y, S.2.2)) ((S :: Hs).take 20) kp sd im s ct ea la bt bj bm h1 → Out 156 180 h h1 → Q (some (vI (S.2.1 x))) h1) : CALL d 148 [.ref 156, vI x, vI y] h Q := by
  obtain ⟨z0, g0, cR0, -, -, hM0, -⟩ := c.go hB
  have hP := hB.2.1.2.1
  have hJ := hB.2.1.2.2.1
  refine cl148 (by omega) hM0.1 ?_
  simp (disch := omega) only [wr_id, wr_m1, sd_t, nl_I, nl_R, nl_none, c1_I, c1_R, sh_0, sh_1, sh_2, sh_3, sh_4, true_and, and_true, ldA_A, ldB_B, ldS_S, stA_A, stB_B, aL_A, aL_B, aL_S, aC_A, hRd_eq, hRd_ne, cp6, cp8, tl_some, tl_none, List.cons_append, List.nil_append, ofI_t0, ofI_t1, Int.add_zero, Int.zero_add, x148_0, x148_1, x148_2]
  refine m_isP (by omega) hM0.1 (by rw [hM0.2.1.2.1]; exact hP) hx ?_
  rw [hM0.2.1.2.1]
  by_cases q : 0 ≤ x ∧ x < P
  · rw [if_pos q]
    simp (disch := omega) only [wr_id, wr_m1, sd_t, nl_I, nl_R, nl_none, c1_I, c1_R, sh_0, sh_1, sh_2, sh_3, sh_4, true_and, and_true, ldA_A, ldB_B, ldS_S, stA_A, stB_B, aL_A, aL_B, aL_S, aC_A, hRd_eq, hRd_ne, cp6, cp8, tl_some, tl_none, List.cons_append, List.nil_append, ofI_t0, ofI_t1, Int.add_zero, Int.zero_add, x148_3, x148_6, x148_7, x148_8, x148_9, x148_10]
    refine ⟨fun _ => ?_, fun q => by first | omega | exact absurd rfl q | exact absurd trivial q | exact absurd q (by omega)⟩
    refine m_in (by omega) (by omega) (by omega) (by omega) ?_
    by_cases q2 : 0 ≤ y ∧ y ≤ 999
    · rw [if_pos q2]
      simp (disch := omega) only [wr_id, wr_m1, sd_t, nl_I, nl_R, nl_none, c1_I, c1_R, sh_0, sh_1, sh_2, sh_3, sh_4, true_and, and_true, ldA_A, ldB_B, ldS_S, stA_A, stB_B, aL_A, aL_B, aL_S, aC_A, hRd_eq, hRd_ne, cp6, cp8, tl_some, tl_none, List.cons_append, List.nil_append, ofI_t0, ofI_t1, Int.add_zero, Int.zero_add, x148_11, x148_14, x148_15]
      refine ⟨fun _ => ?_, fun q => by first | omega | exact absurd rfl q | exact absurd trivial q | exact absurd q (by omega)⟩
      refine m_rem (by omega) c hB (fun h1 z g cR b1 hSG o1 => ?_)
      have a1 := cR.1
      have hsc := hSG.sc
      have e9 := hsc.2.2.2.2 x q.1 q.2
      have hN := hSG.nr hB.2.2.1.1 hP.2 hB.2.2.1.2.1
      simp (disch := omega) only [wr_id, wr_m1, sd_t, nl_I, nl_R, nl_none, c1_I, c1_R, sh_0, sh_1, sh_2, sh_3, sh_4, true_and, and_true, ldA_A, ldB_B, ldS_S, stA_A, stB_B, aL_A, aL_B, aL_S, aC_A, hRd_eq, hRd_ne, cp6, cp8, tl_some, tl_none, List.cons_append, List.nil_append, ofI_t0, ofI_t1, Int.add_zero, Int.zero_add, x148_16, x148_17, x148_18, x148_19, x148_20, x148_21, x148_22, x148_23, x148_24, x148_25, x148_26, x148_27, x148_28, x148_29, x148_30, x148_31, gf11_0, pf11_0, gf11_1, pf11_1, gf11_2, pf11_2, gf11_3, gf11_4, gf11_5, gf11_6, gf11_7, pf11_7, gf11_8, gf11_9, pf11_9, gf11_10, pf11_10, gf11_11, pf11_11, gf11_12, pf11_12, gf11_13, pf11_13, gf11_14, gf11_15, pf11_15, gf11_16, gf11_17, pf11_17, gf11_18, gf11_19, gf11_20, gf11_21, gf11_22, gf11_23, gf11_24, pf11_24, gf11_25, gf11_26, gf11_27, gf11_28, pf11_28, gf11_29, pf11_29, gf11_30, gf11_31, gf11_32, pf11_32, gf11_33, gf11_34, gf11_35, pf11_35, gf11_36, gf11_37, gf11_38, gf11_39, uN_eq, uN_ne, a1, b1, e9]
      refine ⟨by omega, by omega, ?_⟩
      have ow : Out 160 160 h1 (hWr h1 160 (cA 24 (uA g (17 + x) y))) := Out.refl.wr (by omega) (by omega)
      refine k3 q.1 q.2 q2.1 q2.2 _ (MI.now cR (g1 := uA g (17 + x) y) ?_ ow hRd_eq) (o1.trans (ow.widen (by omega) (by omega)))
      obtain ⟨-, -, s7, s8, -, -, s23⟩ := hSG
      rw [Int.zero_add] at s7 s8 s23
      refine SG.mk0 (((hN.ri.u6 (by omega)).nr (uA_ne (by omega)))) (by rw [uA_ne (by omega)]; exact s7) (by rw [uA_ne (by omega)]; exact s8) (fun j j0 j1 => by rw [uA_ne (by omega)]; exact hsc.2.2.2.1 j j0 j1) (fun p p0 p1 => ?_) (by rw [uA_ne (by omega)]; exact s23)
      by_cases e : p = x
      · rw [e, uA_eq, uA_eq]
      · rw [uA_ne (by omega), uA_ne e]; exact hsc.2.2.2.2 p p0 p1
    · rw [if_neg q2]
      simp (disch := omega) only [wr_id, wr_m1, sd_t, nl_I, nl_R, nl_none, c1_I, c1_R, sh_0, sh_1, sh_2, sh_3, sh_4, true_and, and_true, ldA_A, ldB_B, ldS_S, stA_A, stB_B, aL_A, aL_B, aL_S, aC_A, hRd_eq, hRd_ne, cp6, cp8, tl_some, tl_none, List.cons_append, List.nil_append, ofI_t0, ofI_t1, Int.add_zero, Int.zero_add, x148_11, x148_12, x148_13]
      exact ⟨fun q => by first | omega | exact absurd rfl q | exact absurd trivial q | exact absurd q (by omega), fun _ => k2 q.1 q.2 q2⟩
  · rw [if_neg q]
    simp (disch := omega) only [wr_id, wr_m1, sd_t, nl_I, nl_R, nl_none, c1_I, c1_R, sh_0, sh_1, sh_2, sh_3, sh_4, true_and, and_true, ldA_A, ldB_B, ldS_S, stA_A, stB_B, aL_A, aL_B, aL_S, aC_A, hRd_eq, hRd_ne, cp6, cp8, tl_some, tl_none, List.cons_append, List.nil_append, ofI_t0, ofI_t1, Int.add_zero, Int.zero_add, x148_3, x148_4, x148_5]
    exact ⟨fun q => by first | omega | exact absurd rfl q | exact absurd trivial q | exact absurd q (by omega), fun _ => k1 q⟩
theorem m_eyes (hd : 3 ≤ d) (c : MI f n pl M P J wt tk bh S Hs kp sd im s ct ea la bt bj bm h) (hB : BD f n pl M P J wt tk bh S Hs kp sd im s ct ea la bt bj bm) (hx : -2147483648 ≤ x ∧ x ≤ 2147483647) (hy : -2147483648 ≤ y ∧ y ≤ 2147483647) (k1 : ¬ (0 ≤ x ∧ x < P) → Q (some (vI (-1000000001))) h) (k2 : 0 ≤ x → x < P → ∀ h1, MI f n pl M P J wt tk bh ((S.1, S.2.1, S.2.2.1, (if y = 0 then zand S.2.2.2.1 (zxor (zshl 1 x) (-1)) else zor S.2.2.2.1 (zshl 1 x)), S.2.2.2.2)) ((S :: Hs).take 20) kp sd im s ct ea la bt bj bm h1 → Out 156 180 h h1 → Q (some (vI (zand (zshr S.2.2.2.1 x) 1))) h1) : CALL d 144 [.ref 156, vI x, vI y] h Q := by
  obtain ⟨z0, g0, cR0, -, -, hM0, -⟩ := c.go hB
  have hP := hB.2.1.2.1
  have hJ := hB.2.1.2.2.1
  refine cl144 (by omega) hM0.1 ?_
  simp (disch := omega) only [wr_id, wr_m1, sd_t, nl_I, nl_R, nl_none, c1_I, c1_R, sh_0, sh_1, sh_2, sh_3, sh_4, true_and, and_true, ldA_A, ldB_B, ldS_S, stA_A, stB_B, aL_A, aL_B, aL_S, aC_A, hRd_eq, hRd_ne, cp6, cp8, tl_some, tl_none, List.cons_append, List.nil_append, ofI_t0, ofI_t1, Int.add_zero, Int.zero_add, x144_0, x144_1, x144_2]
  refine m_isP (by omega) hM0.1 (by rw [hM0.2.1.2.1]; exact hP) hx ?_
  rw [hM0.2.1.2.1]
  by_cases q : 0 ≤ x ∧ x < P
  · rw [if_pos q]
    simp (disch := omega) only [wr_id, wr_m1, sd_t, nl_I, nl_R, nl_none, c1_I, c1_R, sh_0, sh_1, sh_2, sh_3, sh_4, true_and, and_true, ldA_A, ldB_B, ldS_S, stA_A, stB_B, aL_A, aL_B, aL_S, aC_A, hRd_eq, hRd_ne, cp6, cp8, tl_some, tl_none, List.cons_append, List.nil_append, ofI_t0, ofI_t1, Int.add_zero, Int.zero_add, x144_3, x144_6, x144_7]
    refine ⟨fun _ => ?_, fun q => by first | omega | exact absurd rfl q | exact absurd trivial q | exact absurd q (by omega)⟩
    refine m_rem (by omega) c hB (fun h1 z g cR b1 hSG o1 => ?_)
    have a1 := cR.1
    have hsc := hSG.sc
    have hN := hSG.nr hB.2.2.1.1 hP.2 hB.2.2.1.2.1
    obtain ⟨-, -, s7, s8, -, -, s23⟩ := hSG
    rw [Int.zero_add] at s7 s8 s23
    have fin : ∀ v, v = (if y = 0 then zand S.2.2.2.1 (zxor (zshl 1 x) (-1)) else zor S.2.2.2.1 (zshl 1 x)) → Q (some (vI (zand (zshr S.2.2.2.1 x) 1))) (hWr h1 160 (cA 24 (uA g 7 v))) := fun v hv => by
      have ow : Out 160 160 h1 (hWr h1 160 (cA 24 (uA g 7 v))) := Out.refl.wr (by omega) (by omega)
      refine k2 q.1 q.2 _ (MI.now cR (g1 := uA g 7 v) ?_ ow hRd_eq) (o1.trans (ow.widen (by omega) (by omega)))
      exact SG.mk0 (((hN.ri.u6 (by omega)).nr (uA_ne (by omega)))) (by rw [uA_eq]; exact hv) (by rw [uA_ne (by omega)]; exact s8) (fun j j0 j1 => by rw [uA_ne (by omega)]; exact hsc.2.2.2.1 j j0 j1) (fun p p0 p1 => by rw [uA_ne (by omega)]; exact hsc.2.2.2.2 p p0 p1) (by rw [uA_ne (by omega)]; exact s23)
    simp (disch := omega) only [wr_id, wr_m1, sd_t, nl_I, nl_R, nl_none, c1_I, c1_R, sh_0, sh_1, sh_2, sh_3, sh_4, true_and, and_true, ldA_A, ldB_B, ldS_S, stA_A, stB_B, aL_A, aL_B, aL_S, aC_A, hRd_eq, hRd_ne, cp6, cp8, tl_some, tl_none, List.cons_append, List.nil_append, ofI_t0, ofI_t1, Int.add_zero, Int.zero_add, x144_8, x144_9, x144_10, x144_11, x144_12, x144_13, x144_14, x144_15, x144_16, x144_17, x144_18, x144_19, x144_20, x144_21, x144_22, x144_23, x144_24, x144_25, x144_26, x144_27, x144_28, x144_29, x144_30, x144_31, x144_32, x144_33, x144_34, x144_35, x144_36, x144_37, x144_38, x144_39, x144_40, x144_41, x144_42, x144_43, gf11_0, pf11_0, gf11_1, pf11_1, gf11_2, pf11_2, gf11_3, gf11_4, gf11_5, gf11_6, gf11_7, pf11_7, gf11_8, gf11_9, pf11_9, gf11_10, pf11_10, gf11_11, pf11_11, gf11_12, pf11_12, gf11_13, pf11_13, gf11_14, gf11_15, pf11_15, gf11_16, gf11_17, pf11_17, gf11_18, gf11_19, gf11_20, gf11_21, gf11_22, gf11_23, gf11_24, pf11_24, gf11_25, gf11_26, gf11_27, gf11_28, pf11_28, gf11_29, pf11_29, gf11_30, gf11_31, gf11_32, pf11_32, gf11_33, gf11_34, gf11_35, pf11_35, gf11_36, gf11_37, gf11_38, gf11_39, uN_eq, uN_ne, a1, b1, s7]
    refine ⟨by omega, fun q2 => ⟨by omega, by omega, fin _ ?_⟩, fun q2 => ⟨by omega, by omega, fin _ ?_⟩⟩
    · rw [if_pos q2]
    · rw [if_neg q2]
  · rw [if_neg q]
    simp (disch := omega) only [wr_id, wr_m1, sd_t, nl_I, nl_R, nl_none, c1_I, c1_R, sh_0, sh_1, sh_2, sh_3, sh_4, true_and, and_true, ldA_A, ldB_B, ldS_S, stA_A, stB_B, aL_A, aL_B, aL_S, aC_A, hRd_eq, hRd_ne, cp6, cp8, tl_some, tl_none, List.cons_append, List.nil_append, ofI_t0, ofI_t1, Int.add_zero, Int.zero_add, x144_3, x144_4, x144_5]
    exact ⟨fun q => by first | omega | exact absurd rfl q | exact absurd trivial q | exact absurd q (by omega), fun _ => k1 q⟩
theorem m_dismiss (hd : 4 ≤ d) (c : MI f n pl M P J wt tk bh S Hs kp sd im s ct ea la bt bj bm h) (hB : BD f n pl M P J wt tk bh S Hs kp sd im s ct ea la bt bj bm) (hx : -2147483648 ≤ x ∧ x ≤ 2147483647) (k1 : ¬ (0 ≤ x ∧ x < P) → Q (some (vI (-1000000001))) h) (k2 : 0 ≤ x → x < P → pfrom S.1 x 0 = -1 → Q (some (vI (-1000000003))) h) (k3 : 0 ≤ x → x < P → ¬ pfrom S.1 x 0 = -1 → ∀ h1, MI f n pl M P J wt tk bh ((outL S.1 x, S.2)) ((S :: Hs).take 20) kp sd im s ct ea la bt bj bm h1 → Out 156 180 h h1 → Q (some (vI (outL S.1 x).length)) h1) : CALL d 147 [.ref 156, vI x] h Q := by
  obtain ⟨z0, g0, cR0, h160, hSG0, hM0, hS0, hN0, h80, -⟩ := c.go hB
  have hP := hB.2.1.2.1
  have hJ := hB.2.1.2.2.1
  have hL6 := hN0.1.2.2.2
  have a10 := hM0.1
  refine cl147 (by omega) a10 ?_
  simp (disch := omega) only [wr_id, wr_m1, sd_t, nl_I, nl_R, nl_none, c1_I, c1_R, sh_0, sh_1, sh_2, sh_3, sh_4, true_and, and_true, ldA_A, ldB_B, ldS_S, stA_A, stB_B, aL_A, aL_B, aL_S, aC_A, hRd_eq, hRd_ne, cp6, cp8, tl_some, tl_none, List.cons_append, List.nil_append, ofI_t0, ofI_t1, Int.add_zero, Int.zero_add, x147_0, x147_1, x147_2]
  refine m_isP (by omega) hM0.1 (by rw [hM0.2.1.2.1]; exact hP) hx ?_
  rw [hM0.2.1.2.1]
  by_cases q : 0 ≤ x ∧ x < P
  · rw [if_pos q]
    simp (disch := omega) only [wr_id, wr_m1, sd_t, nl_I, nl_R, nl_none, c1_I, c1_R, sh_0, sh_1, sh_2, sh_3, sh_4, true_and, and_true, ldA_A, ldB_B, ldS_S, stA_A, stB_B, aL_A, aL_B, aL_S, aC_A, hRd_eq, hRd_ne, cp6, cp8, tl_some, tl_none, List.cons_append, List.nil_append, ofI_t0, ofI_t1, Int.add_zero, Int.zero_add, x147_3, x147_6, x147_7, x147_8, x147_9, x147_10, x147_11, gf11_0, pf11_0, gf11_1, pf11_1, gf11_2, pf11_2, gf11_3, gf11_4, gf11_5, gf11_6, gf11_7, pf11_7, gf11_8, gf11_9, pf11_9, gf11_10, pf11_10, gf11_11, pf11_11, gf11_12, pf11_12, gf11_13, pf11_13, gf11_14, gf11_15, pf11_15, gf11_16, gf11_17, pf11_17, gf11_18, gf11_19, gf11_20, gf11_21, gf11_22, gf11_23, gf11_24, pf11_24, gf11_25, gf11_26, gf11_27, gf11_28, pf11_28, gf11_29, pf11_29, gf11_30, gf11_31, gf11_32, pf11_32, gf11_33, gf11_34, gf11_35, pf11_35, gf11_36, gf11_37, gf11_38, gf11_39, uN_eq, uN_ne, a10, h160, h80]
    refine ⟨fun _ => ⟨by omega, ?_⟩, fun q => by first | omega | exact absurd rfl q | exact absurd trivial q | exact absurd q (by omega)⟩
    refine m_has (by omega) ?_
    by_cases q2 : pfrom S.1 x 0 = -1
    · rw [dis_y hP hL6 (by omega) (by omega) q.2 (pfrom_iff.mp q2)]
      simp (disch := omega) only [wr_id, wr_m1, sd_t, nl_I, nl_R, nl_none, c1_I, c1_R, sh_0, sh_1, sh_2, sh_3, sh_4, true_and, and_true, ldA_A, ldB_B, ldS_S, stA_A, stB_B, aL_A, aL_B, aL_S, aC_A, hRd_eq, hRd_ne, cp6, cp8, tl_some, tl_none, List.cons_append, List.nil_append, ofI_t0, ofI_t1, Int.add_zero, Int.zero_add, x147_12, x147_13, x147_14]
      exact ⟨fun q => by first | omega | exact absurd rfl q | exact absurd trivial q | exact absurd q (by omega), fun _ => k2 q.1 q.2 q2⟩
    · have hm : x ∈ S.1 := Classical.byContradiction (fun z => q2 (pfrom_iff.mpr z))
      rw [dis_n hP hL6 (by omega) (by omega) hm]
      simp (disch := omega) only [wr_id, wr_m1, sd_t, nl_I, nl_R, nl_none, c1_I, c1_R, sh_0, sh_1, sh_2, sh_3, sh_4, true_and, and_true, ldA_A, ldB_B, ldS_S, stA_A, stB_B, aL_A, aL_B, aL_S, aC_A, hRd_eq, hRd_ne, cp6, cp8, tl_some, tl_none, List.cons_append, List.nil_append, ofI_t0, ofI_t1, Int.add_zero, Int.zero_add, x147_12, x147_15, x147_16]
      refine ⟨fun _ => ?_, fun q => by first | omega | exact absurd rfl q | exact absurd trivial q | exact absurd q (by omega)⟩
      refine m_rem (by omega) c hB (fun h1 z g cR b1 hSG o1 => ?_)
      have a1 := cR.1
      have hsc := hSG.sc
      have hN := hSG.nr hB.2.2.1.1 hP.2 hB.2.2.1.2.1
      obtain ⟨-, -, s7, s8, -, -, s23⟩ := hSG
      rw [Int.zero_add] at s7 s8 s23
      simp (disch := omega) only [wr_id, wr_m1, sd_t, nl_I, nl_R, nl_none, c1_I, c1_R, sh_0, sh_1, sh_2, sh_3, sh_4, true_and, and_true, ldA_A, ldB_B, ldS_S, stA_A, stB_B, aL_A, aL_B, aL_S, aC_A, hRd_eq, hRd_ne, cp6, cp8, tl_some, tl_none, List.cons_append, List.nil_append, ofI_t0, ofI_t1, Int.add_zero, Int.zero_add, x147_17, x147_18, x147_19]
      refine m_disNow (by omega) a1 b1 hN hB.2.2.1.2.1 (by omega) q2 (fun g1 n1 k8 k7 h2 e2 o2 => ?_)
      have h21 : hRd h2 156 = oM z := by rw [o2.2.2 _ (by omega)]; exact a1
      have g6 := n1.2
      simp (disch := omega) only [wr_id, wr_m1, sd_t, nl_I, nl_R, nl_none, c1_I, c1_R, sh_0, sh_1, sh_2, sh_3, sh_4, true_and, and_true, ldA_A, ldB_B, ldS_S, stA_A, stB_B, aL_A, aL_B, aL_S, aC_A, hRd_eq, hRd_ne, cp6, cp8, tl_some, tl_none, List.cons_append, List.nil_append, ofI_t0, ofI_t1, Int.add_zero, Int.zero_add, x147_20, x147_21, x147_22, x147_23, x147_24, gf11_0, pf11_0, gf11_1, pf11_1, gf11_2, pf11_2, gf11_3, gf11_4, gf11_5, gf11_6, gf11_7, pf11_7, gf11_8, gf11_9, pf11_9, gf11_10, pf11_10, gf11_11, pf11_11, gf11_12, pf11_12, gf11_13, pf11_13, gf11_14, gf11_15, pf11_15, gf11_16, gf11_17, pf11_17, gf11_18, gf11_19, gf11_20, gf11_21, gf11_22, gf11_23, gf11_24, pf11_24, gf11_25, gf11_26, gf11_27, gf11_28, pf11_28, gf11_29, pf11_29, gf11_30, gf11_31, gf11_32, pf11_32, gf11_33, gf11_34, gf11_35, pf11_35, gf11_36, gf11_37, gf11_38, gf11_39, uN_eq, uN_ne, h21, e2, g6]
      refine ⟨by omega, k3 q.1 q.2 q2 h2 (MI.now cR (g1 := g1) ?_ o2 e2) (o1.trans (o2.widen (by omega) (by omega)))⟩
      exact SG.mk0 n1 (by rw [k7 _ (by omega) (by omega)]; exact s7) (by rw [k8, s8, dis_out hP hB.2.2.1.1 hB.2.2.1.2.1 q.1 q.2]) (fun j j0 j1 => by rw [k7 _ (by omega) (by omega)]; exact hsc.2.2.2.1 j j0 j1) (fun p p0 p1 => by rw [k7 _ (by omega) (by omega)]; exact hsc.2.2.2.2 p p0 p1) (by rw [k7 _ (by omega) (by omega)]; exact s23)
  · rw [if_neg q]
    simp (disch := omega) only [wr_id, wr_m1, sd_t, nl_I, nl_R, nl_none, c1_I, c1_R, sh_0, sh_1, sh_2, sh_3, sh_4, true_and, and_true, ldA_A, ldB_B, ldS_S, stA_A, stB_B, aL_A, aL_B, aL_S, aC_A, hRd_eq, hRd_ne, cp6, cp8, tl_some, tl_none, List.cons_append, List.nil_append, ofI_t0, ofI_t1, Int.add_zero, Int.zero_add, x147_3, x147_4, x147_5]
    exact ⟨fun q => by first | omega | exact absurd rfl q | exact absurd trivial q | exact absurd q (by omega), fun _ => k1 q⟩
theorem m_rank (hd : 3 ≤ d) (c : MI f n pl M P J wt tk bh S Hs kp sd im s ct ea la bt bj bm h) (hB : BD f n pl M P J wt tk bh S Hs kp sd im s ct ea la bt bj bm) (hx : -2147483648 ≤ x ∧ x ≤ 2147483647) (hy : -2147483648 ≤ y ∧ y ≤ 2147483647) (k1 : ¬ (0 ≤ x ∧ x < P) → Q (some (vI (-1000000001))) h) (k2 : 0 ≤ x → x < P → ¬ (0 ≤ y ∧ y < S.1.length) → Q (some (vI (-1000000002))) h) (k3 : 0 ≤ x → x < P → 0 ≤ y → y < S.1.length → pfrom S.1 x 0 = -1 → Q (some (vI (-1000000003))) h) (k4 : 0 ≤ x → x < P → 0 ≤ y → y < S.1.length → ¬ pfrom S.1 x 0 = -1 → ∀ h1, MI f n pl M P J wt tk bh ((insL (outL S.1 x) y x, S.2)) ((S :: Hs).take 20) kp sd im s ct ea la bt bj bm h1 → Out 156 180 h h1 → Q (some (vI (pfrom S.1 x 0))) h1) : CALL d 143 [.ref 156, vI x, vI y] h Q := by
  obtain ⟨z0, g0, cR0, h160, hSG0, hM0, hS0, hN0, h80, -⟩ := c.go hB
  have hP := hB.2.1.2.1
  have hJ := hB.2.1.2.2.1
  have hL6 := hN0.1.2.2.2
  have g6 := hN0.g6
  have a10 := hM0.1
  have hpf := pfrom_ge S.1 x 0 (by omega)
  refine cl143 (by omega) a10 ?_
  simp (disch := omega) only [wr_id, wr_m1, sd_t, nl_I, nl_R, nl_none, c1_I, c1_R, sh_0, sh_1, sh_2, sh_3, sh_4, true_and, and_true, ldA_A, ldB_B, ldS_S, stA_A, stB_B, aL_A, aL_B, aL_S, aC_A, hRd_eq, hRd_ne, cp6, cp8, tl_some, tl_none, List.cons_append, List.nil_append, ofI_t0, ofI_t1, Int.add_zero, Int.zero_add, x143_0, x143_1, x143_2]
  refine m_isP (by omega) hM0.1 (by rw [hM0.2.1.2.1]; exact hP) hx ?_
  rw [hM0.2.1.2.1]
  by_cases q : 0 ≤ x ∧ x < P
  · rw [if_pos q]
    simp (disch := omega) only [wr_id, wr_m1, sd_t, nl_I, nl_R, nl_none, c1_I, c1_R, sh_0, sh_1, sh_2, sh_3, sh_4, true_and, and_true, ldA_A, ldB_B, ldS_S, stA_A, stB_B, aL_A, aL_B, aL_S, aC_A, hRd_eq, hRd_ne, cp6, cp8, tl_some, tl_none, List.cons_append, List.nil_append, ofI_t0, ofI_t1, Int.add_zero, Int.zero_add, x143_3, x143_6, x143_7, x143_8, x143_9, x143_10, x143_11, x143_12, x143_13, x143_14, x143_15, x143_16, gf11_0, pf11_0, gf11_1, pf11_1, gf11_2, pf11_2, gf11_3, gf11_4, gf11_5, gf11_6, gf11_7, pf11_7, gf11_8, gf11_9, pf11_9, gf11_10, pf11_10, gf11_11, pf11_11, gf11_12, pf11_12, gf11_13, pf11_13, gf11_14, gf11_15, pf11_15, gf11_16, gf11_17, pf11_17, gf11_18, gf11_19, gf11_20, gf11_21, gf11_22, gf11_23, gf11_24, pf11_24, gf11_25, gf11_26, gf11_27, gf11_28, pf11_28, gf11_29, pf11_29, gf11_30, gf11_31, gf11_32, pf11_32, gf11_33, gf11_34, gf11_35, pf11_35, gf11_36, gf11_37, gf11_38, gf11_39, uN_eq, uN_ne, a10, h160]
    refine ⟨fun _ => ⟨by omega, ?_⟩, fun q => by first | omega | exact absurd rfl q | exact absurd trivial q | exact absurd q (by omega)⟩
    refine m_in (by omega) (by omega) (by omega) (by omega) ?_
    by_cases q2 : 0 ≤ y ∧ y < S.1.length
    · rw [if_pos (by omega)]
      simp (disch := omega) only [wr_id, wr_m1, sd_t, nl_I, nl_R, nl_none, c1_I, c1_R, sh_0, sh_1, sh_2, sh_3, sh_4, true_and, and_true, ldA_A, ldB_B, ldS_S, stA_A, stB_B, aL_A, aL_B, aL_S, aC_A, hRd_eq, hRd_ne, cp6, cp8, tl_some, tl_none, List.cons_append, List.nil_append, ofI_t0, ofI_t1, Int.add_zero, Int.zero_add, x143_17, x143_20, x143_21, x143_22]
      refine ⟨fun _ => ?_, fun q => by first | omega | exact absurd rfl q | exact absurd trivial q | exact absurd q (by omega)⟩
      refine m_placeOf (by omega) a10 h160 hN0 hB.2.2.1.2.1 hx ?_
      by_cases q3 : pfrom S.1 x 0 = -1
      · rw [q3]
        simp (disch := omega) only [wr_id, wr_m1, sd_t, nl_I, nl_R, nl_none, c1_I, c1_R, sh_0, sh_1, sh_2, sh_3, sh_4, true_and, and_true, ldA_A, ldB_B, ldS_S, stA_A, stB_B, aL_A, aL_B, aL_S, aC_A, hRd_eq, hRd_ne, cp6, cp8, tl_some, tl_none, List.cons_append, List.nil_append, ofI_t0, ofI_t1, Int.add_zero, Int.zero_add, x143_23, x143_24, x143_25, x143_26, x143_27]
        exact ⟨fun q => by first | omega | exact absurd rfl q | exact absurd trivial q | exact absurd q (by omega), fun _ => k3 q.1 q.2 q2.1 q2.2 q3⟩
      · have hm : x ∈ S.1 := Classical.byContradiction (fun z => q3 (pfrom_iff.mpr z))
        simp (disch := omega) only [wr_id, wr_m1, sd_t, nl_I, nl_R, nl_none, c1_I, c1_R, sh_0, sh_1, sh_2, sh_3, sh_4, true_and, and_true, ldA_A, ldB_B, ldS_S, stA_A, stB_B, aL_A, aL_B, aL_S, aC_A, hRd_eq, hRd_ne, cp6, cp8, tl_some, tl_none, List.cons_append, List.nil_append, ofI_t0, ofI_t1, Int.add_zero, Int.zero_add, x143_23, x143_24, x143_25, x143_28, x143_29]
        refine ⟨fun _ => ?_, fun q => by first | omega | exact absurd rfl q | exact absurd trivial q | exact absurd q (by omega)⟩
        refine m_rem (by omega) c hB (fun h1 z g cR b1 hSG o1 => ?_)
        have a1 := cR.1
        have hsc := hSG.sc
        have hN := hSG.nr hB.2.2.1.1 hP.2 hB.2.2.1.2.1
        have hg6 := hN.2
        obtain ⟨-, -, s7, s8, -, -, s23⟩ := hSG
        rw [Int.zero_add] at s7 s8 s23
        simp (disch := omega) only [wr_id, wr_m1, sd_t, nl_I, nl_R, nl_none, c1_I, c1_R, sh_0, sh_1, sh_2, sh_3, sh_4, true_and, and_true, ldA_A, ldB_B, ldS_S, stA_A, stB_B, aL_A, aL_B, aL_S, aC_A, hRd_eq, hRd_ne, cp6, cp8, tl_some, tl_none, List.cons_append, List.nil_append, ofI_t0, ofI_t1, Int.add_zero, Int.zero_add, x143_30, x143_31, x143_32]
        refine m_tkOut (by omega) a1 b1 hN (by omega) (fun g1 n1 k7 h2 e2 o2 => ?_)
        have ed : delL S.1 (pfrom S.1 x 0) = outL S.1 x := (if_neg q3).symm
        have eol := out_len hm
        rw [ed] at n1
        have n16 := n1.2
        simp (disch := omega) only [wr_id, wr_m1, sd_t, nl_I, nl_R, nl_none, c1_I, c1_R, sh_0, sh_1, sh_2, sh_3, sh_4, true_and, and_true, ldA_A, ldB_B, ldS_S, stA_A, stB_B, aL_A, aL_B, aL_S, aC_A, hRd_eq, hRd_ne, cp6, cp8, tl_some, tl_none, List.cons_append, List.nil_append, ofI_t0, ofI_t1, Int.add_zero, Int.zero_add, x143_33, x143_34, x143_35, x143_36]
        refine m_ptIn (by omega) (by rw [o2.2.2 _ (by omega)]; exact a1) e2 n1 (by omega) (by omega) (by omega) (fun g2 n2 k8 h3 e3 o3 => ?_)
        simp (disch := omega) only [wr_id, wr_m1, sd_t, nl_I, nl_R, nl_none, c1_I, c1_R, sh_0, sh_1, sh_2, sh_3, sh_4, true_and, and_true, ldA_A, ldB_B, ldS_S, stA_A, stB_B, aL_A, aL_B, aL_S, aC_A, hRd_eq, hRd_ne, cp6, cp8, tl_some, tl_none, List.cons_append, List.nil_append, ofI_t0, ofI_t1, Int.add_zero, Int.zero_add, x143_37, x143_38]
        have kg : ∀ i, 7 ≤ i → g2 i = g i := fun i hi => (k8 i hi).trans (k7 i hi)
        refine k4 q.1 q.2 q2.1 q2.2 q3 h3 (MI.now cR (g1 := g2) ?_ (o2.trans o3) e3) (o1.trans ((o2.trans o3).widen (by omega) (by omega)))
        refine SG.mk0 n2 (by rw [kg _ (by omega)]; exact s7) ?_ (fun j j0 j1 => by rw [kg _ (by omega)]; exact hsc.2.2.2.1 j j0 j1) (fun p p0 p1 => by rw [kg _ (by omega)]; exact hsc.2.2.2.2 p p0 p1) (by rw [kg _ (by omega)]; exact s23)
        rw [kg _ (by omega), s8]
        refine (dis_cg hP hB.2.2.1.1 (fun w => ?_)).symm
        rw [ins_mem, out_mem hB.2.2.1.2.1]
        constructor
        · rintro (e | e)
          · rw [e]; exact hm
          · exact e.2
        · intro e
          by_cases q4 : w = x
          · exact Or.inl q4
          · exact Or.inr ⟨q4, e⟩
    · rw [if_neg (by omega)]
      simp (disch := omega) only [wr_id, wr_m1, sd_t, nl_I, nl_R, nl_none, c1_I, c1_R, sh_0, sh_1, sh_2, sh_3, sh_4, true_and, and_true, ldA_A, ldB_B, ldS_S, stA_A, stB_B, aL_A, aL_B, aL_S, aC_A, hRd_eq, hRd_ne, cp6, cp8, tl_some, tl_none, List.cons_append, List.nil_append, ofI_t0, ofI_t1, Int.add_zero, Int.zero_add, x143_17, x143_18, x143_19]
      exact ⟨fun q => by first | omega | exact absurd rfl q | exact absurd trivial q | exact absurd q (by omega), fun _ => k2 q.1 q.2 q2⟩
  · rw [if_neg q]
    simp (disch := omega) only [wr_id, wr_m1, sd_t, nl_I, nl_R, nl_none, c1_I, c1_R, sh_0, sh_1, sh_2, sh_3, sh_4, true_and, and_true, ldA_A, ldB_B, ldS_S, stA_A, stB_B, aL_A, aL_B, aL_S, aC_A, hRd_eq, hRd_ne, cp6, cp8, tl_some, tl_none, List.cons_append, List.nil_append, ofI_t0, ofI_t1, Int.add_zero, Int.zero_add, x143_3, x143_4, x143_5]
    exact ⟨fun q => by first | omega | exact absurd rfl q | exact absurd trivial q | exact absurd q (by omega), fun _ => k1 q⟩
end
