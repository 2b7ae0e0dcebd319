-- THE REFERENCE: undone, images, draws
def gtS (r : Int → Int) (b : Int) (g : Int → Int) (k : Int) : Int → Int := fun j => if 0 ≤ j ∧ j < k then r (b + j) else g j
theorem gtS_s {r g : Int → Int} {b k : Int} (hk : 0 ≤ k) : uA (gtS r b g k) k (r (b + k)) = gtS r b g (k + 1) := by
  funext j
  unfold uA gtS
  by_cases e : j = k
  · rw [if_pos e, if_pos (by omega), e]
  · rw [if_neg e]
    by_cases q : 0 ≤ j ∧ j < k
    · rw [if_pos q, if_pos (by omega)]
    · rw [if_neg q, if_neg (by omega)]
theorem gtS_0 {r g : Int → Int} {b : Int} : gtS r b g 0 = g := by
  funext j
  unfold gtS
  rw [if_neg (by omega)]
section
variable {d : Nat} {Q : Option Value → LHeap → Prop} {r g : Int → Int} {z : Nat → Int} {u x : Int}
theorem l_un (hz : z 24 = u) (hu : 0 ≤ u ∧ u ≤ 19) : ∀ (n : Nat) (k : Int) (h : LHeap), (n : Int) = 24 - k → 0 ≤ k → hRd h 156 = oM z → hRd h 170 = cA 480 r → hRd h 160 = cA 24 (gtS r (24 * u) g k) → (∀ (h1 : LHeap) (x : Int), hRd h1 160 = cA 24 (gtS r (24 * u) g 24) → Out 160 160 h h1 → WP d 151 32 [some (.ref 156), some (vI x)] [] h1 Q) → WPC d 151 14 [some (.ref 156), some (vI k)] [] h Q := by
  intro n
  induction n with
  | zero =>
    intro k h hn hk h1 hg hr kk
    have e : k = 24 := by omega
    rw [WPC_iff]
    simp (disch := omega) only [wr_id, wr_m1, sd_t, nl_I, nl_R, nl_none, c1_I, c1_R, sh_0, sh_1, sh_2, sh_3, sh_4, true_and, and_true, ldA_A, ldB_B, ldS_S, stA_A, stB_B, aL_A, aL_B, aL_S, aC_A, hRd_eq, hRd_ne, cp6, cp8, tl_some, tl_none, List.cons_append, List.nil_append, ofI_t0, ofI_t1, Int.add_zero, Int.zero_add, x151_14, x151_15, x151_16]
    exact ⟨fun _ => kk h k (by rw [hr, e]) Out.refl, fun q => by omega⟩
  | succ n ih =>
    intro k h hn hk h1 hg hr kk
    rw [WPC_iff]
    simp (disch := omega) only [wr_id, wr_m1, sd_t, nl_I, nl_R, nl_none, c1_I, c1_R, sh_0, sh_1, sh_2, sh_3, sh_4, true_and, and_true, ldA_A, ldB_B, ldS_S, stA_A, stB_B, aL_A, aL_B, aL_S, aC_A, hRd_eq, hRd_ne, cp6, cp8, tl_some, tl_none, List.cons_append, List.nil_append, ofI_t0, ofI_t1, Int.add_zero, Int.zero_add, x151_13, x151_14, x151_15, x151_16, x151_17, x151_18, x151_19, x151_20, x151_21, x151_22, x151_23, x151_24, x151_25, x151_26, x151_27, x151_28, x151_29, x151_30, x151_31, gf11_0, pf11_0, gf11_1, pf11_1, gf11_2, pf11_2, gf11_3, gf11_4, gf11_5, gf11_6, gf11_7, pf11_7, gf11_8, gf11_9, pf11_9, gf11_10, pf11_10, gf11_11, pf11_11, gf11_12, pf11_12, gf11_13, pf11_13, gf11_14, gf11_15, pf11_15, gf11_16, gf11_17, pf11_17, gf11_18, gf11_19, gf11_20, gf11_21, gf11_22, gf11_23, gf11_24, pf11_24, gf11_25, gf11_26, gf11_27, gf11_28, pf11_28, gf11_29, pf11_29, gf11_30, gf11_31, gf11_32, pf11_32, gf11_33, gf11_34, gf11_35, pf11_35, gf11_36, gf11_37, gf11_38, gf11_39, uN_eq, uN_ne, h1, hr, hg, hz]
    refine ⟨fun q => by omega, fun _ => ⟨by omega, by omega, ?_⟩⟩
    rw [gtS_s hk]
    have ow : Out 160 160 h (hWr h 160 (cA 24 (gtS r (24 * u) g (k + 1)))) := Out.refl.wr (by omega) (by omega)
    exact ih (k + 1) _ (by omega) (by omega) (by rw [hRd_ne (by omega)]; exact h1) (by rw [hRd_ne (by omega)]; exact hg) hRd_eq (fun h2 x e2 o2 => kk h2 x e2 (ow.trans o2))
theorem l_gb (hx : 0 ≤ x ∧ x ≤ 1) : ∀ (n : Nat) (k : Int) (h : LHeap), (n : Int) = 24 - k → 0 ≤ k → hRd h 156 = oM z → hRd h 179 = cA 50 r → hRd h 160 = cA 24 (gtS r (25 * x) g k) → (∀ (h1 : LHeap) (y : Int), hRd h1 160 = cA 24 (gtS r (25 * x) g 24) → Out 160 160 h h1 → WP d 179 35 [some (.ref 156), some (vI x), some (vI y)] [] h1 Q) → WPC d 179 18 [some (.ref 156), some (vI x), some (vI k)] [] h Q := by
  intro n
  induction n with
  | zero =>
    intro k h hn hk h1 hg hr kk
    have e : k = 24 := by omega
    rw [WPC_iff]
    simp (disch := omega) only [wr_id, wr_m1, sd_t, nl_I, nl_R, nl_none, c1_I, c1_R, sh_0, sh_1, sh_2, sh_3, sh_4, true_and, and_true, ldA_A, ldB_B, ldS_S, stA_A, stB_B, aL_A, aL_B, aL_S, aC_A, hRd_eq, hRd_ne, cp6, cp8, tl_some, tl_none, List.cons_append, List.nil_append, ofI_t0, ofI_t1, Int.add_zero, Int.zero_add, x179_18, x179_19, x179_20]
    exact ⟨fun _ => kk h k (by rw [hr, e]) Out.refl, fun q => by omega⟩
  | succ n ih =>
    intro k h hn hk h1 hg hr kk
    rw [WPC_iff]
    simp (disch := omega) only [wr_id, wr_m1, sd_t, nl_I, nl_R, nl_none, c1_I, c1_R, sh_0, sh_1, sh_2, sh_3, sh_4, true_and, and_true, ldA_A, ldB_B, ldS_S, stA_A, stB_B, aL_A, aL_B, aL_S, aC_A, hRd_eq, hRd_ne, cp6, cp8, tl_some, tl_none, List.cons_append, List.nil_append, ofI_t0, ofI_t1, Int.add_zero, Int.zero_add, x179_17, x179_18, x179_19, x179_20, x179_21, x179_22, x179_23, x179_24, x179_25, x179_26, x179_27, x179_28, x179_29, x179_30, x179_31, x179_32, x179_33, x179_34, gf11_0, pf11_0, gf11_1, pf11_1, gf11_2, pf11_2, gf11_3, gf11_4, gf11_5, gf11_6, gf11_7, pf11_7, gf11_8, gf11_9, pf11_9, gf11_10, pf11_10, gf11_11, pf11_11, gf11_12, pf11_12, gf11_13, pf11_13, gf11_14, gf11_15, pf11_15, gf11_16, gf11_17, pf11_17, gf11_18, gf11_19, gf11_20, gf11_21, gf11_22, gf11_23, gf11_24, pf11_24, gf11_25, gf11_26, gf11_27, gf11_28, pf11_28, gf11_29, pf11_29, gf11_30, gf11_31, gf11_32, pf11_32, gf11_33, gf11_34, gf11_35, pf11_35, gf11_36, gf11_37, gf11_38, gf11_39, uN_eq, uN_ne, h1, hr, hg]
    refine ⟨fun q => by omega, fun _ => ⟨by omega, by omega, ?_⟩⟩
    rw [gtS_s hk]
    have ow : Out 160 160 h (hWr h 160 (cA 24 (gtS r (25 * x) g (k + 1)))) := Out.refl.wr (by omega) (by omega)
    exact ih (k + 1) _ (by omega) (by omega) (by rw [hRd_ne (by omega)]; exact h1) (by rw [hRd_ne (by omega)]; exact hg) hRd_eq (fun h2 x e2 o2 => kk h2 x e2 (ow.trans o2))
theorem l_kp (hx : 0 ≤ x ∧ x ≤ 1) : ∀ (n : Nat) (k : Int) (h : LHeap), (n : Int) = 24 - k → 0 ≤ k → hRd h 156 = oM z → hRd h 160 = cA 24 g → hRd h 179 = cA 50 (cpS r (25 * x) g k) → (∀ (h1 : LHeap) (y : Int), hRd h1 179 = cA 50 (cpS r (25 * x) g 24) → Out 179 179 h h1 → WP d 178 28 [some (.ref 156), some (vI x), some (vI y)] [] h1 Q) → WPC d 178 11 [some (.ref 156), some (vI x), some (vI k)] [] h Q := by
  intro n
  induction n with
  | zero =>
    intro k h hn hk h1 hg hr kk
    have e : k = 24 := by omega
    rw [WPC_iff]
    simp (disch := omega) only [wr_id, wr_m1, sd_t, nl_I, nl_R, nl_none, c1_I, c1_R, sh_0, sh_1, sh_2, sh_3, sh_4, true_and, and_true, ldA_A, ldB_B, ldS_S, stA_A, stB_B, aL_A, aL_B, aL_S, aC_A, hRd_eq, hRd_ne, cp6, cp8, tl_some, tl_none, List.cons_append, List.nil_append, ofI_t0, ofI_t1, Int.add_zero, Int.zero_add, x178_11, x178_12, x178_13]
    exact ⟨fun _ => kk h k (by rw [hr, e]) Out.refl, fun q => by omega⟩
  | succ n ih =>
    intro k h hn hk h1 hg hr kk
    rw [WPC_iff]
    simp (disch := omega) only [wr_id, wr_m1, sd_t, nl_I, nl_R, nl_none, c1_I, c1_R, sh_0, sh_1, sh_2, sh_3, sh_4, true_and, and_true, ldA_A, ldB_B, ldS_S, stA_A, stB_B, aL_A, aL_B, aL_S, aC_A, hRd_eq, hRd_ne, cp6, cp8, tl_some, tl_none, List.cons_append, List.nil_append, ofI_t0, ofI_t1, Int.add_zero, Int.zero_add, x178_10, x178_11, x178_12, x178_13, x178_14, x178_15, x178_16, x178_17, x178_18, x178_19, x178_20, x178_21, x178_22, x178_23, x178_24, x178_25, x178_26, x178_27, gf11_0, pf11_0, gf11_1, pf11_1, gf11_2, pf11_2, gf11_3, gf11_4, gf11_5, gf11_6, gf11_7, pf11_7, gf11_8, gf11_9, pf11_9, gf11_10, pf11_10, gf11_11, pf11_11, gf11_12, pf11_12, gf11_13, pf11_13, gf11_14, gf11_15, pf11_15, gf11_16, gf11_17, pf11_17, gf11_18, gf11_19, gf11_20, gf11_21, gf11_22, gf11_23, gf11_24, pf11_24, gf11_25, gf11_26, gf11_27, gf11_28, pf11_28, gf11_29, pf11_29, gf11_30, gf11_31, gf11_32, pf11_32, gf11_33, gf11_34, gf11_35, pf11_35, gf11_36, gf11_37, gf11_38, gf11_39, uN_eq, uN_ne, h1, hr, hg]
    refine ⟨fun q => by omega, fun _ => ⟨by omega, by omega, ?_⟩⟩
    rw [cpS_s hk]
    have ow : Out 179 179 h (hWr h 179 (cA 50 (cpS r (25 * x) g (k + 1)))) := Out.refl.wr (by omega) (by omega)
    exact ih (k + 1) _ (by omega) (by omega) (by rw [hRd_ne (by omega)]; exact h1) (by rw [hRd_ne (by omega)]; exact hg) hRd_eq (fun h2 x e2 o2 => kk h2 x e2 (ow.trans o2))
theorem m_draw {h : LHeap} (hd : 1 ≤ d) (h1 : hRd h 156 = oM z) (hs : 0 ≤ z 7 ∧ z 7 ≤ 2147483647) (hx : 0 < x ∧ x ≤ 999) (kk : Q (some (vI (drw (z 7) x))) (hWr h 156 (oM (uN z 7 (nxS (z 7)))))) : CALL d 149 [.ref 156, vI x] h Q := by
  have hb := nxS_b (z 7)
  have hq : 0 ≤ nxS (z 7) / 65536 ∧ nxS (z 7) / 65536 ≤ 32767 := by omega
  have e1 : zlrem (z 7 * 1103515245 + 12345) 2147483648 = nxS (z 7) := zlrem_nn (by omega) (by omega) (by omega) (by omega)
  have e2 : zdiv (nxS (z 7)) 65536 = nxS (z 7) / 65536 := zdiv_nn (by omega) (by omega) (by omega) (by omega)
  have e3 : zrem (nxS (z 7) / 65536) x = drw (z 7) x := zrem_nn (by omega) (by omega) (by omega) (by omega)
  have w : wl 2147483648 = 2147483648 := wl_id (by omega) (by omega)
  refine cl149 (by omega) h1 ?_
  simp (disch := omega) only [wr_id, wr_m1, sd_t, nl_I, nl_R, nl_none, c1_I, c1_R, sh_0, sh_1, sh_2, sh_3, sh_4, true_and, and_true, ldA_A, ldB_B, ldS_S, stA_A, stB_B, aL_A, aL_B, aL_S, aC_A, hRd_eq, hRd_ne, cp6, cp8, tl_some, tl_none, List.cons_append, List.nil_append, ofI_t0, ofI_t1, Int.add_zero, Int.zero_add, x149_0, x149_1, x149_2, x149_3, x149_4, x149_5, x149_6, x149_7, x149_8, x149_9, x149_10, x149_11, x149_12, x149_13, x149_14, x149_15, x149_16, x149_17, x149_18, gf11_7, pf11_7, gf11_0, pf11_0, gf11_1, pf11_1, gf11_2, pf11_2, gf11_3, gf11_4, gf11_5, gf11_6, gf11_7, pf11_7, gf11_8, gf11_9, pf11_9, gf11_10, pf11_10, gf11_11, pf11_11, gf11_12, pf11_12, gf11_13, pf11_13, gf11_14, gf11_15, pf11_15, gf11_16, gf11_17, pf11_17, gf11_18, gf11_19, gf11_20, gf11_21, gf11_22, gf11_23, gf11_24, pf11_24, gf11_25, gf11_26, gf11_27, gf11_28, pf11_28, gf11_29, pf11_29, gf11_30, gf11_31, gf11_32, pf11_32, gf11_33, gf11_34, gf11_35, pf11_35, gf11_36, gf11_37, gf11_38, gf11_39, uN_eq, uN_ne, h1, e1, e2, e3, w]
  exact ⟨by omega, by omega, by omega, kk⟩
end
section
variable {d : Nat} {f wt tk bh kp sd ea la bj bm : Int → Int} {n pl M P J s ct bt : Int} {S : SS} {Hs : List SS} {im : Int → SS} {h : LHeap} {Q : Option Value → LHeap → Prop} {x y : Int}
theorem m_undo0 (hd : 1 ≤ d) (c : MI f n pl M P J wt tk bh S ([]) kp sd im s ct ea la bt bj bm h) (kk : Q (some (vI (-1000000003))) h) : CALL d 151 [.ref 156] h Q := by
  obtain ⟨z, g, ⟨a1, ⟨z0, z1, z2, z7, z9, z10, z24, z29, z35⟩, ⟨r1, a3, a3b⟩, ⟨r2, a4, a4b⟩, ⟨r3, a5, a5b⟩, a6, ⟨r4, a7, a7b, a7c⟩, a8, a9, a10, a11, ⟨r5, a12, a12b⟩, ⟨a13, a13b⟩, a14⟩, b1, b2⟩ := c
  have z24b : z 24 = 0 := z24
  refine cl151 (by omega) a1 ?_
  simp (disch := omega) only [wr_id, wr_m1, sd_t, nl_I, nl_R, nl_none, c1_I, c1_R, sh_0, sh_1, sh_2, sh_3, sh_4, true_and, and_true, ldA_A, ldB_B, ldS_S, stA_A, stB_B, aL_A, aL_B, aL_S, aC_A, hRd_eq, hRd_ne, cp6, cp8, tl_some, tl_none, List.cons_append, List.nil_append, ofI_t0, ofI_t1, Int.add_zero, Int.zero_add, x151_0, x151_1, x151_2, x151_3, x151_4, gf11_0, pf11_0, gf11_1, pf11_1, gf11_2, pf11_2, gf11_3, gf11_4, gf11_5, gf11_6, gf11_7, pf11_7, gf11_8, gf11_9, pf11_9, gf11_10, pf11_10, gf11_11, pf11_11, gf11_12, pf11_12, gf11_13, pf11_13, gf11_14, gf11_15, pf11_15, gf11_16, gf11_17, pf11_17, gf11_18, gf11_19, gf11_20, gf11_21, gf11_22, gf11_23, gf11_24, pf11_24, gf11_25, gf11_26, gf11_27, gf11_28, pf11_28, gf11_29, pf11_29, gf11_30, gf11_31, gf11_32, pf11_32, gf11_33, gf11_34, gf11_35, pf11_35, gf11_36, gf11_37, gf11_38, gf11_39, uN_eq, uN_ne, a1, z24b]
  exact ⟨fun q => by first | omega | exact absurd rfl q | exact absurd trivial q | exact absurd q (by omega), fun _ => kk⟩
theorem m_undo {S1 : SS} {H1 : List SS} (hd : 1 ≤ d) (c : MI f n pl M P J wt tk bh S (S1 :: H1) kp sd im s ct ea la bt bj bm h) (hB : BD f n pl M P J wt tk bh S (S1 :: H1) kp sd im s ct ea la bt bj bm) (kk : ∀ h1, MI f n pl M P J wt tk bh (S1) (H1) kp sd im s ct ea la bt bj bm h1 → Out 156 180 h h1 → Q (some (vI H1.length)) h1) : CALL d 151 [.ref 156] h Q := by
  obtain ⟨z, g, ⟨a1, ⟨z0, z1, z2, z7, z9, z10, z24, z29, z35⟩, ⟨r1, a3, a3b⟩, ⟨r2, a4, a4b⟩, ⟨r3, a5, a5b⟩, a6, ⟨r4, a7, a7b, a7c⟩, a8, a9, a10, a11, ⟨r5, a12, a12b⟩, ⟨a13, a13b⟩, a14⟩, b1, b2⟩ := c
  have hP := hB.2.1.2.1
  have hJ := hB.2.1.2.2.1
  have hHB := hB.2.2.2.1
  rw [List.length_cons] at z24 a7b
  refine cl151 (by omega) a1 ?_
  simp (disch := omega) only [wr_id, wr_m1, sd_t, nl_I, nl_R, nl_none, c1_I, c1_R, sh_0, sh_1, sh_2, sh_3, sh_4, true_and, and_true, ldA_A, ldB_B, ldS_S, stA_A, stB_B, aL_A, aL_B, aL_S, aC_A, hRd_eq, hRd_ne, cp6, cp8, tl_some, tl_none, List.cons_append, List.nil_append, ofI_t0, ofI_t1, Int.add_zero, Int.zero_add, x151_0, x151_1, x151_2, x151_5, x151_6, x151_7, x151_8, x151_9, x151_10, x151_11, x151_12, x151_13, gf11_0, pf11_0, gf11_1, pf11_1, gf11_2, pf11_2, gf11_3, gf11_4, gf11_5, gf11_6, gf11_7, pf11_7, gf11_8, gf11_9, pf11_9, gf11_10, pf11_10, gf11_11, pf11_11, gf11_12, pf11_12, gf11_13, pf11_13, gf11_14, gf11_15, pf11_15, gf11_16, gf11_17, pf11_17, gf11_18, gf11_19, gf11_20, gf11_21, gf11_22, gf11_23, gf11_24, pf11_24, gf11_25, gf11_26, gf11_27, gf11_28, pf11_28, gf11_29, pf11_29, gf11_30, gf11_31, gf11_32, pf11_32, gf11_33, gf11_34, gf11_35, pf11_35, gf11_36, gf11_37, gf11_38, gf11_39, uN_eq, uN_ne, a1, z24]
  refine ⟨fun _ => ?_, fun q => by first | omega | exact absurd rfl q | exact absurd trivial q | exact absurd q (by omega)⟩
  have e1 : ((H1.length + 1 : Nat) : Int) - 1 = H1.length := by omega
  rw [e1]
  refine l_un (r := r4) (g := g) (u := H1.length) uN_eq (by omega) 24 0 _ (by omega) (by omega) hRd_eq (by rw [hRd_ne (by omega)]; exact a7) (by rw [gtS_0, hRd_ne (by omega)]; exact b1) (fun h2 x e2 o2 => ?_)
  have h21 : hRd h2 156 = oM (uN z 24 H1.length) := by rw [o2.2.2 _ (by omega)]; exact hRd_eq
  simp (disch := omega) only [wr_id, wr_m1, sd_t, nl_I, nl_R, nl_none, c1_I, c1_R, sh_0, sh_1, sh_2, sh_3, sh_4, true_and, and_true, ldA_A, ldB_B, ldS_S, stA_A, stB_B, aL_A, aL_B, aL_S, aC_A, hRd_eq, hRd_ne, cp6, cp8, tl_some, tl_none, List.cons_append, List.nil_append, ofI_t0, ofI_t1, Int.add_zero, Int.zero_add, x151_32, x151_33, x151_34, gf11_0, pf11_0, gf11_1, pf11_1, gf11_2, pf11_2, gf11_3, gf11_4, gf11_5, gf11_6, gf11_7, pf11_7, gf11_8, gf11_9, pf11_9, gf11_10, pf11_10, gf11_11, pf11_11, gf11_12, pf11_12, gf11_13, pf11_13, gf11_14, gf11_15, pf11_15, gf11_16, gf11_17, pf11_17, gf11_18, gf11_19, gf11_20, gf11_21, gf11_22, gf11_23, gf11_24, pf11_24, gf11_25, gf11_26, gf11_27, gf11_28, pf11_28, gf11_29, pf11_29, gf11_30, gf11_31, gf11_32, pf11_32, gf11_33, gf11_34, gf11_35, pf11_35, gf11_36, gf11_37, gf11_38, gf11_39, uN_eq, uN_ne, h21]
  have k : ∀ a, ¬ (a = 156 ∨ a = 160) → hRd h2 a = hRd h a := fun a ha => by rw [o2.2.2 _ (by omega), hRd_ne (by omega)]
  refine kk h2 ⟨uN z 24 H1.length, gtS r4 (24 * H1.length) g 24, ⟨h21, ⟨z0, z1, z2, z7, z9, z10, rfl, z29, z35⟩, ⟨r1, by rw [k _ (by omega)]; exact a3, a3b⟩, ⟨r2, by rw [k _ (by omega)]; exact a4, a4b⟩, ⟨r3, by rw [k _ (by omega)]; exact a5, a5b⟩, by rw [k _ (by omega)]; exact a6, ⟨r4, by rw [k _ (by omega)]; exact a7, by omega, fun i S2 hi => ?_⟩, by rw [k _ (by omega)]; exact a8, by rw [k _ (by omega)]; exact a9, by rw [k _ (by omega)]; exact a10, by rw [k _ (by omega)]; exact a11, ⟨r5, by rw [k _ (by omega)]; exact a12, a12b⟩, ⟨by rw [k _ (by omega)]; exact a13, a13b⟩, a14.agree (fun q hq => k q (by omega))⟩, e2, ?_⟩ ⟨o2.1, o2.2.1, fun a ha => k a (by omega)⟩
  · have h3 := a7c (i + 1) S2 (by simpa using hi)
    rw [List.length_cons] at h3
    rw [show 24 * ((H1.length : Int) - 1 - (i : Int)) = 24 * (((H1.length + 1 : Nat) : Int) - 1 - ((i + 1 : Nat) : Int)) by omega]
    exact h3
  · have h3 := a7c 0 S1 rfl
    rw [List.length_cons] at h3
    refine h3.mv hP.2 hJ.2 ((hHB S1 List.mem_cons_self).len hP.2) (fun j j0 j1 => ?_)
    unfold gtS
    rw [if_pos (by omega), show 24 * (H1.length : Int) + (0 + j) = 24 * (((H1.length + 1 : Nat) : Int) - 1 - ((0 : Nat) : Int)) + j by omega]
theorem m_keep (hd : 2 ≤ d) (c : MI f n pl M P J wt tk bh S Hs kp sd im s ct ea la bt bj bm h) (hB : BD f n pl M P J wt tk bh S Hs kp sd im s ct ea la bt bj bm) (hx : -2147483648 ≤ x ∧ x ≤ 2147483647) (k1 : ¬ (0 ≤ x ∧ x < 2) → Q (some (vI (-1000000001))) h) (k2 : 0 ≤ x → x < 2 → ∀ h1, MI f n pl M P J wt tk bh S ([]) (uA kp x 1) (uA sd x s) (uS im x S) s ct ea la bt bj bm h1 → Out 156 180 h h1 → Q (some (vI 1)) h1) : CALL d 178 [.ref 156, vI x] h Q := by
  obtain ⟨z, g, ⟨a1, ⟨z0, z1, z2, z7, z9, z10, z24, z29, z35⟩, ⟨r1, a3, a3b⟩, ⟨r2, a4, a4b⟩, ⟨r3, a5, a5b⟩, a6, ⟨r4, a7, a7b, a7c⟩, a8, a9, a10, a11, ⟨r5, a12, a12b⟩, ⟨a13, a13b⟩, a14⟩, b1, b2⟩ := c
  have hP := hB.2.1.2.1
  have hJ := hB.2.1.2.2.1
  have hIB := hB.2.2.2.2.1
  have hl6 := hB.2.2.1.len hP.2
  refine cl178 (by omega) a1 ?_
  simp (disch := omega) only [wr_id, wr_m1, sd_t, nl_I, nl_R, nl_none, c1_I, c1_R, sh_0, sh_1, sh_2, sh_3, sh_4, true_and, and_true, ldA_A, ldB_B, ldS_S, stA_A, stB_B, aL_A, aL_B, aL_S, aC_A, hRd_eq, hRd_ne, cp6, cp8, tl_some, tl_none, List.cons_append, List.nil_append, ofI_t0, ofI_t1, Int.add_zero, Int.zero_add, x178_0, x178_1, x178_2, x178_3, x178_4]
  refine m_in (by omega) (by omega) (by omega) (by omega) ?_
  by_cases q : 0 ≤ x ∧ x < 2
  · rw [if_pos (by omega)]
    simp (disch := omega) only [wr_id, wr_m1, sd_t, nl_I, nl_R, nl_none, c1_I, c1_R, sh_0, sh_1, sh_2, sh_3, sh_4, true_and, and_true, ldA_A, ldB_B, ldS_S, stA_A, stB_B, aL_A, aL_B, aL_S, aC_A, hRd_eq, hRd_ne, cp6, cp8, tl_some, tl_none, List.cons_append, List.nil_append, ofI_t0, ofI_t1, Int.add_zero, Int.zero_add, x178_5, x178_8, x178_9, x178_10]
    refine ⟨fun _ => ?_, fun q => by first | omega | exact absurd rfl q | exact absurd trivial q | exact absurd q (by omega)⟩
    refine l_kp (r := r5) (g := g) (by omega) 24 0 h (by omega) (by omega) a1 b1 (by rw [cpS_0]; exact a12) (fun h2 y e2 o2 => ?_)
    have h21 : hRd h2 156 = oM z := by rw [o2.2.2 _ (by omega)]; exact a1
    have h2k : hRd h2 180 = cB 2 kp := by rw [o2.2.2 _ (by omega)]; exact a13
    simp (disch := omega) only [wr_id, wr_m1, sd_t, nl_I, nl_R, nl_none, c1_I, c1_R, sh_0, sh_1, sh_2, sh_3, sh_4, true_and, and_true, ldA_A, ldB_B, ldS_S, stA_A, stB_B, aL_A, aL_B, aL_S, aC_A, hRd_eq, hRd_ne, cp6, cp8, tl_some, tl_none, List.cons_append, List.nil_append, ofI_t0, ofI_t1, Int.add_zero, Int.zero_add, x178_28, x178_29, x178_30, x178_31, x178_32, x178_33, x178_34, x178_35, x178_36, x178_37, x178_38, x178_39, x178_40, x178_41, x178_42, x178_43, x178_44, x178_45, x178_46, x178_47, gf11_0, pf11_0, gf11_1, pf11_1, gf11_2, pf11_2, gf11_3, gf11_4, gf11_5, gf11_6, gf11_7, pf11_7, gf11_8, gf11_9, pf11_9, gf11_10, pf11_10, gf11_11, pf11_11, gf11_12, pf11_12, gf11_13, pf11_13, gf11_14, gf11_15, pf11_15, gf11_16, gf11_17, pf11_17, gf11_18, gf11_19, gf11_20, gf11_21, gf11_22, gf11_23, gf11_24, pf11_24, gf11_25, gf11_26, gf11_27, gf11_28, pf11_28, gf11_29, pf11_29, gf11_30, gf11_31, gf11_32, pf11_32, gf11_33, gf11_34, gf11_35, pf11_35, gf11_36, gf11_37, gf11_38, gf11_39, uN_eq, uN_ne, h21, e2, h2k, z7]
    refine ⟨by omega, by omega, ?_⟩
    have k : ∀ a, ¬ (a = 156 ∨ a = 179 ∨ a = 180) → hRd (hWr (hWr (hWr h2 179 (cA 50 (uA (cpS r5 (25 * x) g 24) (25 * x + 24) s))) 180 (cB 2 (uA kp x 1))) 156 (oM (uN z 24 0))) a = hRd h a := fun a ha => by rw [hRd_ne (by omega), hRd_ne (by omega), hRd_ne (by omega), o2.2.2 _ (by omega)]
    refine k2 q.1 q.2 _ ⟨uN z 24 0, g, ⟨hRd_eq, ⟨z0, z1, z2, z7, z9, z10, rfl, z29, z35⟩, ⟨r1, by rw [k _ (by omega)]; exact a3, a3b⟩, ⟨r2, by rw [k _ (by omega)]; exact a4, a4b⟩, ⟨r3, by rw [k _ (by omega)]; exact a5, a5b⟩, by rw [k _ (by omega)]; exact a6, ⟨r4, by rw [k _ (by omega)]; exact a7, by simp, fun i S2 hi => by simp at hi⟩, by rw [k _ (by omega)]; exact a8, by rw [k _ (by omega)]; exact a9, by rw [k _ (by omega)]; exact a10, by rw [k _ (by omega)]; exact a11, ⟨uA (cpS r5 (25 * x) g 24) (25 * x + 24) s, by rw [hRd_ne (by omega), hRd_ne (by omega)]; exact hRd_eq, fun i i0 i1 hk => ?_⟩, ⟨by rw [hRd_ne (by omega)]; exact hRd_eq, fun i i0 i1 => ?_⟩, a14.agree (fun q hq => k q (by omega))⟩, by rw [k _ (by omega)]; exact b1, b2⟩ ⟨o2.1, o2.2.1, fun a ha => k a (by omega)⟩
    · by_cases e : i = x
      · subst e
        refine ⟨?_, by rw [uA_eq, uA_eq]⟩
        show SG P J (uS im i S i) _ _
        unfold uS
        rw [if_pos rfl]
        refine b2.mv hP.2 hJ.2 hl6 (fun j j0 j1 => ?_)
        rw [uA_ne (by omega)]
        unfold cpS
        rw [if_pos (by omega), show 25 * i + j - 25 * i = 0 + j by omega]
      · rw [uA_ne e] at hk
        obtain ⟨c1, c2⟩ := a12b i i0 i1 hk
        refine ⟨?_, ?_⟩
        · show SG P J (uS im x S i) _ _
          unfold uS
          rw [if_neg e]
          refine c1.mv hP.2 hJ.2 ((hIB i i0 i1 hk).len hP.2) (fun j j0 j1 => ?_)
          rw [uA_ne (by omega)]
          unfold cpS
          rw [if_neg (by omega)]
        · rw [uA_ne (by omega), uA_ne e, ← c2]
          unfold cpS
          rw [if_neg (by omega)]
    · by_cases e : i = x
      · rw [e, uA_eq]; exact Or.inr rfl
      · rw [uA_ne e]; exact a13b i i0 i1
  · rw [if_neg (by omega)]
    simp (disch := omega) only [wr_id, wr_m1, sd_t, nl_I, nl_R, nl_none, c1_I, c1_R, sh_0, sh_1, sh_2, sh_3, sh_4, true_and, and_true, ldA_A, ldB_B, ldS_S, stA_A, stB_B, aL_A, aL_B, aL_S, aC_A, hRd_eq, hRd_ne, cp6, cp8, tl_some, tl_none, List.cons_append, List.nil_append, ofI_t0, ofI_t1, Int.add_zero, Int.zero_add, x178_5, x178_6, x178_7]
    exact ⟨fun q => by first | omega | exact absurd rfl q | exact absurd trivial q | exact absurd q (by omega), fun _ => k1 q⟩
theorem m_goBack (hd : 2 ≤ d) (c : MI f n pl M P J wt tk bh S Hs kp sd im s ct ea la bt bj bm h) (hB : BD f n pl M P J wt tk bh S Hs kp sd im s ct ea la bt bj bm) (hx : -2147483648 ≤ x ∧ x ≤ 2147483647) (k1 : ¬ (0 ≤ x ∧ x < 2) → Q (some (vI (-1000000001))) h) (k2 : 0 ≤ x → x < 2 → kp x = 0 → Q (some (vI (-1000000003))) h) (k3 : 0 ≤ x → x < 2 → kp x = 1 → ∀ h1, MI f n pl M P J wt tk bh (im x) ([]) kp sd im (sd x) ct ea la bt bj bm h1 → Out 156 180 h h1 → Q (some (vI 1)) h1) : CALL d 179 [.ref 156, vI x] h Q := by
  obtain ⟨z, g, ⟨a1, ⟨z0, z1, z2, z7, z9, z10, z24, z29, z35⟩, ⟨r1, a3, a3b⟩, ⟨r2, a4, a4b⟩, ⟨r3, a5, a5b⟩, a6, ⟨r4, a7, a7b, a7c⟩, a8, a9, a10, a11, ⟨r5, a12, a12b⟩, ⟨a13, a13b⟩, a14⟩, b1, b2⟩ := c
  have hP := hB.2.1.2.1
  have hJ := hB.2.1.2.2.1
  have hIB := hB.2.2.2.2.1
  refine cl179 (by omega) a1 ?_
  simp (disch := omega) only [wr_id, wr_m1, sd_t, nl_I, nl_R, nl_none, c1_I, c1_R, sh_0, sh_1, sh_2, sh_3, sh_4, true_and, and_true, ldA_A, ldB_B, ldS_S, stA_A, stB_B, aL_A, aL_B, aL_S, aC_A, hRd_eq, hRd_ne, cp6, cp8, tl_some, tl_none, List.cons_append, List.nil_append, ofI_t0, ofI_t1, Int.add_zero, Int.zero_add, x179_0, x179_1, x179_2, x179_3, x179_4]
  refine m_in (by omega) (by omega) (by omega) (by omega) ?_
  by_cases q : 0 ≤ x ∧ x < 2
  · rw [if_pos (by omega)]
    have h01 := a13b x q.1 q.2
    by_cases q2 : kp x = 0
    · simp (disch := omega) only [wr_id, wr_m1, sd_t, nl_I, nl_R, nl_none, c1_I, c1_R, sh_0, sh_1, sh_2, sh_3, sh_4, true_and, and_true, ldA_A, ldB_B, ldS_S, stA_A, stB_B, aL_A, aL_B, aL_S, aC_A, hRd_eq, hRd_ne, cp6, cp8, tl_some, tl_none, List.cons_append, List.nil_append, ofI_t0, ofI_t1, Int.add_zero, Int.zero_add, x179_5, x179_8, x179_9, x179_10, x179_11, x179_12, x179_13, x179_14, gf11_0, pf11_0, gf11_1, pf11_1, gf11_2, pf11_2, gf11_3, gf11_4, gf11_5, gf11_6, gf11_7, pf11_7, gf11_8, gf11_9, pf11_9, gf11_10, pf11_10, gf11_11, pf11_11, gf11_12, pf11_12, gf11_13, pf11_13, gf11_14, gf11_15, pf11_15, gf11_16, gf11_17, pf11_17, gf11_18, gf11_19, gf11_20, gf11_21, gf11_22, gf11_23, gf11_24, pf11_24, gf11_25, gf11_26, gf11_27, gf11_28, pf11_28, gf11_29, pf11_29, gf11_30, gf11_31, gf11_32, pf11_32, gf11_33, gf11_34, gf11_35, pf11_35, gf11_36, gf11_37, gf11_38, gf11_39, uN_eq, uN_ne, a1, a13, q2]
      exact ⟨fun _ => ⟨by omega, fun q => by first | omega | exact absurd rfl q | exact absurd trivial q | exact absurd q (by omega), fun _ => k2 q.1 q.2 q2⟩, fun q => by first | omega | exact absurd rfl q | exact absurd trivial q | exact absurd q (by omega)⟩
    · have q3 : kp x = 1 := h01.resolve_left q2
      obtain ⟨c1, c2⟩ := a12b x q.1 q.2 q3
      have hsd := hB.2.2.2.2.2.1 x
      simp (disch := omega) only [wr_id, wr_m1, sd_t, nl_I, nl_R, nl_none, c1_I, c1_R, sh_0, sh_1, sh_2, sh_3, sh_4, true_and, and_true, ldA_A, ldB_B, ldS_S, stA_A, stB_B, aL_A, aL_B, aL_S, aC_A, hRd_eq, hRd_ne, cp6, cp8, tl_some, tl_none, List.cons_append, List.nil_append, ofI_t0, ofI_t1, Int.add_zero, Int.zero_add, x179_5, x179_8, x179_9, x179_10, x179_11, x179_12, x179_15, x179_16, x179_17, gf11_0, pf11_0, gf11_1, pf11_1, gf11_2, pf11_2, gf11_3, gf11_4, gf11_5, gf11_6, gf11_7, pf11_7, gf11_8, gf11_9, pf11_9, gf11_10, pf11_10, gf11_11, pf11_11, gf11_12, pf11_12, gf11_13, pf11_13, gf11_14, gf11_15, pf11_15, gf11_16, gf11_17, pf11_17, gf11_18, gf11_19, gf11_20, gf11_21, gf11_22, gf11_23, gf11_24, pf11_24, gf11_25, gf11_26, gf11_27, gf11_28, pf11_28, gf11_29, pf11_29, gf11_30, gf11_31, gf11_32, pf11_32, gf11_33, gf11_34, gf11_35, pf11_35, gf11_36, gf11_37, gf11_38, gf11_39, uN_eq, uN_ne, a1, a13, q3]
      refine ⟨fun _ => ⟨by omega, fun _ => ?_, fun q => by first | omega | exact absurd rfl q | exact absurd trivial q | exact absurd q (by omega)⟩, fun q => by first | omega | exact absurd rfl q | exact absurd trivial q | exact absurd q (by omega)⟩
      refine l_gb (r := r5) (g := g) (by omega) 24 0 h (by omega) (by omega) a1 a12 (by rw [gtS_0]; exact b1) (fun h2 y e2 o2 => ?_)
      have h21 : hRd h2 156 = oM z := by rw [o2.2.2 _ (by omega)]; exact a1
      have h2k : hRd h2 179 = cA 50 r5 := by rw [o2.2.2 _ (by omega)]; exact a12
      simp (disch := omega) only [wr_id, wr_m1, sd_t, nl_I, nl_R, nl_none, c1_I, c1_R, sh_0, sh_1, sh_2, sh_3, sh_4, true_and, and_true, ldA_A, ldB_B, ldS_S, stA_A, stB_B, aL_A, aL_B, aL_S, aC_A, hRd_eq, hRd_ne, cp6, cp8, tl_some, tl_none, List.cons_append, List.nil_append, ofI_t0, ofI_t1, Int.add_zero, Int.zero_add, x179_35, x179_36, x179_37, x179_38, x179_39, x179_40, x179_41, x179_42, x179_43, x179_44, x179_45, x179_46, x179_47, x179_48, x179_49, gf11_0, pf11_0, gf11_1, pf11_1, gf11_2, pf11_2, gf11_3, gf11_4, gf11_5, gf11_6, gf11_7, pf11_7, gf11_8, gf11_9, pf11_9, gf11_10, pf11_10, gf11_11, pf11_11, gf11_12, pf11_12, gf11_13, pf11_13, gf11_14, gf11_15, pf11_15, gf11_16, gf11_17, pf11_17, gf11_18, gf11_19, gf11_20, gf11_21, gf11_22, gf11_23, gf11_24, pf11_24, gf11_25, gf11_26, gf11_27, gf11_28, pf11_28, gf11_29, pf11_29, gf11_30, gf11_31, gf11_32, pf11_32, gf11_33, gf11_34, gf11_35, pf11_35, gf11_36, gf11_37, gf11_38, gf11_39, uN_eq, uN_ne, h21, h2k, c2, hWr_same]
      refine ⟨by omega, ?_⟩
      have k : ∀ a, ¬ (a = 156 ∨ a = 160) → hRd (hWr h2 156 (oM (uN (uN z 7 (sd x)) 24 0))) a = hRd h a := fun a ha => by rw [hRd_ne (by omega), o2.2.2 _ (by omega)]
      refine k3 q.1 q.2 q3 _ ⟨uN (uN z 7 (sd x)) 24 0, gtS r5 (25 * x) g 24, ⟨hRd_eq, ⟨z0, z1, z2, rfl, z9, z10, rfl, z29, z35⟩, ⟨r1, by rw [k _ (by omega)]; exact a3, a3b⟩, ⟨r2, by rw [k _ (by omega)]; exact a4, a4b⟩, ⟨r3, by rw [k _ (by omega)]; exact a5, a5b⟩, by rw [k _ (by omega)]; exact a6, ⟨r4, by rw [k _ (by omega)]; exact a7, by simp, fun i S2 hi => by simp at hi⟩, by rw [k _ (by omega)]; exact a8, by rw [k _ (by omega)]; exact a9, by rw [k _ (by omega)]; exact a10, by rw [k _ (by omega)]; exact a11, ⟨r5, by rw [k _ (by omega)]; exact a12, a12b⟩, ⟨by rw [k _ (by omega)]; exact a13, a13b⟩, a14.agree (fun q hq => k q (by omega))⟩, by rw [hRd_ne (by omega)]; exact e2, ?_⟩ ⟨o2.1, o2.2.1, fun a ha => k a (by omega)⟩
      refine c1.mv hP.2 hJ.2 ((hIB x q.1 q.2 q3).len hP.2) (fun j j0 j1 => ?_)
      unfold gtS
      rw [if_pos (by omega), show 25 * x + (0 + j) = 25 * x + j by omega]
  · rw [if_neg (by omega)]
    simp (disch := omega) only [wr_id, wr_m1, sd_t, nl_I, nl_R, nl_none, c1_I, c1_R, sh_0, sh_1, sh_2, sh_3, sh_4, true_and, and_true, ldA_A, ldB_B, ldS_S, stA_A, stB_B, aL_A, aL_B, aL_S, aC_A, hRd_eq, hRd_ne, cp6, cp8, tl_some, tl_none, List.cons_append, List.nil_append, ofI_t0, ofI_t1, Int.add_zero, Int.zero_add, x179_5, x179_6, x179_7]
    exact ⟨fun q => by first | omega | exact absurd rfl q | exact absurd trivial q | exact absurd q (by omega), fun _ => k1 q⟩
end
