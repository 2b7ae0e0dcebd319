-- THE REFERENCE: orders, look next
theorem svF_mono {M J sh : Int} {wk wt dr tk bh : Int → Int} {ct : Int} {ea la : Int → Int} : ∀ (n : Nat) (T : List Int) (tot : Int) (su pa : Int → Int), tot ≤ (svF M J sh wk wt dr tk bh ct ea la n T tot su pa).1 := by
  intro n
  induction n with
  | zero => intro T tot su pa; exact Int.le_refl _
  | succ n ih =>
    intro T tot su pa
    rw [svF]
    split
    · split
      · show tot ≤ tot + 1; omega
      · have := ih ‹_› (tot + 1) (ctS T tot 6 0 su) (ctP (recU M J sh wk wt dr tk bh T) 6 0 pa); omega
    · split
      · exact Int.le_refl _
      · exact ih _ _ _ _
theorem svF_0 {M J sh : Int} {wk wt dr tk bh : Int → Int} {ct : Int} {ea la : Int → Int} : ∀ (n : Nat) (T : List Int) (tot : Int) (su pa : Int → Int), 0 ≤ tot → (svF M J sh wk wt dr tk bh ct ea la n T tot su pa).1 = 0 → (svF M J sh wk wt dr tk bh ct ea la n T tot su pa).2.1 = su := by
  intro n
  induction n with
  | zero => intro T tot su pa _ _; rfl
  | succ n ih =>
    intro T tot su pa h0
    rw [svF]
    split
    · split
      · intro h
        exact absurd (show tot + 1 = 0 from h) (by omega)
      · intro h
        rename_i T1 e
        have := svF_mono (M := M) (J := J) (sh := sh) (wk := wk) (wt := wt) (dr := dr) (tk := tk) (bh := bh) (ct := ct) (ea := ea) (la := la) n T1 (tot + 1) (ctS T tot 6 0 su) (ctP (recU M J sh wk wt dr tk bh T) 6 0 pa)
        omega
    · split
      · intro _; rfl
      · exact ih _ _ _ _ h0
theorem svF_nm {M J sh : Int} {wk wt dr tk bh : Int → Int} {ct : Int} {ea la : Int → Int} {p : Int} : ∀ (n : Nat) (T : List Int) (tot : Int) (su pa : Int → Int), ¬ p ∈ T → su p = -1 → (svF M J sh wk wt dr tk bh ct ea la n T tot su pa).2.1 p = -1 := by
  intro n
  induction n with
  | zero => intro T tot su pa _ h; exact h
  | succ n ih =>
    intro T tot su pa hp h
    have hc : ctS T tot 6 0 su p = -1 := by
      rw [ctS_c, pfrom_nm T 0 hp]
      repeat' split
      all_goals first | rfl | exact h
    rw [svF]
    split
    · split
      · exact hc
      · rename_i T1 e
        exact ih T1 _ _ _ (fun q => hp ((nxtL_mem e).2 p q)) hc
    · split
      · exact h
      · rename_i T1 e
        exact ih T1 _ _ _ (fun q => hp ((nxtL_mem e).2 p q)) h
theorem dis_y {P x : Int} {L : List Int} (hP : 0 ≤ P ∧ P ≤ 6) (hL : ∀ x ∈ L, 0 ≤ x ∧ x ≤ 5) (h0 : 0 ≤ x) (h5 : x ≤ 5) (h : x < P) (hm : ¬ x ∈ L) : (if bt (disF P L) x = 1 then (1 : Int) else 0) = 1 := if_pos ((dis_bit hP hL h0 h5).mpr ⟨h, hm⟩)
theorem dis_n {P x : Int} {L : List Int} (hP : 0 ≤ P ∧ P ≤ 6) (hL : ∀ x ∈ L, 0 ≤ x ∧ x ≤ 5) (h0 : 0 ≤ x) (h5 : x ≤ 5) (hm : x ∈ L) : (if bt (disF P L) x = 1 then (1 : Int) else 0) = 0 := if_neg (fun z => ((dis_bit hP hL h0 h5).mp z).2 hm)
/-- LOOK NEXT, as the reference seeks it -/
def lkF (P tot : Int) (er : Int → Int) : Nat → Int → Int × Int → Int × Int
  | 0, _, s => s
  | n + 1, k, s => lkF P tot er n (k + 1) (if (k / 6 < k % 6 ∧ k % 6 < P) ∧ mx (er k) (tot - er k) < s.2 then (10 * (k / 6) + k % 6, mx (er k) (tot - er k)) else s)
section
variable {P tot : Int} {er pa : Int → Int}
theorem lk_add : ∀ (a b : Nat) (k : Int) (s : Int × Int), lkF P tot er (a + b) k s = lkF P tot er b (k + (a : Int)) (lkF P tot er a k s) := by
  intro a
  induction a with
  | zero => intro b k s; rw [Nat.zero_add, show k + ((0 : Nat) : Int) = k by omega]; rfl
  | succ a ih =>
    intro b k s
    rw [show a + 1 + b = (a + b) + 1 by omega, lkF, ih, lkF, show k + 1 + (a : Int) = k + ((a + 1 : Nat) : Int) by omega]
theorem lk_skip : ∀ (n : Nat) (k : Int) (s : Int × Int), (∀ i, k ≤ i → i < k + (n : Int) → ¬ (i / 6 < i % 6 ∧ i % 6 < P)) → lkF P tot er n k s = s := by
  intro n
  induction n with
  | zero => intro k s _; rfl
  | succ n ih =>
    intro k s h
    rw [lkF, if_neg (fun z => h k (by omega) (by omega) z.1)]
    exact ih _ _ (fun i h1 h2 => h i (by omega) (by omega))
theorem lk_row {p : Int} (hr : ∀ a b, 0 ≤ a → a < b → b < 6 → er (a * 6 + b) = pa (a * 6 + b)) (hP : P ≤ 6) (hp : 0 ≤ p) : ∀ (n : Nat) (q : Int) (s : Int × Int), p < q → q + (n : Int) ≤ P → lkF P tot er n (p * 6 + q) s = bpI tot pa p n q s := by
  intro n
  induction n with
  | zero => intro q s _ _; rfl
  | succ n ih =>
    intro q s hq hn
    have e1 : (p * 6 + q) / 6 = p := by omega
    have e2 : (p * 6 + q) % 6 = q := by omega
    rw [lkF, bpI, e1, e2, hr p q hp hq (by omega), show p * 6 + q + 1 = p * 6 + (q + 1) by omega, ih _ _ (by omega) (by omega)]
    by_cases c : mx (pa (p * 6 + q)) (tot - pa (p * 6 + q)) < s.2
    · rw [if_pos c, if_pos ⟨⟨hq, by omega⟩, c⟩]
    · rw [if_neg c, if_neg (fun z => c z.2)]
theorem lk_all (hr : ∀ a b, 0 ≤ a → a < b → b < 6 → er (a * 6 + b) = pa (a * 6 + b)) (hP : P ≤ 6) : ∀ (n : Nat) (p : Int) (s : Int × Int), 0 ≤ p → p + (n : Int) = P → lkF P tot er (6 * n) (p * 6) s = bpO tot pa n p s := by
  intro n
  induction n with
  | zero => intro p s _ _; rfl
  | succ n ih =>
    intro p s h0 hn
    rw [bpO, ← ih (p + 1) _ (by omega) (by omega), show 6 * (n + 1) = ((p.toNat + 1) + (n + (6 - P.toNat))) + 6 * n by omega, lk_add, lk_add, lk_add, lk_skip (p.toNat + 1) (p * 6) s (fun i h1 h2 => by omega), show p * 6 + ((p.toNat + 1 : Nat) : Int) = p * 6 + (p + 1) by omega, lk_row hr hP h0 n (p + 1) s (by omega) (by omega), lk_skip (6 - P.toNat) _ _ (fun i h1 h2 => by omega)]
    congr 1
    omega
theorem lk_36 (hr : ∀ a b, 0 ≤ a → a < b → b < 6 → er (a * 6 + b) = pa (a * 6 + b)) (hP : 0 ≤ P ∧ P ≤ 6) (s : Int × Int) : lkF P tot er 36 0 s = bpO tot pa P.toNat 0 s := by
  rw [show 36 = 6 * P.toNat + (36 - 6 * P.toNat) by omega, lk_add, show (0 : Int) = 0 * 6 by omega, lk_all hr hP.2 P.toNat 0 s (by omega) (by omega), lk_skip _ _ _ (fun i h1 h2 => by omega)]
  rfl
end
section
variable {d : Nat} {f wt tk bh kp sd ea la bj bm : Int → Int} {n pl M P J s ct bt : Int} {S : SS} {Hs : List SS} {im : Int → SS} {h : LHeap} {Q : Option Value → LHeap → Prop} {x : Int}
theorem m_fo (hd : 6 ≤ d) (c : MI f n pl M P J wt tk bh S Hs kp sd im s ct ea la bt bj bm h) (hB : BD f n pl M P J wt tk bh S Hs kp sd im s ct ea la bt bj bm) (kk : ∀ (h1 : LHeap) (zz : Nat → Int) (g sp er : Int → Int), MI f n pl M P J wt tk bh S Hs kp sd im s ct ea la bt bj bm h1 → hRd h1 156 = oM zz → zz 1 = P → zz 32 = (svA M J wt tk bh S ct ea la).1 → hRd h1 160 = cA 24 g → g 8 = disF P S.1 → hRd h1 175 = cA 6 sp → hRd h1 176 = cA 36 er → RO S.1 (svA M J wt tk bh S ct ea la).1 (svA M J wt tk bh S ct ea la).2.1 (svA M J wt tk bh S ct ea la).2.2 sp er → Out 156 180 h h1 → Q none h1) : CALL d 171 [.ref 156] h Q := by
  obtain ⟨z, g, cR, h160, hSG, hM, hS, hN, h8, m6⟩ := c.go hB
  have z29 : z 29 = ct := cR.2.1.2.2.2.2.2.2.2.1
  have c1 := cR.2.2.2.2.2.2.2.1
  have c2 := cR.2.2.2.2.2.2.2.2.1
  obtain ⟨-, -, -, -, -, -, -, hct, hsb, -⟩ := id hB
  refine m_findOrders hd hB.2.1 hM hS hN hB.2.2.1.2.1 hB.2.2.1.1 h8 h160 m6 z29 hct c1 c2 hsb (fun h1 ⟨zz, sp, er, e1, e2, e3, e4, e5, e6, e7⟩ o => ?_)
  exact kk h1 zz g sp er (MI.os cR o e1 (fun i hi => e2 i (by omega)) e4 hSG) e1 ((e2 1 (by omega)).trans hM.2.1.2.1) e3 e4 h8 e5 e6 e7 o.up
theorem m_orders (hd : 7 ≤ d) (c : MI f n pl M P J wt tk bh S Hs kp sd im s ct ea la bt bj bm h) (hB : BD f n pl M P J wt tk bh S Hs kp sd im s ct ea la bt bj bm) (hx : -2147483648 ≤ x ∧ x ≤ 2147483647) (k1 : ¬ x = -1 → ¬ (0 ≤ x ∧ x < P) → Q (some (vI (-1000000001))) h) (k2 : x = -1 → ∀ h1, MI f n pl M P J wt tk bh S Hs kp sd im s ct ea la bt bj bm h1 → Out 156 180 h h1 → Q (some (vI (svA M J wt tk bh S ct ea la).1)) h1) (k3 : 0 ≤ x → x < P → ∀ h1, MI f n pl M P J wt tk bh S Hs kp sd im s ct ea la bt bj bm h1 → Out 156 180 h h1 → Q (some (vI ((svA M J wt tk bh S ct ea la).2.1 x))) h1) : CALL d 172 [.ref 156, vI x] h Q := by
  obtain ⟨z, g0, cR, h160, hSG, hM, hS, hN, h8, m6⟩ := c.go hB
  have h1 := hM.1
  have z1 := hM.2.1.2.1
  have hP6 := hB.2.1.2.1
  have hL6 := hN.1.2.2.2
  have tb := svA_b (M := M) (J := J) (wt := wt) (tk := tk) (bh := bh) (S := S) (ct := ct) (ea := ea) (la := la)
  have hsv0 := svF_0 (M := M) (J := J) (sh := S.2.2.2.1) (wk := S.2.1) (wt := wt) (dr := S.2.2.1) (tk := tk) (bh := bh) (ct := ct) (ea := ea) (la := la) 720 (lineL (memF S.1 0) P6) 0 (fun _ => -1) (fun _ => 0) (by omega)
  have hsvn := svF_nm (M := M) (J := J) (sh := S.2.2.2.1) (wk := S.2.1) (wt := wt) (dr := S.2.2.1) (tk := tk) (bh := bh) (ct := ct) (ea := ea) (la := la) (p := x) 720 (lineL (memF S.1 0) P6) 0 (fun _ => -1) (fun _ => 0)
  have esv : svF M J S.2.2.2.1 S.2.1 wt S.2.2.1 tk bh ct ea la 720 (lineL (memF S.1 0) P6) 0 (fun _ => -1) (fun _ => 0) = svA M J wt tk bh S ct ea la := rfl
  rw [esv] at hsv0 hsvn
  have fin : (x = -1 ∨ (0 ≤ x ∧ x < P)) → WP (d - 1) 172 9 [some (.ref 156), some (vI x)] [] h Q := by
    intro hxx
    simp (disch := omega) only [wr_id, wr_m1, sd_t, nl_I, nl_R, nl_none, c1_I, c1_R, sh_0, sh_1, sh_2, sh_3, sh_4, true_and, and_true, ldA_A, ldB_B, ldS_S, stA_A, stB_B, aL_A, aL_B, aL_S, aC_A, hRd_eq, hRd_ne, cp6, cp8, tl_some, tl_none, List.cons_append, List.nil_append, ofI_t0, ofI_t1, Int.add_zero, Int.zero_add, x172_9, x172_10]
    refine m_fo (by omega) c hB (fun h2 zz g sp er c2 e1 e2 e3 e4 e5 e6 e7 e8 o2 => ?_)
    have k2 := fun q => k2 q h2 c2 o2
    have k3 := fun q1 q2 => k3 q1 q2 h2 c2 o2
    generalize svA M J wt tk bh S ct ea la = R at *
    simp (disch := omega) only [wr_id, wr_m1, sd_t, nl_I, nl_R, nl_none, c1_I, c1_R, sh_0, sh_1, sh_2, sh_3, sh_4, true_and, and_true, ldA_A, ldB_B, ldS_S, stA_A, stB_B, aL_A, aL_B, aL_S, aC_A, hRd_eq, hRd_ne, cp6, cp8, tl_some, tl_none, List.cons_append, List.nil_append, ofI_t0, ofI_t1, Int.add_zero, Int.zero_add, x172_11, x172_12, x172_13, x172_14, x172_15, x172_16, x172_17, x172_18, x172_19, x172_33, x172_34, x172_39, gf11_0, pf11_0, gf11_1, pf11_1, gf11_2, pf11_2, gf11_3, gf11_4, gf11_5, gf11_6, gf11_7, pf11_7, gf11_8, gf11_9, pf11_9, gf11_10, pf11_10, gf11_11, pf11_11, gf11_12, pf11_12, gf11_13, pf11_13, gf11_14, gf11_15, pf11_15, gf11_16, gf11_17, pf11_17, gf11_18, gf11_19, gf11_20, gf11_21, gf11_22, gf11_23, gf11_24, pf11_24, gf11_25, gf11_26, gf11_27, gf11_28, pf11_28, gf11_29, pf11_29, gf11_30, gf11_31, gf11_32, pf11_32, gf11_33, gf11_34, gf11_35, pf11_35, gf11_36, gf11_37, gf11_38, gf11_39, uN_eq, uN_ne, e1, e3]
    refine ⟨fun q => ⟨fun q2 => ?_, fun q2 => ?_⟩, fun q => k2 (by omega)⟩
    · have k3 := k3 (by omega) (by omega)
      rw [hsv0 q2] at k3
      exact k3
    · have k3 := k3 (by omega) (by omega)
      simp (disch := omega) only [wr_id, wr_m1, sd_t, nl_I, nl_R, nl_none, c1_I, c1_R, sh_0, sh_1, sh_2, sh_3, sh_4, true_and, and_true, ldA_A, ldB_B, ldS_S, stA_A, stB_B, aL_A, aL_B, aL_S, aC_A, hRd_eq, hRd_ne, cp6, cp8, tl_some, tl_none, List.cons_append, List.nil_append, ofI_t0, ofI_t1, Int.add_zero, Int.zero_add, x172_20, x172_21, x172_22, x172_23, x172_24, x172_25, gf11_0, pf11_0, gf11_1, pf11_1, gf11_2, pf11_2, gf11_3, gf11_4, gf11_5, gf11_6, gf11_7, pf11_7, gf11_8, gf11_9, pf11_9, gf11_10, pf11_10, gf11_11, pf11_11, gf11_12, pf11_12, gf11_13, pf11_13, gf11_14, gf11_15, pf11_15, gf11_16, gf11_17, pf11_17, gf11_18, gf11_19, gf11_20, gf11_21, gf11_22, gf11_23, gf11_24, pf11_24, gf11_25, gf11_26, gf11_27, gf11_28, pf11_28, gf11_29, pf11_29, gf11_30, gf11_31, gf11_32, pf11_32, gf11_33, gf11_34, gf11_35, pf11_35, gf11_36, gf11_37, gf11_38, gf11_39, uN_eq, uN_ne, e1, e4, e5]
      refine ⟨by omega, ?_⟩
      refine m_has (by omega) ?_
      by_cases q3 : x ∈ S.1
      · rw [dis_n hP6 hL6 (by omega) (by omega) q3]
        obtain ⟨b1, b2⟩ := e8.1 x q3 q2
        simp (disch := omega) only [wr_id, wr_m1, sd_t, nl_I, nl_R, nl_none, c1_I, c1_R, sh_0, sh_1, sh_2, sh_3, sh_4, true_and, and_true, ldA_A, ldB_B, ldS_S, stA_A, stB_B, aL_A, aL_B, aL_S, aC_A, hRd_eq, hRd_ne, cp6, cp8, tl_some, tl_none, List.cons_append, List.nil_append, ofI_t0, ofI_t1, Int.add_zero, Int.zero_add, x172_26, x172_27, x172_28, x172_29, x172_30, x172_31, x172_32, x172_33, x172_34, x172_35, x172_36, x172_37, x172_38, x172_39, gf11_0, pf11_0, gf11_1, pf11_1, gf11_2, pf11_2, gf11_3, gf11_4, gf11_5, gf11_6, gf11_7, pf11_7, gf11_8, gf11_9, pf11_9, gf11_10, pf11_10, gf11_11, pf11_11, gf11_12, pf11_12, gf11_13, pf11_13, gf11_14, gf11_15, pf11_15, gf11_16, gf11_17, pf11_17, gf11_18, gf11_19, gf11_20, gf11_21, gf11_22, gf11_23, gf11_24, pf11_24, gf11_25, gf11_26, gf11_27, gf11_28, pf11_28, gf11_29, pf11_29, gf11_30, gf11_31, gf11_32, pf11_32, gf11_33, gf11_34, gf11_35, pf11_35, gf11_36, gf11_37, gf11_38, gf11_39, uN_eq, uN_ne, e1, e6]
        refine ⟨fun q => by first | omega | exact absurd rfl q | exact absurd trivial q | exact absurd q (by omega), fun _ => ⟨by omega, fun q5 => ⟨by omega, ?_⟩, fun q5 => ?_⟩⟩
        · rw [b2, if_neg q5] at k3; exact k3
        · rw [b2, if_pos (by omega)] at k3; exact k3
      · rw [dis_y hP6 hL6 (by omega) (by omega) (by omega) q3]
        rw [hsvn (fun q => q3 ((line_mem hL6).mp q)) rfl] at k3
        simp (disch := omega) only [wr_id, wr_m1, sd_t, nl_I, nl_R, nl_none, c1_I, c1_R, sh_0, sh_1, sh_2, sh_3, sh_4, true_and, and_true, ldA_A, ldB_B, ldS_S, stA_A, stB_B, aL_A, aL_B, aL_S, aC_A, hRd_eq, hRd_ne, cp6, cp8, tl_some, tl_none, List.cons_append, List.nil_append, ofI_t0, ofI_t1, Int.add_zero, Int.zero_add, x172_26, x172_33, x172_34, x172_39, gf11_0, pf11_0, gf11_1, pf11_1, gf11_2, pf11_2, gf11_3, gf11_4, gf11_5, gf11_6, gf11_7, pf11_7, gf11_8, gf11_9, pf11_9, gf11_10, pf11_10, gf11_11, pf11_11, gf11_12, pf11_12, gf11_13, pf11_13, gf11_14, gf11_15, pf11_15, gf11_16, gf11_17, pf11_17, gf11_18, gf11_19, gf11_20, gf11_21, gf11_22, gf11_23, gf11_24, pf11_24, gf11_25, gf11_26, gf11_27, gf11_28, pf11_28, gf11_29, pf11_29, gf11_30, gf11_31, gf11_32, pf11_32, gf11_33, gf11_34, gf11_35, pf11_35, gf11_36, gf11_37, gf11_38, gf11_39, uN_eq, uN_ne, e1, e6]
        exact ⟨fun _ => k3, fun q => by first | omega | exact absurd rfl q | exact absurd trivial q | exact absurd q (by omega)⟩
  refine cl172 (by omega) h1 ?_
  by_cases q : x = -1
  · simp (disch := omega) only [wr_id, wr_m1, sd_t, nl_I, nl_R, nl_none, c1_I, c1_R, sh_0, sh_1, sh_2, sh_3, sh_4, true_and, and_true, ldA_A, ldB_B, ldS_S, stA_A, stB_B, aL_A, aL_B, aL_S, aC_A, hRd_eq, hRd_ne, cp6, cp8, tl_some, tl_none, List.cons_append, List.nil_append, ofI_t0, ofI_t1, Int.add_zero, Int.zero_add, x172_0, x172_1, x172_2]
    exact ⟨fun _ => fin (Or.inl q), fun q2 => absurd q q2⟩
  · simp (disch := omega) only [wr_id, wr_m1, sd_t, nl_I, nl_R, nl_none, c1_I, c1_R, sh_0, sh_1, sh_2, sh_3, sh_4, true_and, and_true, ldA_A, ldB_B, ldS_S, stA_A, stB_B, aL_A, aL_B, aL_S, aC_A, hRd_eq, hRd_ne, cp6, cp8, tl_some, tl_none, List.cons_append, List.nil_append, ofI_t0, ofI_t1, Int.add_zero, Int.zero_add, x172_0, x172_1, x172_2, x172_3, x172_4, x172_5]
    refine ⟨fun q2 => absurd q2 q, fun _ => ?_⟩
    refine m_isP (by omega) h1 (by rw [z1]; exact hP6) hx ?_
    rw [z1]
    by_cases q2 : 0 ≤ x ∧ x < P
    · rw [if_pos q2]
      simp (disch := omega) only [wr_id, wr_m1, sd_t, nl_I, nl_R, nl_none, c1_I, c1_R, sh_0, sh_1, sh_2, sh_3, sh_4, true_and, and_true, ldA_A, ldB_B, ldS_S, stA_A, stB_B, aL_A, aL_B, aL_S, aC_A, hRd_eq, hRd_ne, cp6, cp8, tl_some, tl_none, List.cons_append, List.nil_append, ofI_t0, ofI_t1, Int.add_zero, Int.zero_add, x172_6, x172_7, x172_8]
      exact ⟨fun _ => fin (Or.inr q2), fun q => by first | omega | exact absurd rfl q | exact absurd trivial q | exact absurd q (by omega)⟩
    · rw [if_neg q2]
      simp (disch := omega) only [wr_id, wr_m1, sd_t, nl_I, nl_R, nl_none, c1_I, c1_R, sh_0, sh_1, sh_2, sh_3, sh_4, true_and, and_true, ldA_A, ldB_B, ldS_S, stA_A, stB_B, aL_A, aL_B, aL_S, aC_A, hRd_eq, hRd_ne, cp6, cp8, tl_some, tl_none, List.cons_append, List.nil_append, ofI_t0, ofI_t1, Int.add_zero, Int.zero_add, x172_6, x172_7, x172_8]
      exact ⟨fun q => by first | omega | exact absurd rfl q | exact absurd trivial q | exact absurd q (by omega), fun _ => k1 q q2⟩
theorem l_look {z : Nat → Int} {er : Int → Int} {tot : Int} (h1 : hRd h 156 = oM z) (z1 : z 1 = P) (hP : 0 ≤ P ∧ P ≤ 6) (z32 : z 32 = tot) (ht : 0 ≤ tot ∧ tot ≤ 720) (h176 : hRd h 176 = cA 36 er) (her : ∀ k, 0 ≤ er k ∧ er k ≤ tot) : ∀ (n : Nat) (k : Int) (s : Int × Int) (l4 l5 l6 : Option Value), (n : Int) = 36 - k → 0 ≤ k → -1 ≤ s.1 ∧ s.1 ≤ 100 → 0 ≤ s.2 ∧ s.2 ≤ 720 → Q (some (vI (lkF P tot er n k s).1)) h → WPC d 173 10 [some (.ref 156), some (vI s.1), some (vI s.2), some (vI k), l4, l5, l6] [] h Q := by
  intro n
  induction n with
  | zero =>
    intro k s l4 l5 l6 hn hk hs1 hs2 kk
    rw [WPC_iff]
    simp (disch := omega) only [wr_id, wr_m1, sd_t, nl_I, nl_R, nl_none, c1_I, c1_R, sh_0, sh_1, sh_2, sh_3, sh_4, true_and, and_true, ldA_A, ldB_B, ldS_S, stA_A, stB_B, aL_A, aL_B, aL_S, aC_A, hRd_eq, hRd_ne, cp6, cp8, tl_some, tl_none, List.cons_append, List.nil_append, ofI_t0, ofI_t1, Int.add_zero, Int.zero_add, x173_10, x173_11, x173_12, x173_66, x173_67]
    exact ⟨fun _ => kk, fun q => by omega⟩
  | succ n ih =>
    intro k s l4 l5 l6 hn hk hs1 hs2 kk
    have e1 := zdiv_nn (x := k) (y := 6) (by omega) (by omega) (by omega) (by omega)
    have e2 := zrem_nn (x := k) (y := 6) (by omega) (by omega) (by omega) (by omega)
    have hk1 := her k
    rw [lkF] at kk
    have hmx : mx (er k) (tot - er k) = if tot - er k ≤ er k then er k else tot - er k := by unfold mx; split <;> split <;> omega
    have yes : (k / 6 < k % 6 ∧ k % 6 < P) → ∀ v, v = mx (er k) (tot - er k) → v < s.2 → 0 ≤ v → ∀ l4 l5 l6, WPC d 173 10 [some (.ref 156), some (vI (10 * (k / 6) + k % 6)), some (vI v), some (vI (k + 1)), l4, l5, l6] [] h Q := fun c v hv hlt h0 l4 l5 l6 => by
      rw [if_pos ⟨c, by rw [← hv]; exact hlt⟩, ← hv] at kk
      exact ih (k + 1) (10 * (k / 6) + k % 6, v) l4 l5 l6 (by omega) (by omega) (by show -1 ≤ 10 * (k / 6) + k % 6 ∧ 10 * (k / 6) + k % 6 ≤ 100; omega) (by show 0 ≤ v ∧ v ≤ 720; omega) kk
    have no : ¬ ((k / 6 < k % 6 ∧ k % 6 < P) ∧ mx (er k) (tot - er k) < s.2) → ∀ l4 l5 l6, WPC d 173 10 [some (.ref 156), some (vI s.1), some (vI s.2), some (vI (k + 1)), l4, l5, l6] [] h Q := fun c l4 l5 l6 => by
      rw [if_neg c] at kk
      exact ih (k + 1) s l4 l5 l6 (by omega) (by omega) hs1 hs2 kk
    have go : ∀ v, v = mx (er k) (tot - er k) → 0 ≤ v → v ≤ 720 → WP d 173 45 [some (.ref 156), some (vI s.1), some (vI s.2), some (vI k), some (vI (k / 6)), some (vI (k % 6)), l6] [vI v] h Q := fun v hv h0 h7 => by
      simp (disch := omega) only [wr_id, wr_m1, sd_t, nl_I, nl_R, nl_none, c1_I, c1_R, sh_0, sh_1, sh_2, sh_3, sh_4, true_and, and_true, ldA_A, ldB_B, ldS_S, stA_A, stB_B, aL_A, aL_B, aL_S, aC_A, hRd_eq, hRd_ne, cp6, cp8, tl_some, tl_none, List.cons_append, List.nil_append, ofI_t0, ofI_t1, Int.add_zero, Int.zero_add, x173_9, x173_45, x173_46, x173_47, x173_48, x173_49, x173_50, x173_51, x173_52, x173_53, x173_54, x173_55, x173_56, x173_57, x173_58, x173_59, x173_60, x173_61, x173_62, x173_63, x173_64, x173_65, gf11_0, pf11_0, gf11_1, pf11_1, gf11_2, pf11_2, gf11_3, gf11_4, gf11_5, gf11_6, gf11_7, pf11_7, gf11_8, gf11_9, pf11_9, gf11_10, pf11_10, gf11_11, pf11_11, gf11_12, pf11_12, gf11_13, pf11_13, gf11_14, gf11_15, pf11_15, gf11_16, gf11_17, pf11_17, gf11_18, gf11_19, gf11_20, gf11_21, gf11_22, gf11_23, gf11_24, pf11_24, gf11_25, gf11_26, gf11_27, gf11_28, pf11_28, gf11_29, pf11_29, gf11_30, gf11_31, gf11_32, pf11_32, gf11_33, gf11_34, gf11_35, pf11_35, gf11_36, gf11_37, gf11_38, gf11_39, uN_eq, uN_ne, h1, z1]
      refine ⟨fun q => no (fun c => by omega) _ _ _, fun q => ⟨fun q2 => no (fun c => by omega) _ _ _, fun q2 => ⟨fun q3 => no (fun c => by omega) _ _ _, fun q3 => yes (by omega) v hv (by omega) h0 _ _ _⟩⟩⟩
    rw [WPC_iff]
    simp (disch := omega) only [wr_id, wr_m1, sd_t, nl_I, nl_R, nl_none, c1_I, c1_R, sh_0, sh_1, sh_2, sh_3, sh_4, true_and, and_true, ldA_A, ldB_B, ldS_S, stA_A, stB_B, aL_A, aL_B, aL_S, aC_A, hRd_eq, hRd_ne, cp6, cp8, tl_some, tl_none, List.cons_append, List.nil_append, ofI_t0, ofI_t1, Int.add_zero, Int.zero_add, x173_10, x173_11, x173_12, x173_13, x173_14, x173_15, x173_16, x173_17, x173_18, x173_19, x173_20, x173_21, x173_22, x173_23, x173_24, x173_25, x173_26, x173_27, x173_28, x173_29, x173_30, x173_31, x173_32, x173_33, x173_34, x173_35, x173_36, x173_37, x173_38, x173_39, x173_40, x173_41, x173_42, x173_43, x173_44, gf11_0, pf11_0, gf11_1, pf11_1, gf11_2, pf11_2, gf11_3, gf11_4, gf11_5, gf11_6, gf11_7, pf11_7, gf11_8, gf11_9, pf11_9, gf11_10, pf11_10, gf11_11, pf11_11, gf11_12, pf11_12, gf11_13, pf11_13, gf11_14, gf11_15, pf11_15, gf11_16, gf11_17, pf11_17, gf11_18, gf11_19, gf11_20, gf11_21, gf11_22, gf11_23, gf11_24, pf11_24, gf11_25, gf11_26, gf11_27, gf11_28, pf11_28, gf11_29, pf11_29, gf11_30, gf11_31, gf11_32, pf11_32, gf11_33, gf11_34, gf11_35, pf11_35, gf11_36, gf11_37, gf11_38, gf11_39, uN_eq, uN_ne, h1, h176, z32, e1, e2]
    refine ⟨fun q => by omega, fun _ => ⟨by omega, by omega, by omega, by omega, fun q => ⟨by omega, go _ ?_ (by omega) (by omega)⟩, fun q => ⟨by omega, go _ ?_ (by omega) (by omega)⟩⟩⟩
    · rw [hmx]; split <;> omega
    · rw [hmx, if_pos (by omega)]
theorem m_look (hd : 7 ≤ d) (c : MI f n pl M P J wt tk bh S Hs kp sd im s ct ea la bt bj bm h) (hB : BD f n pl M P J wt tk bh S Hs kp sd im s ct ea la bt bj bm) (kk : ∀ h1, MI f n pl M P J wt tk bh S Hs kp sd im s ct ea la bt bj bm h1 → Out 156 180 h h1 → Q (some (vI (bpO (svA M J wt tk bh S ct ea la).1 (svA M J wt tk bh S ct ea la).2.2 P.toNat 0 (-1, (svA M J wt tk bh S ct ea la).1)).1)) h1) : CALL d 173 [.ref 156] h Q := by
  obtain ⟨z, g0, cR, h160, hSG, hM, hS, hN, h8, m6⟩ := c.go hB
  have h1 := hM.1
  have hP6 := hB.2.1.2.1
  have tb := svA_b (M := M) (J := J) (wt := wt) (tk := tk) (bh := bh) (S := S) (ct := ct) (ea := ea) (la := la)
  refine cl173 (by omega) h1 ?_
  simp (disch := omega) only [wr_id, wr_m1, sd_t, nl_I, nl_R, nl_none, c1_I, c1_R, sh_0, sh_1, sh_2, sh_3, sh_4, true_and, and_true, ldA_A, ldB_B, ldS_S, stA_A, stB_B, aL_A, aL_B, aL_S, aC_A, hRd_eq, hRd_ne, cp6, cp8, tl_some, tl_none, List.cons_append, List.nil_append, ofI_t0, ofI_t1, Int.add_zero, Int.zero_add, x173_0, x173_1]
  refine m_fo (by omega) c hB (fun h2 zz g sp er c2 e1 e2 e3 e4 e5 e6 e7 e8 o2 => ?_)
  have kk := kk h2 c2 o2
  generalize svA M J wt tk bh S ct ea la = R at *
  simp (disch := omega) only [wr_id, wr_m1, sd_t, nl_I, nl_R, nl_none, c1_I, c1_R, sh_0, sh_1, sh_2, sh_3, sh_4, true_and, and_true, ldA_A, ldB_B, ldS_S, stA_A, stB_B, aL_A, aL_B, aL_S, aC_A, hRd_eq, hRd_ne, cp6, cp8, tl_some, tl_none, List.cons_append, List.nil_append, ofI_t0, ofI_t1, Int.add_zero, Int.zero_add, x173_2, x173_3, x173_4, x173_5, x173_6, x173_7, x173_8, x173_9, gf11_0, pf11_0, gf11_1, pf11_1, gf11_2, pf11_2, gf11_3, gf11_4, gf11_5, gf11_6, gf11_7, pf11_7, gf11_8, gf11_9, pf11_9, gf11_10, pf11_10, gf11_11, pf11_11, gf11_12, pf11_12, gf11_13, pf11_13, gf11_14, gf11_15, pf11_15, gf11_16, gf11_17, pf11_17, gf11_18, gf11_19, gf11_20, gf11_21, gf11_22, gf11_23, gf11_24, pf11_24, gf11_25, gf11_26, gf11_27, gf11_28, pf11_28, gf11_29, pf11_29, gf11_30, gf11_31, gf11_32, pf11_32, gf11_33, gf11_34, gf11_35, pf11_35, gf11_36, gf11_37, gf11_38, gf11_39, uN_eq, uN_ne, e1, e3]
  refine l_look e1 e2 hP6 e3 tb.2.2 e7 e8.2.2 36 0 (-1, R.1) _ _ _ (by omega) (by omega) (by show -1 ≤ -1 ∧ (-1 : Int) ≤ 100; omega) tb.2.2 ?_
  rw [lk_36 e8.2.1 hP6]
  exact kk
end
