-- THE ROW, its end: line, swap, advance
def kSr (f : Int → Int) : Nat → Int → Int
  | 0, k => k
  | n + 1, k => if 0 ≤ k ∧ f (k + 1) < f k then kSr f n (k - 1) else k
def jSr (f : Int → Int) (k : Int) : Nat → Int → Int
  | 0, j => j
  | n + 1, j => if k < j ∧ f j < f k then jSr f k n (j - 1) else j
def swF (f : Int → Int) (a b : Int) : Int → Int := uA (uA f a (f b)) b (f a)
def rvF : Nat → (Int → Int) → Int → Int → (Int → Int)
  | 0, f, _, _ => f
  | n + 1, f, a, b => if a < b then rvF n (swF f a b) (a + 1) (b - 1) else f
/-- the place at which the next order turns: below 0, none -/
def nxK (f : Int → Int) (m : Int) : Int := kSr f 7 (m - 2)
def nxF (f : Int → Int) (m : Int) : Int → Int := rvF 7 (swF f (nxK f m) (jSr f (nxK f m) 7 (m - 1))) (nxK f m + 1) (m - 1)
theorem kSr_le : ∀ (n : Nat) (f : Int → Int) (k : Int), kSr f n k ≤ k ∧ (-1 ≤ k → -1 ≤ kSr f n k) := by
  intro n
  induction n with
  | zero => intro f k; exact ⟨Int.le_refl _, fun h => h⟩
  | succ n ih =>
    intro f k
    rw [kSr]
    split
    · have := ih f (k - 1)
      omega
    · omega
theorem jSr_le : ∀ (n : Nat) (f : Int → Int) (k j : Int), jSr f k n j ≤ j ∧ (k ≤ j → k ≤ jSr f k n j) := by
  intro n
  induction n with
  | zero => intro f k j; exact ⟨Int.le_refl _, fun h => h⟩
  | succ n ih =>
    intro f k j
    rw [jSr]
    split
    · have := ih f k (j - 1)
      omega
    · omega
section
variable {d r c a n : Nat} {h : LHeap} {Q : Option Value → LHeap → Prop} {f : Int → Int} {i p m : Int} {L : List Int}
theorem s_swap {x y : Int} (hd : 2 ≤ d) (hr : hRd h r = oRow c m) (hc : hRd h c = cA 6 f) (h1 : 0 ≤ x) (h2 : x < 6) (h3 : 0 ≤ y) (h4 : y < 6) (hc0 : ¬ c = 0) (hrc : ¬ r = c) (kk : Q none (hWr h c (cA 6 (swF f x y)))) : CALL d 53 [.ref r, vI x, vI y] h Q := by
  refine cl53 (by omega) hr ?_
  simp (disch := omega) only [wr_id, wr_m1, sd_t, nl_I, nl_R, nl_none, c1_I, c1_R, sh_0, sh_1, sh_2, sh_3, sh_4, true_and, and_true, ldA_A, ldB_B, ldS_S, stA_A, stB_B, aL_A, aL_B, aL_S, aC_A, hRd_eq, hRd_ne, cp6, cp8, tl_some, tl_none, List.cons_append, List.nil_append, ofI_t0, ofI_t1, Int.add_zero, Int.zero_add, x53_0, x53_1, x53_2, x53_3, x53_4, x53_5, x53_6, x53_7, x53_8, x53_9, x53_10, x53_11, x53_12, x53_13, x53_14, x53_15, x53_16, x53_17, x53_18, x53_19, x53_20, x53_21, x53_22, x53_23, x53_24, x53_25, x53_26, x53_27, x53_28, gf6_0, hr]
  refine s_holds (by omega) hc (by omega) (by omega) (by omega) ?_
  rw [if_pos (by omega)]
  simp (disch := omega) only [wr_id, wr_m1, sd_t, nl_I, nl_R, nl_none, c1_I, c1_R, sh_0, sh_1, sh_2, sh_3, sh_4, true_and, and_true, ldA_A, ldB_B, ldS_S, stA_A, stB_B, aL_A, aL_B, aL_S, aC_A, hRd_eq, hRd_ne, cp6, cp8, tl_some, tl_none, List.cons_append, List.nil_append, ofI_t0, ofI_t1, Int.add_zero, Int.zero_add, x53_0, x53_1, x53_2, x53_3, x53_4, x53_5, x53_6, x53_7, x53_8, x53_9, x53_10, x53_11, x53_12, x53_13, x53_14, x53_15, x53_16, x53_17, x53_18, x53_19, x53_20, x53_21, x53_22, x53_23, x53_24, x53_25, x53_26, x53_27, x53_28, gf6_0, hr]
  refine ⟨fun q => by omega, fun _ => ?_⟩
  refine s_holds (by omega) hc (by omega) (by omega) (by omega) ?_
  rw [if_pos (by omega)]
  have e1 : hRd (hWr h c (cA 6 (uA f x (f y)))) r = oRow c m := by rw [hRd_ne hrc]; exact hr
  simp (disch := omega) only [wr_id, wr_m1, sd_t, nl_I, nl_R, nl_none, c1_I, c1_R, sh_0, sh_1, sh_2, sh_3, sh_4, true_and, and_true, ldA_A, ldB_B, ldS_S, stA_A, stB_B, aL_A, aL_B, aL_S, aC_A, hRd_eq, hRd_ne, cp6, cp8, tl_some, tl_none, List.cons_append, List.nil_append, ofI_t0, ofI_t1, Int.add_zero, Int.zero_add, x53_0, x53_1, x53_2, x53_3, x53_4, x53_5, x53_6, x53_7, x53_8, x53_9, x53_10, x53_11, x53_12, x53_13, x53_14, x53_15, x53_16, x53_17, x53_18, x53_19, x53_20, x53_21, x53_22, x53_23, x53_24, x53_25, x53_26, x53_27, x53_28, gf6_0, hr, hc, e1, hWr_same]
  exact ⟨fun q => by omega, fun _ => ⟨⟨h1, h2⟩, ⟨h3, h4⟩, ⟨hc0, h1, h2⟩, ⟨hc0, h3, h4⟩, kk⟩⟩
theorem l_line {set : Int} (hd : 2 ≤ d) (h1 : r < c) : ∀ (S pre : List Int) (i : Int) (f : Int → Int), pre ++ S = P6 → i = (pre.length : Int) → RI f (lineL set pre).length (lineL set pre) → (∀ f1 : Int → Int, RI f1 (lineL set P6).length (lineL set P6) → Q none (hWr (hWr h r (oRow c (lineL set P6).length)) c (cA 6 f1))) → WPC d 48 6 [some (.ref r), some (vI set), some (vI i)] [] (hWr (hWr h r (oRow c (lineL set pre).length)) c (cA 6 f)) Q := by
  intro S
  induction S with
  | nil =>
    intro pre i f hp hi hR kk
    rw [List.append_nil] at hp
    subst hp
    have : i = 6 := hi
    subst this
    rw [WPC_iff]
    simp (disch := omega) only [wr_id, wr_m1, sd_t, nl_I, nl_R, nl_none, c1_I, c1_R, sh_0, sh_1, sh_2, sh_3, sh_4, true_and, and_true, ldA_A, ldB_B, ldS_S, stA_A, stB_B, aL_A, aL_B, aL_S, aC_A, hRd_eq, hRd_ne, cp6, cp8, tl_some, tl_none, List.cons_append, List.nil_append, ofI_t0, ofI_t1, Int.add_zero, Int.zero_add, x48_0, x48_1, x48_2, x48_3, x48_4, x48_5, x48_6, x48_7, x48_8, x48_9, x48_10, x48_11, x48_12, x48_13, x48_14, x48_15, x48_16, x48_17, x48_18, x48_19, x48_20, x48_21, x48_22, x48_23, pf6_1, gf6_1]
    exact ⟨fun _ => kk f hR, fun q => by omega⟩
  | cons a S ih =>
    intro pre i f hp hi hR kk
    have hlen : pre.length + (S.length + 1) = 6 := by
      have := congrArg List.length hp
      rw [List.length_append, List.length_cons] at this
      exact this
    have hai : a = i := by
      have e : P6[pre.length]? = some a := by rw [← hp]; simp
      have hl : pre.length < 6 := by omega
      have : ∀ n : Nat, n < 6 → P6[n]? = some (n : Int) := by decide
      rw [this _ hl] at e
      have := Option.some.inj e
      omega
    subst hai
    have hap : ∀ A B : List Int, lineL set (A ++ B) = lineL set A ++ lineL set B := by
      intro A B
      induction A with
      | nil => rfl
      | cons x A ih => rw [List.cons_append, lineL, lineL]; split <;> simp [ih]
    have hll : ∀ A : List Int, (lineL set A).length ≤ A.length := by
      intro A
      induction A with
      | nil => exact Nat.le_refl _
      | cons x A ih => rw [lineL]; split <;> simp <;> omega
    have hl1 := hll pre
    have e1 : hRd (hWr (hWr h r (oRow c (lineL set pre).length)) c (cA 6 f)) r = oRow c (lineL set pre).length := by rw [hRd_lt h1, hRd_eq]
    rw [WPC_iff]
    have hz1 := wr_lo
    simp (disch := omega) only [wr_id, wr_m1, sd_t, nl_I, nl_R, nl_none, c1_I, c1_R, sh_0, sh_1, sh_2, sh_3, sh_4, true_and, and_true, ldA_A, ldB_B, ldS_S, stA_A, stB_B, aL_A, aL_B, aL_S, aC_A, hRd_eq, hRd_ne, cp6, cp8, tl_some, tl_none, List.cons_append, List.nil_append, ofI_t0, ofI_t1, Int.add_zero, Int.zero_add, x48_0, x48_1, x48_2, x48_3, x48_4, x48_5, x48_6, x48_7, x48_8, x48_9, x48_10, x48_11, x48_12, x48_13, x48_14, x48_15, x48_16, x48_17, x48_18, x48_19, x48_20, x48_21, x48_22, x48_23, pf6_1, gf6_1, e1]
    have hzr : -2147483648 ≤ zand (zshr set a) 1 ∧ zand (zshr set a) 1 ≤ 2147483647 := by
      unfold zand
      have h1 := Int32.le_toInt (Int32.ofInt (zshr set a) &&& Int32.ofInt 1)
      have h2 := Int32.toInt_lt (Int32.ofInt (zshr set a) &&& Int32.ofInt 1)
      omega
    rw [wr_id hzr.1 hzr.2]
    refine ⟨fun q => by omega, fun _ => ⟨fun q => ?_, fun q => ?_⟩⟩
    · have e2 : lineL set (pre ++ [a]) = lineL set pre := by rw [hap, lineL, if_neg q]; simp [lineL]
      have := ih (pre ++ [a]) (a + 1) f (by rw [List.append_assoc]; exact hp) (by simp; omega) (by rw [e2]; exact hR) kk
      rw [e2] at this
      exact this
    · have e2 : lineL set (pre ++ [a]) = lineL set pre ++ [a] := by rw [hap, lineL, if_pos (by omega)]; rfl
      refine s_putIn (by omega) e1 hRd_eq h1 hR (by omega) (by omega) (Int.le_refl _) (by omega) (fun f1 hR1 => ?_)
      have e3 : insL (lineL set pre) ((lineL set pre).length : Int) a = lineL set (pre ++ [a]) := by
        rw [e2]
        unfold insL
        rw [show (((lineL set pre).length : Int)).toNat = (lineL set pre).length by omega, List.take_length, List.drop_length]
      have e4 : ((lineL set pre).length : Int) + 1 = ((lineL set (pre ++ [a])).length : Int) := by rw [e2]; simp
      rw [e3, e4] at hR1
      simp (disch := omega) only [wr_id, wr_m1, sd_t, nl_I, nl_R, nl_none, c1_I, c1_R, sh_0, sh_1, sh_2, sh_3, sh_4, true_and, and_true, ldA_A, ldB_B, ldS_S, stA_A, stB_B, aL_A, aL_B, aL_S, aC_A, hRd_eq, hRd_ne, cp6, cp8, tl_some, tl_none, List.cons_append, List.nil_append, ofI_t0, ofI_t1, Int.add_zero, Int.zero_add, x48_0, x48_1, x48_2, x48_3, x48_4, x48_5, x48_6, x48_7, x48_8, x48_9, x48_10, x48_11, x48_12, x48_13, x48_14, x48_15, x48_16, x48_17, x48_18, x48_19, x48_20, x48_21, x48_22, x48_23, pf6_1, gf6_1, hWr_comm h1, hWr_same]
      have := ih (pre ++ [a]) (a + 1) f1 (by rw [List.append_assoc]; exact hp) (by simp; omega) hR1 kk
      rw [← e4] at this
      exact this
theorem s_line {set : Int} (hd : 3 ≤ d) (hr : hRd h r = oRow c m) (hc : hRd h c = cA 6 f) (h1 : r < c) (kk : ∀ f1 : Int → Int, RI f1 (lineL set P6).length (lineL set P6) → Q none (hWr (hWr h r (oRow c (lineL set P6).length)) c (cA 6 f1))) : CALL d 48 [.ref r, vI set] h Q := by
  refine cl48 (by omega) hr ?_
  simp (disch := omega) only [wr_id, wr_m1, sd_t, nl_I, nl_R, nl_none, c1_I, c1_R, sh_0, sh_1, sh_2, sh_3, sh_4, true_and, and_true, ldA_A, ldB_B, ldS_S, stA_A, stB_B, aL_A, aL_B, aL_S, aC_A, hRd_eq, hRd_ne, cp6, cp8, tl_some, tl_none, List.cons_append, List.nil_append, ofI_t0, ofI_t1, Int.add_zero, Int.zero_add, x48_0, x48_1, x48_2, x48_3, x48_4, x48_5, x48_6, x48_7, x48_8, x48_9, x48_10, x48_11, x48_12, x48_13, x48_14, x48_15, x48_16, x48_17, x48_18, x48_19, x48_20, x48_21, x48_22, x48_23, pf6_1, gf6_1, hr]
  have := l_line (d := d - 1) (Q := Q) (set := set) (by omega) h1 P6 [] 0 f rfl rfl ⟨rfl, Nat.zero_le _, fun i x hx => by simp [lineL] at hx, fun x hx => by simp [lineL] at hx⟩ kk
  rw [hWr_self (h := hWr h r _) (by rw [hRd_gt h1]; exact hc)] at this
  exact this
/-- rows whose cells are lists, as functions of them -/
def fL (L : List Int) : Int → Int := fun i => L.getD i.toNat 0
theorem l_adv1 (hd : 3 ≤ d) (hr : hRd h r = oRow c m) (hc : hRd h c = cA 6 f) (hR : RI f m L) : ∀ (n : Nat) (k : Int), -1 ≤ k ∨ k = m - 2 → k ≤ m - 2 → k + 1 ≤ n → WP d 52 19 [some (.ref r), some (vI (kSr f n k)), none, none, none] [] h Q → WPC d 52 6 [some (.ref r), some (vI k), none, none, none] [] h Q := by
  have hl := hR.len
  intro n
  induction n with
  | zero =>
    intro k hk0 hk1 hn kk
    rw [WPC_iff]
    simp (disch := omega) only [wr_id, wr_m1, sd_t, nl_I, nl_R, nl_none, c1_I, c1_R, sh_0, sh_1, sh_2, sh_3, sh_4, true_and, and_true, ldA_A, ldB_B, ldS_S, stA_A, stB_B, aL_A, aL_B, aL_S, aC_A, hRd_eq, hRd_ne, cp6, cp8, tl_some, tl_none, List.cons_append, List.nil_append, ofI_t0, ofI_t1, Int.add_zero, Int.zero_add, x52_6, x52_7]
    exact ⟨fun _ => kk, fun q => by omega⟩
  | succ n ih =>
    intro k hk0 hk1 hn kk
    rw [WPC_iff]
    rw [kSr] at kk
    simp (disch := omega) only [wr_id, wr_m1, sd_t, nl_I, nl_R, nl_none, c1_I, c1_R, sh_0, sh_1, sh_2, sh_3, sh_4, true_and, and_true, ldA_A, ldB_B, ldS_S, stA_A, stB_B, aL_A, aL_B, aL_S, aC_A, hRd_eq, hRd_ne, cp6, cp8, tl_some, tl_none, List.cons_append, List.nil_append, ofI_t0, ofI_t1, Int.add_zero, Int.zero_add, x52_6, x52_7, x52_8, x52_9, x52_10]
    refine ⟨fun q => ?_, fun q => ?_⟩
    · rw [if_neg (by omega)] at kk
      exact kk
    · have g1 := hR.get (i := k) (by omega) (by omega)
      have g2 := hR.get (i := k + 1) (by omega) (by omega)
      refine s_Row_at (by omega) hr hc (by omega) (by omega) (by omega) (by omega) ?_
      rw [if_pos (by omega)]
      simp (disch := omega) only [wr_id, wr_m1, sd_t, nl_I, nl_R, nl_none, c1_I, c1_R, sh_0, sh_1, sh_2, sh_3, sh_4, true_and, and_true, ldA_A, ldB_B, ldS_S, stA_A, stB_B, aL_A, aL_B, aL_S, aC_A, hRd_eq, hRd_ne, cp6, cp8, tl_some, tl_none, List.cons_append, List.nil_append, ofI_t0, ofI_t1, Int.add_zero, Int.zero_add, x52_11, x52_12, x52_13, x52_14, x52_15]
      refine s_Row_at (by omega) hr hc (by omega) (by omega) (by omega) (by omega) ?_
      rw [if_pos (by omega)]
      simp (disch := omega) only [wr_id, wr_m1, sd_t, nl_I, nl_R, nl_none, c1_I, c1_R, sh_0, sh_1, sh_2, sh_3, sh_4, true_and, and_true, ldA_A, ldB_B, ldS_S, stA_A, stB_B, aL_A, aL_B, aL_S, aC_A, hRd_eq, hRd_ne, cp6, cp8, tl_some, tl_none, List.cons_append, List.nil_append, ofI_t0, ofI_t1, Int.add_zero, Int.zero_add, x52_16, x52_17, x52_18, x52_5]
      refine ⟨fun q2 => ?_, fun q2 => ?_⟩
      · rw [if_neg (by omega)] at kk
        exact kk
      · rw [if_pos (by omega)] at kk
        exact ih (k - 1) (by omega) (by omega) (by omega) kk
theorem l_adv2 {k : Int} (hd : 3 ≤ d) (hr : hRd h r = oRow c m) (hc : hRd h c = cA 6 f) (hR : RI f m L) (h0 : 0 ≤ k) : ∀ (n : Nat) (j : Int), k ≤ j → j ≤ m - 1 → j - k ≤ n → WP d 52 41 [some (.ref r), some (vI k), some (vI (jSr f k n j)), none, none] [] h Q → WPC d 52 29 [some (.ref r), some (vI k), some (vI j), none, none] [] h Q := by
  have hl := hR.len
  intro n
  induction n with
  | zero =>
    intro j hk0 hk1 hn kk
    rw [WPC_iff]
    simp (disch := omega) only [wr_id, wr_m1, sd_t, nl_I, nl_R, nl_none, c1_I, c1_R, sh_0, sh_1, sh_2, sh_3, sh_4, true_and, and_true, ldA_A, ldB_B, ldS_S, stA_A, stB_B, aL_A, aL_B, aL_S, aC_A, hRd_eq, hRd_ne, cp6, cp8, tl_some, tl_none, List.cons_append, List.nil_append, ofI_t0, ofI_t1, Int.add_zero, Int.zero_add, x52_29, x52_30, x52_31]
    exact ⟨fun _ => kk, fun q => by omega⟩
  | succ n ih =>
    intro j hk0 hk1 hn kk
    rw [WPC_iff]
    rw [jSr] at kk
    simp (disch := omega) only [wr_id, wr_m1, sd_t, nl_I, nl_R, nl_none, c1_I, c1_R, sh_0, sh_1, sh_2, sh_3, sh_4, true_and, and_true, ldA_A, ldB_B, ldS_S, stA_A, stB_B, aL_A, aL_B, aL_S, aC_A, hRd_eq, hRd_ne, cp6, cp8, tl_some, tl_none, List.cons_append, List.nil_append, ofI_t0, ofI_t1, Int.add_zero, Int.zero_add, x52_29, x52_30, x52_31, x52_32, x52_33, x52_34]
    refine ⟨fun q => ?_, fun q => ?_⟩
    · rw [if_neg (by omega)] at kk
      exact kk
    · have g1 := hR.get (i := k) (by omega) (by omega)
      have g2 := hR.get (i := j) (by omega) (by omega)
      refine s_Row_at (by omega) hr hc (by omega) (by omega) (by omega) (by omega) ?_
      rw [if_pos (by omega)]
      simp (disch := omega) only [wr_id, wr_m1, sd_t, nl_I, nl_R, nl_none, c1_I, c1_R, sh_0, sh_1, sh_2, sh_3, sh_4, true_and, and_true, ldA_A, ldB_B, ldS_S, stA_A, stB_B, aL_A, aL_B, aL_S, aC_A, hRd_eq, hRd_ne, cp6, cp8, tl_some, tl_none, List.cons_append, List.nil_append, ofI_t0, ofI_t1, Int.add_zero, Int.zero_add, x52_35, x52_36, x52_37]
      refine s_Row_at (by omega) hr hc (by omega) (by omega) (by omega) (by omega) ?_
      rw [if_pos (by omega)]
      simp (disch := omega) only [wr_id, wr_m1, sd_t, nl_I, nl_R, nl_none, c1_I, c1_R, sh_0, sh_1, sh_2, sh_3, sh_4, true_and, and_true, ldA_A, ldB_B, ldS_S, stA_A, stB_B, aL_A, aL_B, aL_S, aC_A, hRd_eq, hRd_ne, cp6, cp8, tl_some, tl_none, List.cons_append, List.nil_append, ofI_t0, ofI_t1, Int.add_zero, Int.zero_add, x52_38, x52_39, x52_40, x52_28]
      refine ⟨fun q2 => ?_, fun q2 => ?_⟩
      · rw [if_neg (by omega)] at kk
        exact kk
      · rw [if_pos (by omega)] at kk
        exact ih (j - 1) (by omega) (by omega) (by omega) kk
theorem l_adv3 {u v : Int} (hd : 3 ≤ d) (hr : hRd h r = oRow c m) (hc0 : ¬ c = 0) (hrc : ¬ r = c) : ∀ (n : Nat) (f : Int → Int) (a b : Int), 0 ≤ a → a ≤ 6 → b < 6 → -1 ≤ b → b - a < 2 * (n : Int) → Q (some (vI 1)) (hWr h c (cA 6 (rvF n f a b))) → WPC d 52 55 [some (.ref r), some (vI u), some (vI v), some (vI a), some (vI b)] [] (hWr h c (cA 6 f)) Q := by
  intro n
  induction n with
  | zero =>
    intro f a b ha ha6 hb hb1 hn kk
    rw [WPC_iff]
    simp (disch := omega) only [wr_id, wr_m1, sd_t, nl_I, nl_R, nl_none, c1_I, c1_R, sh_0, sh_1, sh_2, sh_3, sh_4, true_and, and_true, ldA_A, ldB_B, ldS_S, stA_A, stB_B, aL_A, aL_B, aL_S, aC_A, hRd_eq, hRd_ne, cp6, cp8, tl_some, tl_none, List.cons_append, List.nil_append, ofI_t0, ofI_t1, Int.add_zero, Int.zero_add, x52_55, x52_56, x52_57, x52_65, x52_66]
    exact ⟨fun _ => kk, fun q => by omega⟩
  | succ n ih =>
    intro f a b ha ha6 hb hb1 hn kk
    rw [WPC_iff]
    rw [rvF] at kk
    simp (disch := omega) only [wr_id, wr_m1, sd_t, nl_I, nl_R, nl_none, c1_I, c1_R, sh_0, sh_1, sh_2, sh_3, sh_4, true_and, and_true, ldA_A, ldB_B, ldS_S, stA_A, stB_B, aL_A, aL_B, aL_S, aC_A, hRd_eq, hRd_ne, cp6, cp8, tl_some, tl_none, List.cons_append, List.nil_append, ofI_t0, ofI_t1, Int.add_zero, Int.zero_add, x52_55, x52_56, x52_57, x52_58, x52_59, x52_60, x52_61, x52_65, x52_66]
    refine ⟨fun q => ?_, fun q => ?_⟩
    · rw [if_neg (by omega)] at kk
      exact kk
    · rw [if_pos (by omega)] at kk
      have e1 : hRd (hWr h c (cA 6 f)) r = oRow c m := by rw [hRd_ne hrc]; exact hr
      refine s_swap (by omega) e1 hRd_eq (by omega) (by omega) (by omega) (by omega) hc0 hrc ?_
      simp (disch := omega) only [wr_id, wr_m1, sd_t, nl_I, nl_R, nl_none, c1_I, c1_R, sh_0, sh_1, sh_2, sh_3, sh_4, true_and, and_true, ldA_A, ldB_B, ldS_S, stA_A, stB_B, aL_A, aL_B, aL_S, aC_A, hRd_eq, hRd_ne, cp6, cp8, tl_some, tl_none, List.cons_append, List.nil_append, ofI_t0, ofI_t1, Int.add_zero, Int.zero_add, x52_62, x52_63, x52_64, x52_54, hWr_same]
      exact ih (swF f a b) (a + 1) (b - 1) (by omega) (by omega) (by omega) (by omega) (by omega) kk
theorem s_advance (hd : 4 ≤ d) (hr : hRd h r = oRow c m) (hc : hRd h c = cA 6 f) (hR : RI f m L) (hc0 : ¬ c = 0) (hrc : ¬ r = c) (k1 : nxK f m < 0 → Q (some (vI 0)) h) (k2 : 0 ≤ nxK f m → Q (some (vI 1)) (hWr h c (cA 6 (nxF f m)))) : CALL d 52 [.ref r] h Q := by
  have hl := hR.len
  refine cl52 (by omega) hr ?_
  simp (disch := omega) only [wr_id, wr_m1, sd_t, nl_I, nl_R, nl_none, c1_I, c1_R, sh_0, sh_1, sh_2, sh_3, sh_4, true_and, and_true, ldA_A, ldB_B, ldS_S, stA_A, stB_B, aL_A, aL_B, aL_S, aC_A, hRd_eq, hRd_ne, cp6, cp8, tl_some, tl_none, List.cons_append, List.nil_append, ofI_t0, ofI_t1, Int.add_zero, Int.zero_add, x52_0, x52_1, x52_2, x52_3, x52_4, x52_5, gf6_1, hr]
  refine l_adv1 (by omega) hr hc hR 7 (m - 2) (by omega) (by omega) (by omega) ?_
  have hk := kSr_le 7 f (m - 2)
  have hk2 : kSr f 7 (m - 2) = nxK f m := rfl
  rw [hk2] at hk ⊢
  have hk3 : -2 ≤ nxK f m := by
    by_cases q : -1 ≤ m - 2
    · omega
    · have : nxK f m = m - 2 := by
        unfold nxK
        rw [kSr, if_neg (by omega)]
      omega
  simp (disch := omega) only [wr_id, wr_m1, sd_t, nl_I, nl_R, nl_none, c1_I, c1_R, sh_0, sh_1, sh_2, sh_3, sh_4, true_and, and_true, ldA_A, ldB_B, ldS_S, stA_A, stB_B, aL_A, aL_B, aL_S, aC_A, hRd_eq, hRd_ne, cp6, cp8, tl_some, tl_none, List.cons_append, List.nil_append, ofI_t0, ofI_t1, Int.add_zero, Int.zero_add, x52_19, x52_20, x52_21, x52_22, x52_23, x52_24, x52_25, x52_26, x52_27, x52_28, gf6_1, hr]
  refine ⟨fun q => ?_, fun q => k1 (by omega)⟩
  refine l_adv2 (by omega) hr hc hR q 7 (m - 1) (by omega) (by omega) (by omega) ?_
  have hj := jSr_le 7 f (nxK f m) (m - 1)
  simp (disch := omega) only [wr_id, wr_m1, sd_t, nl_I, nl_R, nl_none, c1_I, c1_R, sh_0, sh_1, sh_2, sh_3, sh_4, true_and, and_true, ldA_A, ldB_B, ldS_S, stA_A, stB_B, aL_A, aL_B, aL_S, aC_A, hRd_eq, hRd_ne, cp6, cp8, tl_some, tl_none, List.cons_append, List.nil_append, ofI_t0, ofI_t1, Int.add_zero, Int.zero_add, x52_41, x52_42, x52_43, x52_44]
  refine s_swap (by omega) hr hc (by omega) (by omega) (by omega) (by omega) hc0 hrc ?_
  have e1 : hRd (hWr h c (cA 6 (swF f (nxK f m) (jSr f (nxK f m) 7 (m - 1))))) r = oRow c m := by rw [hRd_ne hrc]; exact hr
  simp (disch := omega) only [wr_id, wr_m1, sd_t, nl_I, nl_R, nl_none, c1_I, c1_R, sh_0, sh_1, sh_2, sh_3, sh_4, true_and, and_true, ldA_A, ldB_B, ldS_S, stA_A, stB_B, aL_A, aL_B, aL_S, aC_A, hRd_eq, hRd_ne, cp6, cp8, tl_some, tl_none, List.cons_append, List.nil_append, ofI_t0, ofI_t1, Int.add_zero, Int.zero_add, x52_45, x52_46, x52_47, x52_48, x52_49, x52_50, x52_51, x52_52, x52_53, x52_54, gf6_1, e1]
  exact l_adv3 (by omega) hr hc0 hrc 7 _ _ _ (by omega) (by omega) (by omega) (by omega) (by omega) (k2 q)
end
