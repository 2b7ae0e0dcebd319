-- THE READER, its small methods
def skF (f : Int → Int) (n : Int) : Nat → Int → Int
  | 0, a => a
  | m + 1, a => if a < n ∧ f a = 32 then skF f n m (a + 1) else a
def dgF (f : Int → Int) (n : Int) : Nat → Int → Int
  | 0, a => a
  | m + 1, a => if a < n ∧ 48 ≤ f a ∧ f a ≤ 57 then dgF f n m (a + 1) else a
/-- the value of the figures, three at most -/
def nvaF (f : Int → Int) (a0 : Int) : Nat → Int → Int → Int
  | 0, _, v => v
  | m + 1, a, v => nvaF f a0 m (a + 1) (if a - a0 < 3 then v * 10 + f a - 48 else v)
def sk (f : Int → Int) (n a : Int) : Int := skF f n (n - a).toNat a
def dg (f : Int → Int) (n a : Int) : Int := dgF f n (n - a).toNat a
def nA (f : Int → Int) (n a : Int) : Int := sk f n a
def nB (f : Int → Int) (n a : Int) : Int := dg f n (sk f n a)
def nV (f : Int → Int) (n a : Int) : Int := nvaF f (nA f n a) (nB f n a - nA f n a).toNat (nA f n a) 0
def nK (f : Int → Int) (n lo hi a : Int) : Int := if nB f n a = nA f n a then 1 else if nB f n a - nA f n a > 3 ∨ nV f n a < lo ∨ nV f n a > hi then 2 else 0
def RdAt (f : Int → Int) (n tr pl at' na : Int) (h : LHeap) : Prop := hRd h 2 = oRead 3 4 n tr pl at' na ∧ hRd h 3 = cA 220 f
/-- what is in the text -/
def TxB (f : Int → Int) (n : Int) : Prop := (0 ≤ n ∧ n ≤ 220) ∧ ∀ i, 0 ≤ i → i < n → 0 ≤ f i ∧ f i ≤ 255
theorem skF_b (f : Int → Int) (n : Int) : ∀ (m : Nat) (a : Int), a ≤ n → a ≤ skF f n m a ∧ skF f n m a ≤ n := by
  intro m
  induction m with
  | zero => intro a h; exact ⟨by rw [skF]; omega, by rw [skF]; omega⟩
  | succ m ih =>
    intro a h
    rw [skF]
    split
    · have := ih (a + 1) (by omega); omega
    · omega
theorem dgF_b (f : Int → Int) (n : Int) : ∀ (m : Nat) (a : Int), a ≤ n → a ≤ dgF f n m a ∧ dgF f n m a ≤ n := by
  intro m
  induction m with
  | zero => intro a h; exact ⟨by rw [dgF]; omega, by rw [dgF]; omega⟩
  | succ m ih =>
    intro a h
    rw [dgF]
    split
    · have := ih (a + 1) (by omega); omega
    · omega
theorem sk_b {f : Int → Int} {n a : Int} (h : a ≤ n) : a ≤ sk f n a ∧ sk f n a ≤ n := skF_b f n _ a h
theorem nB_b {f : Int → Int} {n a : Int} (h : a ≤ n) : a ≤ nA f n a ∧ nA f n a ≤ nB f n a ∧ nB f n a ≤ n := by
  have h1 := sk_b (f := f) h
  have h2 := dgF_b f n (n - sk f n a).toNat (sk f n a) h1.2
  exact ⟨h1.1, h2.1, h2.2⟩
theorem sk_eq {f : Int → Int} {n a : Int} : sk f n a = if a < n ∧ f a = 32 then sk f n (a + 1) else a := by
  unfold sk
  by_cases h : a < n
  · rw [show (n - a).toNat = (n - (a + 1)).toNat + 1 by omega, skF]
  · rw [show (n - a).toNat = 0 by omega, skF, if_neg (fun z => h z.1)]
theorem dg_eq {f : Int → Int} {n a : Int} : dg f n a = if a < n ∧ 48 ≤ f a ∧ f a ≤ 57 then dg f n (a + 1) else a := by
  unfold dg
  by_cases h : a < n
  · rw [show (n - a).toNat = (n - (a + 1)).toNat + 1 by omega, dgF]
  · rw [show (n - a).toNat = 0 by omega, dgF, if_neg (fun z => h z.1)]
theorem dg_b {f : Int → Int} {n a : Int} (h : a ≤ n) : a ≤ dg f n a ∧ dg f n a ≤ n := dgF_b f n _ a h
section
variable {d : Nat} {h h0 : LHeap} {Q : Option Value → LHeap → Prop} {f : Int → Int} {n tr pl a na : Int}
theorem RdAt.out {lo hi : Nat} {h1 : LHeap} (hr : RdAt f n tr pl a na h) (o : Out lo hi h h1) (e : 3 < lo ∨ hi < 2) : RdAt f n tr pl a na h1 := ⟨by rw [o.2.2 _ (by omega)]; exact hr.1, by rw [o.2.2 _ (by omega)]; exact hr.2⟩
theorem RdAt.at {x y : Int} (hr : RdAt f n tr pl a na h) (t p : Int) : RdAt f n t p x y (hWr h 2 (oRead 3 4 n t p x y)) := ⟨hRd_eq, by rw [hRd_ne (by omega)]; exact hr.2⟩
theorem s_letter (hd : 1 ≤ d) (hr : RdAt f n tr pl a na h) (hT : TxB f n) (h0 : 0 ≤ a ∧ a ≤ n) (kk : Q (some (vI (if a < n then f a else -1))) h) : CALL d 38 [.ref 2] h Q := by
  obtain ⟨a1, a2⟩ := hr
  obtain ⟨t1, t2⟩ := hT
  refine cl38 (by omega) a1 ?_
  simp (disch := omega) only [wr_id, wr_m1, sd_t, nl_I, nl_R, nl_none, c1_I, c1_R, sh_0, sh_1, sh_2, sh_3, sh_4, true_and, and_true, ldA_A, ldB_B, ldS_S, stA_A, stB_B, aL_A, aL_B, aL_S, aC_A, hRd_eq, hRd_ne, cp6, cp8, tl_some, tl_none, List.cons_append, List.nil_append, ofI_t0, ofI_t1, Int.add_zero, Int.zero_add, x38_0, x38_1, x38_2, x38_3, x38_4, x38_5, x38_6, x38_7, x38_8, x38_9, x38_10, x38_11, x38_12, x38_13, x38_14, x38_15, x38_16, x38_17, x38_18, x38_19, x38_20, x38_21, gf5_5, gf5_2, gf5_0, a1, a2]
  refine ⟨fun z => by omega, fun _ => ⟨fun z => ?_, fun z => ⟨fun z => by omega, fun _ => ⟨by omega, ?_⟩⟩⟩⟩
  · rw [if_neg (by omega)] at kk; exact kk
  · rw [if_pos (by omega)] at kk; exact kk
theorem l_skip (hd : 2 ≤ d) (hT : TxB f n) : ∀ (m : Nat) (a : Int) (h : LHeap), (m : Int) = n - a → 0 ≤ a → RdAt f n tr pl a na h → Q none (hWr h 2 (oRead 3 4 n tr pl (sk f n a) na)) → WPC d 37 1 [some (.ref 2)] [] h Q := by
  intro m
  induction m with
  | zero =>
    intro a h hm ha hr kk
    have hr1 := hr.1
    have : a = n := by omega
    subst this
    rw [WPC_iff]
    rw [sk_eq, if_neg (by omega), hWr_self hr1] at kk
    simp (disch := omega) only [wr_id, wr_m1, sd_t, nl_I, nl_R, nl_none, c1_I, c1_R, sh_0, sh_1, sh_2, sh_3, sh_4, true_and, and_true, ldA_A, ldB_B, ldS_S, stA_A, stB_B, aL_A, aL_B, aL_S, aC_A, hRd_eq, hRd_ne, cp6, cp8, tl_some, tl_none, List.cons_append, List.nil_append, ofI_t0, ofI_t1, Int.add_zero, Int.zero_add, x37_0, x37_1, x37_2, x37_3, x37_4, x37_5, x37_6, x37_7, x37_8, x37_9, x37_10, x37_11, x37_12, x37_13, x37_14, x37_15, x37_16, x37_17, gf5_5, gf5_2, pf5_5, hr1]
    exact ⟨fun _ => kk, fun z => by first | omega | exact absurd trivial z⟩
  | succ m ih =>
    intro a h hm ha hr kk
    have hr1 := hr.1
    have hb := hT.2 a ha (by omega)
    have hn := hT.1
    rw [sk_eq] at kk
    rw [WPC_iff]
    simp (disch := omega) only [wr_id, wr_m1, sd_t, nl_I, nl_R, nl_none, c1_I, c1_R, sh_0, sh_1, sh_2, sh_3, sh_4, true_and, and_true, ldA_A, ldB_B, ldS_S, stA_A, stB_B, aL_A, aL_B, aL_S, aC_A, hRd_eq, hRd_ne, cp6, cp8, tl_some, tl_none, List.cons_append, List.nil_append, ofI_t0, ofI_t1, Int.add_zero, Int.zero_add, x37_0, x37_1, x37_2, x37_3, x37_4, x37_5, x37_6, x37_7, x37_8, x37_9, x37_10, x37_11, x37_12, x37_13, x37_14, x37_15, x37_16, x37_17, gf5_5, gf5_2, pf5_5, hr1]
    refine ⟨fun z => by omega, fun _ => ?_⟩
    refine s_letter (by omega) hr hT ⟨ha, by omega⟩ ?_
    rw [if_pos (show a < n by omega)]
    simp (disch := omega) only [wr_id, wr_m1, sd_t, nl_I, nl_R, nl_none, c1_I, c1_R, sh_0, sh_1, sh_2, sh_3, sh_4, true_and, and_true, ldA_A, ldB_B, ldS_S, stA_A, stB_B, aL_A, aL_B, aL_S, aC_A, hRd_eq, hRd_ne, cp6, cp8, tl_some, tl_none, List.cons_append, List.nil_append, ofI_t0, ofI_t1, Int.add_zero, Int.zero_add, x37_0, x37_1, x37_2, x37_3, x37_4, x37_5, x37_6, x37_7, x37_8, x37_9, x37_10, x37_11, x37_12, x37_13, x37_14, x37_15, x37_16, x37_17, gf5_5, gf5_2, pf5_5, hr1]
    refine ⟨fun z => ?_, fun z => ?_⟩
    · rw [if_neg (by omega), hWr_self hr1] at kk
      exact kk
    · rw [if_pos ⟨by omega, by omega⟩] at kk
      refine ih (a + 1) _ (by omega) (by omega) (hr.at tr pl) ?_
      rw [hWr_same]
      exact kk
theorem s_skip (hd : 3 ≤ d) (hT : TxB f n) (hr : RdAt f n tr pl a na h) (h0 : 0 ≤ a ∧ a ≤ n) (kk : Q none (hWr h 2 (oRead 3 4 n tr pl (sk f n a) na))) : CALL d 37 [.ref 2] h Q := by
  refine cl37 (by omega) hr.1 ?_
  simp (disch := omega) only [wr_id, wr_m1, sd_t, nl_I, nl_R, nl_none, c1_I, c1_R, sh_0, sh_1, sh_2, sh_3, sh_4, true_and, and_true, ldA_A, ldB_B, ldS_S, stA_A, stB_B, aL_A, aL_B, aL_S, aC_A, hRd_eq, hRd_ne, cp6, cp8, tl_some, tl_none, List.cons_append, List.nil_append, ofI_t0, ofI_t1, Int.add_zero, Int.zero_add, x37_0]
  exact l_skip (by omega) hT (n - a).toNat a h (by omega) h0.1 hr kk
theorem s_atFig (hd : 2 ≤ d) (hT : TxB f n) (hr : RdAt f n tr pl a na h) (h0 : 0 ≤ a ∧ a ≤ n) (kk : Q (some (vI (if a < n ∧ 48 ≤ f a ∧ f a ≤ 57 then 1 else 0))) h) : CALL d 39 [.ref 2] h Q := by
  have hb := fun z => hT.2 a h0.1 z
  refine cl39 (by omega) hr.1 ?_
  simp (disch := omega) only [wr_id, wr_m1, sd_t, nl_I, nl_R, nl_none, c1_I, c1_R, sh_0, sh_1, sh_2, sh_3, sh_4, true_and, and_true, ldA_A, ldB_B, ldS_S, stA_A, stB_B, aL_A, aL_B, aL_S, aC_A, hRd_eq, hRd_ne, cp6, cp8, tl_some, tl_none, List.cons_append, List.nil_append, ofI_t0, ofI_t1, Int.add_zero, Int.zero_add, x39_0, x39_1, x39_2, x39_3, x39_4, x39_5, x39_6, x39_7, x39_8, x39_9, x39_10, x39_11, x39_12]
  refine s_letter (by omega) hr hT h0 ?_
  by_cases q : a < n
  · rw [if_pos q]
    have hb := hb q
    simp (disch := omega) only [wr_id, wr_m1, sd_t, nl_I, nl_R, nl_none, c1_I, c1_R, sh_0, sh_1, sh_2, sh_3, sh_4, true_and, and_true, ldA_A, ldB_B, ldS_S, stA_A, stB_B, aL_A, aL_B, aL_S, aC_A, hRd_eq, hRd_ne, cp6, cp8, tl_some, tl_none, List.cons_append, List.nil_append, ofI_t0, ofI_t1, Int.add_zero, Int.zero_add, x39_0, x39_1, x39_2, x39_3, x39_4, x39_5, x39_6, x39_7, x39_8, x39_9, x39_10, x39_11, x39_12]
    refine ⟨fun z => ?_, fun z => ⟨fun z2 => ?_, fun z2 => ?_⟩⟩
    · rw [if_neg (by omega)] at kk; exact kk
    · rw [if_neg (by omega)] at kk; exact kk
    · rw [if_pos ⟨q, by omega, by omega⟩] at kk; exact kk
  · rw [if_neg q]
    rw [if_neg (fun z => q z.1)] at kk
    simp (disch := omega) only [wr_id, wr_m1, sd_t, nl_I, nl_R, nl_none, c1_I, c1_R, sh_0, sh_1, sh_2, sh_3, sh_4, true_and, and_true, ldA_A, ldB_B, ldS_S, stA_A, stB_B, aL_A, aL_B, aL_S, aC_A, hRd_eq, hRd_ne, cp6, cp8, tl_some, tl_none, List.cons_append, List.nil_append, ofI_t0, ofI_t1, Int.add_zero, Int.zero_add, x39_0, x39_1, x39_2, x39_3, x39_4, x39_5, x39_6, x39_7, x39_8, x39_9, x39_10, x39_11, x39_12]
    exact ⟨fun _ => kk, fun z => by first | omega | exact absurd (by omega) z⟩
theorem s_blame {x y : Int} (hd : 1 ≤ d) (hr : RdAt f n tr pl a na h) (ht : 0 ≤ tr ∧ tr ≤ 4) (k1 : tr = 0 → Q none (hWr h 2 (oRead 3 4 n x y a na))) (k2 : ¬ tr = 0 → Q none h) : CALL d 42 [.ref 2, vI x, vI y] h Q := by
  have a1 := hr.1
  refine cl42 (by omega) a1 ?_
  simp (disch := omega) only [wr_id, wr_m1, sd_t, nl_I, nl_R, nl_none, c1_I, c1_R, sh_0, sh_1, sh_2, sh_3, sh_4, true_and, and_true, ldA_A, ldB_B, ldS_S, stA_A, stB_B, aL_A, aL_B, aL_S, aC_A, hRd_eq, hRd_ne, cp6, cp8, tl_some, tl_none, List.cons_append, List.nil_append, ofI_t0, ofI_t1, Int.add_zero, Int.zero_add, x42_0, x42_1, x42_2, x42_3, x42_4, x42_5, x42_6, x42_7, x42_8, x42_9, gf5_3, pf5_3, pf5_4, a1, hWr_same]
  exact ⟨fun z => k2 (by omega), fun z => k1 (by omega)⟩
end
