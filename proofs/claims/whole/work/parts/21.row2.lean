-- THE ROW, going on: members, become, line, putIn, takeOut, raisedAgainst
def memF : List Int → Int → Int
  | [], s => s
  | p :: L, s => memF L (zor s (zshl 1 p))
def lineL (set : Int) : List Int → List Int
  | [] => []
  | p :: S => if zand (zshr set p) 1 = 1 then p :: lineL set S else lineL set S
def P6 : List Int := [0, 1, 2, 3, 4, 5]
/-- one place up, from i to m -/
def shU (f : Int → Int) (i m : Int) : Int → Int := fun j => if i < j ∧ j ≤ m then f (j - 1) else f j
/-- one place down, from a to i -/
def shD (f : Int → Int) (a i : Int) : Int → Int := fun j => if a ≤ j ∧ j < i then f (j + 1) else f j
def insL (L : List Int) (pl p : Int) : List Int := L.take pl.toNat ++ p :: L.drop pl.toNat
def delL (L : List Int) (pl : Int) : List Int := L.eraseIdx pl.toNat
def raisF (O : List Int) : List Int → Int → Int → Int
  | [], _, n => n
  | a :: S, i, n => raisF O S (i + 1) (if i < pfrom O a 0 then n + 1 else n)
theorem shU_0 {f : Int → Int} {m : Int} : shU f m m = f := by
  funext j
  unfold shU
  rw [if_neg (by omega)]
theorem shU_s {f : Int → Int} {i m : Int} (h : i ≤ m) : uA (shU f i m) i (shU f i m (i - 1)) = shU f (i - 1) m := by
  funext j
  unfold uA shU
  by_cases e : j = i
  · subst e
    rw [if_pos rfl, if_neg (by omega), if_pos (by omega)]
  · rw [if_neg e]
    by_cases e2 : i < j ∧ j ≤ m
    · rw [if_pos e2, if_pos (by omega)]
    · rw [if_neg e2, if_neg (by omega)]
theorem shD_0 {f : Int → Int} {a : Int} : shD f a a = f := by
  funext j
  unfold shD
  rw [if_neg (by omega)]
theorem shD_s {f : Int → Int} {a i : Int} (h : a ≤ i) : uA (shD f a i) i (shD f a i (i + 1)) = shD f a (i + 1) := by
  funext j
  unfold uA shD
  by_cases e : j = i
  · subst e
    rw [if_pos rfl, if_neg (by omega), if_pos (by omega)]
  · rw [if_neg e]
    by_cases e2 : a ≤ j ∧ j < i
    · rw [if_pos e2, if_pos (by omega)]
    · rw [if_neg e2, if_neg (by omega)]
theorem RI.ins {f : Int → Int} {m pl p : Int} {L : List Int} (h : RI f m L) (h0 : 0 ≤ pl) (h1 : pl ≤ m) (h2 : m < 6) (hp : 0 ≤ p ∧ p ≤ 5) : RI (uA (shU f pl m) pl p) (m + 1) (insL L pl p) := by
  have hl := h.len
  have hm : m = (L.length : Int) := h.1
  have ht : (L.take pl.toNat).length = pl.toNat := by rw [List.length_take]; omega
  have hln : (insL L pl p).length = L.length + 1 := by
    unfold insL
    rw [List.length_append, ht, List.length_cons, List.length_drop]
    omega
  refine RI.mk (by rw [hln]; omega) (by omega) (fun i hi0 hi1 => ?_) (fun x hx => ?_)
  · unfold insL uA shU
    by_cases e1 : i < pl
    · rw [List.getElem?_append_left (by omega), List.getElem?_take, if_pos (by omega), if_neg (by omega), if_neg (by omega)]
      exact (h.get hi0 (by omega)).2.2
    · by_cases e2 : i = pl
      · subst e2
        rw [List.getElem?_append_right (by omega), ht, Nat.sub_self, if_pos rfl]
        rfl
      · rw [List.getElem?_append_right (by omega), ht, if_neg e2, if_pos (by omega)]
        obtain ⟨q, hq⟩ : ∃ q, i.toNat - pl.toNat = q + 1 := ⟨i.toNat - pl.toNat - 1, by omega⟩
        rw [hq, List.getElem?_cons_succ, List.getElem?_drop]
        have := (h.get (i := i - 1) (by omega) (by omega)).2.2
        rw [show pl.toNat + q = (i - 1).toNat by omega]
        exact this
  · unfold insL at hx
    rcases List.mem_append.mp hx with hx | hx
    · exact h.2.2.2 x (List.mem_of_mem_take hx)
    · rcases List.mem_cons.mp hx with hx | hx
      · rw [hx]; exact hp
      · exact h.2.2.2 x (List.mem_of_mem_drop hx)
theorem RI.del {f : Int → Int} {m pl : Int} {L : List Int} (h : RI f m L) (h0 : 0 ≤ pl) (h1 : pl < m) : RI (shD f pl (m - 1)) (m - 1) (delL L pl) := by
  have hl := h.len
  have hm : m = (L.length : Int) := h.1
  have hln : (delL L pl).length = L.length - 1 := by
    unfold delL
    rw [List.length_eraseIdx, if_pos (by omega)]
  refine RI.mk (by rw [hln]; omega) (by omega) (fun i hi0 hi1 => ?_) (fun x hx => ?_)
  · unfold delL shD
    rw [List.getElem?_eraseIdx]
    by_cases e1 : i < pl
    · rw [if_pos (by omega), if_neg (by omega)]
      exact (h.get hi0 (by omega)).2.2
    · rw [if_neg (by omega), if_pos (by omega)]
      have := (h.get (i := i + 1) (by omega) (by omega)).2.2
      rw [show i.toNat + 1 = (i + 1).toNat by omega]
      exact this
  · exact h.2.2.2 x (List.mem_of_mem_eraseIdx hx)
theorem pfrom_ge : ∀ (L : List Int) (p i : Int), 0 ≤ i → -1 ≤ pfrom L p i ∧ pfrom L p i < i + (L.length : Int) ∧ (¬ pfrom L p i = -1 → i ≤ pfrom L p i) := by
  intro L
  induction L with
  | nil => intro p i h; simp [pfrom]; omega
  | cons a L ih =>
    intro p i h
    rw [pfrom]
    have := ih p (i + 1) (by omega)
    simp only [List.length_cons]
    split <;> omega
section
variable {d r c a n : Nat} {h : LHeap} {Q : Option Value → LHeap → Prop} {f : Int → Int} {i p m : Int} {L : List Int}
theorem l_members (hr : hRd h r = oRow c m) (hc : hRd h c = cA 6 f) : ∀ (S pre : List Int) (i s : Int), RI f m (pre ++ S) → i = (pre.length : Int) → Q (some (vI (memF S s))) h → WPC d 46 5 [some (.ref r), some (vI s), some (vI i)] [] h Q := by
  intro S
  induction S with
  | nil =>
    intro pre i s hR hi kk
    have := hR.end
    rw [WPC_iff]
    simp (disch := omega) only [wr_id, wr_m1, sd_t, nl_I, nl_R, nl_none, c1_I, c1_R, sh_0, sh_1, sh_2, sh_3, sh_4, true_and, and_true, ldA_A, ldB_B, ldS_S, stA_A, stB_B, aL_A, aL_B, aL_S, aC_A, hRd_eq, hRd_ne, cp6, cp8, tl_some, tl_none, List.cons_append, List.nil_append, ofI_t0, ofI_t1, Int.add_zero, Int.zero_add, x46_0, x46_1, x46_2, x46_3, x46_4, x46_5, x46_6, x46_7, x46_8, x46_9, x46_10, x46_11, x46_12, x46_13, x46_14, x46_15, x46_16, x46_17, x46_18, x46_19, x46_20, x46_21, x46_22, x46_23, x46_24, x46_25, x46_26, gf6_1, gf6_0, hr, hc]
    exact ⟨fun _ => kk, fun q => by omega⟩
  | cons a S ih =>
    intro pre i s hR hi kk
    have e := hR.at
    rw [← hi] at e
    rw [WPC_iff]
    simp (disch := omega) only [wr_id, wr_m1, sd_t, nl_I, nl_R, nl_none, c1_I, c1_R, sh_0, sh_1, sh_2, sh_3, sh_4, true_and, and_true, ldA_A, ldB_B, ldS_S, stA_A, stB_B, aL_A, aL_B, aL_S, aC_A, hRd_eq, hRd_ne, cp6, cp8, tl_some, tl_none, List.cons_append, List.nil_append, ofI_t0, ofI_t1, Int.add_zero, Int.zero_add, x46_0, x46_1, x46_2, x46_3, x46_4, x46_5, x46_6, x46_7, x46_8, x46_9, x46_10, x46_11, x46_12, x46_13, x46_14, x46_15, x46_16, x46_17, x46_18, x46_19, x46_20, x46_21, x46_22, x46_23, x46_24, x46_25, x46_26, gf6_1, gf6_0, hr, hc, e.1]
    refine ⟨fun q => by omega, fun _ => ⟨fun q => by omega, fun _ => ⟨by omega, ?_⟩⟩⟩
    exact ih (pre ++ [a]) (i + 1) _ hR.snoc (by simp; omega) kk
theorem s_members (hd : 1 ≤ d) (hr : hRd h r = oRow c m) (hc : hRd h c = cA 6 f) (hR : RI f m L) (kk : Q (some (vI (memF L 0))) h) : CALL d 46 [.ref r] h Q := by
  refine cl46 (by omega) hr ?_
  simp (disch := omega) only [wr_id, wr_m1, sd_t, nl_I, nl_R, nl_none, c1_I, c1_R, sh_0, sh_1, sh_2, sh_3, sh_4, true_and, and_true, ldA_A, ldB_B, ldS_S, stA_A, stB_B, aL_A, aL_B, aL_S, aC_A, hRd_eq, hRd_ne, cp6, cp8, tl_some, tl_none, List.cons_append, List.nil_append, ofI_t0, ofI_t1, Int.add_zero, Int.zero_add, x46_0, x46_1, x46_2, x46_3, x46_4, x46_5, x46_6, x46_7, x46_8, x46_9, x46_10, x46_11, x46_12, x46_13, x46_14, x46_15, x46_16, x46_17, x46_18, x46_19, x46_20, x46_21, x46_22, x46_23, x46_24, x46_25, x46_26, gf6_1, gf6_0, hr, hc]
  exact l_members hr hc L [] 0 0 hR rfl kk
theorem s_Row_become {r2 c2 : Nat} {m2 : Int} {f2 : Int → Int} (hd : 2 ≤ d) (hr : hRd h r = oRow c m) (hc : hRd h c = cA 6 f) (hr2 : hRd h r2 = oRow c2 m2) (hc2 : hRd h c2 = cA 6 f2) (h1 : r < c) (h2 : ¬ r2 = c) (h3 : ¬ c = 0) (h4 : ¬ c2 = 0) (kk : Q none (hWr (hWr h r (oRow c m2)) c (cA 6 (cpF f2 0 f 0 6)))) : CALL d 47 [.ref r, .ref r2] h Q := by
  refine cl47 (by omega) hr ?_
  have e1 : hRd (hWr h c (cA 6 (cpF f2 0 f 0 6))) r2 = oRow c2 m2 := by rw [hRd_ne h2]; exact hr2
  simp (disch := omega) only [wr_id, wr_m1, sd_t, nl_I, nl_R, nl_none, c1_I, c1_R, sh_0, sh_1, sh_2, sh_3, sh_4, true_and, and_true, ldA_A, ldB_B, ldS_S, stA_A, stB_B, aL_A, aL_B, aL_S, aC_A, hRd_eq, hRd_ne, cp6, cp8, tl_some, tl_none, List.cons_append, List.nil_append, ofI_t0, ofI_t1, Int.add_zero, Int.zero_add, x47_0, x47_1, x47_2, x47_3, x47_4, x47_5, x47_6, x47_7, x47_8, x47_9, x47_10, x47_11, x47_12, gf6_0, gf6_1, pf6_1, hr, hc, hr2, hc2, e1, hWr_comm h1]
  exact ⟨by omega, kk⟩
theorem l_putIn {pl : Int} (hr : hRd h r = oRow c m) (h1 : r < c) (h0 : 0 ≤ pl) (hm : m < 6) : ∀ (n : Nat) (i : Int), pl ≤ i → i ≤ m → i - pl ≤ n → Q none (hWr (hWr h r (oRow c (m + 1))) c (cA 6 (uA (shU f pl m) pl p))) → WPC d 50 17 [some (.ref r), some (vI p), some (vI pl), some (vI i)] [] (hWr h c (cA 6 (shU f i m))) Q := by
  intro n
  induction n with
  | zero =>
    intro i hi1 hi2 hn kk
    have : i = pl := by omega
    subst this
    rw [WPC_iff]
    simp (disch := omega) only [wr_id, wr_m1, sd_t, nl_I, nl_R, nl_none, c1_I, c1_R, sh_0, sh_1, sh_2, sh_3, sh_4, true_and, and_true, ldA_A, ldB_B, ldS_S, stA_A, stB_B, aL_A, aL_B, aL_S, aC_A, hRd_eq, hRd_ne, cp6, cp8, tl_some, tl_none, List.cons_append, List.nil_append, ofI_t0, ofI_t1, Int.add_zero, Int.zero_add, x50_0, x50_1, x50_2, x50_3, x50_4, x50_5, x50_6, x50_7, x50_8, x50_9, x50_10, x50_11, x50_12, x50_13, x50_14, x50_15, x50_16, x50_17, x50_18, x50_19, x50_20, x50_21, x50_22, x50_23, x50_24, x50_25, x50_26, x50_27, x50_28, x50_29, x50_30, x50_31, x50_32, x50_33, x50_34, x50_35, x50_36, x50_37, x50_38, x50_39, x50_40, x50_41, x50_42, x50_43, gf6_1, gf6_0, pf6_1, hr, hWr_same, hWr_comm h1]
    exact ⟨fun _ => ⟨by omega, kk⟩, fun q => by omega⟩
  | succ n ih =>
    intro i hi1 hi2 hn kk
    rw [WPC_iff]
    simp (disch := omega) only [wr_id, wr_m1, sd_t, nl_I, nl_R, nl_none, c1_I, c1_R, sh_0, sh_1, sh_2, sh_3, sh_4, true_and, and_true, ldA_A, ldB_B, ldS_S, stA_A, stB_B, aL_A, aL_B, aL_S, aC_A, hRd_eq, hRd_ne, cp6, cp8, tl_some, tl_none, List.cons_append, List.nil_append, ofI_t0, ofI_t1, Int.add_zero, Int.zero_add, x50_0, x50_1, x50_2, x50_3, x50_4, x50_5, x50_6, x50_7, x50_8, x50_9, x50_10, x50_11, x50_12, x50_13, x50_14, x50_15, x50_16, x50_17, x50_18, x50_19, x50_20, x50_21, x50_22, x50_23, x50_24, x50_25, x50_26, x50_27, x50_28, x50_29, x50_30, x50_31, x50_32, x50_33, x50_34, x50_35, x50_36, x50_37, x50_38, x50_39, x50_40, x50_41, x50_42, x50_43, gf6_1, gf6_0, pf6_1, hr, hWr_same, hWr_comm h1]
    refine ⟨fun q => ?_, fun q => ⟨by omega, by omega, ?_⟩⟩
    · have : i = pl := by omega
      subst this
      exact ⟨by omega, kk⟩
    · rw [shU_s hi2]
      exact ih (i - 1) (by omega) (by omega) (by omega) kk
theorem s_putIn {pl : Int} (hd : 1 ≤ d) (hr : hRd h r = oRow c m) (hc : hRd h c = cA 6 f) (h1 : r < c) (hR : RI f m L) (hm : m < 6) (h0 : 0 ≤ pl) (h3 : pl ≤ m) (hp : 0 ≤ p ∧ p ≤ 5) (kk : ∀ f1 : Int → Int, RI f1 (m + 1) (insL L pl p) → Q none (hWr (hWr h r (oRow c (m + 1))) c (cA 6 f1))) : CALL d 50 [.ref r, vI p, vI pl] h Q := by
  have hl := hR.len
  refine cl50 (by omega) hr ?_
  simp (disch := omega) only [wr_id, wr_m1, sd_t, nl_I, nl_R, nl_none, c1_I, c1_R, sh_0, sh_1, sh_2, sh_3, sh_4, true_and, and_true, ldA_A, ldB_B, ldS_S, stA_A, stB_B, aL_A, aL_B, aL_S, aC_A, hRd_eq, hRd_ne, cp6, cp8, tl_some, tl_none, List.cons_append, List.nil_append, ofI_t0, ofI_t1, Int.add_zero, Int.zero_add, x50_0, x50_1, x50_2, x50_3, x50_4, x50_5, x50_6, x50_7, x50_8, x50_9, x50_10, x50_11, x50_12, x50_13, x50_14, x50_15, x50_16, x50_17, x50_18, x50_19, x50_20, x50_21, x50_22, x50_23, x50_24, x50_25, x50_26, x50_27, x50_28, x50_29, x50_30, x50_31, x50_32, x50_33, x50_34, x50_35, x50_36, x50_37, x50_38, x50_39, x50_40, x50_41, x50_42, x50_43, gf6_1, gf6_0, pf6_1, hr, hc]
  refine ⟨fun q => by omega, fun _ => ⟨fun q => by omega, fun _ => ⟨fun _ => ?_, fun q => by omega⟩⟩⟩
  have := l_putIn (d := d - 1) (Q := Q) (f := f) (p := p) (pl := pl) hr h1 h0 hm 6 m h3 (Int.le_refl _) (by omega) (kk _ (hR.ins h0 h3 hm hp))
  rw [shU_0, hWr_self hc] at this
  exact this
theorem l_takeOut {pl : Int} (hr : hRd h r = oRow c m) (h1 : r < c) (h0 : 0 ≤ pl) (hm : m ≤ 6) : ∀ (n : Nat) (i : Int), pl ≤ i → i ≤ m - 1 → m - 1 - i ≤ n → Q none (hWr (hWr h r (oRow c (m - 1))) c (cA 6 (shD f pl (m - 1)))) → WPC d 49 11 [some (.ref r), some (vI p), some (vI pl), some (vI i)] [] (hWr h c (cA 6 (shD f pl i))) Q := by
  intro n
  induction n with
  | zero =>
    intro i hi1 hi2 hn kk
    have : i = m - 1 := by omega
    subst this
    rw [WPC_iff]
    simp (disch := omega) only [wr_id, wr_m1, sd_t, nl_I, nl_R, nl_none, c1_I, c1_R, sh_0, sh_1, sh_2, sh_3, sh_4, true_and, and_true, ldA_A, ldB_B, ldS_S, stA_A, stB_B, aL_A, aL_B, aL_S, aC_A, hRd_eq, hRd_ne, cp6, cp8, tl_some, tl_none, List.cons_append, List.nil_append, ofI_t0, ofI_t1, Int.add_zero, Int.zero_add, x49_0, x49_1, x49_2, x49_3, x49_4, x49_5, x49_6, x49_7, x49_8, x49_9, x49_10, x49_11, x49_12, x49_13, x49_14, x49_15, x49_16, x49_17, x49_18, x49_19, x49_20, x49_21, x49_22, x49_23, x49_24, x49_25, x49_26, x49_27, x49_28, x49_29, x49_30, x49_31, x49_32, x49_33, x49_34, x49_35, x49_36, x49_37, x49_38, x49_39, x49_40, x49_41, x49_42, gf6_1, gf6_0, pf6_1, hr, hWr_same, hWr_comm h1]
    exact ⟨fun _ => kk, fun q => by omega⟩
  | succ n ih =>
    intro i hi1 hi2 hn kk
    rw [WPC_iff]
    simp (disch := omega) only [wr_id, wr_m1, sd_t, nl_I, nl_R, nl_none, c1_I, c1_R, sh_0, sh_1, sh_2, sh_3, sh_4, true_and, and_true, ldA_A, ldB_B, ldS_S, stA_A, stB_B, aL_A, aL_B, aL_S, aC_A, hRd_eq, hRd_ne, cp6, cp8, tl_some, tl_none, List.cons_append, List.nil_append, ofI_t0, ofI_t1, Int.add_zero, Int.zero_add, x49_0, x49_1, x49_2, x49_3, x49_4, x49_5, x49_6, x49_7, x49_8, x49_9, x49_10, x49_11, x49_12, x49_13, x49_14, x49_15, x49_16, x49_17, x49_18, x49_19, x49_20, x49_21, x49_22, x49_23, x49_24, x49_25, x49_26, x49_27, x49_28, x49_29, x49_30, x49_31, x49_32, x49_33, x49_34, x49_35, x49_36, x49_37, x49_38, x49_39, x49_40, x49_41, x49_42, gf6_1, gf6_0, pf6_1, hr, hWr_same, hWr_comm h1]
    refine ⟨fun q => ?_, fun q => ⟨fun q2 => by omega, fun _ => ⟨by omega, by omega, ?_⟩⟩⟩
    · have : i = m - 1 := by omega
      subst this
      exact kk
    · rw [shD_s hi1]
      exact ih (i + 1) (by omega) (by omega) (by omega) kk
theorem s_takeOut (hd : 2 ≤ d) (hr : hRd h r = oRow c m) (hc : hRd h c = cA 6 f) (h1 : r < c) (hR : RI f m L) (hp1 : -2147483648 ≤ p) (hp2 : p ≤ 2147483647) (k1 : pfrom L p 0 = -1 → Q none h) (k2 : ¬ pfrom L p 0 = -1 → ∀ f1 : Int → Int, RI f1 (m - 1) (delL L (pfrom L p 0)) → Q none (hWr (hWr h r (oRow c (m - 1))) c (cA 6 f1))) : CALL d 49 [.ref r, vI p] h Q := by
  have hl := hR.len
  have hg := pfrom_ge L p 0 (by omega)
  refine cl49 (by omega) hr ?_
  simp (disch := omega) only [wr_id, wr_m1, sd_t, nl_I, nl_R, nl_none, c1_I, c1_R, sh_0, sh_1, sh_2, sh_3, sh_4, true_and, and_true, ldA_A, ldB_B, ldS_S, stA_A, stB_B, aL_A, aL_B, aL_S, aC_A, hRd_eq, hRd_ne, cp6, cp8, tl_some, tl_none, List.cons_append, List.nil_append, ofI_t0, ofI_t1, Int.add_zero, Int.zero_add, x49_0, x49_1, x49_2, x49_3, x49_4, x49_5, x49_6, x49_7, x49_8, x49_9, x49_10, x49_11, x49_12, x49_13, x49_14, x49_15, x49_16, x49_17, x49_18, x49_19, x49_20, x49_21, x49_22, x49_23, x49_24, x49_25, x49_26, x49_27, x49_28, x49_29, x49_30, x49_31, x49_32, x49_33, x49_34, x49_35, x49_36, x49_37, x49_38, x49_39, x49_40, x49_41, x49_42, gf6_1, gf6_0, pf6_1]
  refine s_placeOf (by omega) hr hc hR hp1 hp2 ?_
  simp (disch := omega) only [wr_id, wr_m1, sd_t, nl_I, nl_R, nl_none, c1_I, c1_R, sh_0, sh_1, sh_2, sh_3, sh_4, true_and, and_true, ldA_A, ldB_B, ldS_S, stA_A, stB_B, aL_A, aL_B, aL_S, aC_A, hRd_eq, hRd_ne, cp6, cp8, tl_some, tl_none, List.cons_append, List.nil_append, ofI_t0, ofI_t1, Int.add_zero, Int.zero_add, x49_0, x49_1, x49_2, x49_3, x49_4, x49_5, x49_6, x49_7, x49_8, x49_9, x49_10, x49_11, x49_12, x49_13, x49_14, x49_15, x49_16, x49_17, x49_18, x49_19, x49_20, x49_21, x49_22, x49_23, x49_24, x49_25, x49_26, x49_27, x49_28, x49_29, x49_30, x49_31, x49_32, x49_33, x49_34, x49_35, x49_36, x49_37, x49_38, x49_39, x49_40, x49_41, x49_42, gf6_1, gf6_0, pf6_1]
  refine ⟨fun q => ?_, fun q => k1 (by omega)⟩
  have := l_takeOut (d := d - 1) (Q := Q) (f := f) (p := p) (pl := pfrom L p 0) hr h1 (by omega) (by omega) 6 (pfrom L p 0) (Int.le_refl _) (by omega) (by omega) (k2 q _ (hR.del (by omega) (by omega)))
  rw [shD_0, hWr_self hc] at this
  exact this
theorem l_raised {r2 c2 : Nat} {m2 : Int} {f2 : Int → Int} {O : List Int} (hd : 3 ≤ d) (hr : hRd h r = oRow c m) (hc : hRd h c = cA 6 f) (hr2 : hRd h r2 = oRow c2 m2) (hc2 : hRd h c2 = cA 6 f2) (hO : RI f2 m2 O) : ∀ (S pre : List Int) (i s : Int), RI f m (pre ++ S) → i = (pre.length : Int) → Q (some (vI (raisF O S i s))) h → WPC d 51 5 [some (.ref r), some (.ref r2), some (vI s), some (vI i)] [] h Q := by
  intro S
  induction S with
  | nil =>
    intro pre i s hR hi kk
    have := hR.end
    rw [WPC_iff]
    simp (disch := omega) only [wr_id, wr_m1, sd_t, nl_I, nl_R, nl_none, c1_I, c1_R, sh_0, sh_1, sh_2, sh_3, sh_4, true_and, and_true, ldA_A, ldB_B, ldS_S, stA_A, stB_B, aL_A, aL_B, aL_S, aC_A, hRd_eq, hRd_ne, cp6, cp8, tl_some, tl_none, List.cons_append, List.nil_append, ofI_t0, ofI_t1, Int.add_zero, Int.zero_add, x51_0, x51_1, x51_2, x51_3, x51_4, x51_5, x51_6, x51_7, x51_8, x51_9, x51_10, x51_11, x51_12, x51_13, x51_14, x51_15, x51_16, x51_17, x51_18, x51_19, x51_20, gf6_1, hr, hc]
    exact ⟨fun _ => kk, fun q => by omega⟩
  | cons a S ih =>
    intro pre i s hR hi kk
    have e := hR.at
    have hl := hO.len
    rw [← hi] at e
    have hg := pfrom_ge O a 0 (by omega)
    rw [WPC_iff]
    simp (disch := omega) only [wr_id, wr_m1, sd_t, nl_I, nl_R, nl_none, c1_I, c1_R, sh_0, sh_1, sh_2, sh_3, sh_4, true_and, and_true, ldA_A, ldB_B, ldS_S, stA_A, stB_B, aL_A, aL_B, aL_S, aC_A, hRd_eq, hRd_ne, cp6, cp8, tl_some, tl_none, List.cons_append, List.nil_append, ofI_t0, ofI_t1, Int.add_zero, Int.zero_add, x51_0, x51_1, x51_2, x51_3, x51_4, x51_5, x51_6, x51_7, x51_8, x51_9, x51_10, x51_11, x51_12, x51_13, x51_14, x51_15, x51_16, x51_17, x51_18, x51_19, x51_20, gf6_1, hr, hc]
    refine ⟨fun q => by omega, fun _ => s_Row_at (by omega) hr hc (by omega) (by omega) (by omega) (by omega) ?_⟩
    rw [if_pos (by omega), e.1]
    simp (disch := omega) only [wr_id, wr_m1, sd_t, nl_I, nl_R, nl_none, c1_I, c1_R, sh_0, sh_1, sh_2, sh_3, sh_4, true_and, and_true, ldA_A, ldB_B, ldS_S, stA_A, stB_B, aL_A, aL_B, aL_S, aC_A, hRd_eq, hRd_ne, cp6, cp8, tl_some, tl_none, List.cons_append, List.nil_append, ofI_t0, ofI_t1, Int.add_zero, Int.zero_add, x51_0, x51_1, x51_2, x51_3, x51_4, x51_5, x51_6, x51_7, x51_8, x51_9, x51_10, x51_11, x51_12, x51_13, x51_14, x51_15, x51_16, x51_17, x51_18, x51_19, x51_20, gf6_1]
    refine s_placeOf (by omega) hr2 hc2 hO (by omega) (by omega) ?_
    simp (disch := omega) only [wr_id, wr_m1, sd_t, nl_I, nl_R, nl_none, c1_I, c1_R, sh_0, sh_1, sh_2, sh_3, sh_4, true_and, and_true, ldA_A, ldB_B, ldS_S, stA_A, stB_B, aL_A, aL_B, aL_S, aC_A, hRd_eq, hRd_ne, cp6, cp8, tl_some, tl_none, List.cons_append, List.nil_append, ofI_t0, ofI_t1, Int.add_zero, Int.zero_add, x51_0, x51_1, x51_2, x51_3, x51_4, x51_5, x51_6, x51_7, x51_8, x51_9, x51_10, x51_11, x51_12, x51_13, x51_14, x51_15, x51_16, x51_17, x51_18, x51_19, x51_20, gf6_1]
    rw [raisF] at kk
    refine ⟨fun q => ?_, fun q => ?_⟩
    · rw [if_neg (by omega)] at kk
      exact ih (pre ++ [a]) (i + 1) _ hR.snoc (by simp; omega) kk
    · rw [if_pos (by omega)] at kk
      exact ih (pre ++ [a]) (i + 1) _ hR.snoc (by simp; omega) kk
theorem s_raised {r2 c2 : Nat} {m2 : Int} {f2 : Int → Int} {O : List Int} (hd : 4 ≤ d) (hr : hRd h r = oRow c m) (hc : hRd h c = cA 6 f) (hR : RI f m L) (hr2 : hRd h r2 = oRow c2 m2) (hc2 : hRd h c2 = cA 6 f2) (hO : RI f2 m2 O) (kk : Q (some (vI (raisF O L 0 0))) h) : CALL d 51 [.ref r, .ref r2] h Q := by
  refine cl51 (by omega) hr ?_
  simp (disch := omega) only [wr_id, wr_m1, sd_t, nl_I, nl_R, nl_none, c1_I, c1_R, sh_0, sh_1, sh_2, sh_3, sh_4, true_and, and_true, ldA_A, ldB_B, ldS_S, stA_A, stB_B, aL_A, aL_B, aL_S, aC_A, hRd_eq, hRd_ne, cp6, cp8, tl_some, tl_none, List.cons_append, List.nil_append, ofI_t0, ofI_t1, Int.add_zero, Int.zero_add, x51_0, x51_1, x51_2, x51_3, x51_4, x51_5, x51_6, x51_7, x51_8, x51_9, x51_10, x51_11, x51_12, x51_13, x51_14, x51_15, x51_16, x51_17, x51_18, x51_19, x51_20, gf6_1]
  exact l_raised (by omega) hr hc hr2 hc2 hO L [] 0 0 hR rfl kk
end
