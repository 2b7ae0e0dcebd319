-- THE REFERENCE'S READER: numbers
def nuF (f : Int → Int) : Nat → Int → Int → Int
  | 0, _, v => v
  | m + 1, a, v => nuF f m (a + 1) (if 10000 < v then v else 10 * v + f a - 48)
theorem nuF_va {f : Int → Int} {a0 : Int} : ∀ (m : Nat) (a v : Int), (∀ i, a ≤ i → i < a + (m : Int) → 48 ≤ f i ∧ f i ≤ 57) → a0 ≤ a → a - a0 + (m : Int) ≤ 3 → 0 ≤ v → v ≤ 999 → (a - a0 = 0 → v = 0) → (a - a0 = 1 → v ≤ 9) → (a - a0 = 2 → v ≤ 99) → nuF f m a v = nvaF f a0 m a v := by
  intro m
  induction m with
  | zero => intro a v _ _ _ _ _ _ _ _; rfl
  | succ m ih =>
    intro a v hf ha hm h0 h9 h1 h2 h3
    have hfa := hf a (by omega) (by omega)
    rw [nuF, nvaF, if_neg (by omega), if_pos (by omega), show 10 * v + f a - 48 = v * 10 + f a - 48 by omega]
    exact ih _ _ (fun i i0 i1 => hf i (by omega) (by omega)) (by omega) (by omega) (by omega) (by omega) (by omega) (by omega) (by omega)
theorem sk_sk {f : Int → Int} {n a : Int} (ha : a ≤ n) : sk f n (sk f n a) = sk f n a := by
  have h : ∀ (m : Nat) (a : Int), (m : Int) = n - a → sk f n (sk f n a) = sk f n a := by
    intro m
    induction m with
    | zero =>
      intro a hm
      have e : sk f n a = a := by rw [sk_eq, if_neg (by omega)]
      rw [e, e]
    | succ m ih =>
      intro a hm
      by_cases q : a < n ∧ f a = 32
      · have e : sk f n a = sk f n (a + 1) := by rw [sk_eq, if_pos q]
        rw [e]
        exact ih (a + 1) (by omega)
      · have e : sk f n a = a := by rw [sk_eq, if_neg q]
        rw [e, e]
  exact h (n - a).toNat a (by omega)
section
variable {d : Nat} {h : LHeap} {Q : Option Value → LHeap → Prop} {f : Int → Int} {n a lo hi : Int} {z : Nat → Int}
theorem l_here (hT : TxB f n) : ∀ (m : Nat) (a : Int) (z : Nat → Int) (h : LHeap), (m : Int) = n - a → 0 ≤ a → z 9 = n → z 11 = a → hRd h 156 = oM z → hRd h 161 = cA 220 f → (∀ (h1 : LHeap) (zz : Nat → Int), hRd h1 156 = oM zz → zz 11 = sk f n a → (∀ i, ¬ i = 11 → zz i = z i) → Out 156 156 h h1 → Q (some (vI (if sk f n a < n then f (sk f n a) else -1))) h1) → WPC d 116 1 [some (.ref 156)] [] h Q := by
  intro m
  induction m with
  | zero =>
    intro a z h hm ha z9 z11 h1 h6 kk
    have e : sk f n a = a := by rw [sk_eq, if_neg (by omega)]
    have hn := hT.1
    have kk := kk h z h1 (by rw [e]; exact z11) (fun _ _ => rfl) Out.refl
    rw [e, if_neg (by omega)] at kk
    rw [WPC_iff]
    simp (disch := omega) only [wr_id, wr_m1, sd_t, nl_I, nl_R, nl_none, c1_I, c1_R, sh_0, sh_1, sh_2, sh_3, sh_4, true_and, and_true, ldA_A, ldB_B, ldS_S, stA_A, stB_B, aL_A, aL_B, aL_S, aC_A, hRd_eq, hRd_ne, cp6, cp8, tl_some, tl_none, List.cons_append, List.nil_append, ofI_t0, ofI_t1, Int.add_zero, Int.zero_add, x116_1, x116_2, x116_3, x116_4, x116_5, x116_20, x116_21, x116_22, x116_23, x116_24, x116_31, x116_32, gf11_0, pf11_0, gf11_1, pf11_1, gf11_2, pf11_2, gf11_3, gf11_4, gf11_5, gf11_6, gf11_7, pf11_7, gf11_8, gf11_9, pf11_9, gf11_10, pf11_10, gf11_11, pf11_11, gf11_12, pf11_12, gf11_13, pf11_13, gf11_14, gf11_15, pf11_15, gf11_16, gf11_17, pf11_17, gf11_18, gf11_19, gf11_20, gf11_21, gf11_22, gf11_23, gf11_24, pf11_24, gf11_25, gf11_26, gf11_27, gf11_28, pf11_28, gf11_29, pf11_29, gf11_30, gf11_31, gf11_32, pf11_32, gf11_33, gf11_34, gf11_35, pf11_35, gf11_36, gf11_37, gf11_38, gf11_39, uN_eq, uN_ne, h1, z9, z11]
    exact ⟨fun _ => ⟨fun _ => kk, fun q => by omega⟩, fun q => by omega⟩
  | succ m ih =>
    intro a z h hm ha z9 z11 h1 h6 kk
    have hn := hT.1
    have hfa := hT.2 a ha (by omega)
    by_cases q : f a = 32
    · have e : sk f n a = sk f n (a + 1) := by rw [sk_eq, if_pos ⟨by omega, q⟩]
      rw [e] at kk
      rw [WPC_iff]
      simp (disch := omega) only [wr_id, wr_m1, sd_t, nl_I, nl_R, nl_none, c1_I, c1_R, sh_0, sh_1, sh_2, sh_3, sh_4, true_and, and_true, ldA_A, ldB_B, ldS_S, stA_A, stB_B, aL_A, aL_B, aL_S, aC_A, hRd_eq, hRd_ne, cp6, cp8, tl_some, tl_none, List.cons_append, List.nil_append, ofI_t0, ofI_t1, Int.add_zero, Int.zero_add, x116_0, x116_1, x116_2, x116_3, x116_4, x116_5, x116_6, x116_7, x116_8, x116_9, x116_10, x116_11, x116_12, x116_13, x116_14, x116_15, x116_16, x116_17, x116_18, x116_19, gf11_0, pf11_0, gf11_1, pf11_1, gf11_2, pf11_2, gf11_3, gf11_4, gf11_5, gf11_6, gf11_7, pf11_7, gf11_8, gf11_9, pf11_9, gf11_10, pf11_10, gf11_11, pf11_11, gf11_12, pf11_12, gf11_13, pf11_13, gf11_14, gf11_15, pf11_15, gf11_16, gf11_17, pf11_17, gf11_18, gf11_19, gf11_20, gf11_21, gf11_22, gf11_23, gf11_24, pf11_24, gf11_25, gf11_26, gf11_27, gf11_28, pf11_28, gf11_29, pf11_29, gf11_30, gf11_31, gf11_32, pf11_32, gf11_33, gf11_34, gf11_35, pf11_35, gf11_36, gf11_37, gf11_38, gf11_39, uN_eq, uN_ne, h1, h6, z9, z11]
      refine ⟨fun q => by omega, fun _ => ⟨by omega, fun q2 => absurd q q2, fun _ => ?_⟩⟩
      have ow : Out 156 156 h (hWr h 156 (oM (uN z 11 (a + 1)))) := Out.refl.wr (by omega) (by omega)
      exact ih (a + 1) (uN z 11 (a + 1)) _ (by omega) (by omega) z9 rfl hRd_eq (by rw [hRd_ne (by omega)]; exact h6) (fun h2 zz e1 e2 e3 o2 => kk h2 zz e1 e2 (fun i hi => (e3 i hi).trans (uN_ne hi)) (ow.trans o2))
    · have e : sk f n a = a := by rw [sk_eq, if_neg (fun z => q z.2)]
      have kk := kk h z h1 (by rw [e]; exact z11) (fun _ _ => rfl) Out.refl
      rw [e, if_pos (by omega)] at kk
      rw [WPC_iff]
      simp (disch := omega) only [wr_id, wr_m1, sd_t, nl_I, nl_R, nl_none, c1_I, c1_R, sh_0, sh_1, sh_2, sh_3, sh_4, true_and, and_true, ldA_A, ldB_B, ldS_S, stA_A, stB_B, aL_A, aL_B, aL_S, aC_A, hRd_eq, hRd_ne, cp6, cp8, tl_some, tl_none, List.cons_append, List.nil_append, ofI_t0, ofI_t1, Int.add_zero, Int.zero_add, x116_1, x116_2, x116_3, x116_4, x116_5, x116_6, x116_7, x116_8, x116_9, x116_10, x116_11, x116_12, x116_20, x116_21, x116_22, x116_23, x116_24, x116_25, x116_26, x116_27, x116_28, x116_29, x116_30, x116_31, x116_32, gf11_0, pf11_0, gf11_1, pf11_1, gf11_2, pf11_2, gf11_3, gf11_4, gf11_5, gf11_6, gf11_7, pf11_7, gf11_8, gf11_9, pf11_9, gf11_10, pf11_10, gf11_11, pf11_11, gf11_12, pf11_12, gf11_13, pf11_13, gf11_14, gf11_15, pf11_15, gf11_16, gf11_17, pf11_17, gf11_18, gf11_19, gf11_20, gf11_21, gf11_22, gf11_23, gf11_24, pf11_24, gf11_25, gf11_26, gf11_27, gf11_28, pf11_28, gf11_29, pf11_29, gf11_30, gf11_31, gf11_32, pf11_32, gf11_33, gf11_34, gf11_35, pf11_35, gf11_36, gf11_37, gf11_38, gf11_39, uN_eq, uN_ne, h1, h6, z9, z11]
      exact ⟨fun q => by omega, fun _ => ⟨by omega, fun _ => ⟨fun q => by omega, fun _ => ⟨by omega, kk⟩⟩, fun q2 => absurd q (fun z => by omega)⟩⟩
theorem m_here (hd : 1 ≤ d) (hT : TxB f n) (ha : 0 ≤ a ∧ a ≤ n) (z9 : z 9 = n) (z11 : z 11 = a) (h1 : hRd h 156 = oM z) (h6 : hRd h 161 = cA 220 f) (kk : ∀ (h1 : LHeap) (zz : Nat → Int), hRd h1 156 = oM zz → zz 11 = sk f n a → (∀ i, ¬ i = 11 → zz i = z i) → Out 156 156 h h1 → Q (some (vI (if sk f n a < n then f (sk f n a) else -1))) h1) : CALL d 116 [.ref 156] h Q := by
  refine cl116 (by omega) h1 ?_
  simp (disch := omega) only [wr_id, wr_m1, sd_t, nl_I, nl_R, nl_none, c1_I, c1_R, sh_0, sh_1, sh_2, sh_3, sh_4, true_and, and_true, ldA_A, ldB_B, ldS_S, stA_A, stB_B, aL_A, aL_B, aL_S, aC_A, hRd_eq, hRd_ne, cp6, cp8, tl_some, tl_none, List.cons_append, List.nil_append, ofI_t0, ofI_t1, Int.add_zero, Int.zero_add, x116_0]
  exact l_here hT (n - a).toNat a z h (by omega) ha.1 z9 z11 h1 h6 kk
/-- the reference's number changes its own cell alone -/
def ZN (z zz : Nat → Int) : Prop := ∀ i, ¬ (i = 10 ∨ i = 11 ∨ i = 12 ∨ i = 13) → zz i = z i
theorem l_num2 {l3 : Option Value} (hd : 1 ≤ d) (hT : TxB f n) : ∀ (m : Nat) (a v : Int) (z : Nat → Int) (h : LHeap), (m : Int) = n - a → 0 ≤ a → z 9 = n → z 11 = a → z 12 = v → 0 ≤ v → v ≤ 100100 → hRd h 156 = oM z → hRd h 161 = cA 220 f → (∀ (h1 : LHeap) (zz : Nat → Int), hRd h1 156 = oM zz → zz 11 = dg f n a → zz 12 = nuF f (dg f n a - a).toNat a v → 0 ≤ zz 12 ∧ zz 12 ≤ 100100 → (∀ i, ¬ (i = 11 ∨ i = 12) → zz i = z i) → Out 156 156 h h1 → WP d 118 66 [some (.ref 156), some (vI lo), some (vI hi), l3] [] h1 Q) → WPC d 118 23 [some (.ref 156), some (vI lo), some (vI hi), l3] [] h Q := by
  intro m
  induction m with
  | zero =>
    intro a v z h hm ha z9 z11 z12 h0 h9 h1 h6 kk
    have e : dg f n a = a := by rw [dg_eq, if_neg (by omega)]
    have hn := hT.1
    rw [e, show (a - a).toNat = 0 by omega] at kk
    rw [WPC_iff]
    simp (disch := omega) only [wr_id, wr_m1, sd_t, nl_I, nl_R, nl_none, c1_I, c1_R, sh_0, sh_1, sh_2, sh_3, sh_4, true_and, and_true, ldA_A, ldB_B, ldS_S, stA_A, stB_B, aL_A, aL_B, aL_S, aC_A, hRd_eq, hRd_ne, cp6, cp8, tl_some, tl_none, List.cons_append, List.nil_append, ofI_t0, ofI_t1, Int.add_zero, Int.zero_add, x118_23, x118_24, x118_25, x118_26, x118_27, gf11_0, pf11_0, gf11_1, pf11_1, gf11_2, pf11_2, gf11_3, gf11_4, gf11_5, gf11_6, gf11_7, pf11_7, gf11_8, gf11_9, pf11_9, gf11_10, pf11_10, gf11_11, pf11_11, gf11_12, pf11_12, gf11_13, pf11_13, gf11_14, gf11_15, pf11_15, gf11_16, gf11_17, pf11_17, gf11_18, gf11_19, gf11_20, gf11_21, gf11_22, gf11_23, gf11_24, pf11_24, gf11_25, gf11_26, gf11_27, gf11_28, pf11_28, gf11_29, pf11_29, gf11_30, gf11_31, gf11_32, pf11_32, gf11_33, gf11_34, gf11_35, pf11_35, gf11_36, gf11_37, gf11_38, gf11_39, uN_eq, uN_ne, h1, z9, z11]
    exact ⟨fun _ => kk h z h1 z11 z12 (by omega) (fun _ _ => rfl) Out.refl, fun q => by omega⟩
  | succ m ih =>
    intro a v z h hm ha z9 z11 z12 h0 h9 h1 h6 kk
    have hn := hT.1
    have hfa := hT.2 a ha (by omega)
    by_cases q : 48 ≤ f a ∧ f a ≤ 57
    · have e : dg f n a = dg f n (a + 1) := by rw [dg_eq, if_pos ⟨by omega, q.1, q.2⟩]
      have hb := dg_b (f := f) (n := n) (a := a + 1) (by omega)
      rw [e, show (dg f n (a + 1) - a).toNat = (dg f n (a + 1) - (a + 1)).toNat + 1 by omega, nuF] at kk
      have go : ∀ w, w = (if 10000 < v then v else 10 * v + f a - 48) → WPC d 118 23 [some (.ref 156), some (vI lo), some (vI hi), l3] [] (hWr h 156 (oM (uN (uN z 12 w) 11 (a + 1)))) Q := fun w hw => by
        rw [← hw] at kk
        have ow : Out 156 156 h (hWr h 156 (oM (uN (uN z 12 w) 11 (a + 1)))) := Out.refl.wr (by omega) (by omega)
        refine ih (a + 1) w (uN (uN z 12 w) 11 (a + 1)) _ (by omega) (by omega) z9 rfl rfl (by rw [hw]; split <;> omega) (by rw [hw]; split <;> omega) hRd_eq (by rw [hRd_ne (by omega)]; exact h6) (fun h2 zz e1 e2 e3 e4 e5 o2 => kk h2 zz e1 e2 e3 e4 (fun i hi => ?_) (ow.trans o2))
        rw [e5 i hi, uN_ne (by omega), uN_ne (by omega)]
      rw [WPC_iff]
      simp (disch := omega) only [wr_id, wr_m1, sd_t, nl_I, nl_R, nl_none, c1_I, c1_R, sh_0, sh_1, sh_2, sh_3, sh_4, true_and, and_true, ldA_A, ldB_B, ldS_S, stA_A, stB_B, aL_A, aL_B, aL_S, aC_A, hRd_eq, hRd_ne, cp6, cp8, tl_some, tl_none, List.cons_append, List.nil_append, ofI_t0, ofI_t1, Int.add_zero, Int.zero_add, x118_23, x118_24, x118_25, x118_26, x118_27, x118_28, x118_29, x118_30, x118_31, x118_32, x118_33, x118_34, x118_35, x118_36, gf11_0, pf11_0, gf11_1, pf11_1, gf11_2, pf11_2, gf11_3, gf11_4, gf11_5, gf11_6, gf11_7, pf11_7, gf11_8, gf11_9, pf11_9, gf11_10, pf11_10, gf11_11, pf11_11, gf11_12, pf11_12, gf11_13, pf11_13, gf11_14, gf11_15, pf11_15, gf11_16, gf11_17, pf11_17, gf11_18, gf11_19, gf11_20, gf11_21, gf11_22, gf11_23, gf11_24, pf11_24, gf11_25, gf11_26, gf11_27, gf11_28, pf11_28, gf11_29, pf11_29, gf11_30, gf11_31, gf11_32, pf11_32, gf11_33, gf11_34, gf11_35, pf11_35, gf11_36, gf11_37, gf11_38, gf11_39, uN_eq, uN_ne, h1, h6, z9, z11]
      refine ⟨fun q => by omega, fun _ => ⟨by omega, ?_⟩⟩
      refine m_in (by omega) (by omega) (by omega) (by omega) ?_
      rw [if_pos q]
      simp (disch := omega) only [wr_id, wr_m1, sd_t, nl_I, nl_R, nl_none, c1_I, c1_R, sh_0, sh_1, sh_2, sh_3, sh_4, true_and, and_true, ldA_A, ldB_B, ldS_S, stA_A, stB_B, aL_A, aL_B, aL_S, aC_A, hRd_eq, hRd_ne, cp6, cp8, tl_some, tl_none, List.cons_append, List.nil_append, ofI_t0, ofI_t1, Int.add_zero, Int.zero_add, x118_22, x118_37, x118_38, x118_39, x118_40, x118_41, x118_42, x118_43, x118_44, x118_45, x118_46, x118_47, x118_48, x118_49, x118_50, x118_51, x118_52, x118_53, x118_54, x118_55, x118_56, x118_57, x118_58, x118_59, x118_60, x118_61, x118_62, x118_63, x118_64, x118_65, gf11_0, pf11_0, gf11_1, pf11_1, gf11_2, pf11_2, gf11_3, gf11_4, gf11_5, gf11_6, gf11_7, pf11_7, gf11_8, gf11_9, pf11_9, gf11_10, pf11_10, gf11_11, pf11_11, gf11_12, pf11_12, gf11_13, pf11_13, gf11_14, gf11_15, pf11_15, gf11_16, gf11_17, pf11_17, gf11_18, gf11_19, gf11_20, gf11_21, gf11_22, gf11_23, gf11_24, pf11_24, gf11_25, gf11_26, gf11_27, gf11_28, pf11_28, gf11_29, pf11_29, gf11_30, gf11_31, gf11_32, pf11_32, gf11_33, gf11_34, gf11_35, pf11_35, gf11_36, gf11_37, gf11_38, gf11_39, uN_eq, uN_ne, h1, h6, z9, z11, z12, hWr_same]
      refine ⟨fun q => by first | omega | exact absurd rfl q | exact absurd trivial q | exact absurd q (by omega), fun _ => ⟨fun q2 => ⟨by omega, go _ ?_⟩, fun q2 => go _ ?_⟩⟩
      · rw [if_neg (by omega)]
      · rw [if_pos (by omega)]
    · have e : dg f n a = a := by rw [dg_eq, if_neg (fun z => q z.2)]
      rw [e, show (a - a).toNat = 0 by omega] at kk
      rw [WPC_iff]
      simp (disch := omega) only [wr_id, wr_m1, sd_t, nl_I, nl_R, nl_none, c1_I, c1_R, sh_0, sh_1, sh_2, sh_3, sh_4, true_and, and_true, ldA_A, ldB_B, ldS_S, stA_A, stB_B, aL_A, aL_B, aL_S, aC_A, hRd_eq, hRd_ne, cp6, cp8, tl_some, tl_none, List.cons_append, List.nil_append, ofI_t0, ofI_t1, Int.add_zero, Int.zero_add, x118_23, x118_24, x118_25, x118_26, x118_27, x118_28, x118_29, x118_30, x118_31, x118_32, x118_33, x118_34, x118_35, x118_36, gf11_0, pf11_0, gf11_1, pf11_1, gf11_2, pf11_2, gf11_3, gf11_4, gf11_5, gf11_6, gf11_7, pf11_7, gf11_8, gf11_9, pf11_9, gf11_10, pf11_10, gf11_11, pf11_11, gf11_12, pf11_12, gf11_13, pf11_13, gf11_14, gf11_15, pf11_15, gf11_16, gf11_17, pf11_17, gf11_18, gf11_19, gf11_20, gf11_21, gf11_22, gf11_23, gf11_24, pf11_24, gf11_25, gf11_26, gf11_27, gf11_28, pf11_28, gf11_29, pf11_29, gf11_30, gf11_31, gf11_32, pf11_32, gf11_33, gf11_34, gf11_35, pf11_35, gf11_36, gf11_37, gf11_38, gf11_39, uN_eq, uN_ne, h1, h6, z9, z11]
      refine ⟨fun q => by omega, fun _ => ⟨by omega, ?_⟩⟩
      refine m_in (by omega) (by omega) (by omega) (by omega) ?_
      rw [if_neg q]
      simp (disch := omega) only [wr_id, wr_m1, sd_t, nl_I, nl_R, nl_none, c1_I, c1_R, sh_0, sh_1, sh_2, sh_3, sh_4, true_and, and_true, ldA_A, ldB_B, ldS_S, stA_A, stB_B, aL_A, aL_B, aL_S, aC_A, hRd_eq, hRd_ne, cp6, cp8, tl_some, tl_none, List.cons_append, List.nil_append, ofI_t0, ofI_t1, Int.add_zero, Int.zero_add, x118_37]
      exact ⟨fun _ => kk h z h1 z11 z12 (by omega) (fun _ _ => rfl) Out.refl, fun q => by first | omega | exact absurd rfl q | exact absurd trivial q | exact absurd q (by omega)⟩
theorem m_num (hd : 2 ≤ d) (hT : TxB f n) (hl : -2 ≤ lo ∧ lo ≤ 1000) (hh : -2 ≤ hi ∧ hi ≤ 1000) (ha : 0 ≤ a ∧ a ≤ n) (z9 : z 9 = n) (z11 : z 11 = a) (h1 : hRd h 156 = oM z) (h6 : hRd h 161 = cA 220 f) (kk : ∀ (h1 : LHeap) (zz : Nat → Int), hRd h1 156 = oM zz → ZN z zz → (¬ nK f n lo hi a = 0 → zz 10 = nA f n a) → (nK f n lo hi a = 0 → zz 10 = z 10 ∧ zz 11 = nB f n a ∧ zz 12 = nV f n a ∧ zz 13 = nA f n a) → Out 156 156 h h1 → Q (some (vI (nK f n lo hi a))) h1) : CALL d 118 [.ref 156, vI lo, vI hi] h Q := by
  have hn := hT.1
  have hs := sk_b (f := f) (n := n) (a := a) ha.2
  refine cl118 (by omega) h1 ?_
  simp (disch := omega) only [wr_id, wr_m1, sd_t, nl_I, nl_R, nl_none, c1_I, c1_R, sh_0, sh_1, sh_2, sh_3, sh_4, true_and, and_true, ldA_A, ldB_B, ldS_S, stA_A, stB_B, aL_A, aL_B, aL_S, aC_A, hRd_eq, hRd_ne, cp6, cp8, tl_some, tl_none, List.cons_append, List.nil_append, ofI_t0, ofI_t1, Int.add_zero, Int.zero_add, x118_0, x118_1]
  refine m_here (by omega) hT ha z9 z11 h1 h6 (fun h2 z2 e1 e2 e3 o2 => ?_)
  have h26 : hRd h2 161 = cA 220 f := by rw [o2.2.2 _ (by omega)]; exact h6
  have eA : nA f n a = sk f n a := rfl
  have hc : -1 ≤ (if sk f n a < n then f (sk f n a) else -1) ∧ (if sk f n a < n then f (sk f n a) else -1) ≤ 255 := by
    split
    · rename_i q
      have := hT.2 (sk f n a) (by omega) q
      omega
    · omega
  have hiff : (48 ≤ (if sk f n a < n then f (sk f n a) else -1) ∧ (if sk f n a < n then f (sk f n a) else -1) ≤ 57) ↔ (sk f n a < n ∧ 48 ≤ f (sk f n a) ∧ f (sk f n a) ≤ 57) := by
    by_cases q : sk f n a < n
    · rw [if_pos q]
      exact ⟨fun z => ⟨q, z⟩, fun z => z.2⟩
    · rw [if_neg q]
      exact ⟨fun z => by omega, fun z => absurd z.1 q⟩
  generalize hcg : (if sk f n a < n then f (sk f n a) else -1) = c at hc hiff
  simp (disch := omega) only [wr_id, wr_m1, sd_t, nl_I, nl_R, nl_none, c1_I, c1_R, sh_0, sh_1, sh_2, sh_3, sh_4, true_and, and_true, ldA_A, ldB_B, ldS_S, stA_A, stB_B, aL_A, aL_B, aL_S, aC_A, hRd_eq, hRd_ne, cp6, cp8, tl_some, tl_none, List.cons_append, List.nil_append, ofI_t0, ofI_t1, Int.add_zero, Int.zero_add, x118_2, x118_3, x118_4, x118_5, x118_6, x118_7]
  refine m_in (by omega) (by omega) (by omega) (by omega) ?_
  by_cases q : 48 ≤ c ∧ c ≤ 57
  · rw [if_pos q]
    have q2 := hiff.mp q
    simp (disch := omega) only [wr_id, wr_m1, sd_t, nl_I, nl_R, nl_none, c1_I, c1_R, sh_0, sh_1, sh_2, sh_3, sh_4, true_and, and_true, ldA_A, ldB_B, ldS_S, stA_A, stB_B, aL_A, aL_B, aL_S, aC_A, hRd_eq, hRd_ne, cp6, cp8, tl_some, tl_none, List.cons_append, List.nil_append, ofI_t0, ofI_t1, Int.add_zero, Int.zero_add, x118_8, x118_15, x118_16, x118_17, x118_18, x118_19, x118_20, x118_21, x118_22, gf11_0, pf11_0, gf11_1, pf11_1, gf11_2, pf11_2, gf11_3, gf11_4, gf11_5, gf11_6, gf11_7, pf11_7, gf11_8, gf11_9, pf11_9, gf11_10, pf11_10, gf11_11, pf11_11, gf11_12, pf11_12, gf11_13, pf11_13, gf11_14, gf11_15, pf11_15, gf11_16, gf11_17, pf11_17, gf11_18, gf11_19, gf11_20, gf11_21, gf11_22, gf11_23, gf11_24, pf11_24, gf11_25, gf11_26, gf11_27, gf11_28, pf11_28, gf11_29, pf11_29, gf11_30, gf11_31, gf11_32, pf11_32, gf11_33, gf11_34, gf11_35, pf11_35, gf11_36, gf11_37, gf11_38, gf11_39, uN_eq, uN_ne, e1, e2, hWr_same]
    refine ⟨fun _ => ?_, fun q => by first | omega | exact absurd rfl q | exact absurd trivial q | exact absurd q (by omega)⟩
    have ow : Out 156 156 h2 (hWr h2 156 (oM (uN (uN z2 13 (sk f n a)) 12 0))) := Out.refl.wr (by omega) (by omega)
    refine l_num2 (by omega) hT (n - sk f n a).toNat (sk f n a) 0 (uN (uN z2 13 (sk f n a)) 12 0) _ (by omega) (by omega) ((e3 9 (by omega)).trans z9) e2 rfl (by omega) (by omega) hRd_eq (by rw [hRd_ne (by omega)]; exact h26) (fun h3 z3 f1 f2 f3 f4 f5 o3 => ?_)
    have eB : nB f n a = dg f n (sk f n a) := rfl
    have hbB := nB_b (f := f) (n := n) (a := a) ha.2
    have hAB : nA f n a < nB f n a := by
      have := dg_b (f := f) (n := n) (a := sk f n a + 1) (by omega)
      rw [eA, eB, dg_eq, if_pos q2]
      omega
    have hV : nB f n a - nA f n a ≤ 3 → z3 12 = nV f n a := fun h3 => by
      rw [f3]
      show nuF f (nB f n a - nA f n a).toNat (nA f n a) 0 = nvaF f (nA f n a) (nB f n a - nA f n a).toNat (nA f n a) 0
      refine nuF_va _ _ _ (fun i i0 i1 => dgF_fig _ (nA f n a) i i0 (show i < nB f n a by omega)) (by omega) (by omega) (by omega) (by omega) (by omega) (by omega) (by omega)
    have f13 : z3 13 = nA f n a := f5 13 (by omega)
    have f10 : z3 10 = z 10 := (f5 10 (by omega)).trans (e3 10 (by omega))
    have f11 : z3 11 = nB f n a := f2
    have ozn : ZN z z3 := fun i hi => by
      rw [f5 i (by omega), uN_ne (by omega), uN_ne (by omega), e3 i (by omega)]
    have o13 : Out 156 156 h h3 := (o2.trans ow).trans o3
    have bad : nK f n lo hi a = 2 → WP (d - 1) 118 82 [some (.ref 156), some (vI lo), some (vI hi), some (vI c)] [] h3 Q := fun hk => by
      simp (disch := omega) only [wr_id, wr_m1, sd_t, nl_I, nl_R, nl_none, c1_I, c1_R, sh_0, sh_1, sh_2, sh_3, sh_4, true_and, and_true, ldA_A, ldB_B, ldS_S, stA_A, stB_B, aL_A, aL_B, aL_S, aC_A, hRd_eq, hRd_ne, cp6, cp8, tl_some, tl_none, List.cons_append, List.nil_append, ofI_t0, ofI_t1, Int.add_zero, Int.zero_add, x118_82, x118_83, x118_84, x118_85, x118_86, gf11_0, pf11_0, gf11_1, pf11_1, gf11_2, pf11_2, gf11_3, gf11_4, gf11_5, gf11_6, gf11_7, pf11_7, gf11_8, gf11_9, pf11_9, gf11_10, pf11_10, gf11_11, pf11_11, gf11_12, pf11_12, gf11_13, pf11_13, gf11_14, gf11_15, pf11_15, gf11_16, gf11_17, pf11_17, gf11_18, gf11_19, gf11_20, gf11_21, gf11_22, gf11_23, gf11_24, pf11_24, gf11_25, gf11_26, gf11_27, gf11_28, pf11_28, gf11_29, pf11_29, gf11_30, gf11_31, gf11_32, pf11_32, gf11_33, gf11_34, gf11_35, pf11_35, gf11_36, gf11_37, gf11_38, gf11_39, uN_eq, uN_ne, f1, f13]
      refine m_fails (by omega) f1 ?_
      simp (disch := omega) only [wr_id, wr_m1, sd_t, nl_I, nl_R, nl_none, c1_I, c1_R, sh_0, sh_1, sh_2, sh_3, sh_4, true_and, and_true, ldA_A, ldB_B, ldS_S, stA_A, stB_B, aL_A, aL_B, aL_S, aC_A, hRd_eq, hRd_ne, cp6, cp8, tl_some, tl_none, List.cons_append, List.nil_append, ofI_t0, ofI_t1, Int.add_zero, Int.zero_add, x118_87, x118_89]
      have kk := kk (hWr h3 156 (oM (uN z3 10 (nA f n a)))) (uN z3 10 (nA f n a)) hRd_eq (fun i hi => by rw [uN_ne (by omega)]; exact ozn i hi) (fun _ => uN_eq) (fun z => by omega) (o13.wr (by omega) (by omega))
      rw [hk] at kk
      exact kk
    have hk1 : ¬ nB f n a = nA f n a := by omega
    simp (disch := omega) only [wr_id, wr_m1, sd_t, nl_I, nl_R, nl_none, c1_I, c1_R, sh_0, sh_1, sh_2, sh_3, sh_4, true_and, and_true, ldA_A, ldB_B, ldS_S, stA_A, stB_B, aL_A, aL_B, aL_S, aC_A, hRd_eq, hRd_ne, cp6, cp8, tl_some, tl_none, List.cons_append, List.nil_append, ofI_t0, ofI_t1, Int.add_zero, Int.zero_add, x118_66, x118_67, x118_68, x118_69, x118_70, x118_71, x118_72, gf11_0, pf11_0, gf11_1, pf11_1, gf11_2, pf11_2, gf11_3, gf11_4, gf11_5, gf11_6, gf11_7, pf11_7, gf11_8, gf11_9, pf11_9, gf11_10, pf11_10, gf11_11, pf11_11, gf11_12, pf11_12, gf11_13, pf11_13, gf11_14, gf11_15, pf11_15, gf11_16, gf11_17, pf11_17, gf11_18, gf11_19, gf11_20, gf11_21, gf11_22, gf11_23, gf11_24, pf11_24, gf11_25, gf11_26, gf11_27, gf11_28, pf11_28, gf11_29, pf11_29, gf11_30, gf11_31, gf11_32, pf11_32, gf11_33, gf11_34, gf11_35, pf11_35, gf11_36, gf11_37, gf11_38, gf11_39, uN_eq, uN_ne, f1, f11, f13]
    refine ⟨fun q3 => bad (by unfold nK; rw [if_neg hk1, if_pos (by omega)]), fun q3 => ?_⟩
    have hV := hV (by omega)
    have hVb := nV_b (f := f) (n := n) (a := a) hn.2 ha.2
    simp (disch := omega) only [wr_id, wr_m1, sd_t, nl_I, nl_R, nl_none, c1_I, c1_R, sh_0, sh_1, sh_2, sh_3, sh_4, true_and, and_true, ldA_A, ldB_B, ldS_S, stA_A, stB_B, aL_A, aL_B, aL_S, aC_A, hRd_eq, hRd_ne, cp6, cp8, tl_some, tl_none, List.cons_append, List.nil_append, ofI_t0, ofI_t1, Int.add_zero, Int.zero_add, x118_73, x118_74, x118_75, x118_76, x118_77, x118_78, x118_79, x118_80, gf11_0, pf11_0, gf11_1, pf11_1, gf11_2, pf11_2, gf11_3, gf11_4, gf11_5, gf11_6, gf11_7, pf11_7, gf11_8, gf11_9, pf11_9, gf11_10, pf11_10, gf11_11, pf11_11, gf11_12, pf11_12, gf11_13, pf11_13, gf11_14, gf11_15, pf11_15, gf11_16, gf11_17, pf11_17, gf11_18, gf11_19, gf11_20, gf11_21, gf11_22, gf11_23, gf11_24, pf11_24, gf11_25, gf11_26, gf11_27, gf11_28, pf11_28, gf11_29, pf11_29, gf11_30, gf11_31, gf11_32, pf11_32, gf11_33, gf11_34, gf11_35, pf11_35, gf11_36, gf11_37, gf11_38, gf11_39, uN_eq, uN_ne, f1, hV]
    refine m_in (by omega) (by omega) (by omega) (by omega) ?_
    by_cases q4 : lo ≤ nV f n a ∧ nV f n a ≤ hi
    · rw [if_pos q4]
      simp (disch := omega) only [wr_id, wr_m1, sd_t, nl_I, nl_R, nl_none, c1_I, c1_R, sh_0, sh_1, sh_2, sh_3, sh_4, true_and, and_true, ldA_A, ldB_B, ldS_S, stA_A, stB_B, aL_A, aL_B, aL_S, aC_A, hRd_eq, hRd_ne, cp6, cp8, tl_some, tl_none, List.cons_append, List.nil_append, ofI_t0, ofI_t1, Int.add_zero, Int.zero_add, x118_81, x118_88, x118_89]
      refine ⟨fun _ => ?_, fun q => by first | omega | exact absurd rfl q | exact absurd trivial q | exact absurd q (by omega)⟩
      have hk : nK f n lo hi a = 0 := by unfold nK; rw [if_neg hk1, if_neg (by omega)]
      have kk := kk h3 z3 f1 ozn (fun z => absurd hk z) (fun _ => ⟨f10, f11, hV, f13⟩) o13
      rw [hk] at kk
      exact kk
    · rw [if_neg q4]
      simp (disch := omega) only [wr_id, wr_m1, sd_t, nl_I, nl_R, nl_none, c1_I, c1_R, sh_0, sh_1, sh_2, sh_3, sh_4, true_and, and_true, ldA_A, ldB_B, ldS_S, stA_A, stB_B, aL_A, aL_B, aL_S, aC_A, hRd_eq, hRd_ne, cp6, cp8, tl_some, tl_none, List.cons_append, List.nil_append, ofI_t0, ofI_t1, Int.add_zero, Int.zero_add, x118_81]
      exact ⟨fun q => by first | omega | exact absurd rfl q | exact absurd trivial q | exact absurd q (by omega), fun _ => bad (by unfold nK; rw [if_neg hk1, if_pos (by omega)])⟩
  · rw [if_neg q]
    simp (disch := omega) only [wr_id, wr_m1, sd_t, nl_I, nl_R, nl_none, c1_I, c1_R, sh_0, sh_1, sh_2, sh_3, sh_4, true_and, and_true, ldA_A, ldB_B, ldS_S, stA_A, stB_B, aL_A, aL_B, aL_S, aC_A, hRd_eq, hRd_ne, cp6, cp8, tl_some, tl_none, List.cons_append, List.nil_append, ofI_t0, ofI_t1, Int.add_zero, Int.zero_add, x118_8, x118_9, x118_10, x118_11, x118_12, x118_13, gf11_0, pf11_0, gf11_1, pf11_1, gf11_2, pf11_2, gf11_3, gf11_4, gf11_5, gf11_6, gf11_7, pf11_7, gf11_8, gf11_9, pf11_9, gf11_10, pf11_10, gf11_11, pf11_11, gf11_12, pf11_12, gf11_13, pf11_13, gf11_14, gf11_15, pf11_15, gf11_16, gf11_17, pf11_17, gf11_18, gf11_19, gf11_20, gf11_21, gf11_22, gf11_23, gf11_24, pf11_24, gf11_25, gf11_26, gf11_27, gf11_28, pf11_28, gf11_29, pf11_29, gf11_30, gf11_31, gf11_32, pf11_32, gf11_33, gf11_34, gf11_35, pf11_35, gf11_36, gf11_37, gf11_38, gf11_39, uN_eq, uN_ne, e1, e2]
    refine ⟨fun q => by first | omega | exact absurd rfl q | exact absurd trivial q | exact absurd q (by omega), fun _ => ?_⟩
    refine m_fails (by omega) e1 ?_
    simp (disch := omega) only [wr_id, wr_m1, sd_t, nl_I, nl_R, nl_none, c1_I, c1_R, sh_0, sh_1, sh_2, sh_3, sh_4, true_and, and_true, ldA_A, ldB_B, ldS_S, stA_A, stB_B, aL_A, aL_B, aL_S, aC_A, hRd_eq, hRd_ne, cp6, cp8, tl_some, tl_none, List.cons_append, List.nil_append, ofI_t0, ofI_t1, Int.add_zero, Int.zero_add, x118_14]
    have hk : nK f n lo hi a = 1 := by
      unfold nK
      rw [if_pos]
      show dg f n (sk f n a) = sk f n a
      rw [dg_eq, if_neg (fun z => q (hiff.mpr z))]
    have kk := kk (hWr h2 156 (oM (uN z2 10 (sk f n a)))) (uN z2 10 (sk f n a)) hRd_eq (fun i hi => by rw [uN_ne (by omega)]; exact e3 i (by omega)) (fun _ => uN_eq) (fun z => by omega) (o2.wr (by omega) (by omega))
    rw [hk] at kk
    exact kk
theorem m_into {ra N : Nat} {k : Int} {w : Int → Int} (hd : 3 ≤ d) (hT : TxB f n) (hl : -2 ≤ lo ∧ lo ≤ 1000) (hh : -2 ≤ hi ∧ hi ≤ 1000) (ha : 0 ≤ a ∧ a ≤ n) (z9 : z 9 = n) (z11 : z 11 = a) (h1 : hRd h 156 = oM z) (h6 : hRd h 161 = cA 220 f) (hr : hRd h ra = cA N w) (hra : 162 ≤ ra) (hN : N ≤ 100) (hk : 0 ≤ k ∧ k < N) (kk : ∀ (h1 : LHeap) (zz : Nat → Int) (v : Int), hRd h1 156 = oM zz → ZN z zz → (¬ nK f n lo hi a = 0 → zz 10 = nA f n a) → (nK f n lo hi a = 0 → zz 10 = z 10 ∧ zz 11 = nB f n a ∧ v = nV f n a ∧ zz 13 = nA f n a) → hRd h1 ra = cA N (uA w k v) → (∀ b, ¬ (b = 156 ∨ b = ra) → hRd h1 b = hRd h b) → h1.1 = h.1 ∧ h1.2.1 = h.2.1 → Q (some (vI (nK f n lo hi a))) h1) : CALL d 119 [.ref 156, .ref ra, vI k, vI lo, vI hi] h Q := by
  refine cl119 (by omega) h1 ?_
  simp (disch := omega) only [wr_id, wr_m1, sd_t, nl_I, nl_R, nl_none, c1_I, c1_R, sh_0, sh_1, sh_2, sh_3, sh_4, true_and, and_true, ldA_A, ldB_B, ldS_S, stA_A, stB_B, aL_A, aL_B, aL_S, aC_A, hRd_eq, hRd_ne, cp6, cp8, tl_some, tl_none, List.cons_append, List.nil_append, ofI_t0, ofI_t1, Int.add_zero, Int.zero_add, x119_0, x119_1, x119_2, x119_3]
  refine m_num (by omega) hT hl hh ha z9 z11 h1 h6 (fun h2 z2 e1 e2 e3 e4 o2 => ?_)
  have h2r : hRd h2 ra = cA N w := by rw [o2.2.2 _ (by omega)]; exact hr
  simp (disch := omega) only [wr_id, wr_m1, sd_t, nl_I, nl_R, nl_none, c1_I, c1_R, sh_0, sh_1, sh_2, sh_3, sh_4, true_and, and_true, ldA_A, ldB_B, ldS_S, stA_A, stB_B, aL_A, aL_B, aL_S, aC_A, hRd_eq, hRd_ne, cp6, cp8, tl_some, tl_none, List.cons_append, List.nil_append, ofI_t0, ofI_t1, Int.add_zero, Int.zero_add, x119_4, x119_5, x119_6, x119_7, x119_8, x119_9, x119_10, x119_11, gf11_0, pf11_0, gf11_1, pf11_1, gf11_2, pf11_2, gf11_3, gf11_4, gf11_5, gf11_6, gf11_7, pf11_7, gf11_8, gf11_9, pf11_9, gf11_10, pf11_10, gf11_11, pf11_11, gf11_12, pf11_12, gf11_13, pf11_13, gf11_14, gf11_15, pf11_15, gf11_16, gf11_17, pf11_17, gf11_18, gf11_19, gf11_20, gf11_21, gf11_22, gf11_23, gf11_24, pf11_24, gf11_25, gf11_26, gf11_27, gf11_28, pf11_28, gf11_29, pf11_29, gf11_30, gf11_31, gf11_32, pf11_32, gf11_33, gf11_34, gf11_35, pf11_35, gf11_36, gf11_37, gf11_38, gf11_39, uN_eq, uN_ne, e1, h2r]
  refine ⟨by omega, ?_⟩
  exact kk _ z2 (z2 12) (by rw [hRd_ne (by omega)]; exact e1) e2 e3 (fun z => by obtain ⟨q1, q2, q3, q4⟩ := e4 z; exact ⟨q1, q2, q3, q4⟩) hRd_eq (fun b hb => by rw [hRd_ne (by omega), o2.2.2 _ (by omega)]) ⟨o2.1, o2.2.1⟩
end
