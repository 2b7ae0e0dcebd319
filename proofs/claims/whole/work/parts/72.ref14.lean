-- THE REFERENCE: orders, what is counted
theorem mem_eq {A B : List Int} (hA : A.Nodup) (hs : ∀ x ∈ A, x ∈ B) (hl : A.length = B.length) : ∀ x, x ∈ B → x ∈ A := fun x hx => Classical.byContradiction (fun hn => by
  have h1 : A ⊆ B.erase x := fun a ha => (List.mem_erase_of_ne (fun e => hn (by rw [← e]; exact ha))).mpr (hs a ha)
  have h2 := List.Nodup.length_le_of_subset hA h1
  rw [List.length_erase_of_mem hx] at h2
  have := List.length_pos_of_mem hx
  omega)
theorem pfrom_app {a : Int} {S : List Int} : ∀ (pre : List Int) (i : Int), ¬ a ∈ pre → pfrom (pre ++ a :: S) a i = i + (pre.length : Int) := by
  intro pre
  induction pre with
  | nil => intro i _; rw [List.nil_append, pfrom, if_pos rfl]; simp
  | cons b pre ih =>
    intro i h
    rw [List.mem_cons] at h
    rw [List.cons_append, pfrom, if_neg (fun e => h (Or.inl e.symm)), ih _ (fun e => h (Or.inr e)), List.length_cons]
    omega
theorem ctS_c {T : List Int} {tot : Int} : ∀ (n : Nat) (p : Int) (su : Int → Int) (x : Int), ctS T tot n p su x = if p ≤ x ∧ x < p + (n : Int) then (if tot = 0 ∨ su x = pfrom T x 0 then pfrom T x 0 else -1) else su x := by
  intro n
  induction n with
  | zero => intro p su x; rw [ctS, if_neg (by omega)]
  | succ n ih =>
    intro p su x
    rw [ctS, ih]
    by_cases e : x = p
    · subst e
      rw [if_neg (show ¬ (x + 1 ≤ x ∧ x < x + 1 + (n : Int)) by omega), if_pos (show x ≤ x ∧ x < x + ((n + 1 : Nat) : Int) by omega), uA_eq]
    · rw [uA_ne e]
      by_cases q : p ≤ x ∧ x < p + ((n + 1 : Nat) : Int)
      · rw [if_pos q, if_pos (show p + 1 ≤ x ∧ x < p + 1 + (n : Int) by omega)]
      · rw [if_neg q, if_neg (show ¬ (p + 1 ≤ x ∧ x < p + 1 + (n : Int)) by omega)]
theorem ctI_c {U : Int → Int} {p : Int} : ∀ (n : Nat) (q : Int) (pa : Int → Int) (x : Int), ctI U p n q pa x = pa x + (if (p * 6 + q ≤ x ∧ x < p * 6 + q + (n : Int)) ∧ U p < U (x - p * 6) then 1 else 0) := by
  intro n
  induction n with
  | zero => intro q pa x; rw [ctI, if_neg (fun z => by omega)]; omega
  | succ n ih =>
    intro q pa x
    rw [ctI, ih]
    by_cases e : x = p * 6 + q
    · have e2 : x - p * 6 = q := by omega
      rw [e2]
      rw [if_neg (show ¬ ((p * 6 + (q + 1) ≤ x ∧ x < p * 6 + (q + 1) + (n : Int)) ∧ U p < U q) from fun z => by omega)]
      by_cases u : U p < U q
      · rw [if_pos u, if_pos (show (p * 6 + q ≤ x ∧ x < p * 6 + q + ((n + 1 : Nat) : Int)) ∧ U p < U q from ⟨by omega, u⟩), ← e, uA_eq]; omega
      · rw [if_neg u, if_neg (show ¬ ((p * 6 + q ≤ x ∧ x < p * 6 + q + ((n + 1 : Nat) : Int)) ∧ U p < U q) from fun z => u z.2)]
    · have e0 : (if U p < U q then uA pa (p * 6 + q) (pa (p * 6 + q) + 1) else pa) x = pa x := by
        split
        · exact uA_ne e
        · rfl
      rw [e0]
      by_cases z : (p * 6 + q ≤ x ∧ x < p * 6 + q + ((n + 1 : Nat) : Int)) ∧ U p < U (x - p * 6)
      · rw [if_pos z, if_pos ⟨by omega, z.2⟩]
      · rw [if_neg z, if_neg (fun y => z ⟨by omega, y.2⟩)]
theorem ctP_c {U : Int → Int} {a b : Int} (hab : a < b) (hb : b < 6) : ∀ (n : Nat) (p : Int) (pa : Int → Int), 0 ≤ p → (n : Int) + p = 6 → ctP U n p pa (a * 6 + b) = pa (a * 6 + b) + (if p ≤ a ∧ U a < U b then 1 else 0) := by
  intro n
  induction n with
  | zero => intro p pa hp0 hp; rw [ctP, if_neg (fun z => by omega)]; omega
  | succ n ih =>
    intro p pa hp0 hp
    rw [ctP, ih _ _ (by omega) (by omega), ctI_c]
    by_cases e : a = p
    · subst e
      rw [show a * 6 + b - a * 6 = b by omega]
      by_cases u : U a < U b
      · rw [if_pos ⟨by omega, u⟩, if_neg (fun z => by omega), if_pos ⟨by omega, u⟩]; omega
      · rw [if_neg (fun z => u z.2), if_neg (fun z => u z.2), if_neg (fun z => u z.2)]; omega
    · rw [if_neg (fun z => by omega)]
      by_cases z : p ≤ a ∧ U a < U b
      · rw [if_pos z, if_pos ⟨by omega, z.2⟩]; omega
      · rw [if_neg z, if_neg (fun y => z ⟨by omega, y.2⟩)]; omega
/-- what the class and the reference count: of the persons of L -/
def RO (L : List Int) (tot : Int) (su pa sp er : Int → Int) : Prop := (∀ p ∈ L, ¬ tot = 0 → (0 ≤ sp p ∧ sp p ≤ 6) ∧ su p = if sp p = 6 then -1 else sp p) ∧ (∀ a b, 0 ≤ a → a < b → b < 6 → er (a * 6 + b) = pa (a * 6 + b)) ∧ ∀ k, 0 ≤ er k ∧ er k ≤ tot
def spF (T : List Int) (tot : Int) (sp : Int → Int) (p : Int) : Int := if tot = 0 ∨ sp p = pfrom T p 0 then pfrom T p 0 else 6
def erF (U er : Int → Int) (k : Int) : Int := er k + (if U (k / 6) < U (k % 6) then 1 else 0)
theorem RO.ct {L T : List Int} {tot : Int} {su pa sp er sp1 er1 U : Int → Int} (h : RO L tot su pa sp er) (ht : 0 ≤ tot) (hL : ∀ p ∈ L, (0 ≤ p ∧ p ≤ 5) ∧ p ∈ T) (hT : T.length ≤ 6) (h1 : ∀ p ∈ T, sp1 p = spF T tot sp p) (h2 : ∀ k, 0 ≤ k → k < 36 → er1 k = erF U er k) (h3 : ∀ k, ¬ (0 ≤ k ∧ k < 36) → er1 k = er k) : RO L (tot + 1) (ctS T tot 6 0 su) (ctP U 6 0 pa) sp1 er1 := by
  obtain ⟨a1, a2, a3⟩ := h
  refine ⟨fun p hp _ => ?_, fun a b h0 hab hb => ?_, fun k => ?_⟩
  · obtain ⟨p6, pT⟩ := hL p hp
    have hg := pfrom_ge T p 0 (by omega)
    have hne : ¬ pfrom T p 0 = -1 := fun z => pfrom_iff.mp z pT
    rw [h1 p pT, ctS_c, if_pos (by omega)]
    unfold spF
    by_cases t0 : tot = 0
    · rw [if_pos (Or.inl t0), if_pos (Or.inl t0), if_neg (by omega)]
      exact ⟨by omega, rfl⟩
    · obtain ⟨b1, b2⟩ := a1 p hp t0
      rw [b2]
      by_cases e : sp p = pfrom T p 0
      · rw [if_pos (Or.inr e), if_pos (Or.inr (by rw [if_neg (by omega)]; exact e)), if_neg (by omega)]
        exact ⟨by omega, rfl⟩
      · rw [if_neg (by omega), if_neg (fun z => ?_), if_pos rfl]
        · exact ⟨by omega, rfl⟩
        · rcases z with z | z
          · exact t0 z
          · revert z
            split <;> intro z <;> omega
  · rw [h2 _ (by omega) (by omega), ctP_c hab hb 6 0 pa (by omega) (by omega), ← a2 a b h0 hab hb]
    unfold erF
    rw [show (a * 6 + b) / 6 = a by omega, show (a * 6 + b) % 6 = b by omega]
    by_cases u : U a < U b
    · rw [if_pos u, if_pos ⟨h0, u⟩]
    · rw [if_neg u, if_neg (fun z => u z.2)]
  · have := a3 k
    by_cases e : 0 ≤ k ∧ k < 36
    · rw [h2 k e.1 e.2]
      unfold erF
      split <;> omega
    · rw [h3 k e]; omega
section
variable {d : Nat} {Q : Option Value → LHeap → Prop} {g U : Int → Int} {tot : Int} {z : Nat → Int} {T : List Int}
theorem l_co1 {sp : Int → Int} (hN : NR T g) (hn : T.Nodup) (ht : 0 ≤ tot ∧ tot ≤ 720) (h32 : z 32 = tot) (hsp : ∀ p ∈ T, ¬ tot = 0 → 0 ≤ sp p ∧ sp p ≤ 6) : ∀ (S pre : List Int) (k : Int) (r : Int → Int) (h : LHeap) (l2 : Option Value), pre ++ S = T → k = (pre.length : Int) → hRd h 156 = oM z → hRd h 160 = cA 24 g → hRd h 175 = cA 6 r → (∀ p ∈ pre, r p = spF T tot sp p) → (∀ p, ¬ p ∈ pre → r p = sp p) → nl l2 → (∀ (h1 : LHeap) (r1 : Int → Int) (k1 : Int) (l2 : Option Value), hRd h1 175 = cA 6 r1 → (∀ p ∈ T, r1 p = spF T tot sp p) → Out 175 175 h h1 → nl l2 → WP d 170 32 [some (.ref 156), some (vI k1), l2] [] h1 Q) → WPC d 170 3 [some (.ref 156), some (vI k), l2] [] h Q := by
  have g6 := hN.g6
  intro S
  induction S with
  | nil =>
    intro pre k r h l2 he hk h1 hg hr r1 r2 hl kk
    rw [List.append_nil] at he
    subst he
    rw [WPC_iff]
    simp (disch := omega) only [wr_id, wr_m1, sd_t, nl_I, nl_R, nl_none, c1_I, c1_R, sh_0, sh_1, sh_2, sh_3, sh_4, true_and, and_true, ldA_A, ldB_B, ldS_S, stA_A, stB_B, aL_A, aL_B, aL_S, aC_A, hRd_eq, hRd_ne, cp6, cp8, tl_some, tl_none, List.cons_append, List.nil_append, ofI_t0, ofI_t1, Int.add_zero, Int.zero_add, x170_3, x170_4, x170_5, x170_6, x170_7, x170_8, gf11_0, pf11_0, gf11_1, pf11_1, gf11_2, pf11_2, gf11_3, gf11_4, gf11_5, gf11_6, gf11_7, pf11_7, gf11_8, gf11_9, pf11_9, gf11_10, pf11_10, gf11_11, pf11_11, gf11_12, pf11_12, gf11_13, pf11_13, gf11_14, gf11_15, pf11_15, gf11_16, gf11_17, pf11_17, gf11_18, gf11_19, gf11_20, gf11_21, gf11_22, gf11_23, gf11_24, pf11_24, gf11_25, gf11_26, gf11_27, gf11_28, pf11_28, gf11_29, pf11_29, gf11_30, gf11_31, gf11_32, pf11_32, gf11_33, gf11_34, gf11_35, pf11_35, gf11_36, gf11_37, gf11_38, gf11_39, uN_eq, uN_ne, h1, hg]
    exact ⟨by omega, fun _ => kk h r k l2 hr r1 Out.refl hl, fun q => by omega⟩
  | cons a S ih =>
    intro pre k r h l2 he hk h1 hg hr r1 r2 hl kk
    have ha := hN.at he hk
    have hna : ¬ a ∈ pre := fun q => by
      rw [← he] at hn
      exact (List.nodup_append.mp hn).2.2 a q a List.mem_cons_self rfl
    have haT : a ∈ T := by rw [← he]; simp
    have hpf : pfrom T a 0 = k := by rw [← he, pfrom_app pre 0 hna]; omega
    have hra := r2 a hna
    have hsa := hsp a haT
    have st : ∀ v, v = spF T tot sp a → WPC d 170 3 [some (.ref 156), some (vI (k + 1)), some (vI a)] [] (hWr h 175 (cA 6 (uA r a v))) Q := fun v hv => by
      have ow : Out 175 175 h (hWr h 175 (cA 6 (uA r a v))) := Out.refl.wr (by omega) (by omega)
      refine ih (pre ++ [a]) (k + 1) (uA r a v) _ _ (by rw [List.append_assoc]; exact he) (by rw [hk]; simp) (by rw [hRd_ne (by omega)]; exact h1) (by rw [hRd_ne (by omega)]; exact hg) hRd_eq (fun p hp => ?_) (fun p hp => ?_) (by rw [nl_I]; trivial) (fun h2 q1 k1 l2 e2 f2 o2 n2 => kk h2 q1 k1 l2 e2 f2 (ow.trans o2) n2)
      · by_cases e : p = a
        · rw [e, uA_eq]; exact hv
        · rw [uA_ne e]
          rcases List.mem_append.mp hp with q | q
          · exact r1 p q
          · simp at q; exact absurd q e
      · rw [List.mem_append] at hp
        rw [uA_ne (fun e => hp (Or.inr (by simp [e])))]
        exact r2 p (fun q => hp (Or.inl q))
    rw [WPC_iff]
    simp (disch := omega) only [wr_id, wr_m1, sd_t, nl_I, nl_R, nl_none, c1_I, c1_R, sh_0, sh_1, sh_2, sh_3, sh_4, true_and, and_true, ldA_A, ldB_B, ldS_S, stA_A, stB_B, aL_A, aL_B, aL_S, aC_A, hRd_eq, hRd_ne, cp6, cp8, tl_some, tl_none, List.cons_append, List.nil_append, ofI_t0, ofI_t1, Int.add_zero, Int.zero_add, x170_2, x170_3, x170_4, x170_5, x170_6, x170_7, x170_8, x170_9, x170_10, x170_11, x170_12, x170_13, x170_14, x170_15, x170_16, x170_17, x170_18, x170_19, x170_26, x170_27, x170_28, x170_29, x170_30, x170_31, gf11_0, pf11_0, gf11_1, pf11_1, gf11_2, pf11_2, gf11_3, gf11_4, gf11_5, gf11_6, gf11_7, pf11_7, gf11_8, gf11_9, pf11_9, gf11_10, pf11_10, gf11_11, pf11_11, gf11_12, pf11_12, gf11_13, pf11_13, gf11_14, gf11_15, pf11_15, gf11_16, gf11_17, pf11_17, gf11_18, gf11_19, gf11_20, gf11_21, gf11_22, gf11_23, gf11_24, pf11_24, gf11_25, gf11_26, gf11_27, gf11_28, pf11_28, gf11_29, pf11_29, gf11_30, gf11_31, gf11_32, pf11_32, gf11_33, gf11_34, gf11_35, pf11_35, gf11_36, gf11_37, gf11_38, gf11_39, uN_eq, uN_ne, h1, hg, hr, ha.1, h32]
    refine ⟨by omega, fun q => by omega, fun _ => ⟨by omega, fun q => ⟨by omega, st k ?_⟩, fun q => ?_⟩⟩
    · unfold spF; rw [if_pos (Or.inl q), hpf]
    · have hsa := hsa q
      simp (disch := omega) only [wr_id, wr_m1, sd_t, nl_I, nl_R, nl_none, c1_I, c1_R, sh_0, sh_1, sh_2, sh_3, sh_4, true_and, and_true, ldA_A, ldB_B, ldS_S, stA_A, stB_B, aL_A, aL_B, aL_S, aC_A, hRd_eq, hRd_ne, cp6, cp8, tl_some, tl_none, List.cons_append, List.nil_append, ofI_t0, ofI_t1, Int.add_zero, Int.zero_add, x170_2, x170_20, x170_21, x170_22, x170_23, x170_24, x170_25, x170_26, x170_27, x170_28, x170_29, x170_30, x170_31, gf11_0, pf11_0, gf11_1, pf11_1, gf11_2, pf11_2, gf11_3, gf11_4, gf11_5, gf11_6, gf11_7, pf11_7, gf11_8, gf11_9, pf11_9, gf11_10, pf11_10, gf11_11, pf11_11, gf11_12, pf11_12, gf11_13, pf11_13, gf11_14, gf11_15, pf11_15, gf11_16, gf11_17, pf11_17, gf11_18, gf11_19, gf11_20, gf11_21, gf11_22, gf11_23, gf11_24, pf11_24, gf11_25, gf11_26, gf11_27, gf11_28, pf11_28, gf11_29, pf11_29, gf11_30, gf11_31, gf11_32, pf11_32, gf11_33, gf11_34, gf11_35, pf11_35, gf11_36, gf11_37, gf11_38, gf11_39, uN_eq, uN_ne, h1, hg, hr, hra]
      refine ⟨by omega, fun q2 => ⟨by omega, st 6 ?_⟩, fun q2 => ⟨by omega, st k ?_⟩⟩
      · unfold spF; rw [if_neg (by omega)]
      · unfold spF; rw [if_pos (by omega), hpf]
theorem l_co2 {er : Int → Int} (hU : TVF U) (her : ∀ k, 0 ≤ er k ∧ er k ≤ 720) : ∀ (n : Nat) (k : Int) (r : Int → Int) (h : LHeap) (l2 : Option Value), (n : Int) = 36 - k → 0 ≤ k → hRd h 156 = oM z → hRd h 168 = cA 6 U → hRd h 176 = cA 36 r → (∀ i, 0 ≤ i → i < k → r i = erF U er i) → (∀ i, ¬ (0 ≤ i ∧ i < k) → r i = er i) → (∀ (h1 : LHeap) (r1 : Int → Int) (k1 : Int), hRd h1 176 = cA 36 r1 → (∀ i, 0 ≤ i → i < 36 → r1 i = erF U er i) → (∀ i, ¬ (0 ≤ i ∧ i < 36) → r1 i = er i) → Out 176 176 h h1 → WP d 170 63 [some (.ref 156), some (vI k1), l2] [] h1 Q) → WPC d 170 35 [some (.ref 156), some (vI k), l2] [] h Q := by
  intro n
  induction n with
  | zero =>
    intro k r h l2 hn hk h1 hu hr r1 r2 kk
    rw [WPC_iff]
    simp (disch := omega) only [wr_id, wr_m1, sd_t, nl_I, nl_R, nl_none, c1_I, c1_R, sh_0, sh_1, sh_2, sh_3, sh_4, true_and, and_true, ldA_A, ldB_B, ldS_S, stA_A, stB_B, aL_A, aL_B, aL_S, aC_A, hRd_eq, hRd_ne, cp6, cp8, tl_some, tl_none, List.cons_append, List.nil_append, ofI_t0, ofI_t1, Int.add_zero, Int.zero_add, x170_35, x170_36, x170_37]
    exact ⟨fun _ => kk h r k hr (fun i i0 i1 => r1 i i0 (by omega)) (fun i hi => r2 i (by omega)) Out.refl, fun q => by omega⟩
  | succ n ih =>
    intro k r h l2 hn hk h1 hu hr r1 r2 kk
    have e1 := zdiv_nn (x := k) (y := 6) (by omega) (by omega) (by omega) (by omega)
    have e2 := zrem_nn (x := k) (y := 6) (by omega) (by omega) (by omega) (by omega)
    have hrk := r2 k (by omega)
    have herk := her k
    have hu1 := TV_ge (hU (k / 6))
    have hu2 := TV_ge (hU (k % 6))
    have st : ∀ v, v = erF U er k → WPC d 170 35 [some (.ref 156), some (vI (k + 1)), l2] [] (hWr h 176 (cA 36 (uA r k v))) Q := fun v hv => by
      have ow : Out 176 176 h (hWr h 176 (cA 36 (uA r k v))) := Out.refl.wr (by omega) (by omega)
      refine ih (k + 1) (uA r k v) _ _ (by omega) (by omega) (by rw [hRd_ne (by omega)]; exact h1) (by rw [hRd_ne (by omega)]; exact hu) hRd_eq (fun i i0 i1 => ?_) (fun i hi => ?_) (fun h2 q1 k1 e2 f2 g2 o2 => kk h2 q1 k1 e2 f2 g2 (ow.trans o2))
      · by_cases e : i = k
        · rw [e, uA_eq]; exact hv
        · rw [uA_ne e]; exact r1 i i0 (by omega)
      · rw [uA_ne (by omega)]; exact r2 i (by omega)
    rw [WPC_iff]
    simp (disch := omega) only [wr_id, wr_m1, sd_t, nl_I, nl_R, nl_none, c1_I, c1_R, sh_0, sh_1, sh_2, sh_3, sh_4, true_and, and_true, ldA_A, ldB_B, ldS_S, stA_A, stB_B, aL_A, aL_B, aL_S, aC_A, hRd_eq, hRd_ne, cp6, cp8, tl_some, tl_none, List.cons_append, List.nil_append, ofI_t0, ofI_t1, Int.add_zero, Int.zero_add, x170_34, x170_35, x170_36, x170_37, x170_38, x170_39, x170_40, x170_41, x170_42, x170_43, x170_44, x170_45, x170_46, x170_47, x170_48, x170_49, x170_50, x170_51, x170_52, x170_53, x170_54, x170_55, x170_56, x170_57, x170_58, x170_59, x170_60, x170_61, x170_62, gf11_0, pf11_0, gf11_1, pf11_1, gf11_2, pf11_2, gf11_3, gf11_4, gf11_5, gf11_6, gf11_7, pf11_7, gf11_8, gf11_9, pf11_9, gf11_10, pf11_10, gf11_11, pf11_11, gf11_12, pf11_12, gf11_13, pf11_13, gf11_14, gf11_15, pf11_15, gf11_16, gf11_17, pf11_17, gf11_18, gf11_19, gf11_20, gf11_21, gf11_22, gf11_23, gf11_24, pf11_24, gf11_25, gf11_26, gf11_27, gf11_28, pf11_28, gf11_29, pf11_29, gf11_30, gf11_31, gf11_32, pf11_32, gf11_33, gf11_34, gf11_35, pf11_35, gf11_36, gf11_37, gf11_38, gf11_39, uN_eq, uN_ne, h1, hu, hr, e1, e2, hrk]
    refine ⟨fun q => by omega, fun _ => ⟨by omega, by omega, by omega, by omega, by omega, fun q => ⟨by omega, st _ ?_⟩, fun q => ⟨by omega, st _ ?_⟩⟩⟩
    · unfold erF; rw [if_neg (by omega)]; omega
    · unfold erF; rw [if_pos (by omega)]
theorem m_count {sp er : Int → Int} {h : LHeap} (hd : 1 ≤ d) (hN : NR T g) (hn : T.Nodup) (ht : 0 ≤ tot ∧ tot ≤ 720) (h32 : z 32 = tot) (hsp : ∀ p ∈ T, ¬ tot = 0 → 0 ≤ sp p ∧ sp p ≤ 6) (hU : TVF U) (her : ∀ k, 0 ≤ er k ∧ er k ≤ 720) (h1 : hRd h 156 = oM z) (hg : hRd h 160 = cA 24 g) (hu : hRd h 168 = cA 6 U) (h175 : hRd h 175 = cA 6 sp) (h176 : hRd h 176 = cA 36 er) (kk : ∀ (h1 : LHeap) (sp1 er1 : Int → Int), hRd h1 156 = oM (uN z 32 (tot + 1)) → hRd h1 175 = cA 6 sp1 → hRd h1 176 = cA 36 er1 → (∀ p ∈ T, sp1 p = spF T tot sp p) → (∀ i, 0 ≤ i → i < 36 → er1 i = erF U er i) → (∀ i, ¬ (0 ≤ i ∧ i < 36) → er1 i = er i) → (∀ a, ¬ (a = 156 ∨ a = 175 ∨ a = 176) → hRd h1 a = hRd h a) → OS h h1 → Q none h1) : CALL d 170 [.ref 156] h Q := by
  refine cl170 (by omega) h1 ?_
  simp (disch := omega) only [wr_id, wr_m1, sd_t, nl_I, nl_R, nl_none, c1_I, c1_R, sh_0, sh_1, sh_2, sh_3, sh_4, true_and, and_true, ldA_A, ldB_B, ldS_S, stA_A, stB_B, aL_A, aL_B, aL_S, aC_A, hRd_eq, hRd_ne, cp6, cp8, tl_some, tl_none, List.cons_append, List.nil_append, ofI_t0, ofI_t1, Int.add_zero, Int.zero_add, x170_0, x170_1, x170_2]
  refine l_co1 hN hn ht h32 hsp T [] 0 sp h _ rfl rfl h1 hg h175 (fun p hp => by cases hp) (fun _ _ => rfl) (by rw [nl_none]; trivial) (fun h2 sp1 k1 l2 e2 f2 o2 n2 => ?_)
  simp (disch := omega) only [wr_id, wr_m1, sd_t, nl_I, nl_R, nl_none, c1_I, c1_R, sh_0, sh_1, sh_2, sh_3, sh_4, true_and, and_true, ldA_A, ldB_B, ldS_S, stA_A, stB_B, aL_A, aL_B, aL_S, aC_A, hRd_eq, hRd_ne, cp6, cp8, tl_some, tl_none, List.cons_append, List.nil_append, ofI_t0, ofI_t1, Int.add_zero, Int.zero_add, x170_32, x170_33, x170_34]
  refine l_co2 hU her 36 0 er h2 _ (by omega) (by omega) (by rw [o2.2.2 _ (by omega)]; exact h1) (by rw [o2.2.2 _ (by omega)]; exact hu) (by rw [o2.2.2 _ (by omega)]; exact h176) (fun i i0 i1 => by omega) (fun _ _ => rfl) (fun h3 er1 k2 e3 f3 g3 o3 => ?_)
  have h31 : hRd h3 156 = oM z := by rw [o3.2.2 _ (by omega), o2.2.2 _ (by omega)]; exact h1
  simp (disch := omega) only [wr_id, wr_m1, sd_t, nl_I, nl_R, nl_none, c1_I, c1_R, sh_0, sh_1, sh_2, sh_3, sh_4, true_and, and_true, ldA_A, ldB_B, ldS_S, stA_A, stB_B, aL_A, aL_B, aL_S, aC_A, hRd_eq, hRd_ne, cp6, cp8, tl_some, tl_none, List.cons_append, List.nil_append, ofI_t0, ofI_t1, Int.add_zero, Int.zero_add, x170_63, x170_64, x170_65, x170_66, x170_67, x170_68, x170_69, gf11_0, pf11_0, gf11_1, pf11_1, gf11_2, pf11_2, gf11_3, gf11_4, gf11_5, gf11_6, gf11_7, pf11_7, gf11_8, gf11_9, pf11_9, gf11_10, pf11_10, gf11_11, pf11_11, gf11_12, pf11_12, gf11_13, pf11_13, gf11_14, gf11_15, pf11_15, gf11_16, gf11_17, pf11_17, gf11_18, gf11_19, gf11_20, gf11_21, gf11_22, gf11_23, gf11_24, pf11_24, gf11_25, gf11_26, gf11_27, gf11_28, pf11_28, gf11_29, pf11_29, gf11_30, gf11_31, gf11_32, pf11_32, gf11_33, gf11_34, gf11_35, pf11_35, gf11_36, gf11_37, gf11_38, gf11_39, uN_eq, uN_ne, h31, h32]
  have ow : Out 156 156 h3 (hWr h3 156 (oM (uN z 32 (tot + 1)))) := Out.refl.wr (by omega) (by omega)
  refine kk _ sp1 er1 hRd_eq (by rw [hRd_ne (by omega), o3.2.2 _ (by omega)]; exact e2) (by rw [hRd_ne (by omega)]; exact e3) f2 f3 g3 (fun a ha => by rw [hRd_ne (by omega), o3.2.2 _ (by omega), o2.2.2 _ (by omega)]) (((OS.o175 o2 e2).trans (OS.o176 o3 e3)).trans (OS.o156 ow))
end
