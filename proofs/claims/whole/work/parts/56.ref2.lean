-- THE REFERENCE: one round of the settling, who is up
/-- a row of numbers that holds an order L and its city's state -/
def SC (P J : Int) (L : List Int) (wk dr : Int → Int) (sh : Int) (g : Int → Int) : Prop := (∀ (i : Nat) (x : Int), L[i]? = some x → g i = x) ∧ g 6 = L.length ∧ g 7 = sh ∧ (∀ j, 0 ≤ j → j < J → g (9 + j) = dr j) ∧ ∀ p, 0 ≤ p → p < P → g (17 + p) = wk p
/-- the reference's city -/
def MC (M P J : Int) (wt tk bh : Int → Int) (z : Nat → Int) (h : LHeap) : Prop := hRd h 156 = oM z ∧ (z 0 = M ∧ z 1 = P ∧ z 2 = J) ∧ (∃ r, hRd h 157 = cA 8 r ∧ ∀ j, 0 ≤ j → j < J → r j = tk j) ∧ (∃ r, hRd h 158 = cA 8 r ∧ ∀ j, 0 ≤ j → j < J → r j = bh j) ∧ ∃ r, hRd h 159 = cA 6 r ∧ ∀ p, 0 ≤ p → p < P → r p = wt p
theorem SG.sc {P J : Int} {S : SS} {g : Int → Int} (h : SG P J S g 0) : SC P J S.1 S.2.1 S.2.2.1 S.2.2.2.1 g := by
  obtain ⟨a1, a2, a3, a4, a5, a6, a7⟩ := h
  refine ⟨fun i x e => ?_, ?_, ?_, fun j j0 j1 => ?_, fun p p0 p1 => ?_⟩
  · have := a1 i x e; rwa [Int.zero_add] at this
  · rwa [Int.zero_add] at a2
  · rwa [Int.zero_add] at a3
  · have := a5 j j0 j1; rwa [Int.zero_add] at this
  · have := a6 p p0 p1; rwa [Int.zero_add] at this
/-- has anything changed: who is up -/
def rouC (M sh : Int) (wk wt D : Int → Int) : List Int → Int → (Int → Int) → Int → Int
  | [], _, _, b => b
  | p :: L, ab, U, b => rouC M sh wk wt D L (if zand (zshr sh p) 1 = 0 then rouV M sh wk wt D ab p else ab) (uA U p (rouV M sh wk wt D ab p)) (if b = 0 ∧ rouV M sh wk wt D ab p = U p then 0 else 1)
section
variable {d : Nat} {h h0 : LHeap} {Q : Option Value → LHeap → Prop} {wk wt dr tk bh g D : Int → Int} {M P J sh : Int} {z : Nat → Int} {L : List Int}
theorem MC.out {lo hi : Nat} {h1 : LHeap} (c : MC M P J wt tk bh z h) (o : Out lo hi h h1) (e : 159 < lo ∨ hi < 156) : MC M P J wt tk bh z h1 := by
  obtain ⟨a1, a2, ⟨r1, a3, a3b⟩, ⟨r2, a4, a4b⟩, ⟨r3, a5, a5b⟩⟩ := c
  exact ⟨by rw [o.2.2 _ (by omega)]; exact a1, a2, ⟨r1, by rw [o.2.2 _ (by omega)]; exact a3, a3b⟩, ⟨r2, by rw [o.2.2 _ (by omega)]; exact a4, a4b⟩, ⟨r3, by rw [o.2.2 _ (by omega)]; exact a5, a5b⟩⟩
theorem l_mUps (hd : 2 ≤ d) (hB : CapB M P J wk wt dr tk bh) (hS : SC P J L wk dr sh g) (hP : Prs P L) (hD : TVF D) : ∀ (S pre : List Int) (k ab b : Int) (U : Int → Int) (h : LHeap) (l4 l5 l6 l7 : Option Value), pre ++ S = L → k = (pre.length : Int) → TV ab → TVF U → (b = 0 ∨ b = 1) → MC M P J wt tk bh z h → hRd h 160 = cA 24 g → hRd h 168 = cA 6 U → hRd h 169 = cA 8 D → (∀ h1, hRd h1 168 = cA 6 (rouF M sh wk wt D S ab U) → Out 168 168 h h1 → Q (some (vI (rouC M sh wk wt D S ab U b))) h1) → WPC d 129 7 [some (.ref 156), some (vI b), some (vI ab), some (vI k), l4, l5, l6, l7] [] h Q := by
  obtain ⟨s1, s2, s3, s4, s5⟩ := hS
  have hlen : (L.length : Int) = g 6 := s2.symm
  intro S
  induction S with
  | nil =>
    intro pre k ab b U h l4 l5 l6 l7 hp hk hab hU hb hM h160 h168 h169 kk
    rw [List.append_nil] at hp
    subst hp
    have h1 := hM.1
    have hl6 : (pre.length : Int) ≤ 6 := by sorry
    rw [WPC_iff]
    simp (disch := omega) only [wr_id, wr_m1, sd_t, nl_I, nl_R, nl_none, c1_I, c1_R, sh_0, sh_1, sh_2, sh_3, sh_4, true_and, and_true, ldA_A, ldB_B, ldS_S, stA_A, stB_B, aL_A, aL_B, aL_S, aC_A, hRd_eq, hRd_ne, cp6, cp8, tl_some, tl_none, List.cons_append, List.nil_append, ofI_t0, ofI_t1, Int.add_zero, Int.zero_add, x129_7, x129_8, x129_9, x129_10, x129_11, x129_12, x129_84, x129_85, gf11_0, pf11_0, gf11_1, pf11_1, gf11_2, pf11_2, gf11_3, gf11_4, gf11_5, gf11_6, gf11_7, pf11_7, gf11_8, gf11_9, pf11_9, gf11_10, pf11_10, gf11_11, pf11_11, gf11_12, pf11_12, gf11_13, pf11_13, gf11_14, gf11_15, pf11_15, gf11_16, gf11_17, pf11_17, gf11_18, gf11_19, gf11_20, gf11_21, gf11_22, gf11_23, gf11_24, pf11_24, gf11_25, gf11_26, gf11_27, gf11_28, pf11_28, gf11_29, pf11_29, gf11_30, gf11_31, gf11_32, pf11_32, gf11_33, gf11_34, gf11_35, pf11_35, gf11_36, gf11_37, gf11_38, gf11_39, uN_eq, uN_ne, h1, h160]
    refine ⟨by omega, fun _ => ?_, fun q => by omega⟩
    exact ⟨ofI_01 hb, kk h h168 Out.refl⟩
  | cons p S ih =>
    intro pre k ab b U h l4 l5 l6 l7 hp hk hab hU hb hM h160 h168 h169 kk
    sorry
end
