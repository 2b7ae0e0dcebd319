-- THE SETTLING: the rounds of both end alike
/-- never, or the same -/
def lq (x y : Int) : Prop := x = 1000000 ∨ x = y
def lqF (f g : Int → Int) : Prop := ∀ i, lq (f i) (g i)
theorem lq_mx {a b a1 b1 : Int} (ha : a ≤ 1000000) (hb : b ≤ 1000000) (h1 : lq a a1) (h2 : lq b b1) : lq (mx a b) (mx a1 b1) := by
  unfold lq at *
  unfold mx
  repeat' split
  all_goals omega
theorem lq_inT {M v v1 : Int} (hM : M ≤ 999) (h : lq v v1) : lq (inT M v) (inT M v1) := by
  unfold lq at *
  unfold inT
  repeat' split
  all_goals omega
theorem lq_inTa {M v v1 t : Int} (hM : M ≤ 999) (ht : 0 ≤ t) (h : lq v v1) : lq (inT M (v + t)) (inT M (v1 + t)) := by
  unfold lq at *
  unfold inT
  repeat' split
  all_goals omega
theorem lq_uA {f g : Int → Int} {i x y : Int} (h : lqF f g) (hx : lq x y) : lqF (uA f i x) (uA g i y) := fun j => by
  unfold uA
  split
  · exact hx
  · exact h j
theorem uA_self {f : Int → Int} {i : Int} : uA f i (f i) = f := by
  funext j
  unfold uA
  split
  · rename_i e; rw [e]
  · rfl
/-- how many are known -/
def cL (U : Int → Int) : List Int → Int
  | [] => 0
  | p :: L => (if U p = 1000000 then 0 else 1) + cL U L
/-- n numbers from j on -/
def jl : Nat → Int → List Int
  | 0, _ => []
  | n + 1, j => j :: jl n (j + 1)
theorem jl_mem : ∀ (n : Nat) (j x : Int), x ∈ jl n j ↔ j ≤ x ∧ x < j + (n : Int) := by
  intro n
  induction n with
  | zero => intro j x; simp [jl]
  | succ n ih =>
    intro j x
    rw [jl, List.mem_cons, ih]
    omega
theorem jl_len : ∀ (n : Nat) (j : Int), (jl n j).length = n := by
  intro n
  induction n with
  | zero => intro j; rfl
  | succ n ih => intro j; simp [jl, ih]
theorem cL_mono {U V : Int → Int} (h : lqF U V) : ∀ L, cL U L ≤ cL V L := by
  intro L
  induction L with
  | nil => exact Int.le_refl _
  | cons p L ih =>
    have := h p
    unfold lq at this
    rw [cL, cL]
    split <;> split <;> omega
theorem cL_eq {U V : Int → Int} (h : lqF U V) : ∀ L, cL V L = cL U L → ∀ p ∈ L, V p = U p := by
  intro L
  induction L with
  | nil => intro _ p hp; cases hp
  | cons p L ih =>
    intro e q hq
    have h1 := h p
    have h2 := cL_mono h L
    unfold lq at h1
    rw [cL, cL] at e
    have e2 : cL V L = cL U L ∧ V p = U p := by
      revert e
      split <;> split <;> intro e <;> constructor <;> omega
    rcases List.mem_cons.mp hq with rfl | hq
    · exact e2.2
    · exact ih e2.1 q hq
theorem cL_le {U : Int → Int} : ∀ L : List Int, 0 ≤ cL U L ∧ cL U L ≤ L.length := by
  intro L
  induction L with
  | nil => exact ⟨Int.le_refl _, Int.le_refl _⟩
  | cons p L ih =>
    rw [cL, List.length_cons]
    split <;> omega
theorem cL_full {U : Int → Int} : ∀ L : List Int, cL U L = L.length → ∀ p ∈ L, ¬ U p = 1000000 := by
  intro L
  induction L with
  | nil => intro _ p hp; cases hp
  | cons p L ih =>
    intro e q hq
    have h2 := cL_le (U := U) L
    rw [cL, List.length_cons] at e
    have e2 : cL U L = L.length ∧ ¬ U p = 1000000 := by
      revert e
      split <;> intro e <;> constructor <;> omega
    rcases List.mem_cons.mp hq with rfl | hq
    · exact e2.2
    · exact ih e2.1 q hq
theorem cL_nv : ∀ L : List Int, cL nvF L = 0 := by
  intro L
  induction L with
  | nil => rfl
  | cons p L ih => rw [cL, ih]; rfl
section
variable {wk wt dr tk bh U U1 D D1 I I1 : Int → Int} {p ab ab1 M P J sh j : Int} {L : List Int}
theorem lq_wkF (hB : CapB M P J wk wt dr tk bh) (hD : TVF D) (hl : lqF D D1) (h0 : 0 ≤ p) (hP : p < P) : lq (wkF wk wt D p) (wkF wk wt D1 p) := by
  have hw := hB.2.2.2.1 p h0 hP
  have hd := TV_ge (hD (wt p))
  unfold wkF
  refine lq_mx (by omega) (by split <;> omega) (Or.inr rfl) ?_
  split
  · exact Or.inr rfl
  · exact hl _
theorem lq_rouV (hB : CapB M P J wk wt dr tk bh) (hD : TVF D) (hl : lqF D D1) (h0 : 0 ≤ p) (hP : p < P) (hab : TV ab) (ha : lq ab ab1) : lq (rouV M sh wk wt D ab p) (rouV M sh wk wt D1 ab1 p) := by
  unfold rouV
  refine lq_inT hB.1.2 ?_
  split
  · exact lq_mx (TV_ge (TV_wkF hB hD h0 hP)).2 (TV_ge hab).2 (lq_wkF hB hD hl h0 hP) ha
  · exact lq_wkF hB hD hl h0 hP
theorem lq_rouF (hB : CapB M P J wk wt dr tk bh) (hD : TVF D) (hl : lqF D D1) : ∀ (L : List Int) (ab ab1 : Int) (U U1 : Int → Int), (∀ x ∈ L, 0 ≤ x ∧ x < P) → TV ab → lq ab ab1 → lqF U U1 → lqF (rouF M sh wk wt D L ab U) (rouF M sh wk wt D1 L ab1 U1) := by
  intro L
  induction L with
  | nil => intro ab ab1 U U1 hL hab ha hu; exact hu
  | cons p L ih =>
    intro ab ab1 U U1 hL hab ha hu
    have hp := hL p List.mem_cons_self
    have hv := lq_rouV (sh := sh) hB hD hl hp.1 hp.2 hab ha
    rw [rouF, rouF]
    refine ih _ _ _ _ (fun x hx => hL x (List.mem_cons_of_mem _ hx)) ?_ ?_ (lq_uA hu hv)
    · split
      · exact TV_rouV hB hD hp.1 hp.2 hab
      · exact hab
    · split
      · exact hv
      · exact ha
theorem lq_wrkV (hB : CapB M P J wk wt dr tk bh) (hI : TVF I) (hD : TVF D) (li : lqF I I1) (hl : lqF D D1) (h0 : 0 ≤ j) (hJ : j < J) : lq (wrkV M dr tk bh I D j) (wrkV M dr tk bh I1 D1 j) := by
  have hw := hB.2.2.2.2 j h0 hJ
  have hd := TV_ge (hD (bh j))
  have hi := TV_ge (hI (dr j))
  unfold wrkV
  refine lq_inTa hB.1.2 (by omega) (lq_mx (by omega) (by split <;> omega) (li _) ?_)
  split
  · exact Or.inr rfl
  · exact hl _
theorem lq_wrkF (hB : CapB M P J wk wt dr tk bh) : ∀ (n : Nat) (j : Int) (I I1 D D1 : Int → Int), 0 ≤ j → j + (n : Int) ≤ J → TVF I → TVF D → lqF I I1 → lqF D D1 → lqF (wrkF M dr tk bh n j I D) (wrkF M dr tk bh n j I1 D1) := by
  intro n
  induction n with
  | zero => intro j I I1 D D1 h0 hJ hI hD li hl; exact hl
  | succ n ih =>
    intro j I I1 D D1 h0 hJ hI hD li hl
    have hv := lq_wrkV hB hI hD li hl h0 (by omega)
    have hV := TV_wrkV hB hI hD h0 (by omega : j < J)
    rw [wrkF, wrkF]
    exact ih _ _ _ _ _ (by omega) (by omega) (TV_uA hI hV) (TV_uA hD hV) (lq_uA li hv) (lq_uA hl hv)
theorem rouF_out : ∀ (L : List Int) (ab : Int) (U : Int → Int) (p : Int), ¬ p ∈ L → rouF M sh wk wt D L ab U p = U p := by
  intro L
  induction L with
  | nil => intro ab U p _; rfl
  | cons q L ih =>
    intro ab U p hp
    rw [List.mem_cons] at hp
    rw [rouF, ih _ _ _ (fun z => hp (Or.inr z))]
    exact if_neg (fun z => hp (Or.inl z))
theorem rouF_at (hn : ¬ p ∈ L) : rouF M sh wk wt D (p :: L) ab U p = rouV M sh wk wt D ab p := by
  rw [rouF, rouF_out _ _ _ _ hn]
  exact if_pos rfl
theorem rouF_in : ∀ (L : List Int) (ab : Int) (U U1 : Int → Int) (p : Int), p ∈ L → rouF M sh wk wt D L ab U p = rouF M sh wk wt D L ab U1 p := by
  intro L
  induction L with
  | nil => intro ab U U1 p hp; exact absurd hp List.not_mem_nil
  | cons q L ih =>
    intro ab U U1 p hp
    rw [rouF, rouF]
    by_cases e : p ∈ L
    · exact ih _ _ _ _ e
    · rw [rouF_out _ _ _ _ e, rouF_out _ _ _ _ e]
      have e2 : p = q := (List.mem_cons.mp hp).resolve_right e
      rw [e2]
      unfold uA
      rw [if_pos rfl, if_pos rfl]
theorem wrkF_out : ∀ (n : Nat) (j : Int) (I D : Int → Int) (k : Int), (k < j ∨ j + (n : Int) ≤ k) → wrkF M dr tk bh n j I D k = D k := by
  intro n
  induction n with
  | zero => intro j I D k _; rfl
  | succ n ih =>
    intro j I D k hk
    rw [wrkF, ih _ _ _ _ (by omega)]
    exact if_neg (by omega)
theorem wrkF_at {n : Nat} : wrkF M dr tk bh (n + 1) j I D j = wrkV M dr tk bh I D j := by
  rw [wrkF, wrkF_out _ _ _ _ _ (by omega)]
  exact if_pos rfl
theorem wrkN_c : ∀ (n : Nat) (j : Int) (I D : Int → Int) (c : Int), wrkN M dr tk bh n j I D c = c + cL (wrkF M dr tk bh n j I D) (jl n j) := by
  intro n
  induction n with
  | zero => intro j I D c; simp [wrkN, cL, jl]
  | succ n ih =>
    intro j I D c
    rw [jl, cL, wrkF_at, wrkN, wrkF, ih]
    split <;> omega
theorem rouC_1 : ∀ (L : List Int) (ab : Int) (U : Int → Int), rouC M sh wk wt D L ab U 1 = 1 := by
  intro L
  induction L with
  | nil => intro ab U; rfl
  | cons p L ih =>
    intro ab U
    rw [rouC, if_neg (show ¬ ((1 : Int) = 0 ∧ rouV M sh wk wt D ab p = U p) from fun z => absurd z.1 (by omega))]
    exact ih _ _
theorem rouC_0 : ∀ (L : List Int) (ab : Int) (U : Int → Int), rouC M sh wk wt D L ab U 0 = 0 → rouF M sh wk wt D L ab U = U := by
  intro L
  induction L with
  | nil => intro ab U _; rfl
  | cons p L ih =>
    intro ab U hc
    rw [rouC] at hc
    by_cases e : rouV M sh wk wt D ab p = U p
    · rw [if_pos (show (0 : Int) = 0 ∧ rouV M sh wk wt D ab p = U p from ⟨rfl, e⟩)] at hc
      rw [rouF, ih _ _ hc, e]
      exact uA_self
    · rw [if_neg (show ¬ ((0 : Int) = 0 ∧ rouV M sh wk wt D ab p = U p) from fun z => e z.2), rouC_1] at hc
      exact absurd hc (by omega)
theorem rouC_fx : ∀ (L : List Int) (ab : Int) (U : Int → Int), L.Nodup → (∀ p ∈ L, rouF M sh wk wt D L ab U p = U p) → rouC M sh wk wt D L ab U 0 = 0 := by
  intro L
  induction L with
  | nil => intro ab U _ _; rfl
  | cons p L ih =>
    intro ab U hn he
    obtain ⟨h1, h2⟩ := List.nodup_cons.mp hn
    have e : rouV M sh wk wt D ab p = U p := by
      rw [← rouF_at (U := U) h1]
      exact he p List.mem_cons_self
    rw [rouC, if_pos (show (0 : Int) = 0 ∧ rouV M sh wk wt D ab p = U p from ⟨rfl, e⟩)]
    refine ih _ _ h2 (fun q hq => ?_)
    have h3 := he q (List.mem_cons_of_mem _ hq)
    rw [rouF] at h3
    rw [h3, e, uA_self]
theorem wrkC_1 : ∀ (n : Nat) (j : Int) (I D : Int → Int), wrkC M dr tk bh n j I D 1 = 1 := by
  intro n
  induction n with
  | zero => intro j I D; rfl
  | succ n ih =>
    intro j I D
    rw [wrkC, if_neg (show ¬ ((1 : Int) = 0 ∧ wrkV M dr tk bh I D j = D j) from fun z => absurd z.1 (by omega))]
    exact ih _ _ _
theorem wrkC_0 : ∀ (n : Nat) (j : Int) (I D : Int → Int), wrkC M dr tk bh n j I D 0 = 0 → wrkF M dr tk bh n j I D = D := by
  intro n
  induction n with
  | zero => intro j I D _; rfl
  | succ n ih =>
    intro j I D hc
    rw [wrkC] at hc
    by_cases e : wrkV M dr tk bh I D j = D j
    · rw [if_pos (show (0 : Int) = 0 ∧ wrkV M dr tk bh I D j = D j from ⟨rfl, e⟩)] at hc
      rw [wrkF, ih _ _ _ hc, e]
      exact uA_self
    · rw [if_neg (show ¬ ((0 : Int) = 0 ∧ wrkV M dr tk bh I D j = D j) from fun z => e z.2), wrkC_1] at hc
      exact absurd hc (by omega)
theorem wrkC_fx : ∀ (n : Nat) (j : Int) (I D : Int → Int), (∀ k, j ≤ k → k < j + (n : Int) → wrkF M dr tk bh n j I D k = D k) → wrkC M dr tk bh n j I D 0 = 0 := by
  intro n
  induction n with
  | zero => intro j I D _; rfl
  | succ n ih =>
    intro j I D he
    have e : wrkV M dr tk bh I D j = D j := by
      rw [← wrkF_at (n := n)]
      exact he j (by omega) (by omega)
    rw [wrkC, if_pos (show (0 : Int) = 0 ∧ wrkV M dr tk bh I D j = D j from ⟨rfl, e⟩)]
    refine ih _ _ _ (fun q h1 h2 => ?_)
    have h3 := he q (by omega) (by omega)
    rw [wrkF] at h3
    rw [h3, e, uA_self]
theorem rouC_01 : ∀ (L : List Int) (ab : Int) (U : Int → Int) (b : Int), (b = 0 ∨ b = 1) → (rouC M sh wk wt D L ab U b = 0 ∨ rouC M sh wk wt D L ab U b = 1) := by
  intro L
  induction L with
  | nil => intro ab U b h; exact h
  | cons p L ih =>
    intro ab U b h
    rw [rouC]
    exact ih _ _ _ (by split <;> omega)
theorem wrkC_01 : ∀ (n : Nat) (j : Int) (I D : Int → Int) (b : Int), (b = 0 ∨ b = 1) → (wrkC M dr tk bh n j I D b = 0 ∨ wrkC M dr tk bh n j I D b = 1) := by
  intro n
  induction n with
  | zero => intro j I D b h; exact h
  | succ n ih =>
    intro j I D b h
    rw [wrkC]
    exact ih _ _ _ _ (by split <;> omega)
end
/-- one round -/
def rnd (M J sh : Int) (wk wt dr tk bh : Int → Int) (L : List Int) (x : (Int → Int) × (Int → Int)) : (Int → Int) × (Int → Int) := (rouF M sh wk wt x.2 L 0 x.1, wrkF M dr tk bh J.toNat 0 (rouF M sh wk wt x.2 L 0 x.1) x.2)
def rnds (M J sh : Int) (wk wt dr tk bh : Int → Int) (L : List Int) : Nat → (Int → Int) × (Int → Int)
  | 0 => (nvF, nvF)
  | n + 1 => rnd M J sh wk wt dr tk bh L (rnds M J sh wk wt dr tk bh L n)
section
variable {wk wt dr tk bh : Int → Int} {M P J sh : Int} {L : List Int}
theorem rnds_i (hB : CapB M P J wk wt dr tk bh) (hL : ∀ x ∈ L, 0 ≤ x ∧ x < P) : ∀ n : Nat, TVF (rnds M J sh wk wt dr tk bh L n).1 ∧ TVF (rnds M J sh wk wt dr tk bh L n).2 ∧ (∀ p, ¬ p ∈ L → (rnds M J sh wk wt dr tk bh L n).1 p = 1000000) ∧ ∀ j, (j < 0 ∨ J ≤ j) → (rnds M J sh wk wt dr tk bh L n).2 j = 1000000 := by
  intro n
  have hJ := hB.2.2.1
  induction n with
  | zero => exact ⟨fun _ => Or.inr rfl, fun _ => Or.inr rfl, fun _ _ => rfl, fun _ _ => rfl⟩
  | succ n ih =>
    obtain ⟨a1, a2, a3, a4⟩ := ih
    have b1 := TVF_rouF (sh := sh) hB a2 L 0 _ hL (Or.inl ⟨by omega, by omega⟩) a1
    refine ⟨b1, TVF_wrkF hB _ _ _ _ (Int.le_refl _) (by omega) b1 a2, fun p hp => ?_, fun j hj => ?_⟩
    · exact (rouF_out _ _ _ _ hp).trans (a3 p hp)
    · exact (wrkF_out _ _ _ _ _ (by omega)).trans (a4 j hj)
theorem rnds_l (hB : CapB M P J wk wt dr tk bh) (hL : ∀ x ∈ L, 0 ≤ x ∧ x < P) : ∀ n : Nat, lqF (rnds M J sh wk wt dr tk bh L n).1 (rnds M J sh wk wt dr tk bh L (n + 1)).1 ∧ lqF (rnds M J sh wk wt dr tk bh L n).2 (rnds M J sh wk wt dr tk bh L (n + 1)).2 := by
  intro n
  have hJ := hB.2.2.1
  induction n with
  | zero => exact ⟨fun _ => Or.inl rfl, fun _ => Or.inl rfl⟩
  | succ n ih =>
    obtain ⟨a1, a2, -, -⟩ := rnds_i (sh := sh) hB hL n
    obtain ⟨b1, -, -, -⟩ := rnds_i (sh := sh) hB hL (n + 1)
    have l1 := lq_rouF (sh := sh) hB a2 ih.2 L 0 0 _ _ hL (Or.inl ⟨by omega, by omega⟩) (Or.inr rfl) ih.1
    exact ⟨l1, lq_wrkF hB _ _ _ _ _ _ (Int.le_refl _) (by omega) b1 a2 l1 ih.2⟩
theorem rnds_eq (hB : CapB M P J wk wt dr tk bh) (hL : ∀ x ∈ L, 0 ≤ x ∧ x < P) {i : Nat} (h1 : ∀ p ∈ L, (rnds M J sh wk wt dr tk bh L (i + 1)).1 p = (rnds M J sh wk wt dr tk bh L i).1 p) (h2 : ∀ j ∈ jl J.toNat 0, (rnds M J sh wk wt dr tk bh L (i + 1)).2 j = (rnds M J sh wk wt dr tk bh L i).2 j) : rnds M J sh wk wt dr tk bh L (i + 1) = rnds M J sh wk wt dr tk bh L i := by
  have hJ := hB.2.2.1
  obtain ⟨-, -, a3, a4⟩ := rnds_i (sh := sh) hB hL i
  obtain ⟨-, -, b3, b4⟩ := rnds_i (sh := sh) hB hL (i + 1)
  refine Prod.ext ?_ ?_
  · funext p
    by_cases e : p ∈ L
    · exact h1 p e
    · exact (b3 p e).trans (a3 p e).symm
  · funext j
    by_cases e : j < 0 ∨ J ≤ j
    · exact (b4 j e).trans (a4 j e).symm
    · exact h2 j ((jl_mem _ _ _).mpr (by omega))
theorem rec_k (hB : CapB M P J wk wt dr tk bh) (hL : ∀ x ∈ L, 0 ≤ x ∧ x < P) : ∀ (n i : Nat) (kn : Int), kn = cL (rnds M J sh wk wt dr tk bh L i).2 (jl J.toNat 0) → 9 ≤ (n : Int) + kn → ∃ k, recF M J sh wk wt dr tk bh L n kn (rnds M J sh wk wt dr tk bh L i).1 (rnds M J sh wk wt dr tk bh L i).2 = rnds M J sh wk wt dr tk bh L k ∧ rnds M J sh wk wt dr tk bh L (k + 1) = rnds M J sh wk wt dr tk bh L k := by
  intro n
  have hJ := hB.2.2.1
  induction n with
  | zero =>
    intro i kn hk h9
    have c2 := cL_le (U := (rnds M J sh wk wt dr tk bh L i).2) (jl J.toNat 0)
    rw [jl_len] at c2
    omega
  | succ n ih =>
    intro i kn hk h9
    have e2 : wrkN M dr tk bh J.toNat 0 (rouF M sh wk wt (rnds M J sh wk wt dr tk bh L i).2 L 0 (rnds M J sh wk wt dr tk bh L i).1) (rnds M J sh wk wt dr tk bh L i).2 0 = cL (rnds M J sh wk wt dr tk bh L (i + 1)).2 (jl J.toNat 0) := by
      rw [wrkN_c, Int.zero_add]
      rfl
    have l := rnds_l (sh := sh) hB hL i
    have m2 := cL_mono l.2 (jl J.toNat 0)
    rw [recF, e2]
    split
    · rename_i hs
      refine ⟨i + 1, rfl, ?_⟩
      have h2 := cL_eq l.2 (jl J.toNat 0) (by omega)
      obtain ⟨-, -, -, a4⟩ := rnds_i (sh := sh) hB hL i
      obtain ⟨-, -, -, b4⟩ := rnds_i (sh := sh) hB hL (i + 1)
      have eD : (rnds M J sh wk wt dr tk bh L (i + 1)).2 = (rnds M J sh wk wt dr tk bh L i).2 := by
        funext j
        by_cases e : j < 0 ∨ J ≤ j
        · exact (b4 j e).trans (a4 j e).symm
        · exact h2 j ((jl_mem _ _ _).mpr (by omega))
      have eU : rouF M sh wk wt (rnds M J sh wk wt dr tk bh L (i + 1)).2 L 0 (rnds M J sh wk wt dr tk bh L (i + 1)).1 = (rnds M J sh wk wt dr tk bh L (i + 1)).1 := by
        funext p
        by_cases e : p ∈ L
        · rw [eD]
          exact rouF_in L 0 _ (rnds M J sh wk wt dr tk bh L i).1 p e
        · exact rouF_out _ _ _ _ e
      refine Prod.ext eU ?_
      show wrkF M dr tk bh J.toNat 0 (rouF M sh wk wt (rnds M J sh wk wt dr tk bh L (i + 1)).2 L 0 (rnds M J sh wk wt dr tk bh L (i + 1)).1) (rnds M J sh wk wt dr tk bh L (i + 1)).2 = _
      rw [eU]
      exact congrArg (fun D => wrkF M dr tk bh J.toNat 0 (rnds M J sh wk wt dr tk bh L (i + 1)).1 D) eD
    · exact ih (i + 1) _ rfl (by omega)
theorem set_k (sh : Int) (hB : CapB M P J wk wt dr tk bh) (hL : ∀ x ∈ L, 0 ≤ x ∧ x < P) : ∃ k, rnds M J sh wk wt dr tk bh L k = (recU M J sh wk wt dr tk bh L, recD M J sh wk wt dr tk bh L) ∧ rnds M J sh wk wt dr tk bh L (k + 1) = rnds M J sh wk wt dr tk bh L k := by
  obtain ⟨k, h1, h2⟩ := rec_k (sh := sh) hB hL 9 0 0 (by show 0 = cL nvF _; rw [cL_nv]) (by omega)
  exact ⟨k, h1.symm, h2⟩
theorem rnds_fx {i k : Nat} (h : rnds M J sh wk wt dr tk bh L (i + 1) = rnds M J sh wk wt dr tk bh L i) (hk : i ≤ k) : rnds M J sh wk wt dr tk bh L k = rnds M J sh wk wt dr tk bh L i := by
  induction k with
  | zero => have : i = 0 := by omega
            rw [this]
  | succ k ih =>
    by_cases e : i = k + 1
    · rw [e]
    · have := ih (by omega)
      show rnd M J sh wk wt dr tk bh L (rnds M J sh wk wt dr tk bh L k) = _
      rw [this]
      exact h
end
