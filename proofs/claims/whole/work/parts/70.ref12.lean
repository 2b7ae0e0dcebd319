-- THE REFERENCE: free
theorem sub_iff {a b : Int} (ha : 0 ≤ a) (ha1 : a < 64) (hb : 0 ≤ b) (hb1 : b < 64) : zand a (zxor b (-1)) = 0 ↔ ∀ p, 0 ≤ p → p ≤ 5 → bt a p = 1 → bt b p = 1 := by
  have := (sub_tab a.toNat (by omega) b.toNat (by omega)).1
  rw [show ((a.toNat : Nat) : Int) = a by omega, show ((b.toNat : Nat) : Int) = b by omega] at this
  rw [this]
  constructor
  · intro h p p0 p5 q
    have := h p.toNat (by omega)
    rw [show ((p.toNat : Nat) : Int) = p by omega] at this
    exact this q
  · intro h p p6 q
    exact h _ (by omega) (by omega) q
theorem sub_lt {a b : Int} (ha : 0 ≤ a) (ha1 : a < 64) (hb : 0 ≤ b) (hb1 : b < 64) (h : zand a (zxor b (-1)) = 0) : a = b ∨ a < b ∧ bcF a < bcF b := by
  have := (sub_tab a.toNat (by omega) b.toNat (by omega)).2
  rw [show ((a.toNat : Nat) : Int) = a by omega, show ((b.toNat : Nat) : Int) = b by omega] at this
  rw [bc_pop ha ha1, bc_pop hb hb1]
  have := this h
  omega
theorem dj_iff {a b : Int} (ha : 0 ≤ a) (ha1 : a < 64) (hb : 0 ≤ b) (hb1 : b < 64) : zand a b = 0 ↔ ∀ p, 0 ≤ p → p ≤ 5 → bt a p = 1 → ¬ bt b p = 1 := by
  have := dj_tab a.toNat (by omega) b.toNat (by omega)
  rw [show ((a.toNat : Nat) : Int) = a by omega, show ((b.toNat : Nat) : Int) = b by omega] at this
  rw [this]
  constructor
  · intro h p p0 p5 q
    have := h p.toNat (by omega)
    rw [show ((p.toNat : Nat) : Int) = p by omega] at this
    exact this q
  · intro h p p6 q
    exact h _ (by omega) (by omega) q
theorem pow_b {P : Int} (hP : 0 ≤ P ∧ P ≤ 6) : 0 < zshl 1 P ∧ zshl 1 P ≤ 64 := by
  have := pow_tab P.toNat (by omega)
  rwa [show ((P.toNat : Nat) : Int) = P by omega] at this
/-- bits above P: none -/
theorem hi_b {x k P : Int} (hP : 0 ≤ P ∧ P ≤ 6) (h0 : 0 ≤ x) (h1 : x < zshl 1 P) (hk : P ≤ k) (hk5 : k ≤ 5) : ¬ bt x k = 1 := hi_bit (J := P) (by omega) h0 (by omega) hk (by omega)
theorem dj_sub {s P : Int} {L : List Int} (hP : 0 ≤ P ∧ P ≤ 6) (hL : Prs P L) (h0 : 0 ≤ s) (h1 : s < zshl 1 P) : zand s (disF P L) = 0 ↔ zand s (zxor (memF L 0) (-1)) = 0 := by
  have hL6 : ∀ x ∈ L, 0 ≤ x ∧ x ≤ 5 := fun x hx => by have := hL x hx; omega
  have hb := memF_b L 0 hL6 (by omega) (by omega)
  have hd := dis_b hP hL6
  have hp := pow_b hP
  rw [dj_iff h0 (by omega) hd.1 hd.2, sub_iff h0 (by omega) hb.1 hb.2]
  constructor
  · intro h p p0 p5 q
    rw [memF_bit0 p0 p5 hL6]
    have h2 := h p p0 p5 q
    rw [dis_bit hP hL6 p0 p5] at h2
    refine Classical.byContradiction (fun z => ?_)
    by_cases e : p < P
    · exact h2 ⟨e, z⟩
    · exact hi_b hP h0 h1 (by omega) p5 q
  · intro h p p0 p5 q
    rw [dis_bit hP hL6 p0 p5]
    have h2 := h p p0 p5 q
    rw [memF_bit0 p0 p5 hL6] at h2
    exact fun z => z.2 h2
/-- FREE, as the reference seeks it -/
def rfF (M J sh : Int) (wk wt dr tk bh : Int → Int) (L : List Int) (dis : Int) : Nat → Int → Int → Int
  | 0, _, fo => fo
  | n + 1, set, fo => rfF M J sh wk wt dr tk bh L dis n (set + 1) (if (zand set dis = 0 ∧ (fo < 0 ∨ bcF set < bcF fo)) ∧ nsF M J sh wk wt dr tk bh (woF set P6 L) = 0 then set else fo)
theorem wo_mem {set x : Int} : ∀ (S T : List Int), T.Nodup → (x ∈ woF set S T ↔ x ∈ T ∧ ¬ (x ∈ S ∧ bt set x = 1)) ∧ (woF set S T).Nodup := by
  intro S
  induction S with
  | nil => intro T h; exact ⟨⟨fun q => ⟨q, fun z => by cases z.1⟩, fun q => q.1⟩, h⟩
  | cons p S ih =>
    intro T h
    rw [woF]
    by_cases e : zand (zshr set p) 1 = 1
    · rw [if_pos e]
      obtain ⟨i1, i2⟩ := ih (outL T p) (out_nd h)
      refine ⟨?_, i2⟩
      rw [i1, out_mem h, List.mem_cons]
      constructor
      · rintro ⟨⟨a, b⟩, c⟩
        exact ⟨b, fun z => z.1.elim a (fun q => c ⟨q, z.2⟩)⟩
      · rintro ⟨a, b⟩
        refine ⟨⟨fun q => b ⟨Or.inl q, ?_⟩, a⟩, fun q => b ⟨Or.inr q.1, q.2⟩⟩
        rw [q]; exact e
    · rw [if_neg e]
      obtain ⟨i1, i2⟩ := ih T h
      refine ⟨?_, i2⟩
      rw [i1, List.mem_cons]
      constructor
      · rintro ⟨a, b⟩
        exact ⟨a, fun z => z.1.elim (fun q => e (by rw [← q]; exact z.2)) (fun q => b ⟨q, z.2⟩)⟩
      · rintro ⟨a, b⟩
        exact ⟨a, fun q => b ⟨Or.inr q.1, q.2⟩⟩
theorem wo_app {set : Int} : ∀ (A B T : List Int), woF set (A ++ B) T = woF set B (woF set A T) := by
  intro A
  induction A with
  | nil => intro B T; rfl
  | cons a A ih => intro B T; rw [List.cons_append, woF, woF, ih]
theorem wo_no {set : Int} : ∀ (B T : List Int), (∀ x ∈ B, ¬ bt set x = 1) → woF set B T = T := by
  intro B
  induction B with
  | nil => intro T _; rfl
  | cons b B ih =>
    intro T h
    rw [woF, if_neg (show ¬ zand (zshr set b) 1 = 1 from h b List.mem_cons_self)]
    exact ih T (fun x hx => h x (List.mem_cons_of_mem _ hx))
theorem wo_jl {P s : Int} {T : List Int} (hP : 0 ≤ P ∧ P ≤ 6) (h0 : 0 ≤ s) (h1 : s < zshl 1 P) : woF s P6 T = woF s (jl P.toNat 0) T := by
  rw [P6_jl P.toNat (by omega), wo_app, wo_no (jl (6 - P.toNat) _) _ (fun x hx => ?_)]
  have := (jl_mem _ _ _).mp hx
  exact hi_b hP h0 h1 (by omega) (by omega)
section
variable {wk wt dr tk bh : Int → Int} {M P J sh : Int} {L : List Int}
theorem wo_all {U : Int → Int} (hL : ∀ x ∈ L, 0 ≤ x ∧ x ≤ 5) (hn : L.Nodup) : woF (memF L 0) P6 L = [] := by
  have : ∀ x, ¬ x ∈ woF (memF L 0) P6 L := fun x hx => by
    have h := ((wo_mem (x := x) P6 L hn).1).mp hx
    have hl := hL x h.1
    exact h.2 ⟨P6_mem.mpr hl, (memF_bit0 hl.1 hl.2 hL).mpr h.1⟩
  exact List.eq_nil_iff_forall_not_mem.mpr this
theorem rfF_hi (hP : 0 ≤ P ∧ P ≤ 6) (hL : Prs P L) : ∀ (n : Nat) (set fo : Int), set + (n : Int) = zshl 1 P → memF L 0 < set → rfF M J sh wk wt dr tk bh L (disF P L) n set fo = fo := by
  have hL6 : ∀ x ∈ L, 0 ≤ x ∧ x ≤ 5 := fun x hx => by have := hL x hx; omega
  have hb := memF_b L 0 hL6 (by omega) (by omega)
  have hp := pow_b hP
  intro n
  induction n with
  | zero => intro set fo _ _; rfl
  | succ n ih =>
    intro set fo hs hm
    have hz : ¬ zand set (disF P L) = 0 := fun q => by
      have := sub_lt (by omega) (by omega) hb.1 hb.2 ((dj_sub hP hL (by omega) (by omega)).mp q)
      omega
    rw [rfF, if_neg (fun q => hz q.1.1)]
    exact ih _ _ (by omega) (by omega)
theorem rfF_fr (hP : 0 ≤ P ∧ P ≤ 6) (hL : Prs P L) (hn : L.Nodup) (hm2 : memF L 0 < zshl 1 P) : ∀ (n : Nat) (set fo best : Int), set + (n : Int) = zshl 1 P → 0 ≤ set → set ≤ memF L 0 → ((fo = -1 ∧ best = memF L 0) ∨ (fo = best ∧ 0 ≤ best ∧ best < memF L 0 ∧ zand best (zxor (memF L 0) (-1)) = 0)) → rfF M J sh wk wt dr tk bh L (disF P L) n set fo = frF M J sh wk wt dr tk bh L (memF L 0) (memF L 0 - set).toNat set best := by
  have hL6 : ∀ x ∈ L, 0 ≤ x ∧ x ≤ 5 := fun x hx => by have := hL x hx; omega
  have hb := memF_b L 0 hL6 (by omega) (by omega)
  have hp := pow_b hP
  intro n
  induction n with
  | zero => intro set fo best hs h0 hm _; omega
  | succ n ih =>
    intro set fo best hs h0 hm hr
    have hz := dj_sub (s := set) hP hL h0 (by omega)
    rw [rfF]
    by_cases e : set = memF L 0
    · rw [show (memF L 0 - set).toNat = 0 by omega, frF, rfF_hi hP hL n (set + 1) _ (by omega) (by omega)]
      have hns : nsF M J sh wk wt dr tk bh (woF set P6 L) = 0 := by
        rw [e, wo_all (U := nvF) hL6 hn]
        rfl
      have hself : zand set (zxor (memF L 0) (-1)) = 0 := by
        rw [e]
        exact (sub_iff hb.1 hb.2 hb.1 hb.2).mpr (fun _ _ _ q => q)
      rcases hr with ⟨r1, r2⟩ | ⟨r1, r2, r3, r4⟩
      · rw [if_pos ⟨⟨hz.mpr hself, Or.inl (by omega)⟩, hns⟩, r2, e]
      · have hlt := (sub_lt r2 (by omega) hb.1 hb.2 r4).resolve_left (by omega)
        rw [if_neg (fun q => ?_), r1]
        rcases q.1.2 with q2 | q2
        · omega
        · rw [r1, e] at q2; omega
    · rw [show (memF L 0 - set).toNat = (memF L 0 - (set + 1)).toNat + 1 by omega, frF]
      by_cases c : bcF set < bcF best ∧ zand set (zxor (memF L 0) (-1)) = 0 ∧ nsF M J sh wk wt dr tk bh (woF set P6 L) = 0
      · have hor : fo < 0 ∨ bcF set < bcF fo := by
          rcases hr with ⟨r1, r2⟩ | ⟨r1, r2, r3, r4⟩
          · exact Or.inl (by omega)
          · right; rw [r1]; exact c.1
        rw [if_pos c, if_pos ⟨⟨hz.mpr c.2.1, hor⟩, c.2.2⟩]
        exact ih _ _ _ (by omega) (by omega) (by omega) (Or.inr ⟨rfl, h0, by omega, c.2.1⟩)
      · rw [if_neg c, if_neg (fun q => c ⟨?_, hz.mp q.1.1, q.2⟩)]
        · exact ih _ _ _ (by omega) (by omega) (by omega) hr
        · rcases hr with ⟨r1, r2⟩ | ⟨r1, r2, r3, r4⟩
          · rw [r2]
            exact ((sub_lt h0 (by omega) hb.1 hb.2 (hz.mp q.1.1)).resolve_left e).2
          · rcases q.1.2 with q2 | q2
            · omega
            · rw [r1] at q2; exact q2
theorem mem_pow (hP : 0 ≤ P ∧ P ≤ 6) (hL : Prs P L) : memF L 0 < zshl 1 P := by
  have hL6 : ∀ x ∈ L, 0 ≤ x ∧ x ≤ 5 := fun x hx => by have := hL x hx; omega
  have hb := memF_b L 0 hL6 (by omega) (by omega)
  have hp := pow_b hP
  -- the set of all that there are
  have hall : ∀ p, 0 ≤ p → p ≤ 5 → (bt (zshl 1 P - 1) p = 1 ↔ p < P) := fun p p0 p5 => by
    constructor
    · intro q
      refine Classical.byContradiction (fun z => ?_)
      exact hi_b hP (by omega) (by omega) (by omega) p5 q
    · intro q
      have := (eye_tab P.toNat (by omega) p.toNat (by omega)).1
      rwa [show ((P.toNat : Nat) : Int) = P by omega, show ((p.toNat : Nat) : Int) = p by omega] at this
  have := sub_lt hb.1 hb.2 (by omega : 0 ≤ zshl 1 P - 1) (by omega) ((sub_iff hb.1 hb.2 (by omega) (by omega)).mpr (fun p p0 p5 q => (hall p p0 p5).mpr (hL p ((memF_bit0 p0 p5 hL6).mp q)).2))
  omega
theorem frF_b {mem : Int} : ∀ (n : Nat) (set best : Int), 0 ≤ set → set + (n : Int) ≤ 64 → 0 ≤ best → best < 64 → 0 ≤ frF M J sh wk wt dr tk bh L mem n set best ∧ frF M J sh wk wt dr tk bh L mem n set best < 64 := by
  intro n
  induction n with
  | zero => intro set best _ _ h0 h1; exact ⟨h0, h1⟩
  | succ n ih =>
    intro set best hs hs2 h0 h1
    rw [frF]
    split
    · exact ih _ _ (by omega) (by omega) (by omega) (by omega)
    · exact ih _ _ (by omega) (by omega) (by omega) (by omega)
end
/-- how many are in a set -/
def bitF (x : Int) : Nat → Int → Int → Int
  | 0, _, s => s
  | n + 1, k, s => bitF x n (k + 1) (s + zand (zshr x k) 1)
theorem bit_tab : ∀ x : Nat, x < 64 → bitF (x : Int) 8 0 0 = bcF (x : Int) := by decide +kernel
section
variable {d : Nat} {h : LHeap} {Q : Option Value → LHeap → Prop} {x : Int}
theorem l_bits : ∀ (n : Nat) (k s : Int), (n : Int) = 8 - k → 0 ≤ k → Q (some (vI (bitF x n k s))) h → WPC d 112 5 [some (vI x), some (vI s), some (vI k)] [] h Q := by
  intro n
  induction n with
  | zero =>
    intro k s hn hk kk
    rw [WPC_iff]
    simp (disch := omega) only [wr_id, wr_m1, sd_t, nl_I, nl_R, nl_none, c1_I, c1_R, sh_0, sh_1, sh_2, sh_3, sh_4, true_and, and_true, ldA_A, ldB_B, ldS_S, stA_A, stB_B, aL_A, aL_B, aL_S, aC_A, hRd_eq, hRd_ne, cp6, cp8, tl_some, tl_none, List.cons_append, List.nil_append, ofI_t0, ofI_t1, Int.add_zero, Int.zero_add, x112_5, x112_6, x112_7, x112_18, x112_19]
    exact ⟨fun _ => kk, fun q => by first | omega | exact absurd rfl q | exact absurd trivial q | exact absurd q (by omega)⟩
  | succ n ih =>
    intro k s hn hk kk
    rw [bitF] at kk
    rw [WPC_iff]
    simp (disch := omega) only [wr_id, wr_m1, sd_t, nl_I, nl_R, nl_none, c1_I, c1_R, sh_0, sh_1, sh_2, sh_3, sh_4, true_and, and_true, ldA_A, ldB_B, ldS_S, stA_A, stB_B, aL_A, aL_B, aL_S, aC_A, hRd_eq, hRd_ne, cp6, cp8, tl_some, tl_none, List.cons_append, List.nil_append, ofI_t0, ofI_t1, Int.add_zero, Int.zero_add, x112_4, x112_5, x112_6, x112_7, x112_8, x112_9, x112_10, x112_11, x112_12, x112_13, x112_14, x112_15, x112_16, x112_17]
    exact ⟨fun q => by first | omega | exact absurd rfl q | exact absurd trivial q | exact absurd q (by omega), fun _ => ih (k + 1) _ (by omega) (by omega) kk⟩
theorem m_bits (hd : 1 ≤ d) (h0 : 0 ≤ x) (h1 : x < 64) (kk : Q (some (vI (bcF x))) h) : CALL d 112 [vI x] h Q := by
  refine cl112 (by omega) ?_
  simp (disch := omega) only [wr_id, wr_m1, sd_t, nl_I, nl_R, nl_none, c1_I, c1_R, sh_0, sh_1, sh_2, sh_3, sh_4, true_and, and_true, ldA_A, ldB_B, ldS_S, stA_A, stB_B, aL_A, aL_B, aL_S, aC_A, hRd_eq, hRd_ne, cp6, cp8, tl_some, tl_none, List.cons_append, List.nil_append, ofI_t0, ofI_t1, Int.add_zero, Int.zero_add, x112_0, x112_1, x112_2, x112_3, x112_4]
  refine l_bits 8 0 0 (by omega) (by omega) ?_
  have := bit_tab x.toNat (by omega)
  rw [show ((x.toNat : Nat) : Int) = x by omega] at this
  rw [this]
  exact kk
end
