-- sets of who is dismissed; lists
theorem chk_set {s : Int} (h0 : 0 ≤ s) (h1 : s < 64) : chk 720 (lineL s P6) = true := by
  have := chk_tab s.toNat (by omega)
  rwa [show ((s.toNat : Nat) : Int) = s by omega] at this
theorem chk_s {n : Nat} {L : List Int} (h : chk (n + 1) L = true) : L.Nodup ∧ ∀ L1, nxtL L = some L1 → chk n L1 = true := by
  rw [chk, Bool.and_eq_true] at h
  refine ⟨of_decide_eq_true h.1, fun L1 e => ?_⟩
  have h2 := h.2
  rw [e] at h2
  exact h2
theorem line_nd {s : Int} (h0 : 0 ≤ s) (h1 : s < 64) : (lineL s P6).Nodup := (chk_s (n := 719) (chk_set h0 h1)).1
theorem line_len {L : List Int} (hL : ∀ x ∈ L, 0 ≤ x ∧ x ≤ 5) (hn : L.Nodup) : (lineL (memF L 0) P6).length = L.length := by
  have hb := memF_b L 0 hL (by omega) (by omega)
  refine Nat.le_antisymm ?_ ?_
  · exact List.Nodup.length_le_of_subset (line_nd hb.1 hb.2) (fun x hx => (line_mem hL).mp hx)
  · exact List.Nodup.length_le_of_subset hn (fun x hx => (line_mem hL).mpr hx)
def smB (a : Int) : Int := (if bt a 0 = 1 then 1 else 0) + (if bt a 1 = 1 then 2 else 0) + (if bt a 2 = 1 then 4 else 0) + (if bt a 3 = 1 then 8 else 0) + (if bt a 4 = 1 then 16 else 0) + (if bt a 5 = 1 then 32 else 0)
theorem bt_sum : ∀ a : Nat, a < 64 → (a : Int) = smB (a : Int) := by decide +kernel
theorem bt_sm {a : Int} (ha : 0 ≤ a) (ha1 : a < 64) : a = smB a := by
  have e1 := bt_sum a.toNat (by omega)
  rwa [show ((a.toNat : Nat) : Int) = a by omega] at e1
theorem bt_ext {a b : Int} (ha : 0 ≤ a) (ha1 : a < 64) (hb : 0 ≤ b) (hb1 : b < 64) (h : ∀ p, 0 ≤ p → p ≤ 5 → (bt a p = 1 ↔ bt b p = 1)) : a = b := by
  have k : ∀ p c : Int, 0 ≤ p → p ≤ 5 → (if bt a p = 1 then c else 0) = (if bt b p = 1 then c else 0) := fun p c h0 h5 => by
    by_cases q : bt a p = 1
    · rw [if_pos q, if_pos ((h p h0 h5).mp q)]
    · rw [if_neg q, if_neg (fun z => q ((h p h0 h5).mpr z))]
  refine (bt_sm ha ha1).trans (Eq.trans ?_ (bt_sm hb hb1).symm)
  unfold smB
  rw [k 0 1 (by omega) (by omega), k 1 2 (by omega) (by omega), k 2 4 (by omega) (by omega), k 3 8 (by omega) (by omega), k 4 16 (by omega) (by omega), k 5 32 (by omega) (by omega)]
theorem dis_tab : ∀ P : Nat, P ≤ 6 → ∀ m : Nat, m < 64 → 0 ≤ zand (zshl 1 (P : Int) - 1) (zxor (m : Int) (-1)) ∧ zand (zshl 1 (P : Int) - 1) (zxor (m : Int) (-1)) < 64 ∧ ∀ q : Nat, q < 6 → (bt (zand (zshl 1 (P : Int) - 1) (zxor (m : Int) (-1))) (q : Int) = 1 ↔ q < P ∧ ¬ bt (m : Int) (q : Int) = 1) := by decide +kernel
theorem dis_b {P : Int} {L : List Int} (hP : 0 ≤ P ∧ P ≤ 6) (hL : ∀ x ∈ L, 0 ≤ x ∧ x ≤ 5) : 0 ≤ disF P L ∧ disF P L < 64 := by
  have hb := memF_b L 0 hL (by omega) (by omega)
  have := dis_tab P.toNat (by omega) (memF L 0).toNat (by omega)
  rw [show ((P.toNat : Nat) : Int) = P by omega, show (((memF L 0).toNat : Nat) : Int) = memF L 0 by omega] at this
  exact ⟨this.1, this.2.1⟩
theorem dis_bit {P q : Int} {L : List Int} (hP : 0 ≤ P ∧ P ≤ 6) (hL : ∀ x ∈ L, 0 ≤ x ∧ x ≤ 5) (h0 : 0 ≤ q) (h5 : q ≤ 5) : bt (disF P L) q = 1 ↔ q < P ∧ ¬ q ∈ L := by
  have hb := memF_b L 0 hL (by omega) (by omega)
  have := (dis_tab P.toNat (by omega) (memF L 0).toNat (by omega)).2.2 q.toNat (by omega)
  rw [show ((P.toNat : Nat) : Int) = P by omega, show (((memF L 0).toNat : Nat) : Int) = memF L 0 by omega, show ((q.toNat : Nat) : Int) = q by omega, memF_bit0 h0 h5 hL] at this
  have e : disF P L = zand (zshl 1 P - 1) (zxor (memF L 0) (-1)) := rfl
  rw [e, this]
  constructor <;> rintro ⟨a, b⟩ <;> exact ⟨by omega, b⟩
theorem pfrom_sh {p : Int} : ∀ (L : List Int) (i : Int), 0 ≤ i → pfrom L p i = if pfrom L p 0 = -1 then -1 else pfrom L p 0 + i := by
  intro L
  induction L with
  | nil => intro i _; rfl
  | cons a L ih =>
    intro i hi
    rw [pfrom, pfrom]
    by_cases e : a = p
    · rw [if_pos e, if_pos e, if_neg (by omega)]; omega
    · rw [if_neg e, if_neg e, ih (i + 1) (by omega), ih (0 + 1) (by omega)]
      have := pfrom_ge L p 0 (by omega)
      by_cases q : pfrom L p 0 = -1
      · rw [if_pos q, if_pos q, if_pos rfl]
      · rw [if_neg q, if_neg q, if_neg (by omega)]; omega
theorem pfrom_iff {L : List Int} {p : Int} : pfrom L p 0 = -1 ↔ ¬ p ∈ L := ⟨fun h => by
  intro hm
  induction L with
  | nil => cases hm
  | cons a L ih =>
    rw [pfrom] at h
    by_cases e : a = p
    · rw [if_pos e] at h; omega
    · rw [if_neg e, pfrom_sh L _ (by omega)] at h
      have := pfrom_ge L p 0 (by omega)
      by_cases q : pfrom L p 0 = -1
      · rcases List.mem_cons.mp hm with h1 | h1
        · exact e h1.symm
        · exact ih q h1
      · rw [if_neg q] at h; omega, fun h => pfrom_nm L 0 h⟩
theorem out_erase {p : Int} : ∀ L : List Int, outL L p = L.erase p := by
  intro L
  unfold outL
  by_cases q : pfrom L p 0 = -1
  · rw [if_pos q, List.erase_of_not_mem (pfrom_iff.mp q)]
  · rw [if_neg q]
    unfold delL
    induction L with
    | nil => exact absurd rfl q
    | cons a L ih =>
      by_cases e : a = p
      · have e0 : pfrom (a :: L) p 0 = 0 := by rw [pfrom, if_pos e]
        rw [e0, e]
        simp
      · have hg := pfrom_ge L p 0 (by omega)
        have e0 : pfrom (a :: L) p 0 = if pfrom L p 0 = -1 then -1 else pfrom L p 0 + 1 := by rw [pfrom, if_neg e, pfrom_sh L _ (by omega)]; rfl
        by_cases q2 : pfrom L p 0 = -1
        · rw [if_pos q2] at e0; exact absurd e0 q
        · rw [if_neg q2] at e0
          rw [e0, show (pfrom L p 0 + 1).toNat = (pfrom L p 0).toNat + 1 by omega, List.eraseIdx_cons_succ, ih q2, List.erase_cons_tail (by simpa using e)]
theorem out_mem {L : List Int} {p x : Int} (hn : L.Nodup) : x ∈ outL L p ↔ x ≠ p ∧ x ∈ L := by
  rw [out_erase]
  exact hn.mem_erase_iff
theorem out_nd {L : List Int} {p : Int} (hn : L.Nodup) : (outL L p).Nodup := by
  rw [out_erase]
  exact hn.erase p
theorem out_len {L : List Int} {p : Int} (hp : p ∈ L) : (outL L p).length + 1 = L.length := by
  rw [out_erase, List.length_erase_of_mem hp]
  have := List.length_pos_of_mem hp
  omega
theorem ins_nd {L : List Int} {pl p : Int} (hn : L.Nodup) (hp : ¬ p ∈ L) : (insL L pl p).Nodup := by
  unfold insL
  have h1 : (p :: (L.take pl.toNat ++ L.drop pl.toNat)).Nodup := by
    rw [List.take_append_drop]
    exact List.nodup_cons.mpr ⟨hp, hn⟩
  exact (List.perm_middle.nodup_iff).mpr h1
theorem ins_len {L : List Int} {pl p : Int} : (insL L pl p).length = L.length + 1 := by
  unfold insL
  simp only [List.length_append, List.length_cons, List.length_take, List.length_drop]
  omega
theorem ins_mem {L : List Int} {pl p x : Int} : x ∈ insL L pl p ↔ x = p ∨ x ∈ L := by
  unfold insL
  rw [List.perm_middle.mem_iff, List.mem_cons, List.take_append_drop]
theorem dis_out {P p : Int} {L : List Int} (hP : 0 ≤ P ∧ P ≤ 6) (hL : Prs P L) (hn : L.Nodup) (h0 : 0 ≤ p) (hp : p < P) : disF P (outL L p) = zor (disF P L) (zshl 1 p) := by
  have hL6 : ∀ x ∈ L, 0 ≤ x ∧ x ≤ 5 := fun x hx => by have := hL x hx; omega
  have hO6 : ∀ x ∈ outL L p, 0 ≤ x ∧ x ≤ 5 := fun x hx => hL6 x ((out_mem hn).mp hx).2
  have b1 := dis_b hP hL6
  have b2 := dis_b hP hO6
  have b3 := zor_b b1.1 b1.2 h0 (by omega : p ≤ 5)
  refine bt_ext b2.1 b2.2 b3.1 b3.2 (fun q q0 q5 => ?_)
  rw [dis_bit hP hO6 q0 q5, bt_or b1.1 b1.2 q0 q5 h0 (by omega), dis_bit hP hL6 q0 q5, out_mem hn]
  constructor
  · rintro ⟨a, b⟩
    by_cases e : q = p
    · exact Or.inr e
    · exact Or.inl ⟨a, fun z => b ⟨e, z⟩⟩
  · rintro (⟨a, b⟩ | e)
    · exact ⟨a, fun z => b z.2⟩
    · exact ⟨by omega, fun z => z.1 e⟩
theorem dis_cg {P : Int} {L L1 : List Int} (hP : 0 ≤ P ∧ P ≤ 6) (hL : Prs P L) (hm : ∀ x, x ∈ L1 ↔ x ∈ L) : disF P L1 = disF P L := by
  have hL6 : ∀ x ∈ L, 0 ≤ x ∧ x ≤ 5 := fun x hx => by have := hL x hx; omega
  have hO6 : ∀ x ∈ L1, 0 ≤ x ∧ x ≤ 5 := fun x hx => hL6 x ((hm x).mp hx)
  have b1 := dis_b hP hL6
  have b2 := dis_b hP hO6
  refine bt_ext b2.1 b2.2 b1.1 b1.2 (fun q q0 q5 => ?_)
  rw [dis_bit hP hO6 q0 q5, dis_bit hP hL6 q0 q5, hm]
theorem lineL_app {s : Int} : ∀ A B : List Int, lineL s (A ++ B) = lineL s A ++ lineL s B := by
  intro A B
  induction A with
  | nil => rfl
  | cons a A ih =>
    rw [List.cons_append, lineL, lineL, ih]
    split <;> rfl
theorem lineL_no {s : Int} : ∀ B : List Int, (∀ x ∈ B, ¬ bt s x = 1) → lineL s B = [] := by
  intro B
  induction B with
  | nil => intro _; rfl
  | cons a B ih =>
    intro h
    rw [lineL, if_neg (show ¬ zand (zshr s a) 1 = 1 from h a List.mem_cons_self)]
    exact ih (fun x hx => h x (List.mem_cons_of_mem _ hx))
theorem P6_jl : ∀ n : Nat, n ≤ 6 → P6 = jl n 0 ++ jl (6 - n) (n : Int) := by decide +kernel
theorem line_jl {P s : Int} (hP : 0 ≤ P ∧ P ≤ 6) (h : ∀ q, P ≤ q → q ≤ 5 → ¬ bt s q = 1) : lineL s (jl P.toNat 0) = lineL s P6 := by
  rw [P6_jl P.toNat (by omega), lineL_app, lineL_no (jl (6 - P.toNat) _) (fun x hx => ?_), List.append_nil]
  have := (jl_mem _ _ _).mp hx
  exact h x (by omega) (by omega)
theorem hi_tab : ∀ x : Nat, x < 256 → ∀ k : Nat, k < 8 → x < 2 ^ k → ¬ bt (x : Int) (k : Int) = 1 := by decide +kernel
theorem hi_bit {x k J : Int} (hJ : 0 ≤ J ∧ J ≤ 8) (h0 : 0 ≤ x) (h1 : x ≤ zshl 1 J - 1) (hk : J ≤ k) (hk8 : k < 8) : ¬ bt x k = 1 := by
  have e := (low_tab J.toNat (by omega)).1
  rw [show ((J.toNat : Nat) : Int) = J by omega] at e
  have p8 : 2 ^ J.toNat ≤ 2 ^ 8 := Nat.pow_le_pow_right (by omega) (by omega)
  have pk : 2 ^ J.toNat ≤ 2 ^ k.toNat := Nat.pow_le_pow_right (by omega) (by omega)
  have := hi_tab x.toNat (by omega) k.toNat (by omega) (by omega)
  rwa [show ((x.toNat : Nat) : Int) = x by omega, show ((k.toNat : Nat) : Int) = k by omega] at this
theorem arF_0 {D : Int → Int} {x t : Int} : ∀ (n : Nat) (j : Int), arF D x t n j 0 = 0 := by
  intro n
  induction n with
  | zero => intro j; rfl
  | succ n ih =>
    intro j
    rw [arF, if_neg (show ¬ ((0 : Int) = 1 ∧ (bt x j = 1 → D j ≤ t)) from fun z => absurd z.1 (by omega))]
    exact ih _
theorem adF_no {D : Int → Int} {x t : Int} : ∀ (n : Nat) (j : Int), (∀ k, j ≤ k → k < j + (n : Int) → ¬ bt x k = 1) → adF D x t n j = 1 := by
  intro n
  induction n with
  | zero => intro j _; rfl
  | succ n ih =>
    intro j h
    rw [adF, if_neg (fun z => h j (by omega) (by omega) z.1)]
    exact ih _ (fun k h1 h2 => h k (by omega) (by omega))
theorem arF_ad {D : Int → Int} {x t : Int} : ∀ (n m : Nat) (j : Int), (∀ k, j + (n : Int) ≤ k → k < j + ((n + m : Nat) : Int) → ¬ bt x k = 1) → arF D x t n j 1 = adF D x t (n + m) j := by
  intro n
  induction n with
  | zero =>
    intro m j h
    rw [Nat.zero_add, adF_no m j (fun k h1 h2 => h k (by omega) (by omega))]
    rfl
  | succ n ih =>
    intro m j h
    rw [show n + 1 + m = (n + m) + 1 by omega, arF, adF]
    by_cases e : bt x j = 1 ∧ t < D j
    · rw [if_pos (show zand (zshr x j) 1 = 1 ∧ t < D j from e), if_neg (show ¬ ((1 : Int) = 1 ∧ (bt x j = 1 → D j ≤ t)) from fun z => by have := z.2 e.1; omega)]
      exact arF_0 _ _
    · rw [if_neg (show ¬ (zand (zshr x j) 1 = 1 ∧ t < D j) from e), if_pos (show ((1 : Int) = 1 ∧ (bt x j = 1 → D j ≤ t)) from ⟨rfl, fun z => by
        by_cases q : t < D j
        · exact absurd ⟨z, q⟩ e
        · omega⟩)]
      exact ih m (j + 1) (fun k h1 h2 => h k (by omega) (by omega))
theorem are_ad {D : Int → Int} {x t J : Int} (hJ : 0 ≤ J ∧ J ≤ 8) (h0 : 0 ≤ x) (h1 : x ≤ zshl 1 J - 1) : arF D x t J.toNat 0 1 = adF D x t 8 0 := by
  rw [arF_ad J.toNat (8 - J.toNat) 0 (fun k k0 k1 => hi_bit hJ h0 h1 (by omega) (by omega)), show J.toNat + (8 - J.toNat) = 8 by omega]
