-- SETS as bits
def bt (s p : Int) : Int := zand (zshr s p) 1
theorem bt_tab : ∀ s : Nat, s < 64 → ∀ p : Nat, p < 6 → (bt (s : Int) (p : Int) = 0 ∨ bt (s : Int) (p : Int) = 1) ∧ ∀ q : Nat, q < 6 → (bt (zor (s : Int) (zshl 1 (q : Int))) (p : Int) = 1 ↔ bt (s : Int) (p : Int) = 1 ∨ p = q) := by decide +kernel
theorem bt_01 {s p : Int} (h0 : 0 ≤ s) (h1 : s < 64) (h2 : 0 ≤ p) (h3 : p ≤ 5) : bt s p = 0 ∨ bt s p = 1 := by
  have := (bt_tab s.toNat (by omega) p.toNat (by omega)).1
  rwa [show ((s.toNat : Nat) : Int) = s by omega, show ((p.toNat : Nat) : Int) = p by omega] at this
theorem bt_or {s p q : Int} (h0 : 0 ≤ s) (h1 : s < 64) (h2 : 0 ≤ p) (h3 : p ≤ 5) (h4 : 0 ≤ q) (h5 : q ≤ 5) : bt (zor s (zshl 1 q)) p = 1 ↔ bt s p = 1 ∨ p = q := by
  have := (bt_tab s.toNat (by omega) p.toNat (by omega)).2 q.toNat (by omega)
  rw [show ((s.toNat : Nat) : Int) = s by omega, show ((p.toNat : Nat) : Int) = p by omega, show ((q.toNat : Nat) : Int) = q by omega] at this
  rw [this]
  constructor <;> rintro (h | h) <;> first | exact Or.inl h | (right; omega)
theorem bt_zero : ∀ p : Nat, p < 6 → bt 0 (p : Int) = 0 := by decide +kernel
theorem bt_0 {p : Int} (h2 : 0 ≤ p) (h3 : p ≤ 5) : bt 0 p = 0 := by
  have := bt_zero p.toNat (by omega)
  rwa [show ((p.toNat : Nat) : Int) = p by omega] at this
theorem memF_bit {p : Int} (h2 : 0 ≤ p) (h3 : p ≤ 5) : ∀ (L : List Int) (s : Int), (∀ x ∈ L, 0 ≤ x ∧ x ≤ 5) → 0 ≤ s → s < 64 → (bt (memF L s) p = 1 ↔ bt s p = 1 ∨ p ∈ L) := by
  intro L
  induction L with
  | nil => intro s _ h0 h1; simp [memF]
  | cons a L ih =>
    intro s hL h0 h1
    have ha := hL a List.mem_cons_self
    have hz := zor_b h0 h1 ha.1 ha.2
    rw [memF, ih _ (fun x hx => hL x (List.mem_cons_of_mem _ hx)) hz.1 hz.2, bt_or h0 h1 h2 h3 ha.1 ha.2, List.mem_cons]
    constructor
    · rintro ((h | h) | h)
      · exact Or.inl h
      · exact Or.inr (Or.inl h)
      · exact Or.inr (Or.inr h)
    · rintro (h | h | h)
      · exact Or.inl (Or.inl h)
      · exact Or.inl (Or.inr h)
      · exact Or.inr h
theorem memF_bit0 {p : Int} {L : List Int} (h2 : 0 ≤ p) (h3 : p ≤ 5) (hL : ∀ x ∈ L, 0 ≤ x ∧ x ≤ 5) : bt (memF L 0) p = 1 ↔ p ∈ L := by
  rw [memF_bit h2 h3 L 0 hL (by omega) (by omega), bt_0 h2 h3]
  simp
theorem mem_line {set x : Int} : ∀ S : List Int, x ∈ lineL set S ↔ x ∈ S ∧ bt set x = 1 := by
  intro S
  induction S with
  | nil => simp [lineL]
  | cons a S ih =>
    rw [lineL]
    by_cases e : zand (zshr set a) 1 = 1
    · rw [if_pos e, List.mem_cons, List.mem_cons, ih]
      constructor
      · rintro (h | h)
        · subst h; exact ⟨Or.inl rfl, e⟩
        · exact ⟨Or.inr h.1, h.2⟩
      · rintro ⟨h | h, h2⟩
        · exact Or.inl h
        · exact Or.inr ⟨h, h2⟩
    · rw [if_neg e, List.mem_cons, ih]
      constructor
      · rintro ⟨h, h2⟩
        exact ⟨Or.inr h, h2⟩
      · rintro ⟨h | h, h2⟩
        · subst h; exact absurd h2 e
        · exact ⟨h, h2⟩
theorem P6_mem {x : Int} : x ∈ P6 ↔ 0 ≤ x ∧ x ≤ 5 := by
  unfold P6
  simp only [List.mem_cons, List.not_mem_nil, or_false]
  omega
theorem line_mem {L : List Int} (hL : ∀ x ∈ L, 0 ≤ x ∧ x ≤ 5) {x : Int} : x ∈ lineL (memF L 0) P6 ↔ x ∈ L := by
  rw [mem_line, P6_mem]
  constructor
  · rintro ⟨h1, h2⟩
    exact (memF_bit0 h1.1 h1.2 hL).mp h2
  · intro h
    have := hL x h
    exact ⟨this, (memF_bit0 this.1 this.2 hL).mpr h⟩
theorem line_prs {P : Int} {L : List Int} (hL : ∀ x ∈ L, 0 ≤ x ∧ x ≤ 5) (hP : Prs P L) : Prs P (lineL (memF L 0) P6) := fun x hx => hP x ((line_mem hL).mp hx)
/-- a set of the first J -/
theorem low_tab : ∀ J : Nat, J ≤ 8 → zshl 1 (J : Int) = ((2 ^ J : Nat) : Int) ∧ Int32.ofInt (zxor (zshl 1 (J : Int) - 1) (-1)) = Int32.ofInt (-((2 ^ J : Nat) : Int)) := by decide +kernel
theorem low_iff {x J : Int} (h0 : -2147483648 ≤ x) (h1 : x ≤ 2147483647) (hJ : 0 ≤ J ∧ J ≤ 8) : zand x (zxor (zshl 1 J - 1) (-1)) = 0 ↔ 0 ≤ x ∧ x ≤ zshl 1 J - 1 := by
  obtain ⟨t1, t2⟩ := low_tab J.toNat (by omega)
  rw [show ((J.toNat : Nat) : Int) = J by omega] at t1 t2
  have hx : (Int32.ofInt x).toInt = x := Int32.toInt_ofInt_of_le (by omega) (by omega)
  unfold zand
  rw [t2, t1]
  have hk : J.toNat ≤ 8 := by omega
  generalize J.toNat = k at hk
  have e0 : (Int32.ofInt x &&& Int32.ofInt (-((2 ^ k : Nat) : Int))).toInt = 0 ↔ (Int32.ofInt x).toBitVec.toNat &&& (2 ^ 32 - 2 ^ k) = 0 := by
    have e1 : (Int32.ofInt (-((2 ^ k : Nat) : Int))).toBitVec.toNat = 2 ^ 32 - 2 ^ k := by
      have : ∀ k : Nat, k ≤ 8 → (Int32.ofInt (-((2 ^ k : Nat) : Int))).toBitVec.toNat = 2 ^ 32 - 2 ^ k := by decide +kernel
      exact this k hk
    have e2 : (Int32.ofInt x &&& Int32.ofInt (-((2 ^ k : Nat) : Int))).toInt = 0 ↔ (Int32.ofInt x &&& Int32.ofInt (-((2 ^ k : Nat) : Int))).toBitVec.toNat = 0 := by
      rw [show (0 : Int) = (0 : Int32).toInt from rfl, Int32.toInt_inj]
      constructor
      · intro h; rw [h]; rfl
      · intro h
        apply Int32.toBitVec.inj
        apply BitVec.eq_of_toNat_eq
        rw [h]; rfl
    rw [e2, Int32.toBitVec_and, BitVec.toNat_and, e1]
  rw [e0]
  have hb : (Int32.ofInt x).toBitVec.toNat < 2 ^ 32 := (Int32.ofInt x).toBitVec.isLt
  have hi : x = if 2 * (Int32.ofInt x).toBitVec.toNat < 2 ^ 32 then ((Int32.ofInt x).toBitVec.toNat : Int) else ((Int32.ofInt x).toBitVec.toNat : Int) - ((2 ^ 32 : Nat) : Int) := by
    conv => lhs; rw [← hx]
    show (Int32.ofInt x).toBitVec.toInt = _
    rw [BitVec.toInt_eq_toNat_cond]
  generalize (Int32.ofInt x).toBitVec.toNat = m at hb hi
  have hp : 2 ^ k ≤ 256 := by
    have : ∀ k : Nat, k ≤ 8 → 2 ^ k ≤ 256 := by decide
    exact this k hk
  have key : m &&& (2 ^ 32 - 2 ^ k) = 0 ↔ m < 2 ^ k := by
    have n1 : ∀ k : Nat, k ≤ 8 → (2 ^ 32 - 2 ^ k) / 2 ^ k = 2 ^ (32 - k) - 1 ∧ (2 ^ 32 - 2 ^ k) % 2 ^ k = 0 ∧ 2 ^ k * 2 ^ (32 - k) = 2 ^ 32 := by decide
    obtain ⟨n1, n2, n3⟩ := n1 k hk
    have d1 : (m &&& (2 ^ 32 - 2 ^ k)) / 2 ^ k = m / 2 ^ k := by
      rw [Nat.and_div_two_pow, n1, Nat.and_two_pow_sub_one_eq_mod, Nat.mod_eq_of_lt]
      rw [Nat.div_lt_iff_lt_mul (Nat.pow_pos (by omega)), Nat.mul_comm, n3]
      exact hb
    have d2 : (m &&& (2 ^ 32 - 2 ^ k)) % 2 ^ k = 0 := by
      rw [Nat.and_mod_two_pow, n2, Nat.and_zero]
    have hpos : 0 < 2 ^ k := Nat.pow_pos (by omega)
    constructor
    · intro h
      rw [h, Nat.zero_div] at d1
      exact (Nat.div_eq_zero_iff_lt hpos).mp d1.symm
    · intro h
      rw [Nat.div_eq_of_lt h] at d1
      have := (Nat.div_eq_zero_iff_lt hpos).mp d1
      rw [Nat.mod_eq_of_lt this] at d2
      exact d2
  rw [key]
  split at hi <;> omega
