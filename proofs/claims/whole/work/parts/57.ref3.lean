-- THE REFERENCE: one round of the settling, what is done
/-- the latest of a value and what one person has done of the jobs from i on -/
def inF (dr D : Int → Int) (q : Int) : Nat → Int → Int → Int
  | 0, _, x => x
  | n + 1, i, x => inF dr D q n (i + 1) (if dr i = q then mx x (D i) else x)
theorem mx_r (a b c : Int) : mx (mx a b) c = mx (mx a c) b := by
  unfold mx
  repeat' split
  all_goals omega
theorem inF_mx {dr D : Int → Int} {q : Int} : ∀ (n : Nat) (i x y : Int), inF dr D q n i (mx x y) = mx (inF dr D q n i x) y := by
  intro n
  induction n with
  | zero => intro i x y; rfl
  | succ n ih =>
    intro i x y
    rw [inF, inF]
    split
    · rw [mx_r, ih]
    · rw [ih]
theorem inF_ext {dr D D1 : Int → Int} {q : Int} : ∀ (n : Nat) (i x : Int), (∀ k, i ≤ k → k < i + (n : Int) → D1 k = D k) → inF dr D1 q n i x = inF dr D q n i x := by
  intro n
  induction n with
  | zero => intro i x h; rfl
  | succ n ih =>
    intro i x h
    rw [inF, inF, h i (by omega) (by omega)]
    exact ih _ _ (fun k h1 h2 => h k (by omega) (by omega))
theorem inF_last {dr D : Int → Int} {q : Int} : ∀ (n : Nat) (i x : Int), inF dr D q (n + 1) i x = if dr (i + (n : Int)) = q then mx (inF dr D q n i x) (D (i + (n : Int))) else inF dr D q n i x := by
  intro n
  induction n with
  | zero =>
    intro i x
    rw [inF, inF, inF]
    simp
  | succ n ih =>
    intro i x
    rw [inF, ih, inF]
    have e : i + 1 + (n : Int) = i + ((n + 1 : Nat) : Int) := by omega
    rw [e]
theorem inF_ge {dr D : Int → Int} {q : Int} : ∀ (n : Nat) (i x : Int), x ≤ inF dr D q n i x := by
  intro n
  induction n with
  | zero => intro i x; exact Int.le_refl _
  | succ n ih =>
    intro i x
    rw [inF]
    split
    · have := ih (i + 1) (mx x (D i))
      have h2 : x ≤ mx x (D i) := by unfold mx; split <;> omega
      omega
    · exact ih _ _
theorem inF_tv {dr D : Int → Int} {q : Int} (hD : TVF D) : ∀ (n : Nat) (i x : Int), TV x → TV (inF dr D q n i x) := by
  intro n
  induction n with
  | zero => intro i x h; exact h
  | succ n ih =>
    intro i x h
    rw [inF]
    split
    · exact ih _ _ (TV_mx h (hD i))
    · exact ih _ _ h
/-- has anything changed: what is done -/
def wrkC (M : Int) (dr tk bh : Int → Int) : Nat → Int → (Int → Int) → (Int → Int) → Int → Int
  | 0, _, _, _, b => b
  | n + 1, j, I, D, b => wrkC M dr tk bh n (j + 1) (uA I (dr j) (wrkV M dr tk bh I D j)) (uA D j (wrkV M dr tk bh I D j)) (if b = 0 ∧ wrkV M dr tk bh I D j = D j then 0 else 1)
