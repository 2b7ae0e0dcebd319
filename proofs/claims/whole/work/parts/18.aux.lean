-- small rules for the walks
theorem wr_m1 : wr (-1) = -1 := wr_id (by omega) (by omega)
theorem sd_t {d : Nat} (h : 0 < d) : sd d = True := eq_true h
theorem tl_some {v : Value} : (some v).toList = [v] := rfl
theorem tl_none : (none : Option Value).toList = [] := rfl
theorem hRd_lt {h : LHeap} {a b : Nat} {c : LCell} (e : b < a) : hRd (hWr h a c) b = hRd h b := hRd_ne (by omega)
theorem hRd_gt {h : LHeap} {a b : Nat} {c : LCell} (e : a < b) : hRd (hWr h a c) b = hRd h b := hRd_ne (by omega)
theorem ofI_t0 : (Int32.ofInt 0 = 0 ∨ Int32.ofInt 0 = 1) = True := eq_true (ofI_01 (Or.inl rfl))
theorem ofI_t1 : (Int32.ofInt 1 = 0 ∨ Int32.ofInt 1 = 1) = True := eq_true (ofI_01 (Or.inr rfl))
theorem WPC_iff {d k pc : Nat} {ls : LLoc} {st : List Value} {h : LHeap} {Q : Option Value → LHeap → Prop} : WPC d k pc ls st h Q ↔ WP d k pc ls st h Q := Iff.rfl
theorem cA_ext {n : Nat} {f g : Int → Int} (h : ∀ j : Int, 0 ≤ j → j < n → f j = g j) : cA n f = cA n g := by
  unfold cA
  congr 3
  apply List.map_congr_left
  intro j hj
  have := List.mem_range.mp hj
  rw [h (j : Int) (by omega) (by omega)]
theorem cp6 {f g : Int → Int} : cA 6 (cpF f 0 g 0 6) = cA 6 f := rfl
theorem cp8 {f g : Int → Int} : cA 8 (cpF f 0 g 0 8) = cA 8 f := rfl
/-- the same but for the cells lo .. hi -/
def Out (lo hi : Nat) (h h1 : LHeap) : Prop := h1.1 = h.1 ∧ h1.2.1 = h.2.1 ∧ ∀ a, (a < lo ∨ hi < a) → hRd h1 a = hRd h a
theorem Out.refl {lo hi : Nat} {h : LHeap} : Out lo hi h h := ⟨rfl, rfl, fun _ _ => rfl⟩
theorem Out.trans {lo hi : Nat} {h h1 h2 : LHeap} (a : Out lo hi h h1) (b : Out lo hi h1 h2) : Out lo hi h h2 := ⟨b.1.trans a.1, b.2.1.trans a.2.1, fun q hq => (b.2.2 q hq).trans (a.2.2 q hq)⟩
theorem Out.wr {lo hi a : Nat} {h h1 : LHeap} {c : LCell} (o : Out lo hi h h1) (h0 : lo ≤ a) (h2 : a ≤ hi) : Out lo hi h (hWr h1 a c) := ⟨o.1, o.2.1, fun q hq => by rw [hRd_ne (by omega)]; exact o.2.2 q hq⟩
theorem Out.widen {lo hi lo2 hi2 : Nat} {h h1 : LHeap} (o : Out lo hi h h1) (h0 : lo2 ≤ lo) (h2 : hi ≤ hi2) : Out lo2 hi2 h h1 := ⟨o.1, o.2.1, fun q hq => o.2.2 q (by omega)⟩
