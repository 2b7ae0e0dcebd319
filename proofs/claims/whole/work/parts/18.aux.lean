-- small rules for the walks
theorem wr_m1 : wr (-1) = -1 := wr_id (by omega) (by omega)
theorem sd_t {d : Nat} (h : 0 < d) : sd d = True := eq_true h
theorem tl_some {v : Value} : (some v).toList = [v] := rfl
theorem tl_none : (none : Option Value).toList = [] := rfl
theorem hRd_lt {h : LHeap} {a b : Nat} {c : LCell} (e : b < a) : hRd (hWr h a c) b = hRd h b := hRd_ne (by omega)
theorem hRd_gt {h : LHeap} {a b : Nat} {c : LCell} (e : a < b) : hRd (hWr h a c) b = hRd h b := hRd_ne (by omega)
theorem ofI_t0 : (Int32.ofInt 0 = 0 ∨ Int32.ofInt 0 = 1) = True := eq_true (ofI_01 (Or.inl rfl))
theorem ofI_t1 : (Int32.ofInt 1 = 0 ∨ Int32.ofInt 1 = 1) = True := eq_true (ofI_01 (Or.inr rfl))
theorem WPC_iff {d k pc : Nat} {ls : LLoc} {st : List Value} {h : LHeap} {Q : Option Value → LHeap → Prop} : WPC d k pc ls st h Q ↔ WP d k pc ls st h Q := Iff.rfl
