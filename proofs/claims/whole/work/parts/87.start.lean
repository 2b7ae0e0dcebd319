-- THE START: what holds behind the constructors
/-- class and reference hold the same -/
def IV (h : LHeap) : Prop := ∃ (f wt tk bh kp sd ea la bj bm : Int → Int) (n pl M P J s ct bt : Int) (S : SS) (Hs : List SS) (im : Int → SS), CI f n pl M P J wt tk bh S Hs kp sd im s ct ea la bt bj bm h ∧ MI f n pl M P J wt tk bh S Hs kp sd im s ct ea la bt bj bm h ∧ BD f n pl M P J wt tk bh S Hs kp sd im s ct ea la bt bj bm
def S0 : SS := ([], zer, zer, 0, 0)
theorem ckS_ok {b : Nat} {h : LHeap} (e : ckS b h = true) : StAt b S0 h := by
  unfold ckS at e
  simp only [Bool.and_eq_true, decide_eq_true_eq] at e
  obtain ⟨⟨⟨⟨e1, e2⟩, e3⟩, e4⟩, e5⟩ := e
  exact ⟨e1, ⟨zer, e2, e3, rfl, by show (0 : Nat) ≤ 6; omega, fun i x hi => by simp [S0] at hi, fun x hx => by simp [S0] at hx⟩, e4, e5⟩
theorem ckA_ok {l : List (Nat × Nat)} {h : LHeap} (e : ckA l h = true) {q : Nat × Nat} (hq : q ∈ l) : hRd h q.1 = cA q.2 zer := of_decide_eq_true (List.all_eq_true.mp e q hq)
theorem ckO_ok {h : LHeap} (e : ckO h = true) {q : Nat × LCell} (hq : q ∈ objs) : hRd h q.1 = q.2 := of_decide_eq_true (List.all_eq_true.mp e q hq)
theorem objs_at (i : Nat) {q : Nat × LCell} (e : objs[i]? = some q) : q ∈ objs := List.mem_of_getElem? e
theorem zer_row {r : Nat} {h : LHeap} (e1 : hRd h r = oRow (r + 1) 0) (e2 : hRd h (r + 1) = cA 6 zer) : Rw r [] h := ⟨zer, e1, e2, rfl, by show (0 : Nat) ≤ 6; omega, fun i x hi => by simp at hi, fun x hx => by simp at hx⟩
theorem start_iv {h : LHeap} (e : ckAll h = true) : IV h ∧ h.1 = 181 ∧ h.2.1 = 2129 := by
  unfold ckAll at e
  simp only [Bool.and_eq_true, decide_eq_true_eq] at e
  obtain ⟨⟨⟨⟨⟨⟨⟨s1, s2⟩, e1⟩, e2⟩, e17⟩, e131⟩, e136⟩, e27⟩ := e
  have a : ∀ q ∈ arrs, hRd h q.1 = cA q.2 zer := fun q hq => ckA_ok e2 hq
  have o : ∀ q ∈ objs, hRd h q.1 = q.2 := fun q hq => ckO_ok e1 hq
  have oo : ∀ (i : Nat) (q : Nat × LCell), objs[i]? = some q → hRd h q.1 = q.2 := fun i q hq => o q (List.mem_of_getElem? hq)
  have aa : ∀ (x y : Nat), arrs.contains (x, y) = true → hRd h x = cA y zer := fun x y hq => a (x, y) (List.contains_iff_mem.mp hq)
  have hSt : ∀ j : Nat, j < 20 → StAt (27 + 5 * j) S0 h := fun j hj => ckS_ok (List.all_eq_true.mp e27 j (List.mem_range.mpr hj))
  refine ⟨⟨zer, zer, zer, zer, zer, zer, zer, zer, zer, zer, 0, -1, 0, 0, 0, 0, 0, 0, S0, [], fun _ => S0, ?_, ?_, ?_⟩, s1, s2⟩
  · have scr : Scr h := ⟨⟨zer, aa 22 6 (by decide)⟩, ⟨zer, aa 23 8 (by decide)⟩, zer, aa 24 6 (by decide)⟩
    refine ⟨oo 0 _ rfl, ⟨0, 0, 0, oo 1 _ rfl, aa 3 220 (by decide)⟩, ⟨(0, 0, 0, zer, zer, zer, zer, zer), ⟨oo 2 _ rfl, aa 5 6 (by decide), aa 6 6 (by decide), aa 7 8 (by decide), aa 8 8 (by decide), aa 9 8 (by decide)⟩, fun i => ⟨by show (-1 : Int) ≤ 0; omega, by show (0 : Int) ≤ 7; omega⟩⟩, oo 3 _ rfl, ⟨zer, zer, oo 4 _ rfl, aa 12 6 (by decide), aa 13 6 (by decide), aa 14 8 (by decide), aa 15 8 (by decide), aa 16 8 (by decide)⟩, ckS_ok e17, scr, ?_, ?_, ⟨[], [], 0, 0, 0, oo 10 _ rfl, zer_row (oo 11 _ rfl) (aa 143 6 (by decide)), zer_row (oo 12 _ rfl) (aa 145 6 (by decide)), scr⟩, ⟨[], 0, zer, zer, oo 13 _ rfl, aa 147 6 (by decide), aa 148 6 (by decide), zer_row (oo 14 _ rfl) (aa 150 6 (by decide)), aa 151 6 (by decide), aa 152 36 (by decide), scr⟩, oo 15 _ rfl, aa 154 15 (by decide), aa 155 15 (by decide)⟩
    · exact ⟨0, oo 5 _ rfl, Int.le_refl _, by omega, by simp, oo 6 _ rfl, fun j hj => ⟨S0, hSt j hj⟩, fun k S hk => by simp at hk⟩
    · refine ⟨oo 7 _ rfl, oo 8 _ rfl, aa 129 2 (by decide), oo 9 _ rfl, fun i _ _ => Or.inl rfl, fun i i0 i1 => ?_⟩
      rcases (show i = 0 ∨ i = 1 by omega) with rfl | rfl
      · exact ckS_ok e131
      · exact ckS_ok e136
  · refine ⟨zM, zer, ⟨oo 16 _ rfl, ⟨rfl, rfl, rfl, rfl, rfl, rfl, rfl, rfl, rfl⟩, ⟨zer, aa 157 8 (by decide), fun _ _ _ => rfl⟩, ⟨zer, aa 158 8 (by decide), fun _ _ _ => rfl⟩, ⟨zer, aa 159 6 (by decide), fun _ _ _ => rfl⟩, aa 161 220 (by decide), ⟨zer, aa 170 480 (by decide), by simp, fun k S hk => by simp at hk⟩, aa 173 6 (by decide), aa 174 6 (by decide), aa 177 15 (by decide), aa 178 15 (by decide), ⟨zer, aa 179 50 (by decide), fun i _ _ hi => absurd (show (0 : Int) = 1 from hi) (by omega)⟩, ⟨oo 17 _ rfl, fun i _ _ => Or.inl rfl⟩, ⟨⟨zer, aa 162 1 (by decide)⟩, ⟨zer, aa 163 6 (by decide)⟩, ⟨zer, aa 164 8 (by decide)⟩, ⟨zer, aa 165 8 (by decide)⟩, ⟨zer, aa 166 8 (by decide)⟩, ⟨zer, aa 167 6 (by decide)⟩, ⟨zer, aa 168 6 (by decide)⟩, ⟨zer, aa 169 8 (by decide)⟩, ⟨zer, aa 171 24 (by decide)⟩, ⟨zer, aa 172 6 (by decide)⟩, ⟨zer, aa 175 6 (by decide)⟩, ⟨zer, aa 176 36 (by decide)⟩⟩⟩, aa 160 24 (by decide), ?_⟩
    refine ⟨fun i x hi => by simp [S0] at hi, rfl, rfl, (show disF 0 [] = 0 by decide +kernel).symm, fun _ _ _ => rfl, fun _ _ _ => rfl, rfl⟩
  · refine ⟨⟨⟨by omega, by omega⟩, fun i i0 i1 => by omega⟩, ⟨⟨by omega, by omega⟩, ⟨by omega, by omega⟩, ⟨by omega, by omega⟩, fun p p0 p1 => by omega, fun j j0 j1 => by omega⟩, ?_, fun S1 hS => by simp at hS, fun i _ _ hi => absurd (show (0 : Int) = 1 from hi) (by omega), fun i => ⟨by show (0 : Int) ≤ 0; omega, by show (0 : Int) ≤ 2147483647; omega⟩, ⟨by omega, by omega⟩, ⟨by omega, by omega⟩, fun i i0 i1 => by omega, ⟨by omega, by omega⟩, fun i i0 i1 => by omega, by omega, by omega⟩
    exact ⟨fun x hx => by simp [S0] at hx, List.nodup_nil, fun p p0 p1 => by omega, fun p p0 p1 => by omega, ⟨by show (0 : Int) ≤ 0; omega, by show (0 : Int) < 64; omega⟩, by show (0 : Int) ≤ 0; omega, by show (0 : Int) ≤ 9040; omega⟩
