-- the rules, one an instruction
section
variable {d k pc : Nat} {ls : LLoc} {st : List Value} {h : LHeap} {Q : Option Value → LHeap → Prop} {x y w : Int} {a b i n k1 : Nat} {v v1 : Value}
theorem WP_guard {i : Instr} {c : Prop} [hdc : Decidable c] {t : Option Nat} {ls1 : LLoc} {st1 : List Value} {h1 : LHeap} (hf : (lcode k)[pc]? = some i) (hs : stepI d i ls st h = gd c (some (.inl (t, ls1, st1, h1)))) : WP d k pc ls st h Q ↔ (c ∧ WP d k (t.getD (pc + 1)) ls1 st1 h1 Q) := by
  by_cases hc : c
  · have : stepI d i ls st h = some (.inl (t, ls1, st1, h1)) := by rw [hs]; unfold gd; rw [if_pos hc]
    rw [WP_step hf this]
    simp [hc]
  · have : stepI d i ls st h = none := by rw [hs]; unfold gd; rw [if_neg hc]
    have := WP_none (Q := Q) hf this
    simp [this, hc]
theorem wp_nop (hf : (lcode k)[pc]? = some .nop) : WP d k pc ls st h Q ↔ WPC d k (pc + 1) ls st h Q := WP_step (t := none) hf rfl
theorem wp_iconst (hf : (lcode k)[pc]? = some (.iconst x)) : WP d k pc ls st h Q ↔ WP d k (pc + 1) ls (vI x :: st) h Q := WP_step (t := none) hf rfl
theorem wp_lconst (hf : (lcode k)[pc]? = some (.jsr_w x)) : WP d k pc ls st h Q ↔ WP d k (pc + 1) ls (vL x :: st) h Q := WP_step (t := none) hf rfl
theorem wp_null (hf : (lcode k)[pc]? = some .aconst_null) : WP d k pc ls st h Q ↔ WP d k (pc + 1) ls (.null :: st) h Q := WP_step (t := none) hf rfl
theorem wp_iload (hf : (lcode k)[pc]? = some (.iload i)) (hl : lGet ls i = some (vI x)) : WP d k pc ls st h Q ↔ WP d k (pc + 1) ls (vI x :: st) h Q := WP_step (t := none) hf (by simp only [stepI, hl]; rfl)
theorem wp_lload (hf : (lcode k)[pc]? = some (.lload i)) (hl : lGet ls i = some (vL x)) : WP d k pc ls st h Q ↔ WP d k (pc + 1) ls (vL x :: st) h Q := WP_step (t := none) hf (by simp only [stepI, hl]; rfl)
theorem wp_aload (hf : (lcode k)[pc]? = some (.aload i)) (hl : lGet ls i = some (.ref a)) : WP d k pc ls st h Q ↔ WP d k (pc + 1) ls (.ref a :: st) h Q := WP_step (t := none) hf (by simp only [stepI, hl]; rfl)
theorem nl_at : (lFree ls (i + 1) = true) = nl (ls.getD i none) := by
  unfold nl
  congr 1
  unfold lFree lGet
  simp only [List.getD_eq_getElem?_getD]
  cases hq : ls[i]? with
  | none => rfl
  | some q => cases q <;> rfl
theorem wp_istore (hf : (lcode k)[pc]? = some (.istore (i + 1))) (hl : i + 1 < ls.length) : WP d k pc ls (vI x :: st) h Q ↔ (nl (ls.getD i none) ∧ WP d k (pc + 1) (ls.set (i + 1) (some (vI x))) st h Q) := by
  rw [WP_guard (c := lFree ls (i + 1) = true ∧ i + 1 < ls.length) (t := none) (ls1 := ls.set (i + 1) (some (vI x))) (st1 := st) (h1 := h) hf rfl, nl_at]
  simp only [hl, and_true]
  exact Iff.rfl
theorem wp_istore0 (hf : (lcode k)[pc]? = some (.istore 0)) (hl : 0 < ls.length) : WP d k pc ls (vI x :: st) h Q ↔ WP d k (pc + 1) (ls.set 0 (some (vI x))) st h Q := by
  rw [WP_guard (c := lFree ls 0 = true ∧ 0 < ls.length) (t := none) (ls1 := ls.set 0 (some (vI x))) (st1 := st) (h1 := h) hf rfl]
  simp only [hl, and_true]
  exact ⟨fun q => q.2, fun q => ⟨rfl, q⟩⟩
theorem wp_astore (hf : (lcode k)[pc]? = some (.astore (i + 1))) (hl : i + 1 < ls.length) : WP d k pc ls (.ref a :: st) h Q ↔ (nl (ls.getD i none) ∧ WP d k (pc + 1) (ls.set (i + 1) (some (.ref a))) st h Q) := by
  rw [WP_guard (c := lFree ls (i + 1) = true ∧ i + 1 < ls.length) (t := none) (ls1 := ls.set (i + 1) (some (.ref a))) (st1 := st) (h1 := h) hf rfl, nl_at]
  simp only [hl, and_true]
  exact Iff.rfl
theorem wp_lstore (hf : (lcode k)[pc]? = some (.lstore (i + 1))) (hl : i + 2 < ls.length) : WP d k pc ls (vL x :: st) h Q ↔ (nl (ls.getD i none) ∧ WP d k (pc + 1) ((ls.set (i + 1) (some (vL x))).set (i + 2) none) st h Q) := by
  rw [WP_guard (c := lFree ls (i + 1) = true ∧ i + 1 + 1 < ls.length) (t := none) (ls1 := (ls.set (i + 1) (some (vL x))).set (i + 2) none) (st1 := st) (h1 := h) hf rfl, nl_at]
  simp only [hl, and_true]
  exact Iff.rfl
theorem ofI_add : Int32.ofInt x + Int32.ofInt y = Int32.ofInt (x + y) := (Int32.ofInt_add x y).symm
theorem wp_iinc (hf : (lcode k)[pc]? = some (.iinc (i + 1) w)) (hg : lGet ls (i + 1) = some (vI x)) (hl : i + 1 < ls.length) : WP d k pc ls st h Q ↔ (nl (ls.getD i none) ∧ WP d k (pc + 1) (ls.set (i + 1) (some (vI (x + w)))) st h Q) := by
  rw [WP_guard (c := lFree ls (i + 1) = true) (t := none) (ls1 := ls.set (i + 1) (some (vI (x + w)))) (st1 := st) (h1 := h) hf (by simp only [stepI, hg]; unfold vI; rw [← ofI_add]; rfl), nl_at]
  exact Iff.rfl
theorem wp_iinc0 (hf : (lcode k)[pc]? = some (.iinc 0 w)) (hg : lGet ls 0 = some (vI x)) (hl : 0 < ls.length) : WP d k pc ls st h Q ↔ WP d k (pc + 1) (ls.set 0 (some (vI (x + w)))) st h Q := by
  rw [WP_guard (c := lFree ls 0 = true) (t := none) (ls1 := ls.set 0 (some (vI (x + w)))) (st1 := st) (h1 := h) hf (by simp only [stepI, hg]; unfold vI; rw [← ofI_add]; rfl)]
  exact ⟨fun q => q.2, fun q => ⟨rfl, q⟩⟩
theorem wp_iadd (hf : (lcode k)[pc]? = some .iadd) : WP d k pc ls (vI y :: vI x :: st) h Q ↔ WP d k (pc + 1) ls (vI (x + y) :: st) h Q := WP_step (t := none) hf (by unfold vI; rw [← ofI_add]; rfl)
theorem wp_isub (hf : (lcode k)[pc]? = some .isub) : WP d k pc ls (vI y :: vI x :: st) h Q ↔ WP d k (pc + 1) ls (vI (x - y) :: st) h Q := WP_step (t := none) hf (by unfold vI; rw [Int32.ofInt_sub]; rfl)
theorem wp_imul (hf : (lcode k)[pc]? = some .imul) : WP d k pc ls (vI y :: vI x :: st) h Q ↔ WP d k (pc + 1) ls (vI (x * y) :: st) h Q := WP_step (t := none) hf (by unfold vI; rw [Int32.ofInt_mul]; rfl)
theorem wp_iand (hf : (lcode k)[pc]? = some .iand) : WP d k pc ls (vI y :: vI x :: st) h Q ↔ WP d k (pc + 1) ls (vI (zand x y) :: st) h Q := WP_step (t := none) hf (by unfold zand; rw [← vI_of]; rfl)
theorem wp_ior (hf : (lcode k)[pc]? = some .ior) : WP d k pc ls (vI y :: vI x :: st) h Q ↔ WP d k (pc + 1) ls (vI (zor x y) :: st) h Q := WP_step (t := none) hf (by unfold zor; rw [← vI_of]; rfl)
theorem wp_ixor (hf : (lcode k)[pc]? = some .ixor) : WP d k pc ls (vI y :: vI x :: st) h Q ↔ WP d k (pc + 1) ls (vI (zxor x y) :: st) h Q := WP_step (t := none) hf (by unfold zxor; rw [← vI_of]; rfl)
theorem wp_ishl (hf : (lcode k)[pc]? = some .ishl) : WP d k pc ls (vI y :: vI x :: st) h Q ↔ WP d k (pc + 1) ls (vI (zshl x y) :: st) h Q := WP_step (t := none) hf (by unfold zshl; rw [← vI_of]; rfl)
theorem wp_ishr (hf : (lcode k)[pc]? = some .ishr) : WP d k pc ls (vI y :: vI x :: st) h Q ↔ WP d k (pc + 1) ls (vI (zshr x y) :: st) h Q := WP_step (t := none) hf (by unfold zshr; rw [← vI_of]; rfl)
theorem wp_iushr (hf : (lcode k)[pc]? = some .iushr) : WP d k pc ls (vI y :: vI x :: st) h Q ↔ WP d k (pc + 1) ls (vI (zushr x y) :: st) h Q := WP_step (t := none) hf (by unfold zushr; rw [← vI_of]; rfl)
theorem ofI_0 : (¬ Int32.ofInt y = 0) = (¬ wr y = 0) := by
  congr 1
  apply propext
  unfold wr
  rw [← Int32.toInt_inj]
  exact Iff.rfl
theorem ofL_0 : (¬ Int64.ofInt y = 0) = (¬ wl y = 0) := by
  congr 1
  apply propext
  unfold wl
  rw [← Int64.toInt_inj]
  exact Iff.rfl
theorem wp_idiv (hf : (lcode k)[pc]? = some .idiv) : WP d k pc ls (vI y :: vI x :: st) h Q ↔ (¬ wr y = 0 ∧ WP d k (pc + 1) ls (vI (zdiv x y) :: st) h Q) := by
  rw [WP_guard (c := ¬ Int32.ofInt y = 0) (t := none) (ls1 := ls) (st1 := vI (zdiv x y) :: st) (h1 := h) hf (by unfold zdiv; rw [← vI_of]; rfl), ofI_0]
  exact Iff.rfl
theorem wp_irem (hf : (lcode k)[pc]? = some .irem) : WP d k pc ls (vI y :: vI x :: st) h Q ↔ (¬ wr y = 0 ∧ WP d k (pc + 1) ls (vI (zrem x y) :: st) h Q) := by
  rw [WP_guard (c := ¬ Int32.ofInt y = 0) (t := none) (ls1 := ls) (st1 := vI (zrem x y) :: st) (h1 := h) hf (by unfold zrem; rw [← vI_of]; rfl), ofI_0]
  exact Iff.rfl
theorem vL_of (x : Int64) : Value.long x = vL x.toInt := by unfold vL; rw [Int64.ofInt_toInt]
theorem wp_ladd (hf : (lcode k)[pc]? = some .ladd) : WP d k pc ls (vL y :: vL x :: st) h Q ↔ WP d k (pc + 1) ls (vL (x + y) :: st) h Q := WP_step (t := none) hf (by unfold vL; rw [Int64.ofInt_add]; rfl)
theorem wp_lmul (hf : (lcode k)[pc]? = some .lmul) : WP d k pc ls (vL y :: vL x :: st) h Q ↔ WP d k (pc + 1) ls (vL (x * y) :: st) h Q := WP_step (t := none) hf (by unfold vL; rw [Int64.ofInt_mul]; rfl)
theorem wp_land (hf : (lcode k)[pc]? = some .land) : WP d k pc ls (vL y :: vL x :: st) h Q ↔ WP d k (pc + 1) ls (vL (zland x y) :: st) h Q := WP_step (t := none) hf (by unfold zland; rw [← vL_of]; rfl)
theorem wp_ldiv (hf : (lcode k)[pc]? = some .ldiv) : WP d k pc ls (vL y :: vL x :: st) h Q ↔ (¬ wl y = 0 ∧ WP d k (pc + 1) ls (vL (zldiv x y) :: st) h Q) := by
  rw [WP_guard (c := ¬ Int64.ofInt y = 0) (t := none) (ls1 := ls) (st1 := vL (zldiv x y) :: st) (h1 := h) hf (by unfold zldiv; rw [← vL_of]; rfl), ofL_0]
  exact Iff.rfl
theorem wp_lrem (hf : (lcode k)[pc]? = some .lrem) : WP d k pc ls (vL y :: vL x :: st) h Q ↔ (¬ wl y = 0 ∧ WP d k (pc + 1) ls (vL (zlrem x y) :: st) h Q) := by
  rw [WP_guard (c := ¬ Int64.ofInt y = 0) (t := none) (ls1 := ls) (st1 := vL (zlrem x y) :: st) (h1 := h) hf (by unfold zlrem; rw [← vL_of]; rfl), ofL_0]
  exact Iff.rfl
theorem wp_lcmp (hf : (lcode k)[pc]? = some .lcmp) : WP d k pc ls (vL y :: vL x :: st) h Q ↔ WP d k (pc + 1) ls (vI (zlcmp x y) :: st) h Q := WP_step (t := none) hf (by unfold zlcmp; rw [← vI_of]; rfl)
theorem wp_i2l (hf : (lcode k)[pc]? = some .i2l) : WP d k pc ls (vI x :: st) h Q ↔ WP d k (pc + 1) ls (vL (wr x) :: st) h Q := WP_step (t := none) hf (by
  have : (Int32.ofInt x).toInt64 = Int64.ofInt (wr x) := by
    unfold wr
    rw [← Int64.toInt_inj, Int32.toInt_toInt64, Int64.toInt_ofInt_of_le]
    · have := Int32.le_toInt (Int32.ofInt x); omega
    · have := Int32.toInt_lt (Int32.ofInt x); omega
  unfold vL
  rw [← this]
  rfl)
theorem wp_l2i (hf : (lcode k)[pc]? = some .l2i) : WP d k pc ls (vL x :: st) h Q ↔ WP d k (pc + 1) ls (vI x :: st) h Q := WP_step (t := none) hf (by
  unfold vI
  rw [← Int64.toInt32_ofInt]
  rfl)
theorem wp_dup (hf : (lcode k)[pc]? = some .dup) : WP d k pc ls (v :: st) h Q ↔ (c1 v ∧ WP d k (pc + 1) ls (v :: v :: st) h Q) := WP_guard (c := v.category = 1) (t := none) hf rfl
theorem wp_dup2 (hf : (lcode k)[pc]? = some .dup2) : WP d k pc ls (v :: v1 :: st) h Q ↔ ((c1 v ∧ c1 v1) ∧ WP d k (pc + 1) ls (v :: v1 :: v :: v1 :: st) h Q) := WP_guard (c := v.category = 1 ∧ v1.category = 1) (t := none) hf rfl
theorem wp_pop (hf : (lcode k)[pc]? = some .pop) : WP d k pc ls (.ref a :: st) h Q ↔ ((sd d ∧ sh st) ∧ WP d k (pc + 1) ls st h Q) := WP_guard (c := 0 < d ∧ st.length ≤ 4) (t := none) hf rfl
theorem wp_goto (hf : (lcode k)[pc]? = some (.goto w)) : WP d k pc ls st h Q ↔ WP d k w.toNat ls st h Q := WP_step (t := some w.toNat) hf rfl
theorem WP_br {i : Instr} {c : Bool} {P : Prop} {t : Int} {ls1 : LLoc} {st1 : List Value} {h1 : LHeap} (hf : (lcode k)[pc]? = some i) (hs : stepI d i ls st h = if c = true then jp t ls1 st1 h1 else nx ls1 st1 h1) (hP : c = true ↔ P) : WP d k pc ls st h Q ↔ ((P → WP d k t.toNat ls1 st1 h1 Q) ∧ (¬ P → WP d k (pc + 1) ls1 st1 h1 Q)) := by
  by_cases hc : c = true
  · have hp := hP.mp hc
    have : stepI d i ls st h = some (.inl (some t.toNat, ls1, st1, h1)) := by rw [hs, if_pos hc]; rfl
    rw [WP_step hf this]
    simp [hp]
  · have hp : ¬ P := fun q => hc (hP.mpr q)
    have : stepI d i ls st h = some (.inl (none, ls1, st1, h1)) := by rw [hs, if_neg hc]; rfl
    rw [WP_step hf this]
    simp [hp]
theorem cmq_eq : cmpC .eq (Int32.ofInt x) (Int32.ofInt y) = true ↔ wr x = wr y := by unfold cmpC wr; rw [decide_eq_true_eq, Int32.toInt_inj]
theorem cmq_ne : cmpC .ne (Int32.ofInt x) (Int32.ofInt y) = true ↔ ¬ wr x = wr y := by unfold cmpC wr; rw [decide_eq_true_eq, Int32.toInt_inj]
theorem cmq_lt : cmpC .lt (Int32.ofInt x) (Int32.ofInt y) = true ↔ wr x < wr y := by unfold cmpC wr; rw [decide_eq_true_eq, Int32.lt_iff_toInt_lt]
theorem cmq_ge : cmpC .ge (Int32.ofInt x) (Int32.ofInt y) = true ↔ wr y ≤ wr x := by unfold cmpC wr; rw [decide_eq_true_eq, Int32.le_iff_toInt_le]
theorem cmq_gt : cmpC .gt (Int32.ofInt x) (Int32.ofInt y) = true ↔ wr y < wr x := by unfold cmpC wr; rw [decide_eq_true_eq, Int32.lt_iff_toInt_lt]
theorem cmq_le : cmpC .le (Int32.ofInt x) (Int32.ofInt y) = true ↔ wr x ≤ wr y := by unfold cmpC wr; rw [decide_eq_true_eq, Int32.le_iff_toInt_le]
theorem wr_0 : wr 0 = 0 := wr_id (by omega) (by omega)
theorem wp_icmp_eq (hf : (lcode k)[pc]? = some (.if_icmp .eq w)) : WP d k pc ls (vI y :: vI x :: st) h Q ↔ ((wr x = wr y → WP d k w.toNat ls st h Q) ∧ (¬ (wr x = wr y) → WP d k (pc + 1) ls st h Q)) := WP_br hf rfl cmq_eq
theorem wp_icmp_ne (hf : (lcode k)[pc]? = some (.if_icmp .ne w)) : WP d k pc ls (vI y :: vI x :: st) h Q ↔ ((¬ wr x = wr y → WP d k w.toNat ls st h Q) ∧ (¬ (¬ wr x = wr y) → WP d k (pc + 1) ls st h Q)) := WP_br hf rfl cmq_ne
theorem wp_icmp_lt (hf : (lcode k)[pc]? = some (.if_icmp .lt w)) : WP d k pc ls (vI y :: vI x :: st) h Q ↔ ((wr x < wr y → WP d k w.toNat ls st h Q) ∧ (¬ (wr x < wr y) → WP d k (pc + 1) ls st h Q)) := WP_br hf rfl cmq_lt
theorem wp_icmp_ge (hf : (lcode k)[pc]? = some (.if_icmp .ge w)) : WP d k pc ls (vI y :: vI x :: st) h Q ↔ ((wr y ≤ wr x → WP d k w.toNat ls st h Q) ∧ (¬ (wr y ≤ wr x) → WP d k (pc + 1) ls st h Q)) := WP_br hf rfl cmq_ge
theorem wp_icmp_gt (hf : (lcode k)[pc]? = some (.if_icmp .gt w)) : WP d k pc ls (vI y :: vI x :: st) h Q ↔ ((wr y < wr x → WP d k w.toNat ls st h Q) ∧ (¬ (wr y < wr x) → WP d k (pc + 1) ls st h Q)) := WP_br hf rfl cmq_gt
theorem wp_icmp_le (hf : (lcode k)[pc]? = some (.if_icmp .le w)) : WP d k pc ls (vI y :: vI x :: st) h Q ↔ ((wr x ≤ wr y → WP d k w.toNat ls st h Q) ∧ (¬ (wr x ≤ wr y) → WP d k (pc + 1) ls st h Q)) := WP_br hf rfl cmq_le
theorem wp_if_eq (hf : (lcode k)[pc]? = some (.ifCond .eq w)) : WP d k pc ls (vI x :: st) h Q ↔ ((wr x = 0 → WP d k w.toNat ls st h Q) ∧ (¬ (wr x = 0) → WP d k (pc + 1) ls st h Q)) := WP_br hf rfl (by have := cmq_eq (x := x) (y := 0); rwa [wr_0] at this)
theorem wp_if_ne (hf : (lcode k)[pc]? = some (.ifCond .ne w)) : WP d k pc ls (vI x :: st) h Q ↔ ((¬ wr x = 0 → WP d k w.toNat ls st h Q) ∧ (¬ (¬ wr x = 0) → WP d k (pc + 1) ls st h Q)) := WP_br hf rfl (by have := cmq_ne (x := x) (y := 0); rwa [wr_0] at this)
theorem wp_if_lt (hf : (lcode k)[pc]? = some (.ifCond .lt w)) : WP d k pc ls (vI x :: st) h Q ↔ ((wr x < 0 → WP d k w.toNat ls st h Q) ∧ (¬ (wr x < 0) → WP d k (pc + 1) ls st h Q)) := WP_br hf rfl (by have := cmq_lt (x := x) (y := 0); rwa [wr_0] at this)
theorem wp_if_ge (hf : (lcode k)[pc]? = some (.ifCond .ge w)) : WP d k pc ls (vI x :: st) h Q ↔ ((0 ≤ wr x → WP d k w.toNat ls st h Q) ∧ (¬ (0 ≤ wr x) → WP d k (pc + 1) ls st h Q)) := WP_br hf rfl (by have := cmq_ge (x := x) (y := 0); rwa [wr_0] at this)
theorem wp_if_gt (hf : (lcode k)[pc]? = some (.ifCond .gt w)) : WP d k pc ls (vI x :: st) h Q ↔ ((0 < wr x → WP d k w.toNat ls st h Q) ∧ (¬ (0 < wr x) → WP d k (pc + 1) ls st h Q)) := WP_br hf rfl (by have := cmq_gt (x := x) (y := 0); rwa [wr_0] at this)
theorem wp_if_le (hf : (lcode k)[pc]? = some (.ifCond .le w)) : WP d k pc ls (vI x :: st) h Q ↔ ((wr x ≤ 0 → WP d k w.toNat ls st h Q) ∧ (¬ (wr x ≤ 0) → WP d k (pc + 1) ls st h Q)) := WP_br hf rfl (by have := cmq_le (x := x) (y := 0); rwa [wr_0] at this)
theorem wp_ifnull (hf : (lcode k)[pc]? = some (.ifnull w)) : WP d k pc ls (.ref a :: st) h Q ↔ WP d k (pc + 1) ls st h Q := WP_step (t := none) hf rfl
theorem wp_ifnullN (hf : (lcode k)[pc]? = some (.ifnull w)) : WP d k pc ls (.null :: st) h Q ↔ WP d k w.toNat ls st h Q := WP_step (t := some w.toNat) hf rfl
theorem wp_tsw {df lo hi : Int} {os : Array Int} (hf : (lcode k)[pc]? = some (.tableswitch df lo hi os)) (hn : lo + os.size = hi + 1) (hin : ∀ (j : Nat) (t : Int), os[j]? = some t → wr x = lo + j → WP d k t.toNat ls st h Q) (hout : wr x < lo ∨ hi < wr x → WP d k df.toNat ls st h Q) : WP d k pc ls (vI x :: st) h Q := by
  have hs : stepI d (.tableswitch df lo hi os) ls (vI x :: st) h = if wr x < lo ∨ hi < wr x then jp df ls st h else match os[(wr x - lo).toNat]? with
    | some t => jp t ls st h
    | none => none := rfl
  by_cases hc : wr x < lo ∨ hi < wr x
  · rw [if_pos hc] at hs
    exact (WP_step (t := some df.toNat) hf hs).mpr (hout hc)
  · rw [if_neg hc] at hs
    have hl : (wr x - lo).toNat < os.size := by omega
    have e : os[(wr x - lo).toNat]? = some os[(wr x - lo).toNat] := Array.getElem?_eq_getElem hl
    rw [e] at hs
    exact (WP_step (t := some (os[(wr x - lo).toNat]).toNat) hf hs).mpr (hin _ _ e (by omega))
theorem wp_lsw {df : Int} {ps : Array (Int × Int)} (hf : (lcode k)[pc]? = some (.lookupswitch df ps)) (hk : WP d k (Op.lookupswitch.offset ps.toList df (wr x)).toNat ls st h Q) : WP d k pc ls (vI x :: st) h Q := (WP_step (t := some (Op.lookupswitch.offset ps.toList df (wr x)).toNat) hf rfl).mpr hk
theorem WP_bad {i : Instr} (hf : (lcode k)[pc]? = some i) (hs : stepI d i ls st h = none) : WP d k pc ls st h Q ↔ False := ⟨WP_none hf hs, fun q => q.elim⟩
theorem wp_getfield (hf : (lcode k)[pc]? = some (.getfield n)) : WP d k pc ls (.ref a :: st) h Q ↔ gF (hRd h a) (n / 64) (n % 64) (fun v => WP d k (pc + 1) ls (v :: st) h Q) := by
  have hs : stepI d (.getfield n) ls (.ref a :: st) h = withObj (hRd h a) fun ci fs => gd (ci = n / 64) (withV (fs[n % 64]?) fun v => nx ls (v :: st) h) := rfl
  unfold withObj at hs
  unfold gF
  split
  · rename_i cj l hc
    rw [hc] at hs
    simp only at hs
    by_cases e : cj = n / 64
    · have e2 : n / 64 = cj := e.symm
      simp only [gd, e, if_true, withV] at hs
      simp only [e2, true_and]
      split
      · rename_i v hv
        rw [hv] at hs
        exact WP_step (t := none) hf hs
      · rename_i hv
        rw [hv] at hs
        exact WP_bad hf hs
    · have e2 : ¬ n / 64 = cj := fun q => e q.symm
      simp only [gd, e, if_false] at hs
      simp only [e2, false_and]
      exact WP_bad hf hs
  · rename_i hc
    split at hs
    · rename_i cj l hq
      exact absurd hq (hc cj l)
    · exact WP_bad hf hs
theorem wp_putfield (hf : (lcode k)[pc]? = some (.putfield n)) : WP d k pc ls (vI x :: .ref a :: st) h Q ↔ pF (hRd h a) (n / 64) (n % 64) (vI x) (fun c => WP d k (pc + 1) ls st (hWr h a c) Q) := by
  have hs : stepI d (.putfield n) ls (vI x :: .ref a :: st) h = withObj (hRd h a) fun ci fs => gd (ci = n / 64) (nx ls st (hWr h a (some (.inl (ci, fs.set (n % 64) (vI x)))))) := rfl
  unfold withObj at hs
  unfold pF
  split
  · rename_i cj l hc
    rw [hc] at hs
    simp only at hs
    rw [WP_guard (t := none) hf hs]
    constructor
    · rintro ⟨q1, q2⟩; exact ⟨q1.symm, q2⟩
    · rintro ⟨q1, q2⟩; exact ⟨q1.symm, q2⟩
  · rename_i hc
    split at hs
    · rename_i cj l hq
      exact absurd hq (hc cj l)
    · exact WP_bad hf hs
theorem wp_putstatic (hf : (lcode k)[pc]? = some (.putstatic n)) : WP d k pc ls (.ref b :: .ref a :: st) h Q ↔ pF (hRd h a) (n / 64) (n % 64) (.ref b) (fun c => WP d k (pc + 1) ls st (hWr h a c) Q) := by
  have hs : stepI d (.putstatic n) ls (.ref b :: .ref a :: st) h = withObj (hRd h a) fun ci fs => gd (ci = n / 64) (nx ls st (hWr h a (some (.inl (ci, fs.set (n % 64) (.ref b)))))) := rfl
  unfold withObj at hs
  unfold pF
  split
  · rename_i cj l hc
    rw [hc] at hs
    simp only at hs
    rw [WP_guard (t := none) hf hs]
    constructor
    · rintro ⟨q1, q2⟩; exact ⟨q1.symm, q2⟩
    · rintro ⟨q1, q2⟩; exact ⟨q1.symm, q2⟩
  · rename_i hc
    split at hs
    · rename_i cj l hq
      exact absurd hq (hc cj l)
    · exact WP_bad hf hs
theorem wr_nn : (0 ≤ Int32.ofInt x) ↔ 0 ≤ wr x := by
  rw [Int32.le_iff_toInt_le]
  exact Iff.rfl
end
