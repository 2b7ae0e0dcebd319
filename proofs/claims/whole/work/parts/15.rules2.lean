section
variable {d k pc : Nat} {ls : LLoc} {st : List Value} {h : LHeap} {Q : Option Value → LHeap → Prop} {x y w : Int} {a b i n k1 : Nat} {v v1 : Value}
theorem tn_wr : (Int32.ofInt x).toNatClampNeg = (wr x).toNat := rfl
theorem wp_iaload (hf : (lcode k)[pc]? = some .iaload) : WP d k pc ls (vI x :: .ref a :: st) h Q ↔ ldA (hRd h a) x (fun v => WP d k (pc + 1) ls (v :: st) h Q) := by
  have hs : stepI d .iaload ls (vI x :: .ref a :: st) h = withArr (hRd h a) fun ty vs => gd (ty = .int ∧ 0 ≤ Int32.ofInt x) (withV (vs[(wr x).toNat]?) fun v => nx ls (v :: st) h) := rfl
  unfold withArr at hs
  unfold ldA
  split
  · rename_i vs hc
    rw [hc] at hs
    simp only [gd, true_and, wr_nn] at hs
    by_cases e : 0 ≤ wr x
    · simp only [e, if_true, withV] at hs
      simp only [e, true_and]
      split
      · rename_i v hv
        rw [hv] at hs
        exact WP_step (t := none) hf hs
      · rename_i hv
        rw [hv] at hs
        exact WP_bad hf hs
    · simp only [e, if_false] at hs
      simp only [e, false_and]
      exact WP_bad hf hs
  · rename_i hc
    split at hs
    · rename_i ty vs hq
      have e : ¬ ty = .int := fun q => hc vs (by rw [hq, q])
      simp only [gd, e, false_and, if_false] at hs
      exact WP_bad hf hs
    · exact WP_bad hf hs
theorem wp_baload (hf : (lcode k)[pc]? = some .baload) : WP d k pc ls (vI x :: .ref a :: st) h Q ↔ ldB (hRd h a) x (fun v => WP d k (pc + 1) ls (v :: st) h Q) := by
  have hs : stepI d .baload ls (vI x :: .ref a :: st) h = withArr (hRd h a) fun ty vs => gd (ty = .boolean ∧ 0 ≤ Int32.ofInt x) (withV (vs[(wr x).toNat]?) fun v => nx ls (v :: st) h) := rfl
  unfold withArr at hs
  unfold ldB
  split
  · rename_i vs hc
    rw [hc] at hs
    simp only [gd, true_and, wr_nn] at hs
    by_cases e : 0 ≤ wr x
    · simp only [e, if_true, withV] at hs
      simp only [e, true_and]
      split
      · rename_i v hv
        rw [hv] at hs
        exact WP_step (t := none) hf hs
      · rename_i hv
        rw [hv] at hs
        exact WP_bad hf hs
    · simp only [e, if_false] at hs
      simp only [e, false_and]
      exact WP_bad hf hs
  · rename_i hc
    split at hs
    · rename_i ty vs hq
      have e : ¬ ty = .boolean := fun q => hc vs (by rw [hq, q])
      simp only [gd, e, false_and, if_false] at hs
      exact WP_bad hf hs
    · exact WP_bad hf hs
theorem wp_aaload (hf : (lcode k)[pc]? = some .aaload) : WP d k pc ls (vI x :: .ref a :: st) h Q ↔ ldS (hRd h a) x (fun v => WP d k (pc + 1) ls (v :: st) h Q) := by
  have hs : stepI d .aaload ls (vI x :: .ref a :: st) h = withArr (hRd h a) fun ty vs => gd (ty = tyState ∧ 0 ≤ Int32.ofInt x) (withV (vs[(wr x).toNat]?) fun v => nx ls (v :: st) h) := rfl
  unfold withArr at hs
  unfold ldS
  split
  · rename_i ty vs hc
    rw [hc] at hs
    simp only [gd, wr_nn] at hs
    by_cases e1 : ty = tyState
    · by_cases e : 0 ≤ wr x
      · simp only [e, e1, and_self, if_true, withV] at hs
        simp only [e, e1, true_and]
        split
        · rename_i v hv
          rw [hv] at hs
          exact WP_step (t := none) hf hs
        · rename_i hv
          rw [hv] at hs
          exact WP_bad hf hs
      · simp only [e, and_false, if_false] at hs
        simp only [e, false_and, and_false]
        exact WP_bad hf hs
    · simp only [e1, false_and, if_false] at hs
      simp only [e1, false_and]
      exact WP_bad hf hs
  · rename_i hc
    split at hs
    · rename_i ty vs hq
      exact absurd hq (hc ty vs)
    · exact WP_bad hf hs
theorem wp_iastore (hf : (lcode k)[pc]? = some .iastore) : WP d k pc ls (vI y :: vI x :: .ref a :: st) h Q ↔ stA (hRd h a) a x (vI y) (fun c => WP d k (pc + 1) ls st (hWr h a c) Q) := by
  have hs : stepI d .iastore ls (vI y :: vI x :: .ref a :: st) h = withArr (hRd h a) fun ty vs => gd (ty = .int ∧ 0 ≤ Int32.ofInt x ∧ (wr x).toNat < vs.length ∧ ¬ a = 0) (nx ls st (hWr h a (some (.inr (ty, vs.set (wr x).toNat (vI y)))))) := rfl
  unfold withArr at hs
  unfold stA
  split
  · rename_i vs hc
    rw [hc] at hs
    simp only at hs
    rw [WP_guard (t := none) hf hs, wr_nn]
    constructor
    · rintro ⟨⟨-, q1, q2, q3⟩, q4⟩; exact ⟨q3, q1, q2, q4⟩
    · rintro ⟨q3, q1, q2, q4⟩; exact ⟨⟨trivial, q1, q2, q3⟩, q4⟩
  · rename_i hc
    split at hs
    · rename_i ty vs hq
      have e : ¬ ty = .int := fun q => hc vs (by rw [hq, q])
      simp only [gd, e, false_and, if_false] at hs
      exact WP_bad hf hs
    · exact WP_bad hf hs
theorem wp_bastore (hf : (lcode k)[pc]? = some .bastore) : WP d k pc ls (vI y :: vI x :: .ref a :: st) h Q ↔ stB (hRd h a) x y (fun c => WP d k (pc + 1) ls st (hWr h a c) Q) := by
  have hs : stepI d .bastore ls (vI y :: vI x :: .ref a :: st) h = withArr (hRd h a) fun ty vs => gd (ty = .boolean ∧ 0 ≤ Int32.ofInt x ∧ (wr x).toNat < vs.length ∧ (Int32.ofInt y = 0 ∨ Int32.ofInt y = 1)) (nx ls st (hWr h a (some (.inr (ty, vs.set (wr x).toNat (vI y)))))) := rfl
  unfold withArr at hs
  unfold stB
  split
  · rename_i vs hc
    rw [hc] at hs
    simp only at hs
    rw [WP_guard (t := none) hf hs, wr_nn]
    constructor
    · rintro ⟨⟨-, q1, q2, q3⟩, q4⟩; exact ⟨q3, q1, q2, q4⟩
    · rintro ⟨q3, q1, q2, q4⟩; exact ⟨⟨trivial, q1, q2, q3⟩, q4⟩
  · rename_i hc
    split at hs
    · rename_i ty vs hq
      have e : ¬ ty = .boolean := fun q => hc vs (by rw [hq, q])
      simp only [gd, e, false_and, if_false] at hs
      exact WP_bad hf hs
    · exact WP_bad hf hs
theorem wp_arraylength (hf : (lcode k)[pc]? = some .arraylength) : WP d k pc ls (.ref a :: st) h Q ↔ aL (hRd h a) (fun v => WP d k (pc + 1) ls (v :: st) h Q) := by
  have hs : stepI d .arraylength ls (.ref a :: st) h = withArr (hRd h a) fun _ vs => nx ls (vI vs.length :: st) h := by
    show (withArr (hRd h a) fun _ vs => nx ls (.int (Int32.ofNat vs.length) :: st) h) = _
    congr 1
  unfold withArr at hs
  unfold aL
  split
  · rename_i ty vs hc
    rw [hc] at hs
    exact WP_step (t := none) hf hs
  · rename_i hc
    split at hs
    · rename_i ty vs hq
      exact absurd hq (hc ty vs)
    · exact WP_bad hf hs
theorem wp_arraycopy {i : Nat} (hf : (lcode k)[pc]? = some (.invokedynamic i)) : WP d k pc ls (vI w :: vI y :: .ref b :: vI x :: .ref a :: st) h Q ↔ ((sd d ∧ sh st) ∧ aC (hRd h a) (hRd h b) a b x y w (fun c => WP d k (pc + 1) ls st (hWr h b c) Q)) := by
  have hs : stepI d (.invokedynamic i) ls (vI w :: vI y :: .ref b :: vI x :: .ref a :: st) h = withArr (hRd h a) fun t0 v0 => withArr (hRd h b) fun t1 v1 =>
        gd (0 < d ∧ st.length ≤ 4 ∧ t0 = .int ∧ t1 = .int ∧ 0 ≤ Int32.ofInt x ∧ 0 ≤ Int32.ofInt y ∧ 0 ≤ Int32.ofInt w ∧ (wr x).toNat + (wr w).toNat ≤ v0.length ∧ (wr y).toNat + (wr w).toNat ≤ v1.length ∧ ¬ a = 0 ∧ ¬ b = 0)
          (nx ls st (hWr h b (some (.inr (t1, cpyL v0 (wr x).toNat v1 (wr y).toNat (wr w).toNat))))) := rfl
  cases hA : hRd h a with
  | none =>
    rw [hA] at hs
    rw [WP_bad hf hs]
    simp [aC]
  | some ca =>
    cases ca with
    | inl q =>
      rw [hA] at hs
      rw [WP_bad hf hs]
      simp [aC]
    | inr q =>
      obtain ⟨t0, v0⟩ := q
      cases hB : hRd h b with
      | none =>
        rw [hA, hB] at hs
        rw [WP_bad hf hs]
        cases t0 <;> simp [aC]
      | some cb =>
        cases cb with
        | inl q =>
          rw [hA, hB] at hs
          rw [WP_bad hf hs]
          cases t0 <;> simp [aC]
        | inr q =>
          obtain ⟨t1, v1⟩ := q
          rw [hA, hB] at hs
          simp only [withArr] at hs
          rw [WP_guard (t := none) hf hs]
          cases t0 with
          | int =>
            cases t1 with
            | int =>
              simp only [aC, wr_nn, true_and]
              unfold sd sh
              constructor
              · rintro ⟨⟨q1, q2, q3, q4, q5, q6, q7, q8, q9⟩, q10⟩
                exact ⟨⟨q1, q2⟩, ⟨q8, q9⟩, ⟨q3, q4, q5, q6, q7⟩, q10⟩
              · rintro ⟨⟨q1, q2⟩, ⟨q8, q9⟩, ⟨q3, q4, q5, q6, q7⟩, q10⟩
                exact ⟨⟨q1, q2, q3, q4, q5, q6, q7, q8, q9⟩, q10⟩
            | _ =>
              simp only [aC, and_false, iff_false]
              rintro ⟨⟨_, _, _, q, _⟩, _⟩
              cases q
          | _ =>
            simp only [aC, and_false, iff_false]
            rintro ⟨⟨_, _, q, _⟩, _⟩
            cases q
theorem wp_max {i : Nat} (hf : (lcode k)[pc]? = some (.invokeinterface 0 i)) : WP d k pc ls (vI y :: vI x :: st) h Q ↔ ((sd d ∧ sh st) ∧ WP d k (pc + 1) ls (vI (if wr x < wr y then y else x) :: st) h Q) := by
  have hs : stepI d (.invokeinterface 0 i) ls (vI y :: vI x :: st) h = gd (0 < d ∧ st.length ≤ 4) (nx ls (vI (if wr x < wr y then y else x) :: st) h) := by
    show gd _ (nx ls (.int (if Int32.ofInt x < Int32.ofInt y then Int32.ofInt y else Int32.ofInt x) :: st) h) = _
    have e : (Int32.ofInt x < Int32.ofInt y) ↔ wr x < wr y := by rw [Int32.lt_iff_toInt_lt]; exact Iff.rfl
    by_cases q : wr x < wr y
    · rw [if_pos (e.mpr q), if_pos q]
      rfl
    · rw [if_neg (fun z => q (e.mp z)), if_neg q]
      rfl
  exact WP_guard (c := 0 < d ∧ st.length ≤ 4) (t := none) hf hs
theorem wp_min {i : Nat} (hf : (lcode k)[pc]? = some (.invokeinterface 1 i)) : WP d k pc ls (vI y :: vI x :: st) h Q ↔ ((sd d ∧ sh st) ∧ WP d k (pc + 1) ls (vI (if wr y < wr x then y else x) :: st) h Q) := by
  have hs : stepI d (.invokeinterface 1 i) ls (vI y :: vI x :: st) h = gd (0 < d ∧ st.length ≤ 4) (nx ls (vI (if wr y < wr x then y else x) :: st) h) := by
    show gd _ (nx ls (.int (if Int32.ofInt y < Int32.ofInt x then Int32.ofInt y else Int32.ofInt x) :: st) h) = _
    have e : (Int32.ofInt y < Int32.ofInt x) ↔ wr y < wr x := by rw [Int32.lt_iff_toInt_lt]; exact Iff.rfl
    by_cases q : wr y < wr x
    · rw [if_pos (e.mpr q), if_pos q]
      rfl
    · rw [if_neg (fun z => q (e.mp z)), if_neg q]
      rfl
  exact WP_guard (c := 0 < d ∧ st.length ≤ 4) (t := none) hf hs
theorem wp_call {full : List Value} (hf : (lcode k)[pc]? = some (.invokestatic k1)) (hn : mNa k1 = n) (hl : n ≤ full.length) : WP d k pc ls full h Q ↔ (sh (full.drop n) ∧ CALL d k1 (full.take n).reverse h (fun v h1 => WP d k (pc + 1) ls (v.toList ++ full.drop n) h1 Q)) := by
  subst hn
  have hs : stepI d (.invokestatic k1) ls full h = gd (mNa k1 ≤ full.length ∧ (full.drop (mNa k1)).length ≤ 4) (some (.inr (.inr (k1, (full.take (mNa k1)).reverse, full.drop (mNa k1))))) := rfl
  by_cases e : (full.drop (mNa k1)).length ≤ 4
  · have e2 : mNa k1 ≤ full.length ∧ (full.drop (mNa k1)).length ≤ 4 := ⟨hl, e⟩
    simp only [gd, if_pos e2] at hs
    rw [WP_call hf hs]
    have e3 : sh (full.drop (mNa k1)) := e
    simp only [e3, true_and]
  · have e2 : ¬ (mNa k1 ≤ full.length ∧ (full.drop (mNa k1)).length ≤ 4) := fun q => e q.2
    simp only [gd, if_neg e2] at hs
    rw [WP_bad hf hs]
    have e3 : ¬ sh (full.drop (mNa k1)) := e
    simp only [e3, false_and]
theorem wp_ireturn (hf : (lcode k)[pc]? = some .ireturn) : WP d k pc ls [vI x] h Q ↔ Q (some (vI x)) h := WP_ret hf rfl
theorem wp_areturn (hf : (lcode k)[pc]? = some .areturn) : WP d k pc ls [vI x] h Q ↔ ((Int32.ofInt x = 0 ∨ Int32.ofInt x = 1) ∧ Q (some (vI x)) h) := by
  have hs : stepI d .areturn ls [vI x] h = gd (Int32.ofInt x = 0 ∨ Int32.ofInt x = 1) (some (.inr (.inl (some (vI x))))) := rfl
  by_cases e : Int32.ofInt x = 0 ∨ Int32.ofInt x = 1
  · simp only [gd, if_pos e] at hs
    rw [WP_ret hf hs]
    simp only [e, true_and]
  · simp only [gd, if_neg e] at hs
    rw [WP_bad hf hs]
    simp only [e, false_and]
theorem wp_return (hf : (lcode k)[pc]? = some .return_) : WP d k pc ls [] h Q ↔ Q none h := WP_ret hf rfl
theorem ofI_01 {x : Int} (hx : x = 0 ∨ x = 1) : Int32.ofInt x = 0 ∨ Int32.ofInt x = 1 := by
  rcases hx with rfl | rfl
  · exact Or.inl rfl
  · exact Or.inr rfl
theorem call_static {as : List Value} (hd : 0 < d) (hs : (decide (k < nMeth ∧ ¬ k = 181 ∧ ¬ k = 182) && decide ((as.flatMap expV).length ≤ mL k) && decide (as.length = mNa k)) = true) (hk : mKind k = 0) (kk : WP (d - 1) k 0 (entL k as) [] h Q) : CALL d k as h Q := by
  refine ⟨hd, ?_, kk⟩
  unfold callOk
  rw [hs, hk]
  rfl
theorem call_virt {as : List Value} {fs : List Value} {ci : Nat} (hd : 0 < d) (hs : (decide (k < nMeth ∧ ¬ k = 181 ∧ ¬ k = 182) && decide (((Value.ref a :: as).flatMap expV).length ≤ mL k) && decide ((Value.ref a :: as).length = mNa k)) = true) (hr : hRd h a = some (.inl (ci, fs))) (hk : mCi k = ci) (kk : WP (d - 1) k 0 (entL k (.ref a :: as)) [] h Q) : CALL d k (.ref a :: as) h Q := by
  refine ⟨hd, ?_, kk⟩
  unfold callOk
  rw [hs]
  unfold isRecv
  simp only [hr, hk]
  simp
end
