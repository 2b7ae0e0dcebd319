-- WHAT ALL OF IT KEEPS TO, after each call
theorem off_tab : ∀ s : Nat, s < 64 → ∀ p : Nat, p < 6 → 0 ≤ zand (s : Int) (zxor (zshl 1 (p : Int)) (-1)) ∧ zand (s : Int) (zxor (zshl 1 (p : Int)) (-1)) < 64 := by decide +kernel
theorem off_b {s p : Int} (h0 : 0 ≤ s) (h1 : s < 64) (h2 : 0 ≤ p) (h3 : p ≤ 5) : 0 ≤ zand s (zxor (zshl 1 p) (-1)) ∧ zand s (zxor (zshl 1 p) (-1)) < 64 := by
  have := off_tab s.toNat (by omega) p.toNat (by omega)
  rwa [show ((s.toNat : Nat) : Int) = s by omega, show ((p.toNat : Nat) : Int) = p by omega] at this
theorem drMF_w {M P : Int} (hM : 0 < M ∧ M ≤ 999) : ∀ (n : Nat) (p s : Int) (w : Int → Int), (∀ i, 0 ≤ i → i < P → 0 ≤ w i ∧ w i ≤ 999) → ∀ i, 0 ≤ i → i < P → 0 ≤ (drMF M n p s w).1 i ∧ (drMF M n p s w).1 i ≤ 999 := by
  intro n
  induction n with
  | zero => intro p s w h; exact h
  | succ n ih =>
    intro p s w h
    rw [drMF]
    refine ih _ _ _ (fun i i0 i1 => ?_)
    have := drw_b (s := s) hM.1
    unfold uA
    split
    · omega
    · exact h i i0 i1
theorem drNF_w {M P P2 : Int} (hM : 0 < M ∧ M ≤ 999) : ∀ (n : Nat) (s : Int) (w : Int → Int), (∀ i, 0 ≤ i → i < P → 0 ≤ w i ∧ w i ≤ 999) → ∀ i, 0 ≤ i → i < P → 0 ≤ (drNF M P2 n s w).1 i ∧ (drNF M P2 n s w).1 i ≤ 999 := by
  intro n
  induction n with
  | zero => intro s w h; exact h
  | succ n ih =>
    intro s w h
    rw [drNF]
    exact ih _ _ (drMF_w hM _ _ _ _ h)
/-- a fault's place lies within the text -/
def PL (n : Int) (r : CR) : Prop := -1 ≤ r.2.1 ∧ r.2.1 ≤ n
section
variable {f : Int → Int} {n w lo hi a b : Int} {D D1 : CC} {k : CR}
theorem PL.nu (ha : 0 ≤ a ∧ a ≤ n) (h : PL n k) : PL n (nuC f n lo hi a D k) := by
  unfold nuC
  have := nB_b (f := f) (n := n) (a := a) ha.2
  split
  · exact h
  · exact ⟨by show -1 ≤ nA f n a; omega, by show nA f n a ≤ n; omega⟩
theorem PL.en (hb : 0 ≤ b ∧ b ≤ n) : PL n (enC f n b D D1) := by
  unfold enC
  have := sk_b (f := f) (n := n) (a := b) hb.2
  split
  · exact ⟨by show (-1 : Int) ≤ -1; omega, by show (-1 : Int) ≤ n; omega⟩
  · exact ⟨by show -1 ≤ sk f n b; omega, by show sk f n b ≤ n; omega⟩
theorem PL.at {fl x : Int} (hw : 0 ≤ w ∧ w ≤ n) : PL n (fl, w, D, x) := ⟨by show -1 ≤ w; omega, by show w ≤ n; omega⟩
theorem clF_pl (hw : 0 ≤ w ∧ w < n) : PL n (clF f n w D) := by
  have hB1 := nB_b (f := f) (n := n) (a := w + 1) (by omega)
  have hB2 := nB_b (f := f) (n := n) (a := nB f n (w + 1)) (by omega)
  have hB3 := nB_b (f := f) (n := n) (a := nB f n (nB f n (w + 1))) (by omega)
  unfold clF
  split
  · unfold cM
    split
    · exact PL.nu (by omega) (PL.en (by omega))
    · exact PL.at (by omega)
  · split
    · exact PL.at (by omega)
    · split
      · unfold cP
        split
        · exact PL.nu (by omega) (PL.en (by omega))
        · exact PL.at (by omega)
      · split
        · unfold cJ
          split
          · refine PL.nu (by omega) (PL.nu (by omega) (PL.nu (by omega) ?_))
            split
            · exact PL.en (by omega)
            · exact PL.at (by omega)
          · exact PL.at (by omega)
        · split
          · unfold cW
            refine PL.nu (by omega) ?_
            split
            · exact PL.nu (by omega) (PL.en (by omega))
            · exact PL.at (by omega)
          · exact PL.at (by omega)
theorem txF_pl (hT : TxB f n) : ∀ (m : Nat) (a : Int) (D : CC), 0 ≤ a → a ≤ n → DB D → -1 ≤ (txF f n m a D).2.1 ∧ (txF f n m a D).2.1 ≤ n := by
  have hn := hT.1
  intro m
  induction m with
  | zero => intro a D _ _ _; exact ⟨by show (-1 : Int) ≤ -1; omega, by show (-1 : Int) ≤ n; omega⟩
  | succ m ih =>
    intro a D h0 h1 hD
    have hs := sk_b (f := f) (n := n) (a := a) h1
    rw [txF]
    split
    · rename_i q
      split
      · rename_i q2
        obtain ⟨r1, r2, r3⟩ := clF_rr (D := D) hT (w := sk f n a) ⟨by omega, q⟩ hD q2
        exact ih _ _ (by omega) r3 r1
      · exact clF_pl (D := D) (f := f) (w := sk f n a) ⟨by omega, q⟩
    · exact ⟨by show (-1 : Int) ≤ -1; omega, by show (-1 : Int) ≤ n; omega⟩
end
theorem clr_db {D0 : CC} (h : ∀ i, -1 ≤ D0.2.2.2.2.1 i ∧ D0.2.2.2.2.1 i ≤ 7) : DB (clr D0) := by
  refine ⟨⟨⟨Int.le_refl _, by show (0 : Int) ≤ 999; omega⟩, ⟨Int.le_refl _, by show (0 : Int) ≤ 6; omega⟩, ⟨Int.le_refl _, by show (0 : Int) ≤ 8; omega⟩, fun p p0 p1 => ?_, fun j j0 j1 => ?_⟩, h⟩
  · have p1 : p < 0 := p1
    omega
  · have j1 : j < 0 := j1
    omega
theorem CapB.st {M P J : Int} {wk wt dr tk bh wk1 dr1 : Int → Int} (h : CapB M P J wk wt dr tk bh) (h1 : ∀ p, 0 ≤ p → p < P → 0 ≤ wk1 p ∧ wk1 p ≤ 999) (h2 : ∀ j, 0 ≤ j → j < J → 0 ≤ dr1 j ∧ dr1 j < P) : CapB M P J wk1 wt dr1 tk bh := by
  obtain ⟨c1, c2, c3, c4, c5⟩ := h
  refine ⟨c1, c2, c3, fun p p0 p1 => ?_, fun j j0 j1 => ?_⟩
  · have := c4 p p0 p1; have := h1 p p0 p1; omega
  · have := c5 j j0 j1; have := h2 j j0 j1; omega
section
variable {f wt tk bh kp sd ea la bj bm : Int → Int} {n pl M P J s ct bt : Int} {S : SS} {Hs : List SS} {im : Int → SS} {x y : Int}
theorem take_sb (h : SB P J S) (hs : ∀ S1 ∈ Hs, SB P J S1) : ∀ S1 ∈ (S :: Hs).take 20, SB P J S1 := fun S1 h1 => by
  rcases List.mem_cons.mp (List.mem_of_mem_take h1) with e | e
  · rw [e]; exact h
  · exact hs S1 e
theorem bd_feed (b : BD f n pl M P J wt tk bh S Hs kp sd im s ct ea la bt bj bm) (q1 : 0 ≤ x) (q2 : x ≤ 255) (q3 : n < 220) : BD (uA f n x) (n + 1) pl M P J wt tk bh S Hs kp sd im s ct ea la bt bj bm := by
  obtain ⟨⟨t1, t2⟩, b2⟩ := b
  refine ⟨⟨by omega, fun i i0 i1 => ?_⟩, b2⟩
  unfold uA
  split
  · omega
  · exact t2 i i0 (by omega)
theorem bd_seed (b : BD f n pl M P J wt tk bh S Hs kp sd im s ct ea la bt bj bm) (q1 : 0 ≤ x) (q2 : x ≤ 2147483647) : BD f n pl M P J wt tk bh S Hs kp sd im (x) ct ea la bt bj bm := by
  obtain ⟨b1, b2, b3, b4, b5, b6, b7, b8⟩ := b
  exact ⟨b1, b2, b3, b4, b5, b6, ⟨q1, q2⟩, b8⟩
theorem bd_write (b : BD f n pl M P J wt tk bh S Hs kp sd im s ct ea la bt bj bm) (q1 : 0 ≤ x) (q2 : x < J) (q3 : -1 ≤ y) (q4 : y ≤ 999) (q5 : bt < 15) : BD f n pl M P J wt tk bh S Hs kp sd im s ct ea la (bt + 1) (uA bj bt x) (uA bm bt y) := by
  obtain ⟨b1, b2, b3, b4, b5, b6, b7, b8, b9, b10, b11, b12⟩ := b
  have hJ := b2.2.2.1
  refine ⟨b1, b2, b3, b4, b5, b6, b7, b8, b9, by omega, fun i i0 i1 => ?_, b12⟩
  unfold uA
  by_cases e : i = bt
  · rw [if_pos e, if_pos e]; omega
  · rw [if_neg e, if_neg e]; exact b11 i i0 (by omega)
theorem bd_tear (b : BD f n pl M P J wt tk bh S Hs kp sd im s ct ea la bt bj bm) : BD f n pl M P J wt tk bh S Hs kp sd im s (0) ea la (0) bj bm := by
  obtain ⟨b1, b2, b3, b4, b5, b6, b7, b8, b9, b10, b11, b12⟩ := b
  exact ⟨b1, b2, b3, b4, b5, b6, b7, by omega, fun i i0 i1 => by omega, by omega, fun i i0 i1 => by omega, b12⟩
theorem bd_see (b : BD f n pl M P J wt tk bh S Hs kp sd im s ct ea la bt bj bm) (q1 : 0 ≤ x ∧ x < P) (q2 : 0 ≤ y ∧ y < P) (q4 : ct < 6) : BD f n pl M P J wt tk bh S Hs kp sd im s (ct + 1) (uA ea ct x) (uA la ct y) bt bj bm := by
  obtain ⟨b1, b2, b3, b4, b5, b6, b7, b8, b9, b10⟩ := b
  have hP := b2.2.1
  refine ⟨b1, b2, b3, b4, b5, b6, b7, by omega, fun i i0 i1 => ?_, b10⟩
  unfold uA
  by_cases e : i = ct
  · rw [if_pos e, if_pos e]; omega
  · rw [if_neg e, if_neg e]; exact b9 i i0 (by omega)
theorem bd_rank (b : BD f n pl M P J wt tk bh S Hs kp sd im s ct ea la bt bj bm) (q1 : 0 ≤ x) (q2 : x < P) : BD f n pl M P J wt tk bh ((insL (outL S.1 x) y x, S.2)) ((S :: Hs).take 20) kp sd im s ct ea la bt bj bm := by
  obtain ⟨b1, b2, b3, b4, b5⟩ := b
  refine ⟨b1, b2, ?_, take_sb b3 b4, b5⟩
  obtain ⟨s1, s2, s3⟩ := b3
  refine ⟨fun p hp => ?_, ins_nd (out_nd s2) (fun z => ((out_mem s2).mp z).1 rfl), s3⟩
  rcases ins_mem.mp hp with e | e
  · rw [e]; exact ⟨q1, q2⟩
  · exact s1 p ((out_mem s2).mp e).2
theorem bd_eyes (b : BD f n pl M P J wt tk bh S Hs kp sd im s ct ea la bt bj bm) (q1 : 0 ≤ x) (q2 : x < P) : BD f n pl M P J wt tk bh ((S.1, S.2.1, S.2.2.1, (if y = 0 then zand S.2.2.2.1 (zxor (zshl 1 x) (-1)) else zor S.2.2.2.1 (zshl 1 x)), S.2.2.2.2)) ((S :: Hs).take 20) kp sd im s ct ea la bt bj bm := by
  obtain ⟨b1, b2, b3, b4, b5⟩ := b
  have hP := b2.2.1
  refine ⟨b1, b2, ?_, take_sb b3 b4, b5⟩
  obtain ⟨s1, s2, s3, s4, s5, s6⟩ := b3
  have e1 := off_b s5.1 s5.2 q1 (by omega)
  have e2 := zor_b s5.1 s5.2 q1 (by omega : x ≤ 5)
  refine ⟨s1, s2, s3, s4, ?_, s6⟩
  show 0 ≤ (if y = 0 then zand S.2.2.2.1 (zxor (zshl 1 x) (-1)) else zor S.2.2.2.1 (zshl 1 x)) ∧ (if y = 0 then zand S.2.2.2.1 (zxor (zshl 1 x) (-1)) else zor S.2.2.2.1 (zshl 1 x)) < 64
  split
  · exact e1
  · exact e2
theorem bd_hand (b : BD f n pl M P J wt tk bh S Hs kp sd im s ct ea la bt bj bm) (q1 : 0 ≤ x) (q2 : x < J) (q3 : 0 ≤ y) (q4 : y < P) : BD f n pl M P J wt tk bh ((S.1, S.2.1, uA S.2.2.1 x y, S.2.2.2)) ((S :: Hs).take 20) kp sd im s ct ea la bt bj bm := by
  obtain ⟨b1, b2, b3, b4, b5⟩ := b
  have hs := take_sb b3 b4
  obtain ⟨s1, s2, s3, s4, s5⟩ := b3
  have hd : ∀ j, 0 ≤ j → j < J → 0 ≤ uA S.2.2.1 x y j ∧ uA S.2.2.1 x y j < P := fun j j0 j1 => by
    unfold uA
    split
    · exact ⟨q3, q4⟩
    · exact s4 j j0 j1
  exact ⟨b1, b2.st s3 hd, ⟨s1, s2, s3, hd, s5⟩, hs, b5⟩
theorem bd_wake (b : BD f n pl M P J wt tk bh S Hs kp sd im s ct ea la bt bj bm) (q1 : 0 ≤ x) (q2 : x < P) (q3 : 0 ≤ y) (q4 : y ≤ 999) : BD f n pl M P J wt tk bh ((S.1, uA S.2.1 x y, S.2.2)) ((S :: Hs).take 20) kp sd im s ct ea la bt bj bm := by
  obtain ⟨b1, b2, b3, b4, b5⟩ := b
  have hs := take_sb b3 b4
  obtain ⟨s1, s2, s3, s4, s5⟩ := b3
  have hd : ∀ p, 0 ≤ p → p < P → 0 ≤ uA S.2.1 x y p ∧ uA S.2.1 x y p ≤ 999 := fun p p0 p1 => by
    unfold uA
    split
    · exact ⟨q3, q4⟩
    · exact s3 p p0 p1
  exact ⟨b1, b2.st hd s4, ⟨s1, s2, hd, s4, s5⟩, hs, b5⟩
theorem bd_dismiss (b : BD f n pl M P J wt tk bh S Hs kp sd im s ct ea la bt bj bm) : BD f n pl M P J wt tk bh ((outL S.1 x, S.2)) ((S :: Hs).take 20) kp sd im s ct ea la bt bj bm := by
  obtain ⟨b1, b2, b3, b4, b5⟩ := b
  refine ⟨b1, b2, ?_, take_sb b3 b4, b5⟩
  obtain ⟨s1, s2, s3⟩ := b3
  exact ⟨fun p hp => s1 p ((out_mem s2).mp hp).2, out_nd s2, s3⟩
theorem bd_drift (b : BD f n pl M P J wt tk bh S Hs kp sd im s ct ea la bt bj bm) (q1 : 1 ≤ x) (q2 : x ≤ 40) (q3 : ¬ M = 0) (q4 : S.2.2.2.2 ≤ 9000) : BD f n pl M P J wt tk bh ((S.1, (drNF M P x.toNat s S.2.1).1, S.2.2.1, S.2.2.2.1, S.2.2.2.2 + x)) ((S :: Hs).take 20) kp sd im ((drNF M P x.toNat s S.2.1).2) ct ea la bt bj bm := by
  obtain ⟨b1, b2, b3, b4, b5, b6, b7, b8⟩ := b
  have hs := take_sb b3 b4
  have hM := b2.1
  obtain ⟨s1, s2, s3, s4, s5, s6⟩ := b3
  have hd := drNF_w (P2 := P) (M := M) (P := P) ⟨by omega, hM.2⟩ x.toNat s S.2.1 s3
  exact ⟨b1, b2.st hd s4, ⟨s1, s2, hd, s4, s5, by show 0 ≤ S.2.2.2.2 + x; omega, by show S.2.2.2.2 + x ≤ 9040; omega⟩, hs, b5, b6, drNF_b (by omega) _ _ _ b7, b8⟩
theorem bd_undo {S1 : SS} {H1 : List SS} (b : BD f n pl M P J wt tk bh S (S1 :: H1) kp sd im s ct ea la bt bj bm) : BD f n pl M P J wt tk bh (S1) (H1) kp sd im s ct ea la bt bj bm := by
  obtain ⟨b1, b2, b3, b4, b5⟩ := b
  have h1 := b4 S1 List.mem_cons_self
  exact ⟨b1, b2.st h1.2.2.1 h1.2.2.2.1, h1, fun S2 h2 => b4 S2 (List.mem_cons_of_mem _ h2), b5⟩
theorem bd_keep (b : BD f n pl M P J wt tk bh S Hs kp sd im s ct ea la bt bj bm) : BD f n pl M P J wt tk bh S ([]) (uA kp x 1) (uA sd x s) (uS im x S) s ct ea la bt bj bm := by
  obtain ⟨b1, b2, b3, b4, b5, b6, b7, b8⟩ := b
  refine ⟨b1, b2, b3, fun S1 h1 => by simp at h1, fun i i0 i1 hk => ?_, fun i => ?_, b7, b8⟩
  · show SB P J (uS im x S i)
    unfold uS
    by_cases e : i = x
    · rw [if_pos e]; exact b3
    · rw [if_neg e]
      rw [uA_ne e] at hk
      exact b5 i i0 i1 hk
  · unfold uA
    split
    · exact b7
    · exact b6 i
theorem bd_goBack (b : BD f n pl M P J wt tk bh S Hs kp sd im s ct ea la bt bj bm) (q1 : 0 ≤ x) (q2 : x < 2) (q3 : kp x = 1) : BD f n pl M P J wt tk bh (im x) ([]) kp sd im (sd x) ct ea la bt bj bm := by
  obtain ⟨b1, b2, b3, b4, b5, b6, b7, b8⟩ := b
  have h1 := b5 x q1 q2 q3
  exact ⟨b1, b2.st h1.2.2.1 h1.2.2.2.1, h1, fun S1 h1 => by simp at h1, b5, b6, b6 x, b8⟩
theorem bd_cityF {p : Int} (b : BD f n pl M P J wt tk bh S Hs kp sd im s ct ea la bt bj bm) (hp : -1 ≤ p ∧ p ≤ n) : BD f (0) (p) M P J wt tk bh S Hs kp sd im s ct ea la bt bj bm := by
  obtain ⟨⟨t1, t2⟩, b2, b3, b4, b5, b6, b7, b8, b9, b10, b11, b12⟩ := b
  exact ⟨⟨by omega, fun i i0 i1 => by omega⟩, b2, b3, b4, b5, b6, b7, b8, b9, b10, b11, by omega, by omega⟩
theorem bd_cityS {D : CC} (b : BD f n pl M P J wt tk bh S Hs kp sd im s ct ea la bt bj bm) (hD : DB D) : BD f (0) (-1) (D.1) (D.2.1) (D.2.2.1) (D.2.2.2.2.1) (D.2.2.2.2.2.2.1) (D.2.2.2.2.2.2.2) ((lineL (zshl 1 D.2.1 - 1) P6, D.2.2.2.1, D.2.2.2.2.2.1, 0, 0)) ([]) (fun _ => 0) sd im s (0) ea la (0) bj bm := by
  obtain ⟨⟨t1, t2⟩, b2, b3, b4, b5, b6, b7, b8, b9, b10, b11, b12⟩ := b
  have hP := hD.1.2.1
  have hp := pow_b hP
  obtain ⟨tb1, tb2⟩ := line0_tab D.2.1.toNat (by omega)
  rw [show ((D.2.1.toNat : Nat) : Int) = D.2.1 by omega] at tb1
  refine ⟨⟨by omega, fun i i0 i1 => by omega⟩, hD.1, ⟨fun p hp => ?_, line_nd (by omega) (by omega), fun p p0 p1 => ?_, fun j j0 j1 => ?_, ⟨by show (0 : Int) ≤ 0; omega, by show (0 : Int) < 64; omega⟩, by show (0 : Int) ≤ 0; omega, by show (0 : Int) ≤ 9040; omega⟩, fun S1 h1 => by simp at h1, fun i _ _ hk => absurd (show (0 : Int) = 1 from hk) (by omega), b6, b7, ⟨by omega, by omega⟩, fun i i0 i1 => by omega, ⟨by omega, by omega⟩, fun i i0 i1 => by omega, by omega, by omega⟩
  · have hp : p ∈ lineL (zshl 1 D.2.1 - 1) P6 := hp
    rw [tb1] at hp
    have := (jl_mem _ _ _).mp hp
    omega
  · have := hD.1.2.2.2.1 p p0 p1
    exact ⟨this.1, this.2.1⟩
  · have := hD.1.2.2.2.2 j j0 j1
    exact ⟨this.1, this.2.1⟩
end
