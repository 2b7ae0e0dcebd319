-- THE REFERENCE: city
theorem ZR.of {z zz : Nat → Int} (a : ZR z zz) {i : Nat} (hi : ¬ (i = 10 ∨ i = 11 ∨ i = 12 ∨ i = 13 ∨ i = 15 ∨ i = 17)) : zz i = z i := a i hi
theorem MScr.rx {h h1 : LHeap} (c : MScr h) (x : RX h1) (k : ∀ a, (168 ≤ a) → hRd h1 a = hRd h a) : MScr h1 := by
  obtain ⟨-, -, -, -, -, -, ⟨r7, a7⟩, ⟨r8, a8⟩, ⟨r9, a9⟩, ⟨r10, a10⟩, ⟨r11, a11⟩, ⟨r12, a12⟩⟩ := c
  obtain ⟨x1, x2, x3, x4, x5, x6⟩ := x
  exact ⟨x1, x2, x3, x4, x5, x6, ⟨r7, by rw [k _ (by omega)]; exact a7⟩, ⟨r8, by rw [k _ (by omega)]; exact a8⟩, ⟨r9, by rw [k _ (by omega)]; exact a9⟩, ⟨r10, by rw [k _ (by omega)]; exact a10⟩, ⟨r11, by rw [k _ (by omega)]; exact a11⟩, ⟨r12, by rw [k _ (by omega)]; exact a12⟩⟩
section
variable {d : Nat} {f wt tk bh kp sd ea la bj bm : Int → Int} {n pl M P J s ct bt : Int} {S : SS} {Hs : List SS} {im : Int → SS} {h : LHeap} {Q : Option Value → LHeap → Prop}
theorem m_city {D0 : CC} (hd : 7 ≤ d) (c : MI f n pl M P J wt tk bh S Hs kp sd im s ct ea la bt bj bm h) (hB : BD f n pl M P J wt tk bh S Hs kp sd im s ct ea la bt bj bm) (hD0 : ∀ i, -1 ≤ D0.2.2.2.2.1 i ∧ D0.2.2.2.2.1 i ≤ 7) (kf : ¬ (txF f n n.toNat 0 (clr D0)).1 = 0 → ∀ h1, MI f (0) ((txF f n n.toNat 0 (clr D0)).2.1) M P J wt tk bh S Hs kp sd im s ct ea la bt bj bm h1 → Out 156 180 h h1 → Q (some (vI (-10 - (txF f n n.toNat 0 (clr D0)).1))) h1) (ks : (txF f n n.toNat 0 (clr D0)).1 = 0 → DB (txF f n n.toNat 0 (clr D0)).2.2 → ∀ h1, MI f (0) (-1) ((txF f n n.toNat 0 (clr D0)).2.2.1) ((txF f n n.toNat 0 (clr D0)).2.2.2.1) ((txF f n n.toNat 0 (clr D0)).2.2.2.2.1) ((txF f n n.toNat 0 (clr D0)).2.2.2.2.2.2.1) ((txF f n n.toNat 0 (clr D0)).2.2.2.2.2.2.2.2.1) ((txF f n n.toNat 0 (clr D0)).2.2.2.2.2.2.2.2.2) ((lineL (zshl 1 (txF f n n.toNat 0 (clr D0)).2.2.2.1 - 1) P6, (txF f n n.toNat 0 (clr D0)).2.2.2.2.2.1, (txF f n n.toNat 0 (clr D0)).2.2.2.2.2.2.2.1, 0, 0)) ([]) (fun _ => 0) sd im s (0) ea la (0) bj bm h1 → Out 156 180 h h1 → Q (some (vI (txF f n n.toNat 0 (clr D0)).2.2.2.1)) h1) : CALL d 125 [.ref 156] h Q := by
  obtain ⟨z, g, ⟨a1, ⟨z0, z1, z2, z7, z9, z10, z24, z29, z35⟩, ⟨r1, a3, a3b⟩, ⟨r2, a4, a4b⟩, ⟨r3, a5, a5b⟩, a6, ⟨r4, a7, a7b, a7c⟩, a8, a9, a10, a11, ⟨r5, a12, a12b⟩, ⟨a13, a13b⟩, a14⟩, b1, b2⟩ := c
  obtain ⟨⟨q1, s1⟩, ⟨q2, s2⟩, ⟨q3, s3⟩, ⟨q4, s4⟩, ⟨q5, s5⟩, ⟨q6, s6⟩, s7⟩ := id a14
  have hT := hB.1
  have hn := hT.1
  have htb := txF_b (f := f) (n := n) n.toNat 0 (clr D0)
  refine cl125 (by omega) a1 ?_
  simp (disch := omega) only [wr_id, wr_m1, sd_t, nl_I, nl_R, nl_none, c1_I, c1_R, sh_0, sh_1, sh_2, sh_3, sh_4, true_and, and_true, ldA_A, ldB_B, ldS_S, stA_A, stB_B, aL_A, aL_B, aL_S, aC_A, hRd_eq, hRd_ne, cp6, cp8, tl_some, tl_none, List.cons_append, List.nil_append, ofI_t0, ofI_t1, Int.add_zero, Int.zero_add, x125_0, x125_1, x125_2, x125_3, x125_4, x125_5, x125_6, x125_7, x125_8, x125_9, x125_10, x125_11, x125_12, x125_13, x125_14, x125_15, x125_16, x125_17, x125_18, x125_19, gf11_0, pf11_0, gf11_1, pf11_1, gf11_2, pf11_2, gf11_3, gf11_4, gf11_5, gf11_6, gf11_7, pf11_7, gf11_8, gf11_9, pf11_9, gf11_10, pf11_10, gf11_11, pf11_11, gf11_12, pf11_12, gf11_13, pf11_13, gf11_14, gf11_15, pf11_15, gf11_16, gf11_17, pf11_17, gf11_18, gf11_19, gf11_20, gf11_21, gf11_22, gf11_23, gf11_24, pf11_24, gf11_25, gf11_26, gf11_27, gf11_28, pf11_28, gf11_29, pf11_29, gf11_30, gf11_31, gf11_32, pf11_32, gf11_33, gf11_34, gf11_35, pf11_35, gf11_36, gf11_37, gf11_38, gf11_39, uN_eq, uN_ne, a1, s1, hWr_same]
  refine ⟨by omega, ?_⟩
  -- the start
  generalize hzq : uN (uN (uN (uN z 10 (-1)) 11 0) 15 0) 17 0 = zq
  have t10 : zq 10 = -1 := by rw [← hzq]; rfl
  have t11 : zq 11 = 0 := by rw [← hzq]; rfl
  have t15 : zq 15 = 0 := by rw [← hzq]; rfl
  have t17 : zq 17 = 0 := by rw [← hzq]; rfl
  have tz : ∀ i, ¬ (i = 10 ∨ i = 11 ∨ i = 15 ∨ i = 17) → zq i = z i := fun i hi => by rw [← hzq, uN_ne (by omega), uN_ne (by omega), uN_ne (by omega), uN_ne (by omega)]
  generalize hhs : hWr (hWr (hWr h 156 (oM (uN (uN z 10 (-1)) 11 0))) 162 (cA 1 (uA q1 0 0))) 156 (oM zq) = hs
  have e156 : hRd hs 156 = oM zq := by rw [← hhs]; exact hRd_eq
  have e162 : hRd hs 162 = cA 1 (uA q1 0 0) := by rw [← hhs, hRd_ne (by omega)]; exact hRd_eq
  have k0 : ∀ a, ¬ (a = 156 ∨ a = 162) → hRd hs a = hRd h a := fun a ha => by rw [← hhs, hRd_ne (by omega), hRd_ne (by omega), hRd_ne (by omega)]
  have sz : hs.1 = h.1 ∧ hs.2.1 = h.2.1 := by rw [← hhs]; exact ⟨rfl, rfl⟩
  have rx : RX hs := ⟨⟨_, e162⟩, ⟨q2, by rw [k0 _ (by omega)]; exact s2⟩, ⟨q3, by rw [k0 _ (by omega)]; exact s3⟩, ⟨q4, by rw [k0 _ (by omega)]; exact s4⟩, ⟨q5, by rw [k0 _ (by omega)]; exact s5⟩, ⟨q6, by rw [k0 _ (by omega)]; exact s6⟩⟩
  have hDB : DB (clr D0) := by
    refine ⟨⟨⟨Int.le_refl _, by show (0 : Int) ≤ 999; omega⟩, ⟨Int.le_refl _, by show (0 : Int) ≤ 6; omega⟩, ⟨Int.le_refl _, by show (0 : Int) ≤ 8; omega⟩, fun p p0 p1 => ?_, fun j j0 j1 => ?_⟩, hD0⟩
    · have p1 : p < 0 := p1
      omega
    · have j1 : j < 0 := j1
      omega
  refine l_mtext (h0 := hs) (z0 := zq) (by omega) hT ((tz 9 (by omega)).trans z9) (by rw [k0 _ (by omega)]; exact a6) n.toNat 0 (clr D0) 0 zq hs (by omega) (by omega) (by omega) rfl e156 (fun _ _ => rfl) ⟨rfl, rfl, fun _ _ => rfl, rx⟩ t10 t11 ⟨t15, t17, ⟨_, e162, uA_eq⟩, ⟨q2, by rw [k0 _ (by omega)]; exact s2, fun p p0 p1 => ?_⟩, ⟨q3, by rw [k0 _ (by omega)]; exact s3, fun p p0 p1 => ?_⟩, ⟨q4, by rw [k0 _ (by omega)]; exact s4, fun p p0 p1 => ?_⟩, ⟨q5, by rw [k0 _ (by omega)]; exact s5, fun p p0 p1 => ?_⟩, ⟨q6, by rw [k0 _ (by omega)]; exact s6, fun p p0 p1 => ?_⟩⟩ hDB (fun h2 zz f1 f2 f3 f4 f5 => ?_)
  · have p1 : p < 0 := p1; omega
  · have p1 : p < 0 := p1; omega
  · have p1 : p < 0 := p1; omega
  · have p1 : p < 0 := p1; omega
  · have p1 : p < 0 := p1; omega
  have zzi : ∀ i, ¬ (i = 10 ∨ i = 11 ∨ i = 12 ∨ i = 13 ∨ i = 15 ∨ i = 17) → zz i = z i := fun i hi => (f2 i hi).trans (tz i (by omega))
  have k2 : ∀ a, ¬ (a = 156 ∨ (162 ≤ a ∧ a ≤ 167)) → hRd h2 a = hRd h a := fun a ha => (f3.2.2.1 a ha).trans (k0 a (by omega))
  have x2 := f3.2.2.2
  by_cases q : (txF f n n.toNat 0 (clr D0)).1 = 0
  · obtain ⟨g10, gRE, gDB⟩ := f5 q
    have ks := ks q gDB
    rw [q]
    generalize (txF f n n.toNat 0 (clr D0)).2.2 = D at gRE gDB ks
    have hP := gDB.1.2.1
    simp (disch := omega) only [wr_id, wr_m1, sd_t, nl_I, nl_R, nl_none, c1_I, c1_R, sh_0, sh_1, sh_2, sh_3, sh_4, true_and, and_true, ldA_A, ldB_B, ldS_S, stA_A, stB_B, aL_A, aL_B, aL_S, aC_A, hRd_eq, hRd_ne, cp6, cp8, tl_some, tl_none, List.cons_append, List.nil_append, ofI_t0, ofI_t1, Int.add_zero, Int.zero_add, x125_29, x125_30, x125_31, x125_32, x125_33, x125_38, x125_39, gf11_0, pf11_0, gf11_1, pf11_1, gf11_2, pf11_2, gf11_3, gf11_4, gf11_5, gf11_6, gf11_7, pf11_7, gf11_8, gf11_9, pf11_9, gf11_10, pf11_10, gf11_11, pf11_11, gf11_12, pf11_12, gf11_13, pf11_13, gf11_14, gf11_15, pf11_15, gf11_16, gf11_17, pf11_17, gf11_18, gf11_19, gf11_20, gf11_21, gf11_22, gf11_23, gf11_24, pf11_24, gf11_25, gf11_26, gf11_27, gf11_28, pf11_28, gf11_29, pf11_29, gf11_30, gf11_31, gf11_32, pf11_32, gf11_33, gf11_34, gf11_35, pf11_35, gf11_36, gf11_37, gf11_38, gf11_39, uN_eq, uN_ne, f1]
    refine ⟨fun _ => ?_, fun q => by first | omega | exact absurd rfl q | exact absurd trivial q | exact absurd q (by omega)⟩
    have rE : RE D (uN zz 9 0) (hWr h2 156 (oM (uN zz 9 0))) := by
      obtain ⟨w15, w17, ⟨r1, a1, b1⟩, ⟨r2, a2, b2⟩, ⟨r3, a3, b3⟩, ⟨r5, a5, b5⟩, ⟨r6, a6, b6⟩, ⟨r7, a7, b7⟩⟩ := gRE
      exact ⟨w15, w17, ⟨r1, by rw [hRd_ne (by omega)]; exact a1, b1⟩, ⟨r2, by rw [hRd_ne (by omega)]; exact a2, b2⟩, ⟨r3, by rw [hRd_ne (by omega)]; exact a3, b3⟩, ⟨r5, by rw [hRd_ne (by omega)]; exact a5, b5⟩, ⟨r6, by rw [hRd_ne (by omega)]; exact a6, b6⟩, ⟨r7, by rw [hRd_ne (by omega)]; exact a7, b7⟩⟩
    refine m_read (D := D) (z := uN zz 9 0) (by omega) hRd_eq rE gDB (by rw [hRd_ne (by omega), k2 _ (by omega)]; exact a3) (by rw [hRd_ne (by omega), k2 _ (by omega)]; exact a4) (by rw [hRd_ne (by omega), k2 _ (by omega)]; exact a5) (by rw [hRd_ne (by omega), k2 _ (by omega)]; exact b1) (fun h3 g3 t3 b3 w3 m1 m2 m3 m4 m5 m6 m7 m8 m9 m10 m11 => ?_)
    have k3 : ∀ a, ¬ (156 ≤ a ∧ a ≤ 167) → hRd h3 a = hRd h a := fun a ha => by rw [m10 a (by omega), hRd_ne (by omega)]; exact k2 a (by omega)
    have h3k : hRd h3 180 = cB 2 kp := by rw [k3 _ (by omega)]; exact a13
    have x3 : RX h3 := by
      obtain ⟨⟨r1, y1⟩, ⟨r2, y2⟩, ⟨r3, y3⟩, ⟨r4, y4⟩, ⟨r5, y5⟩, ⟨r6, y6⟩⟩ := x2
      exact ⟨⟨r1, by rw [m10 _ (by omega), hRd_ne (by omega)]; exact y1⟩, ⟨r2, by rw [m10 _ (by omega), hRd_ne (by omega)]; exact y2⟩, ⟨r3, by rw [m10 _ (by omega), hRd_ne (by omega)]; exact y3⟩, ⟨r4, by rw [m10 _ (by omega), hRd_ne (by omega)]; exact y4⟩, ⟨r5, by rw [m10 _ (by omega), hRd_ne (by omega)]; exact y5⟩, ⟨r6, by rw [m10 _ (by omega), hRd_ne (by omega)]; exact y6⟩⟩
    simp (disch := omega) only [wr_id, wr_m1, sd_t, nl_I, nl_R, nl_none, c1_I, c1_R, sh_0, sh_1, sh_2, sh_3, sh_4, true_and, and_true, ldA_A, ldB_B, ldS_S, stA_A, stB_B, aL_A, aL_B, aL_S, aC_A, hRd_eq, hRd_ne, cp6, cp8, tl_some, tl_none, List.cons_append, List.nil_append, ofI_t0, ofI_t1, Int.add_zero, Int.zero_add, x125_40, x125_41, x125_42, x125_43, x125_44, x125_45, x125_46, x125_47, x125_48, x125_49, x125_50, x125_51, x125_52, x125_53, x125_54, x125_55, x125_56, x125_57, x125_58, x125_59, x125_60, x125_61, gf11_0, pf11_0, gf11_1, pf11_1, gf11_2, pf11_2, gf11_3, gf11_4, gf11_5, gf11_6, gf11_7, pf11_7, gf11_8, gf11_9, pf11_9, gf11_10, pf11_10, gf11_11, pf11_11, gf11_12, pf11_12, gf11_13, pf11_13, gf11_14, gf11_15, pf11_15, gf11_16, gf11_17, pf11_17, gf11_18, gf11_19, gf11_20, gf11_21, gf11_22, gf11_23, gf11_24, pf11_24, gf11_25, gf11_26, gf11_27, gf11_28, pf11_28, gf11_29, pf11_29, gf11_30, gf11_31, gf11_32, pf11_32, gf11_33, gf11_34, gf11_35, pf11_35, gf11_36, gf11_37, gf11_38, gf11_39, uN_eq, uN_ne, m1, h3k, hWr_same]
    refine ⟨by omega, by omega, ?_⟩
    generalize hzr : uN (uN (uN (uN (uN (uN (uN zz 9 0) 0 D.1) 1 D.2.1) 2 D.2.2.1) 29 0) 35 0) 24 0 = zr
    have u0 : zr 0 = D.1 := by rw [← hzr]; rfl
    have u1 : zr 1 = D.2.1 := by rw [← hzr]; rfl
    have u2 : zr 2 = D.2.2.1 := by rw [← hzr]; rfl
    have u9 : zr 9 = 0 := by rw [← hzr]; rfl
    have u29 : zr 29 = 0 := by rw [← hzr]; rfl
    have u35 : zr 35 = 0 := by rw [← hzr]; rfl
    have u24 : zr 24 = 0 := by rw [← hzr]; rfl
    have u7 : zr 7 = s := by rw [← hzr]; exact (zzi 7 (by omega)).trans z7
    have u10 : zr 10 = -1 := by rw [← hzr]; exact g10
    generalize hhf : hWr (hWr h3 156 (oM zr)) 180 (cB 2 (uA (uA kp 0 0) 1 0)) = hf
    have f156 : hRd hf 156 = oM zr := by rw [← hhf, hRd_ne (by omega)]; exact hRd_eq
    have f180 : hRd hf 180 = cB 2 (fun _ => 0) := by
      rw [← hhf, hRd_eq]
      refine cB_ext (fun j j0 j1 => ?_)
      by_cases e : j = 1
      · rw [e, uA_eq]
      · rw [uA_ne e, show j = 0 by omega, uA_eq]
    have kf3 : ∀ a, ¬ (a = 156 ∨ a = 180) → hRd hf a = hRd h3 a := fun a ha => by rw [← hhf, hRd_ne (by omega), hRd_ne (by omega)]
    have k : ∀ a, ¬ (156 ≤ a ∧ a ≤ 167) → ¬ a = 180 → hRd hf a = hRd h a := fun a ha h8 => by rw [kf3 a (by omega)]; exact k3 a ha
    have szf : hf.1 = h.1 ∧ hf.2.1 = h.2.1 := by
      rw [← hhf]
      exact ⟨by show h3.1 = h.1; rw [m11.1]; exact f3.1.trans sz.1, by show h3.2.1 = h.2.1; rw [m11.2]; exact f3.2.1.trans sz.2⟩
    refine ks hf ⟨zr, g3, ⟨f156, ⟨u0, u1, u2, u7, u9, u10, u24, u29, u35⟩, ⟨t3, by rw [kf3 _ (by omega)]; exact m4, m5⟩, ⟨b3, by rw [kf3 _ (by omega)]; exact m6, m7⟩, ⟨w3, by rw [kf3 _ (by omega)]; exact m8, m9⟩, by rw [kf3 _ (by omega), m10 _ (by omega), hRd_ne (by omega), k2 _ (by omega)]; exact a6, ⟨r4, by rw [k _ (by omega) (by omega)]; exact a7, by simp, fun i S2 hi => by simp at hi⟩, by rw [k _ (by omega) (by omega)]; exact a8, by rw [k _ (by omega) (by omega)]; exact a9, by rw [k _ (by omega) (by omega)]; exact a10, by rw [k _ (by omega) (by omega)]; exact a11, ⟨r5, by rw [k _ (by omega) (by omega)]; exact a12, fun i i0 i1 hi => absurd (show (0 : Int) = 1 from hi) (by omega)⟩, ⟨f180, fun i _ _ => Or.inl rfl⟩, ?_⟩, by rw [kf3 _ (by omega)]; exact m2, m3⟩ ⟨szf.1, szf.2, fun a ha => k a (by omega) (by omega)⟩
    have x4 : RX hf := by
      obtain ⟨⟨r1, y1⟩, ⟨r2, y2⟩, ⟨r3, y3⟩, ⟨r4, y4⟩, ⟨r5, y5⟩, ⟨r6, y6⟩⟩ := x3
      exact ⟨⟨r1, by rw [kf3 _ (by omega)]; exact y1⟩, ⟨r2, by rw [kf3 _ (by omega)]; exact y2⟩, ⟨r3, by rw [kf3 _ (by omega)]; exact y3⟩, ⟨r4, by rw [kf3 _ (by omega)]; exact y4⟩, ⟨r5, by rw [kf3 _ (by omega)]; exact y5⟩, ⟨r6, by rw [kf3 _ (by omega)]; exact y6⟩⟩
    obtain ⟨-, -, -, -, -, -, ⟨v7, y7⟩, ⟨v8, y8⟩, ⟨v9, y9⟩, ⟨v10, y10⟩, ⟨v11, y11⟩, ⟨v12, y12⟩⟩ := a14
    obtain ⟨p1, p2, p3, p4, p5, p6⟩ := x4
    exact ⟨p1, p2, p3, p4, p5, p6, ⟨v7, by rw [k _ (by omega) (by omega)]; exact y7⟩, ⟨v8, by rw [k _ (by omega) (by omega)]; exact y8⟩, ⟨v9, by rw [k _ (by omega) (by omega)]; exact y9⟩, ⟨v10, by rw [k _ (by omega) (by omega)]; exact y10⟩, ⟨v11, by rw [k _ (by omega) (by omega)]; exact y11⟩, ⟨v12, by rw [k _ (by omega) (by omega)]; exact y12⟩⟩
  · have f4 := f4 q
    have kf := kf q
    generalize hfl : (txF f n n.toNat 0 (clr D0)).1 = fl at *
    simp (disch := omega) only [wr_id, wr_m1, sd_t, nl_I, nl_R, nl_none, c1_I, c1_R, sh_0, sh_1, sh_2, sh_3, sh_4, true_and, and_true, ldA_A, ldB_B, ldS_S, stA_A, stB_B, aL_A, aL_B, aL_S, aC_A, hRd_eq, hRd_ne, cp6, cp8, tl_some, tl_none, List.cons_append, List.nil_append, ofI_t0, ofI_t1, Int.add_zero, Int.zero_add, x125_29, x125_30, x125_31, x125_32, x125_33, x125_34, x125_35, x125_36, x125_37, gf11_0, pf11_0, gf11_1, pf11_1, gf11_2, pf11_2, gf11_3, gf11_4, gf11_5, gf11_6, gf11_7, pf11_7, gf11_8, gf11_9, pf11_9, gf11_10, pf11_10, gf11_11, pf11_11, gf11_12, pf11_12, gf11_13, pf11_13, gf11_14, gf11_15, pf11_15, gf11_16, gf11_17, pf11_17, gf11_18, gf11_19, gf11_20, gf11_21, gf11_22, gf11_23, gf11_24, pf11_24, gf11_25, gf11_26, gf11_27, gf11_28, pf11_28, gf11_29, pf11_29, gf11_30, gf11_31, gf11_32, pf11_32, gf11_33, gf11_34, gf11_35, pf11_35, gf11_36, gf11_37, gf11_38, gf11_39, uN_eq, uN_ne, f1]
    refine ⟨fun q => by omega, fun _ => ?_⟩
    have k : ∀ a, ¬ (a = 156 ∨ (162 ≤ a ∧ a ≤ 167)) → hRd (hWr h2 156 (oM (uN zz 9 0))) a = hRd h a := fun a ha => by rw [hRd_ne (by omega)]; exact k2 a ha
    have x3 : RX (hWr h2 156 (oM (uN zz 9 0))) := by
      obtain ⟨⟨r1, y1⟩, ⟨r2, y2⟩, ⟨r3, y3⟩, ⟨r4, y4⟩, ⟨r5, y5⟩, ⟨r6, y6⟩⟩ := x2
      exact ⟨⟨r1, by rw [hRd_ne (by omega)]; exact y1⟩, ⟨r2, by rw [hRd_ne (by omega)]; exact y2⟩, ⟨r3, by rw [hRd_ne (by omega)]; exact y3⟩, ⟨r4, by rw [hRd_ne (by omega)]; exact y4⟩, ⟨r5, by rw [hRd_ne (by omega)]; exact y5⟩, ⟨r6, by rw [hRd_ne (by omega)]; exact y6⟩⟩
    refine kf _ ⟨uN zz 9 0, g, ⟨hRd_eq, ⟨(zzi 0 (by omega)).trans z0, (zzi 1 (by omega)).trans z1, (zzi 2 (by omega)).trans z2, (zzi 7 (by omega)).trans z7, rfl, f4 q, (zzi 24 (by omega)).trans z24, (zzi 29 (by omega)).trans z29, (zzi 35 (by omega)).trans z35⟩, ⟨r1, by rw [k _ (by omega)]; exact a3, a3b⟩, ⟨r2, by rw [k _ (by omega)]; exact a4, a4b⟩, ⟨r3, by rw [k _ (by omega)]; exact a5, a5b⟩, by rw [k _ (by omega)]; exact a6, ⟨r4, by rw [k _ (by omega)]; exact a7, a7b, a7c⟩, by rw [k _ (by omega)]; exact a8, by rw [k _ (by omega)]; exact a9, by rw [k _ (by omega)]; exact a10, by rw [k _ (by omega)]; exact a11, ⟨r5, by rw [k _ (by omega)]; exact a12, a12b⟩, ⟨by rw [k _ (by omega)]; exact a13, a13b⟩, a14.rx x3 (fun a ha => k a (by omega))⟩, by rw [k _ (by omega)]; exact b1, b2⟩ ⟨by show h2.1 = h.1; rw [f3.1]; exact sz.1, by show h2.2.1 = h.2.1; rw [f3.2.1]; exact sz.2, fun a ha => k a (by omega)⟩
end
