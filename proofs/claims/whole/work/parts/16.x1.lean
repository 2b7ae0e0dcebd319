-- one rewriting rule an instruction: by program (wip/whole/xgen.py)
section
variable {d : Nat} {h : LHeap} {st : List Value} {Q : Option Value → LHeap → Prop} {x y w : Int} {a b u : Nat} {v v1 v2 v3 q0 q1 q2 q3 q4 q5 : Value} {v0 l0 l1 l2 l3 l4 l5 l6 l7 l8 : Option Value}
-- 58: WakeOrder$Trials.tryRaising
theorem x58_0 : WP d 58 0 [l0, some (Value.ref a), l2, l3, l4, l5, l6] st h Q ↔ WP d 58 1 [l0, some (Value.ref a), l2, l3, l4, l5, l6] (Value.ref a :: st) h Q := wp_aload (show (lcode 58)[0]? = some (.aload 1) by decide +kernel) rfl
theorem x58_1 : WP d 58 1 [l0, l1, l2, l3, l4, l5, l6] (.ref a :: st) h Q ↔ gF (hRd h a) 1 1 (fun v => WP d 58 2 [l0, l1, l2, l3, l4, l5, l6] (v :: st) h Q) := wp_getfield (show (lcode 58)[1]? = some (.getfield 65) by decide +kernel)
theorem x58_2 : WP d 58 2 [l0, l1, l2, l3, l4, l5, l6] (.ref a :: st) h Q ↔ gF (hRd h a) 7 0 (fun v => WP d 58 3 [l0, l1, l2, l3, l4, l5, l6] (v :: st) h Q) := wp_getfield (show (lcode 58)[2]? = some (.getfield 448) by decide +kernel)
theorem x58_3 : WP d 58 3 [l0, l1, l2, l3, l4, l5, l6] (Value.ref a :: st) h Q ↔ (nl l3 ∧ WP d 58 4 [l0, l1, l2, l3, some (Value.ref a), l5, l6] st h Q) := wp_astore (show (lcode 58)[3]? = some (.astore 4) by decide +kernel) (Nat.le_of_ble_eq_true rfl)
theorem x58_4 : WP d 58 4 [some (Value.ref a), l1, l2, l3, l4, l5, l6] st h Q ↔ WP d 58 5 [some (Value.ref a), l1, l2, l3, l4, l5, l6] (Value.ref a :: st) h Q := wp_aload (show (lcode 58)[4]? = some (.aload 0) by decide +kernel) rfl
theorem x58_5 : WP d 58 5 [l0, l1, l2, l3, l4, l5, l6] st h Q ↔ WP d 58 6 [l0, l1, l2, l3, l4, l5, l6] (vI (-1) :: st) h Q := wp_iconst (show (lcode 58)[5]? = some (.iconst (-1)) by decide +kernel)
theorem x58_6 : WP d 58 6 [l0, l1, l2, l3, l4, l5, l6] (vI x :: .ref a :: st) h Q ↔ pF (hRd h a) 8 2 (vI x) (fun c => WP d 58 7 [l0, l1, l2, l3, l4, l5, l6] st (hWr h a c) Q) := wp_putfield (show (lcode 58)[6]? = some (.putfield 514) by decide +kernel)
theorem x58_7 : WP d 58 7 [some (Value.ref a), l1, l2, l3, l4, l5, l6] st h Q ↔ WP d 58 8 [some (Value.ref a), l1, l2, l3, l4, l5, l6] (Value.ref a :: st) h Q := wp_aload (show (lcode 58)[7]? = some (.aload 0) by decide +kernel) rfl
theorem x58_8 : WP d 58 8 [l0, l1, l2, l3, l4, l5, l6] (.ref a :: st) h Q ↔ gF (hRd h a) 8 0 (fun v => WP d 58 9 [l0, l1, l2, l3, l4, l5, l6] (v :: st) h Q) := wp_getfield (show (lcode 58)[8]? = some (.getfield 512) by decide +kernel)
theorem x58_9 : WP d 58 9 [l0, l1, l2, l3, some (Value.ref a), l5, l6] st h Q ↔ WP d 58 10 [l0, l1, l2, l3, some (Value.ref a), l5, l6] (Value.ref a :: st) h Q := wp_aload (show (lcode 58)[9]? = some (.aload 4) by decide +kernel) rfl
theorem x58_10 : WP d 58 10 [l0, l1, l2, l3, l4, l5, l6] (v :: st) h Q ↔ (sh st ∧ CALL d 46 [v] h (fun v h => WP d 58 11 [l0, l1, l2, l3, l4, l5, l6] (v.toList ++ st) h Q)) := wp_call (n := 1) (show (lcode 58)[10]? = some (.invokestatic 46) by decide +kernel) (by decide +kernel) (by simp)
theorem x58_11 : WP d 58 11 [l0, l1, l2, l3, l4, l5, l6] (v1 :: v :: st) h Q ↔ (sh st ∧ CALL d 48 [v, v1] h (fun v h => WP d 58 12 [l0, l1, l2, l3, l4, l5, l6] (v.toList ++ st) h Q)) := wp_call (n := 2) (show (lcode 58)[11]? = some (.invokestatic 48) by decide +kernel) (by decide +kernel) (by simp)
theorem x58_12 : WP d 58 12 [l0, l1, l2, l3, l4, l5, l6] st h Q ↔ WP d 58 13 [l0, l1, l2, l3, l4, l5, l6] (vI 0 :: st) h Q := wp_iconst (show (lcode 58)[12]? = some (.iconst 0) by decide +kernel)
theorem x58_13 : WP d 58 13 [l0, l1, l2, l3, l4, l5, l6] (vI x :: st) h Q ↔ (nl l4 ∧ WP d 58 14 [l0, l1, l2, l3, l4, some (vI x), l6] st h Q) := wp_istore (show (lcode 58)[13]? = some (.istore 5) by decide +kernel) (Nat.le_of_ble_eq_true rfl)
theorem x58_14 : WP d 58 14 [l0, l1, l2, l3, l4, l5, l6] st h Q ↔ WPC d 58 15 [l0, l1, l2, l3, l4, l5, l6] st h Q := wp_nop (show (lcode 58)[14]? = some (.nop) by decide +kernel)
theorem x58_15 : WP d 58 15 [l0, l1, l2, l3, l4, some (vI x), l6] st h Q ↔ WP d 58 16 [l0, l1, l2, l3, l4, some (vI x), l6] (vI x :: st) h Q := wp_iload (show (lcode 58)[15]? = some (.iload 5) by decide +kernel) rfl
theorem x58_16 : WP d 58 16 [l0, l1, l2, l3, l4, l5, l6] st h Q ↔ WP d 58 17 [l0, l1, l2, l3, l4, l5, l6] (vI 720 :: st) h Q := wp_iconst (show (lcode 58)[16]? = some (.iconst 720) by decide +kernel)
theorem x58_17 : WP d 58 17 [l0, l1, l2, l3, l4, l5, l6] (vI y :: vI x :: st) h Q ↔ ((wr y ≤ wr x → WP d 58 52 [l0, l1, l2, l3, l4, l5, l6] st h Q) ∧ (¬ (wr y ≤ wr x) → WP d 58 18 [l0, l1, l2, l3, l4, l5, l6] st h Q)) := wp_icmp_ge (show (lcode 58)[17]? = some (.if_icmp .ge 52) by decide +kernel)
theorem x58_18 : WP d 58 18 [some (Value.ref a), l1, l2, l3, l4, l5, l6] st h Q ↔ WP d 58 19 [some (Value.ref a), l1, l2, l3, l4, l5, l6] (Value.ref a :: st) h Q := wp_aload (show (lcode 58)[18]? = some (.aload 0) by decide +kernel) rfl
theorem x58_19 : WP d 58 19 [l0, l1, l2, l3, l4, l5, l6] (.ref a :: st) h Q ↔ gF (hRd h a) 8 0 (fun v => WP d 58 20 [l0, l1, l2, l3, l4, l5, l6] (v :: st) h Q) := wp_getfield (show (lcode 58)[19]? = some (.getfield 512) by decide +kernel)
theorem x58_20 : WP d 58 20 [l0, l1, l2, l3, some (Value.ref a), l5, l6] st h Q ↔ WP d 58 21 [l0, l1, l2, l3, some (Value.ref a), l5, l6] (Value.ref a :: st) h Q := wp_aload (show (lcode 58)[20]? = some (.aload 4) by decide +kernel) rfl
theorem x58_21 : WP d 58 21 [l0, l1, l2, l3, l4, l5, l6] (v1 :: v :: st) h Q ↔ (sh st ∧ CALL d 51 [v, v1] h (fun v h => WP d 58 22 [l0, l1, l2, l3, l4, l5, l6] (v.toList ++ st) h Q)) := wp_call (n := 2) (show (lcode 58)[21]? = some (.invokestatic 51) by decide +kernel) (by decide +kernel) (by simp)
theorem x58_22 : WP d 58 22 [l0, l1, l2, l3, l4, l5, l6] (vI x :: st) h Q ↔ (nl l5 ∧ WP d 58 23 [l0, l1, l2, l3, l4, l5, some (vI x)] st h Q) := wp_istore (show (lcode 58)[22]? = some (.istore 6) by decide +kernel) (Nat.le_of_ble_eq_true rfl)
theorem x58_23 : WP d 58 23 [some (Value.ref a), l1, l2, l3, l4, l5, l6] st h Q ↔ WP d 58 24 [some (Value.ref a), l1, l2, l3, l4, l5, l6] (Value.ref a :: st) h Q := wp_aload (show (lcode 58)[23]? = some (.aload 0) by decide +kernel) rfl
theorem x58_24 : WP d 58 24 [l0, l1, l2, l3, l4, l5, l6] (.ref a :: st) h Q ↔ gF (hRd h a) 8 2 (fun v => WP d 58 25 [l0, l1, l2, l3, l4, l5, l6] (v :: st) h Q) := wp_getfield (show (lcode 58)[24]? = some (.getfield 514) by decide +kernel)
theorem x58_25 : WP d 58 25 [l0, l1, l2, l3, l4, l5, l6] st h Q ↔ WP d 58 26 [l0, l1, l2, l3, l4, l5, l6] (vI (-1) :: st) h Q := wp_iconst (show (lcode 58)[25]? = some (.iconst (-1)) by decide +kernel)
theorem x58_26 : WP d 58 26 [l0, l1, l2, l3, l4, l5, l6] (vI y :: vI x :: st) h Q ↔ ((wr x = wr y → WP d 58 31 [l0, l1, l2, l3, l4, l5, l6] st h Q) ∧ (¬ (wr x = wr y) → WP d 58 27 [l0, l1, l2, l3, l4, l5, l6] st h Q)) := wp_icmp_eq (show (lcode 58)[26]? = some (.if_icmp .eq 31) by decide +kernel)
theorem x58_27 : WP d 58 27 [l0, l1, l2, l3, l4, l5, some (vI x)] st h Q ↔ WP d 58 28 [l0, l1, l2, l3, l4, l5, some (vI x)] (vI x :: st) h Q := wp_iload (show (lcode 58)[27]? = some (.iload 6) by decide +kernel) rfl
theorem x58_28 : WP d 58 28 [some (Value.ref a), l1, l2, l3, l4, l5, l6] st h Q ↔ WP d 58 29 [some (Value.ref a), l1, l2, l3, l4, l5, l6] (Value.ref a :: st) h Q := wp_aload (show (lcode 58)[28]? = some (.aload 0) by decide +kernel) rfl
theorem x58_29 : WP d 58 29 [l0, l1, l2, l3, l4, l5, l6] (.ref a :: st) h Q ↔ gF (hRd h a) 8 2 (fun v => WP d 58 30 [l0, l1, l2, l3, l4, l5, l6] (v :: st) h Q) := wp_getfield (show (lcode 58)[29]? = some (.getfield 514) by decide +kernel)
theorem x58_30 : WP d 58 30 [l0, l1, l2, l3, l4, l5, l6] (vI y :: vI x :: st) h Q ↔ ((wr y ≤ wr x → WP d 58 45 [l0, l1, l2, l3, l4, l5, l6] st h Q) ∧ (¬ (wr y ≤ wr x) → WP d 58 31 [l0, l1, l2, l3, l4, l5, l6] st h Q)) := wp_icmp_ge (show (lcode 58)[30]? = some (.if_icmp .ge 45) by decide +kernel)
theorem x58_31 : WP d 58 31 [some (Value.ref a), l1, l2, l3, l4, l5, l6] st h Q ↔ WP d 58 32 [some (Value.ref a), l1, l2, l3, l4, l5, l6] (Value.ref a :: st) h Q := wp_aload (show (lcode 58)[31]? = some (.aload 0) by decide +kernel) rfl
theorem x58_32 : WP d 58 32 [l0, some (Value.ref a), l2, l3, l4, l5, l6] st h Q ↔ WP d 58 33 [l0, some (Value.ref a), l2, l3, l4, l5, l6] (Value.ref a :: st) h Q := wp_aload (show (lcode 58)[32]? = some (.aload 1) by decide +kernel) rfl
theorem x58_33 : WP d 58 33 [l0, l1, some (vI x), l3, l4, l5, l6] st h Q ↔ WP d 58 34 [l0, l1, some (vI x), l3, l4, l5, l6] (vI x :: st) h Q := wp_iload (show (lcode 58)[33]? = some (.iload 2) by decide +kernel) rfl
theorem x58_34 : WP d 58 34 [l0, l1, l2, some (vI x), l4, l5, l6] st h Q ↔ WP d 58 35 [l0, l1, l2, some (vI x), l4, l5, l6] (vI x :: st) h Q := wp_iload (show (lcode 58)[34]? = some (.iload 3) by decide +kernel) rfl
theorem x58_35 : WP d 58 35 [l0, l1, l2, l3, l4, l5, l6] (q3 :: q2 :: q1 :: q0 :: st) h Q ↔ (sh st ∧ CALL d 59 [q0, q1, q2, q3] h (fun v h => WP d 58 36 [l0, l1, l2, l3, l4, l5, l6] (v.toList ++ st) h Q)) := wp_call (n := 4) (show (lcode 58)[35]? = some (.invokestatic 59) by decide +kernel) (by decide +kernel) (by simp)
theorem x58_36 : WP d 58 36 [l0, l1, l2, l3, l4, l5, l6] (vI x :: st) h Q ↔ ((wr x = 0 → WP d 58 45 [l0, l1, l2, l3, l4, l5, l6] st h Q) ∧ (¬ (wr x = 0) → WP d 58 37 [l0, l1, l2, l3, l4, l5, l6] st h Q)) := wp_if_eq (show (lcode 58)[36]? = some (.ifCond .eq 45) by decide +kernel)
theorem x58_37 : WP d 58 37 [some (Value.ref a), l1, l2, l3, l4, l5, l6] st h Q ↔ WP d 58 38 [some (Value.ref a), l1, l2, l3, l4, l5, l6] (Value.ref a :: st) h Q := wp_aload (show (lcode 58)[37]? = some (.aload 0) by decide +kernel) rfl
theorem x58_38 : WP d 58 38 [l0, l1, l2, l3, l4, l5, some (vI x)] st h Q ↔ WP d 58 39 [l0, l1, l2, l3, l4, l5, some (vI x)] (vI x :: st) h Q := wp_iload (show (lcode 58)[38]? = some (.iload 6) by decide +kernel) rfl
theorem x58_39 : WP d 58 39 [l0, l1, l2, l3, l4, l5, l6] (vI x :: .ref a :: st) h Q ↔ pF (hRd h a) 8 2 (vI x) (fun c => WP d 58 40 [l0, l1, l2, l3, l4, l5, l6] st (hWr h a c) Q) := wp_putfield (show (lcode 58)[39]? = some (.putfield 514) by decide +kernel)
theorem x58_40 : WP d 58 40 [some (Value.ref a), l1, l2, l3, l4, l5, l6] st h Q ↔ WP d 58 41 [some (Value.ref a), l1, l2, l3, l4, l5, l6] (Value.ref a :: st) h Q := wp_aload (show (lcode 58)[40]? = some (.aload 0) by decide +kernel) rfl
theorem x58_41 : WP d 58 41 [l0, l1, l2, l3, l4, l5, l6] (.ref a :: st) h Q ↔ gF (hRd h a) 8 1 (fun v => WP d 58 42 [l0, l1, l2, l3, l4, l5, l6] (v :: st) h Q) := wp_getfield (show (lcode 58)[41]? = some (.getfield 513) by decide +kernel)
theorem x58_42 : WP d 58 42 [some (Value.ref a), l1, l2, l3, l4, l5, l6] st h Q ↔ WP d 58 43 [some (Value.ref a), l1, l2, l3, l4, l5, l6] (Value.ref a :: st) h Q := wp_aload (show (lcode 58)[42]? = some (.aload 0) by decide +kernel) rfl
theorem x58_43 : WP d 58 43 [l0, l1, l2, l3, l4, l5, l6] (.ref a :: st) h Q ↔ gF (hRd h a) 8 0 (fun v => WP d 58 44 [l0, l1, l2, l3, l4, l5, l6] (v :: st) h Q) := wp_getfield (show (lcode 58)[43]? = some (.getfield 512) by decide +kernel)
theorem x58_44 : WP d 58 44 [l0, l1, l2, l3, l4, l5, l6] (v1 :: v :: st) h Q ↔ (sh st ∧ CALL d 47 [v, v1] h (fun v h => WP d 58 45 [l0, l1, l2, l3, l4, l5, l6] (v.toList ++ st) h Q)) := wp_call (n := 2) (show (lcode 58)[44]? = some (.invokestatic 47) by decide +kernel) (by decide +kernel) (by simp)
theorem x58_45 : WP d 58 45 [some (Value.ref a), l1, l2, l3, l4, l5, l6] st h Q ↔ WP d 58 46 [some (Value.ref a), l1, l2, l3, l4, l5, l6] (Value.ref a :: st) h Q := wp_aload (show (lcode 58)[45]? = some (.aload 0) by decide +kernel) rfl
theorem x58_46 : WP d 58 46 [l0, l1, l2, l3, l4, l5, l6] (.ref a :: st) h Q ↔ gF (hRd h a) 8 0 (fun v => WP d 58 47 [l0, l1, l2, l3, l4, l5, l6] (v :: st) h Q) := wp_getfield (show (lcode 58)[46]? = some (.getfield 512) by decide +kernel)
theorem x58_47 : WP d 58 47 [l0, l1, l2, l3, l4, l5, l6] (v :: st) h Q ↔ (sh st ∧ CALL d 52 [v] h (fun v h => WP d 58 48 [l0, l1, l2, l3, l4, l5, l6] (v.toList ++ st) h Q)) := wp_call (n := 1) (show (lcode 58)[47]? = some (.invokestatic 52) by decide +kernel) (by decide +kernel) (by simp)
theorem x58_48 : WP d 58 48 [l0, l1, l2, l3, l4, l5, l6] (vI x :: st) h Q ↔ ((¬ wr x = 0 → WP d 58 50 [l0, l1, l2, l3, l4, l5, l6] st h Q) ∧ (¬ (¬ wr x = 0) → WP d 58 49 [l0, l1, l2, l3, l4, l5, l6] st h Q)) := wp_if_ne (show (lcode 58)[48]? = some (.ifCond .ne 50) by decide +kernel)
theorem x58_49 : WP d 58 49 [l0, l1, l2, l3, l4, l5, l6] st h Q ↔ WP d 58 52 [l0, l1, l2, l3, l4, l5, l6] st h Q := wp_goto (show (lcode 58)[49]? = some (.goto 52) by decide +kernel)
theorem x58_50 : WP d 58 50 [l0, l1, l2, l3, l4, some (vI x), l6] st h Q ↔ (nl l4 ∧ WP d 58 51 [l0, l1, l2, l3, l4, some (vI (x + 1)), l6] st h Q) := wp_iinc (show (lcode 58)[50]? = some (.iinc 5 1) by decide +kernel) rfl (Nat.le_of_ble_eq_true rfl)
theorem x58_51 : WP d 58 51 [l0, l1, l2, l3, l4, l5, l6] st h Q ↔ WP d 58 14 [l0, l1, l2, l3, l4, l5, l6] st h Q := wp_goto (show (lcode 58)[51]? = some (.goto 14) by decide +kernel)
theorem x58_52 : WP d 58 52 [l0, l1, l2, l3, l4, l5, l6] [] h Q ↔ Q none h := wp_return (show (lcode 58)[52]? = some (.return_) by decide +kernel)
-- 59: WakeOrder$Trials.trialDoes
theorem x59_0 : WP d 59 0 [l0, some (Value.ref a), l2, l3] st h Q ↔ WP d 59 1 [l0, some (Value.ref a), l2, l3] (Value.ref a :: st) h Q := wp_aload (show (lcode 59)[0]? = some (.aload 1) by decide +kernel) rfl
theorem x59_1 : WP d 59 1 [some (Value.ref a), l1, l2, l3] st h Q ↔ WP d 59 2 [some (Value.ref a), l1, l2, l3] (Value.ref a :: st) h Q := wp_aload (show (lcode 59)[1]? = some (.aload 0) by decide +kernel) rfl
theorem x59_2 : WP d 59 2 [l0, l1, l2, l3] (.ref a :: st) h Q ↔ gF (hRd h a) 8 0 (fun v => WP d 59 3 [l0, l1, l2, l3] (v :: st) h Q) := wp_getfield (show (lcode 59)[2]? = some (.getfield 512) by decide +kernel)
theorem x59_3 : WP d 59 3 [l0, some (Value.ref a), l2, l3] st h Q ↔ WP d 59 4 [l0, some (Value.ref a), l2, l3] (Value.ref a :: st) h Q := wp_aload (show (lcode 59)[3]? = some (.aload 1) by decide +kernel) rfl
theorem x59_4 : WP d 59 4 [l0, l1, l2, l3] (.ref a :: st) h Q ↔ gF (hRd h a) 1 1 (fun v => WP d 59 5 [l0, l1, l2, l3] (v :: st) h Q) := wp_getfield (show (lcode 59)[4]? = some (.getfield 65) by decide +kernel)
theorem x59_5 : WP d 59 5 [l0, l1, l2, l3] (.ref a :: st) h Q ↔ gF (hRd h a) 7 3 (fun v => WP d 59 6 [l0, l1, l2, l3] (v :: st) h Q) := wp_getfield (show (lcode 59)[5]? = some (.getfield 451) by decide +kernel)
theorem x59_6 : WP d 59 6 [l0, l1, l2, l3] (v2 :: v1 :: v :: st) h Q ↔ (sh st ∧ CALL d 5 [v, v1, v2] h (fun v h => WP d 59 7 [l0, l1, l2, l3] (v.toList ++ st) h Q)) := wp_call (n := 3) (show (lcode 59)[6]? = some (.invokestatic 5) by decide +kernel) (by decide +kernel) (by simp)
theorem x59_7 : WP d 59 7 [l0, some (Value.ref a), l2, l3] st h Q ↔ WP d 59 8 [l0, some (Value.ref a), l2, l3] (Value.ref a :: st) h Q := wp_aload (show (lcode 59)[7]? = some (.aload 1) by decide +kernel) rfl
theorem x59_8 : WP d 59 8 [l0, l1, some (vI x), l3] st h Q ↔ WP d 59 9 [l0, l1, some (vI x), l3] (vI x :: st) h Q := wp_iload (show (lcode 59)[8]? = some (.iload 2) by decide +kernel) rfl
theorem x59_9 : WP d 59 9 [l0, l1, l2, some (vI x)] st h Q ↔ WP d 59 10 [l0, l1, l2, some (vI x)] (vI x :: st) h Q := wp_iload (show (lcode 59)[9]? = some (.iload 3) by decide +kernel) rfl
theorem x59_10 : WP d 59 10 [l0, l1, l2, l3] (v2 :: v1 :: v :: st) h Q ↔ (sh st ∧ CALL d 14 [v, v1, v2] h (fun v h => WP d 59 11 [l0, l1, l2, l3] (v.toList ++ st) h Q)) := wp_call (n := 3) (show (lcode 59)[10]? = some (.invokestatic 14) by decide +kernel) (by decide +kernel) (by simp)
theorem x59_11 : WP d 59 11 [l0, l1, l2, l3] [vI x] h Q ↔ ((Int32.ofInt x = 0 ∨ Int32.ofInt x = 1) ∧ Q (some (vI x)) h) := wp_areturn (show (lcode 59)[11]? = some (.areturn) by decide +kernel)
-- 60: WakeOrder$Trials.tryPlaces
theorem x60_0 : WP d 60 0 [l0, some (Value.ref a), l2, l3, l4, l5] st h Q ↔ WP d 60 1 [l0, some (Value.ref a), l2, l3, l4, l5] (Value.ref a :: st) h Q := wp_aload (show (lcode 60)[0]? = some (.aload 1) by decide +kernel) rfl
theorem x60_1 : WP d 60 1 [l0, l1, l2, l3, l4, l5] (.ref a :: st) h Q ↔ gF (hRd h a) 1 1 (fun v => WP d 60 2 [l0, l1, l2, l3, l4, l5] (v :: st) h Q) := wp_getfield (show (lcode 60)[1]? = some (.getfield 65) by decide +kernel)
theorem x60_2 : WP d 60 2 [l0, l1, l2, l3, l4, l5] (.ref a :: st) h Q ↔ gF (hRd h a) 7 0 (fun v => WP d 60 3 [l0, l1, l2, l3, l4, l5] (v :: st) h Q) := wp_getfield (show (lcode 60)[2]? = some (.getfield 448) by decide +kernel)
theorem x60_3 : WP d 60 3 [l0, l1, l2, l3, l4, l5] (Value.ref a :: st) h Q ↔ (nl l2 ∧ WP d 60 4 [l0, l1, l2, some (Value.ref a), l4, l5] st h Q) := wp_astore (show (lcode 60)[3]? = some (.astore 3) by decide +kernel) (Nat.le_of_ble_eq_true rfl)
theorem x60_4 : WP d 60 4 [some (Value.ref a), l1, l2, l3, l4, l5] st h Q ↔ WP d 60 5 [some (Value.ref a), l1, l2, l3, l4, l5] (Value.ref a :: st) h Q := wp_aload (show (lcode 60)[4]? = some (.aload 0) by decide +kernel) rfl
theorem x60_5 : WP d 60 5 [l0, l1, l2, l3, l4, l5] st h Q ↔ WP d 60 6 [l0, l1, l2, l3, l4, l5] (vI (-1) :: st) h Q := wp_iconst (show (lcode 60)[5]? = some (.iconst (-1)) by decide +kernel)
theorem x60_6 : WP d 60 6 [l0, l1, l2, l3, l4, l5] (vI x :: .ref a :: st) h Q ↔ pF (hRd h a) 8 3 (vI x) (fun c => WP d 60 7 [l0, l1, l2, l3, l4, l5] st (hWr h a c) Q) := wp_putfield (show (lcode 60)[6]? = some (.putfield 515) by decide +kernel)
theorem x60_7 : WP d 60 7 [some (Value.ref a), l1, l2, l3, l4, l5] st h Q ↔ WP d 60 8 [some (Value.ref a), l1, l2, l3, l4, l5] (Value.ref a :: st) h Q := wp_aload (show (lcode 60)[7]? = some (.aload 0) by decide +kernel) rfl
theorem x60_8 : WP d 60 8 [l0, l1, l2, l3, l4, l5] st h Q ↔ WP d 60 9 [l0, l1, l2, l3, l4, l5] (vI (-1) :: st) h Q := wp_iconst (show (lcode 60)[8]? = some (.iconst (-1)) by decide +kernel)
theorem x60_9 : WP d 60 9 [l0, l1, l2, l3, l4, l5] (vI x :: .ref a :: st) h Q ↔ pF (hRd h a) 8 4 (vI x) (fun c => WP d 60 10 [l0, l1, l2, l3, l4, l5] st (hWr h a c) Q) := wp_putfield (show (lcode 60)[9]? = some (.putfield 516) by decide +kernel)
theorem x60_10 : WP d 60 10 [l0, l1, l2, some (Value.ref a), l4, l5] st h Q ↔ WP d 60 11 [l0, l1, l2, some (Value.ref a), l4, l5] (Value.ref a :: st) h Q := wp_aload (show (lcode 60)[10]? = some (.aload 3) by decide +kernel) rfl
theorem x60_11 : WP d 60 11 [l0, l1, some (vI x), l3, l4, l5] st h Q ↔ WP d 60 12 [l0, l1, some (vI x), l3, l4, l5] (vI x :: st) h Q := wp_iload (show (lcode 60)[11]? = some (.iload 2) by decide +kernel) rfl
theorem x60_12 : WP d 60 12 [l0, l1, l2, l3, l4, l5] (v1 :: v :: st) h Q ↔ (sh st ∧ CALL d 45 [v, v1] h (fun v h => WP d 60 13 [l0, l1, l2, l3, l4, l5] (v.toList ++ st) h Q)) := wp_call (n := 2) (show (lcode 60)[12]? = some (.invokestatic 45) by decide +kernel) (by decide +kernel) (by simp)
theorem x60_13 : WP d 60 13 [l0, l1, l2, l3, l4, l5] st h Q ↔ WP d 60 14 [l0, l1, l2, l3, l4, l5] (vI (-1) :: st) h Q := wp_iconst (show (lcode 60)[13]? = some (.iconst (-1)) by decide +kernel)
theorem x60_14 : WP d 60 14 [l0, l1, l2, l3, l4, l5] (vI y :: vI x :: st) h Q ↔ ((¬ wr x = wr y → WP d 60 16 [l0, l1, l2, l3, l4, l5] st h Q) ∧ (¬ (¬ wr x = wr y) → WP d 60 15 [l0, l1, l2, l3, l4, l5] st h Q)) := wp_icmp_ne (show (lcode 60)[14]? = some (.if_icmp .ne 16) by decide +kernel)
theorem x60_15 : WP d 60 15 [l0, l1, l2, l3, l4, l5] [] h Q ↔ Q none h := wp_return (show (lcode 60)[15]? = some (.return_) by decide +kernel)
theorem x60_16 : WP d 60 16 [l0, l1, l2, l3, l4, l5] st h Q ↔ WP d 60 17 [l0, l1, l2, l3, l4, l5] (vI 0 :: st) h Q := wp_iconst (show (lcode 60)[16]? = some (.iconst 0) by decide +kernel)
theorem x60_17 : WP d 60 17 [l0, l1, l2, l3, l4, l5] (vI x :: st) h Q ↔ (nl l3 ∧ WP d 60 18 [l0, l1, l2, l3, some (vI x), l5] st h Q) := wp_istore (show (lcode 60)[17]? = some (.istore 4) by decide +kernel) (Nat.le_of_ble_eq_true rfl)
theorem x60_18 : WP d 60 18 [l0, l1, l2, l3, l4, l5] st h Q ↔ WPC d 60 19 [l0, l1, l2, l3, l4, l5] st h Q := wp_nop (show (lcode 60)[18]? = some (.nop) by decide +kernel)
theorem x60_19 : WP d 60 19 [l0, l1, l2, l3, some (vI x), l5] st h Q ↔ WP d 60 20 [l0, l1, l2, l3, some (vI x), l5] (vI x :: st) h Q := wp_iload (show (lcode 60)[19]? = some (.iload 4) by decide +kernel) rfl
theorem x60_20 : WP d 60 20 [l0, l1, l2, some (Value.ref a), l4, l5] st h Q ↔ WP d 60 21 [l0, l1, l2, some (Value.ref a), l4, l5] (Value.ref a :: st) h Q := wp_aload (show (lcode 60)[20]? = some (.aload 3) by decide +kernel) rfl
theorem x60_21 : WP d 60 21 [l0, l1, l2, l3, l4, l5] (.ref a :: st) h Q ↔ gF (hRd h a) 6 1 (fun v => WP d 60 22 [l0, l1, l2, l3, l4, l5] (v :: st) h Q) := wp_getfield (show (lcode 60)[21]? = some (.getfield 385) by decide +kernel)
theorem x60_22 : WP d 60 22 [l0, l1, l2, l3, l4, l5] (vI y :: vI x :: st) h Q ↔ ((wr y ≤ wr x → WP d 60 65 [l0, l1, l2, l3, l4, l5] st h Q) ∧ (¬ (wr y ≤ wr x) → WP d 60 23 [l0, l1, l2, l3, l4, l5] st h Q)) := wp_icmp_ge (show (lcode 60)[22]? = some (.if_icmp .ge 65) by decide +kernel)
theorem x60_23 : WP d 60 23 [some (Value.ref a), l1, l2, l3, l4, l5] st h Q ↔ WP d 60 24 [some (Value.ref a), l1, l2, l3, l4, l5] (Value.ref a :: st) h Q := wp_aload (show (lcode 60)[23]? = some (.aload 0) by decide +kernel) rfl
theorem x60_24 : WP d 60 24 [l0, l1, l2, l3, l4, l5] (.ref a :: st) h Q ↔ gF (hRd h a) 8 0 (fun v => WP d 60 25 [l0, l1, l2, l3, l4, l5] (v :: st) h Q) := wp_getfield (show (lcode 60)[24]? = some (.getfield 512) by decide +kernel)
theorem x60_25 : WP d 60 25 [l0, l1, l2, some (Value.ref a), l4, l5] st h Q ↔ WP d 60 26 [l0, l1, l2, some (Value.ref a), l4, l5] (Value.ref a :: st) h Q := wp_aload (show (lcode 60)[25]? = some (.aload 3) by decide +kernel) rfl
theorem x60_26 : WP d 60 26 [l0, l1, l2, l3, l4, l5] (v1 :: v :: st) h Q ↔ (sh st ∧ CALL d 47 [v, v1] h (fun v h => WP d 60 27 [l0, l1, l2, l3, l4, l5] (v.toList ++ st) h Q)) := wp_call (n := 2) (show (lcode 60)[26]? = some (.invokestatic 47) by decide +kernel) (by decide +kernel) (by simp)
theorem x60_27 : WP d 60 27 [some (Value.ref a), l1, l2, l3, l4, l5] st h Q ↔ WP d 60 28 [some (Value.ref a), l1, l2, l3, l4, l5] (Value.ref a :: st) h Q := wp_aload (show (lcode 60)[27]? = some (.aload 0) by decide +kernel) rfl
theorem x60_28 : WP d 60 28 [l0, l1, l2, l3, l4, l5] (.ref a :: st) h Q ↔ gF (hRd h a) 8 0 (fun v => WP d 60 29 [l0, l1, l2, l3, l4, l5] (v :: st) h Q) := wp_getfield (show (lcode 60)[28]? = some (.getfield 512) by decide +kernel)
theorem x60_29 : WP d 60 29 [l0, l1, some (vI x), l3, l4, l5] st h Q ↔ WP d 60 30 [l0, l1, some (vI x), l3, l4, l5] (vI x :: st) h Q := wp_iload (show (lcode 60)[29]? = some (.iload 2) by decide +kernel) rfl
theorem x60_30 : WP d 60 30 [l0, l1, l2, l3, l4, l5] (v1 :: v :: st) h Q ↔ (sh st ∧ CALL d 49 [v, v1] h (fun v h => WP d 60 31 [l0, l1, l2, l3, l4, l5] (v.toList ++ st) h Q)) := wp_call (n := 2) (show (lcode 60)[30]? = some (.invokestatic 49) by decide +kernel) (by decide +kernel) (by simp)
theorem x60_31 : WP d 60 31 [some (Value.ref a), l1, l2, l3, l4, l5] st h Q ↔ WP d 60 32 [some (Value.ref a), l1, l2, l3, l4, l5] (Value.ref a :: st) h Q := wp_aload (show (lcode 60)[31]? = some (.aload 0) by decide +kernel) rfl
theorem x60_32 : WP d 60 32 [l0, l1, l2, l3, l4, l5] (.ref a :: st) h Q ↔ gF (hRd h a) 8 0 (fun v => WP d 60 33 [l0, l1, l2, l3, l4, l5] (v :: st) h Q) := wp_getfield (show (lcode 60)[32]? = some (.getfield 512) by decide +kernel)
theorem x60_33 : WP d 60 33 [l0, l1, some (vI x), l3, l4, l5] st h Q ↔ WP d 60 34 [l0, l1, some (vI x), l3, l4, l5] (vI x :: st) h Q := wp_iload (show (lcode 60)[33]? = some (.iload 2) by decide +kernel) rfl
theorem x60_34 : WP d 60 34 [l0, l1, l2, l3, some (vI x), l5] st h Q ↔ WP d 60 35 [l0, l1, l2, l3, some (vI x), l5] (vI x :: st) h Q := wp_iload (show (lcode 60)[34]? = some (.iload 4) by decide +kernel) rfl
theorem x60_35 : WP d 60 35 [l0, l1, l2, l3, l4, l5] (v2 :: v1 :: v :: st) h Q ↔ (sh st ∧ CALL d 50 [v, v1, v2] h (fun v h => WP d 60 36 [l0, l1, l2, l3, l4, l5] (v.toList ++ st) h Q)) := wp_call (n := 3) (show (lcode 60)[35]? = some (.invokestatic 50) by decide +kernel) (by decide +kernel) (by simp)
theorem x60_36 : WP d 60 36 [l0, some (Value.ref a), l2, l3, l4, l5] st h Q ↔ WP d 60 37 [l0, some (Value.ref a), l2, l3, l4, l5] (Value.ref a :: st) h Q := wp_aload (show (lcode 60)[36]? = some (.aload 1) by decide +kernel) rfl
theorem x60_37 : WP d 60 37 [some (Value.ref a), l1, l2, l3, l4, l5] st h Q ↔ WP d 60 38 [some (Value.ref a), l1, l2, l3, l4, l5] (Value.ref a :: st) h Q := wp_aload (show (lcode 60)[37]? = some (.aload 0) by decide +kernel) rfl
theorem x60_38 : WP d 60 38 [l0, l1, l2, l3, l4, l5] (.ref a :: st) h Q ↔ gF (hRd h a) 8 0 (fun v => WP d 60 39 [l0, l1, l2, l3, l4, l5] (v :: st) h Q) := wp_getfield (show (lcode 60)[38]? = some (.getfield 512) by decide +kernel)
theorem x60_39 : WP d 60 39 [l0, some (Value.ref a), l2, l3, l4, l5] st h Q ↔ WP d 60 40 [l0, some (Value.ref a), l2, l3, l4, l5] (Value.ref a :: st) h Q := wp_aload (show (lcode 60)[39]? = some (.aload 1) by decide +kernel) rfl
theorem x60_40 : WP d 60 40 [l0, l1, l2, l3, l4, l5] (.ref a :: st) h Q ↔ gF (hRd h a) 1 1 (fun v => WP d 60 41 [l0, l1, l2, l3, l4, l5] (v :: st) h Q) := wp_getfield (show (lcode 60)[40]? = some (.getfield 65) by decide +kernel)
theorem x60_41 : WP d 60 41 [l0, l1, l2, l3, l4, l5] (.ref a :: st) h Q ↔ gF (hRd h a) 7 3 (fun v => WP d 60 42 [l0, l1, l2, l3, l4, l5] (v :: st) h Q) := wp_getfield (show (lcode 60)[41]? = some (.getfield 451) by decide +kernel)
theorem x60_42 : WP d 60 42 [l0, l1, l2, l3, l4, l5] (v2 :: v1 :: v :: st) h Q ↔ (sh st ∧ CALL d 5 [v, v1, v2] h (fun v h => WP d 60 43 [l0, l1, l2, l3, l4, l5] (v.toList ++ st) h Q)) := wp_call (n := 3) (show (lcode 60)[42]? = some (.invokestatic 5) by decide +kernel) (by decide +kernel) (by simp)
theorem x60_43 : WP d 60 43 [l0, some (Value.ref a), l2, l3, l4, l5] st h Q ↔ WP d 60 44 [l0, some (Value.ref a), l2, l3, l4, l5] (Value.ref a :: st) h Q := wp_aload (show (lcode 60)[43]? = some (.aload 1) by decide +kernel) rfl
theorem x60_44 : WP d 60 44 [some (Value.ref a), l1, l2, l3, l4, l5] st h Q ↔ WP d 60 45 [some (Value.ref a), l1, l2, l3, l4, l5] (Value.ref a :: st) h Q := wp_aload (show (lcode 60)[44]? = some (.aload 0) by decide +kernel) rfl
theorem x60_45 : WP d 60 45 [l0, l1, l2, l3, l4, l5] (.ref a :: st) h Q ↔ gF (hRd h a) 8 0 (fun v => WP d 60 46 [l0, l1, l2, l3, l4, l5] (v :: st) h Q) := wp_getfield (show (lcode 60)[45]? = some (.getfield 512) by decide +kernel)
theorem x60_46 : WP d 60 46 [l0, l1, some (vI x), l3, l4, l5] st h Q ↔ WP d 60 47 [l0, l1, some (vI x), l3, l4, l5] (vI x :: st) h Q := wp_iload (show (lcode 60)[46]? = some (.iload 2) by decide +kernel) rfl
theorem x60_47 : WP d 60 47 [l0, l1, l2, l3, l4, l5] (v2 :: v1 :: v :: st) h Q ↔ (sh st ∧ CALL d 15 [v, v1, v2] h (fun v h => WP d 60 48 [l0, l1, l2, l3, l4, l5] (v.toList ++ st) h Q)) := wp_call (n := 3) (show (lcode 60)[47]? = some (.invokestatic 15) by decide +kernel) (by decide +kernel) (by simp)
theorem x60_48 : WP d 60 48 [l0, l1, l2, l3, l4, l5] (vI x :: st) h Q ↔ (nl l4 ∧ WP d 60 49 [l0, l1, l2, l3, l4, some (vI x)] st h Q) := wp_istore (show (lcode 60)[48]? = some (.istore 5) by decide +kernel) (Nat.le_of_ble_eq_true rfl)
theorem x60_49 : WP d 60 49 [some (Value.ref a), l1, l2, l3, l4, l5] st h Q ↔ WP d 60 50 [some (Value.ref a), l1, l2, l3, l4, l5] (Value.ref a :: st) h Q := wp_aload (show (lcode 60)[49]? = some (.aload 0) by decide +kernel) rfl
theorem x60_50 : WP d 60 50 [l0, l1, l2, l3, l4, l5] (.ref a :: st) h Q ↔ gF (hRd h a) 8 4 (fun v => WP d 60 51 [l0, l1, l2, l3, l4, l5] (v :: st) h Q) := wp_getfield (show (lcode 60)[50]? = some (.getfield 516) by decide +kernel)
theorem x60_51 : WP d 60 51 [l0, l1, l2, l3, l4, l5] st h Q ↔ WP d 60 52 [l0, l1, l2, l3, l4, l5] (vI (-1) :: st) h Q := wp_iconst (show (lcode 60)[51]? = some (.iconst (-1)) by decide +kernel)
theorem x60_52 : WP d 60 52 [l0, l1, l2, l3, l4, l5] (vI y :: vI x :: st) h Q ↔ ((wr x = wr y → WP d 60 57 [l0, l1, l2, l3, l4, l5] st h Q) ∧ (¬ (wr x = wr y) → WP d 60 53 [l0, l1, l2, l3, l4, l5] st h Q)) := wp_icmp_eq (show (lcode 60)[52]? = some (.if_icmp .eq 57) by decide +kernel)
theorem x60_53 : WP d 60 53 [l0, l1, l2, l3, l4, some (vI x)] st h Q ↔ WP d 60 54 [l0, l1, l2, l3, l4, some (vI x)] (vI x :: st) h Q := wp_iload (show (lcode 60)[53]? = some (.iload 5) by decide +kernel) rfl
theorem x60_54 : WP d 60 54 [some (Value.ref a), l1, l2, l3, l4, l5] st h Q ↔ WP d 60 55 [some (Value.ref a), l1, l2, l3, l4, l5] (Value.ref a :: st) h Q := wp_aload (show (lcode 60)[54]? = some (.aload 0) by decide +kernel) rfl
theorem x60_55 : WP d 60 55 [l0, l1, l2, l3, l4, l5] (.ref a :: st) h Q ↔ gF (hRd h a) 8 4 (fun v => WP d 60 56 [l0, l1, l2, l3, l4, l5] (v :: st) h Q) := wp_getfield (show (lcode 60)[55]? = some (.getfield 516) by decide +kernel)
theorem x60_56 : WP d 60 56 [l0, l1, l2, l3, l4, l5] (vI y :: vI x :: st) h Q ↔ ((wr y ≤ wr x → WP d 60 63 [l0, l1, l2, l3, l4, l5] st h Q) ∧ (¬ (wr y ≤ wr x) → WP d 60 57 [l0, l1, l2, l3, l4, l5] st h Q)) := wp_icmp_ge (show (lcode 60)[56]? = some (.if_icmp .ge 63) by decide +kernel)
theorem x60_57 : WP d 60 57 [some (Value.ref a), l1, l2, l3, l4, l5] st h Q ↔ WP d 60 58 [some (Value.ref a), l1, l2, l3, l4, l5] (Value.ref a :: st) h Q := wp_aload (show (lcode 60)[57]? = some (.aload 0) by decide +kernel) rfl
theorem x60_58 : WP d 60 58 [l0, l1, l2, l3, l4, some (vI x)] st h Q ↔ WP d 60 59 [l0, l1, l2, l3, l4, some (vI x)] (vI x :: st) h Q := wp_iload (show (lcode 60)[58]? = some (.iload 5) by decide +kernel) rfl
theorem x60_59 : WP d 60 59 [l0, l1, l2, l3, l4, l5] (vI x :: .ref a :: st) h Q ↔ pF (hRd h a) 8 4 (vI x) (fun c => WP d 60 60 [l0, l1, l2, l3, l4, l5] st (hWr h a c) Q) := wp_putfield (show (lcode 60)[59]? = some (.putfield 516) by decide +kernel)
theorem x60_60 : WP d 60 60 [some (Value.ref a), l1, l2, l3, l4, l5] st h Q ↔ WP d 60 61 [some (Value.ref a), l1, l2, l3, l4, l5] (Value.ref a :: st) h Q := wp_aload (show (lcode 60)[60]? = some (.aload 0) by decide +kernel) rfl
theorem x60_61 : WP d 60 61 [l0, l1, l2, l3, some (vI x), l5] st h Q ↔ WP d 60 62 [l0, l1, l2, l3, some (vI x), l5] (vI x :: st) h Q := wp_iload (show (lcode 60)[61]? = some (.iload 4) by decide +kernel) rfl
theorem x60_62 : WP d 60 62 [l0, l1, l2, l3, l4, l5] (vI x :: .ref a :: st) h Q ↔ pF (hRd h a) 8 3 (vI x) (fun c => WP d 60 63 [l0, l1, l2, l3, l4, l5] st (hWr h a c) Q) := wp_putfield (show (lcode 60)[62]? = some (.putfield 515) by decide +kernel)
theorem x60_63 : WP d 60 63 [l0, l1, l2, l3, some (vI x), l5] st h Q ↔ (nl l3 ∧ WP d 60 64 [l0, l1, l2, l3, some (vI (x + 1)), l5] st h Q) := wp_iinc (show (lcode 60)[63]? = some (.iinc 4 1) by decide +kernel) rfl (Nat.le_of_ble_eq_true rfl)
theorem x60_64 : WP d 60 64 [l0, l1, l2, l3, l4, l5] st h Q ↔ WP d 60 18 [l0, l1, l2, l3, l4, l5] st h Q := wp_goto (show (lcode 60)[64]? = some (.goto 18) by decide +kernel)
theorem x60_65 : WP d 60 65 [l0, l1, l2, l3, l4, l5] [] h Q ↔ Q none h := wp_return (show (lcode 60)[65]? = some (.return_) by decide +kernel)
-- 61: WakeOrder$Trials.fewestToDismiss
theorem x61_0 : WP d 61 0 [l0, some (Value.ref a), l2, l3, l4, l5] st h Q ↔ WP d 61 1 [l0, some (Value.ref a), l2, l3, l4, l5] (Value.ref a :: st) h Q := wp_aload (show (lcode 61)[0]? = some (.aload 1) by decide +kernel) rfl
theorem x61_1 : WP d 61 1 [l0, l1, l2, l3, l4, l5] (.ref a :: st) h Q ↔ gF (hRd h a) 1 1 (fun v => WP d 61 2 [l0, l1, l2, l3, l4, l5] (v :: st) h Q) := wp_getfield (show (lcode 61)[1]? = some (.getfield 65) by decide +kernel)
theorem x61_2 : WP d 61 2 [l0, l1, l2, l3, l4, l5] (.ref a :: st) h Q ↔ gF (hRd h a) 7 0 (fun v => WP d 61 3 [l0, l1, l2, l3, l4, l5] (v :: st) h Q) := wp_getfield (show (lcode 61)[2]? = some (.getfield 448) by decide +kernel)
theorem x61_3 : WP d 61 3 [l0, l1, l2, l3, l4, l5] (v :: st) h Q ↔ (sh st ∧ CALL d 46 [v] h (fun v h => WP d 61 4 [l0, l1, l2, l3, l4, l5] (v.toList ++ st) h Q)) := wp_call (n := 1) (show (lcode 61)[3]? = some (.invokestatic 46) by decide +kernel) (by decide +kernel) (by simp)
theorem x61_4 : WP d 61 4 [l0, l1, l2, l3, l4, l5] (vI x :: st) h Q ↔ (nl l1 ∧ WP d 61 5 [l0, l1, some (vI x), l3, l4, l5] st h Q) := wp_istore (show (lcode 61)[4]? = some (.istore 2) by decide +kernel) (Nat.le_of_ble_eq_true rfl)
theorem x61_5 : WP d 61 5 [l0, l1, some (vI x), l3, l4, l5] st h Q ↔ WP d 61 6 [l0, l1, some (vI x), l3, l4, l5] (vI x :: st) h Q := wp_iload (show (lcode 61)[5]? = some (.iload 2) by decide +kernel) rfl
theorem x61_6 : WP d 61 6 [l0, l1, l2, l3, l4, l5] (vI x :: st) h Q ↔ (nl l2 ∧ WP d 61 7 [l0, l1, l2, some (vI x), l4, l5] st h Q) := wp_istore (show (lcode 61)[6]? = some (.istore 3) by decide +kernel) (Nat.le_of_ble_eq_true rfl)
theorem x61_7 : WP d 61 7 [l0, l1, l2, l3, l4, l5] st h Q ↔ WP d 61 8 [l0, l1, l2, l3, l4, l5] (vI 0 :: st) h Q := wp_iconst (show (lcode 61)[7]? = some (.iconst 0) by decide +kernel)
theorem x61_8 : WP d 61 8 [l0, l1, l2, l3, l4, l5] (vI x :: st) h Q ↔ (nl l3 ∧ WP d 61 9 [l0, l1, l2, l3, some (vI x), l5] st h Q) := wp_istore (show (lcode 61)[8]? = some (.istore 4) by decide +kernel) (Nat.le_of_ble_eq_true rfl)
theorem x61_9 : WP d 61 9 [l0, l1, l2, l3, l4, l5] st h Q ↔ WPC d 61 10 [l0, l1, l2, l3, l4, l5] st h Q := wp_nop (show (lcode 61)[9]? = some (.nop) by decide +kernel)
theorem x61_10 : WP d 61 10 [l0, l1, l2, l3, some (vI x), l5] st h Q ↔ WP d 61 11 [l0, l1, l2, l3, some (vI x), l5] (vI x :: st) h Q := wp_iload (show (lcode 61)[10]? = some (.iload 4) by decide +kernel) rfl
theorem x61_11 : WP d 61 11 [l0, l1, some (vI x), l3, l4, l5] st h Q ↔ WP d 61 12 [l0, l1, some (vI x), l3, l4, l5] (vI x :: st) h Q := wp_iload (show (lcode 61)[11]? = some (.iload 2) by decide +kernel) rfl
theorem x61_12 : WP d 61 12 [l0, l1, l2, l3, l4, l5] (vI y :: vI x :: st) h Q ↔ ((wr y ≤ wr x → WP d 61 39 [l0, l1, l2, l3, l4, l5] st h Q) ∧ (¬ (wr y ≤ wr x) → WP d 61 13 [l0, l1, l2, l3, l4, l5] st h Q)) := wp_icmp_ge (show (lcode 61)[12]? = some (.if_icmp .ge 39) by decide +kernel)
theorem x61_13 : WP d 61 13 [l0, l1, l2, l3, some (vI x), l5] st h Q ↔ WP d 61 14 [l0, l1, l2, l3, some (vI x), l5] (vI x :: st) h Q := wp_iload (show (lcode 61)[13]? = some (.iload 4) by decide +kernel) rfl
theorem x61_14 : WP d 61 14 [l0, l1, l2, l3, l4, l5] (v :: st) h Q ↔ (sh st ∧ CALL d 180 [v] h (fun v h => WP d 61 15 [l0, l1, l2, l3, l4, l5] (v.toList ++ st) h Q)) := wp_call (n := 1) (show (lcode 61)[14]? = some (.invokestatic 180) by decide +kernel) (by decide +kernel) (by simp)
theorem x61_15 : WP d 61 15 [l0, l1, l2, some (vI x), l4, l5] st h Q ↔ WP d 61 16 [l0, l1, l2, some (vI x), l4, l5] (vI x :: st) h Q := wp_iload (show (lcode 61)[15]? = some (.iload 3) by decide +kernel) rfl
theorem x61_16 : WP d 61 16 [l0, l1, l2, l3, l4, l5] (v :: st) h Q ↔ (sh st ∧ CALL d 180 [v] h (fun v h => WP d 61 17 [l0, l1, l2, l3, l4, l5] (v.toList ++ st) h Q)) := wp_call (n := 1) (show (lcode 61)[16]? = some (.invokestatic 180) by decide +kernel) (by decide +kernel) (by simp)
theorem x61_17 : WP d 61 17 [l0, l1, l2, l3, l4, l5] (vI y :: vI x :: st) h Q ↔ ((wr y ≤ wr x → WP d 61 20 [l0, l1, l2, l3, l4, l5] st h Q) ∧ (¬ (wr y ≤ wr x) → WP d 61 18 [l0, l1, l2, l3, l4, l5] st h Q)) := wp_icmp_ge (show (lcode 61)[17]? = some (.if_icmp .ge 20) by decide +kernel)
theorem x61_18 : WP d 61 18 [l0, l1, l2, l3, l4, l5] st h Q ↔ WP d 61 19 [l0, l1, l2, l3, l4, l5] (vI 1 :: st) h Q := wp_iconst (show (lcode 61)[18]? = some (.iconst 1) by decide +kernel)
theorem x61_19 : WP d 61 19 [l0, l1, l2, l3, l4, l5] st h Q ↔ WP d 61 21 [l0, l1, l2, l3, l4, l5] st h Q := wp_goto (show (lcode 61)[19]? = some (.goto 21) by decide +kernel)
theorem x61_20 : WP d 61 20 [l0, l1, l2, l3, l4, l5] st h Q ↔ WP d 61 21 [l0, l1, l2, l3, l4, l5] (vI 0 :: st) h Q := wp_iconst (show (lcode 61)[20]? = some (.iconst 0) by decide +kernel)
theorem x61_21 : WP d 61 21 [l0, l1, l2, l3, l4, l5] (vI x :: st) h Q ↔ (nl l4 ∧ WP d 61 22 [l0, l1, l2, l3, l4, some (vI x)] st h Q) := wp_istore (show (lcode 61)[21]? = some (.istore 5) by decide +kernel) (Nat.le_of_ble_eq_true rfl)
theorem x61_22 : WP d 61 22 [l0, l1, l2, l3, l4, some (vI x)] st h Q ↔ WP d 61 23 [l0, l1, l2, l3, l4, some (vI x)] (vI x :: st) h Q := wp_iload (show (lcode 61)[22]? = some (.iload 5) by decide +kernel) rfl
theorem x61_23 : WP d 61 23 [l0, l1, l2, l3, l4, l5] (vI x :: st) h Q ↔ ((wr x = 0 → WP d 61 37 [l0, l1, l2, l3, l4, l5] st h Q) ∧ (¬ (wr x = 0) → WP d 61 24 [l0, l1, l2, l3, l4, l5] st h Q)) := wp_if_eq (show (lcode 61)[23]? = some (.ifCond .eq 37) by decide +kernel)
theorem x61_24 : WP d 61 24 [l0, l1, l2, l3, some (vI x), l5] st h Q ↔ WP d 61 25 [l0, l1, l2, l3, some (vI x), l5] (vI x :: st) h Q := wp_iload (show (lcode 61)[24]? = some (.iload 4) by decide +kernel) rfl
theorem x61_25 : WP d 61 25 [l0, l1, some (vI x), l3, l4, l5] st h Q ↔ WP d 61 26 [l0, l1, some (vI x), l3, l4, l5] (vI x :: st) h Q := wp_iload (show (lcode 61)[25]? = some (.iload 2) by decide +kernel) rfl
theorem x61_26 : WP d 61 26 [l0, l1, l2, l3, l4, l5] st h Q ↔ WP d 61 27 [l0, l1, l2, l3, l4, l5] (vI (-1) :: st) h Q := wp_iconst (show (lcode 61)[26]? = some (.iconst (-1)) by decide +kernel)
theorem x61_27 : WP d 61 27 [l0, l1, l2, l3, l4, l5] (vI y :: vI x :: st) h Q ↔ WP d 61 28 [l0, l1, l2, l3, l4, l5] (vI (zxor x y) :: st) h Q := wp_ixor (show (lcode 61)[27]? = some (.ixor) by decide +kernel)
theorem x61_28 : WP d 61 28 [l0, l1, l2, l3, l4, l5] (vI y :: vI x :: st) h Q ↔ WP d 61 29 [l0, l1, l2, l3, l4, l5] (vI (zand x y) :: st) h Q := wp_iand (show (lcode 61)[28]? = some (.iand) by decide +kernel)
theorem x61_29 : WP d 61 29 [l0, l1, l2, l3, l4, l5] (vI x :: st) h Q ↔ ((¬ wr x = 0 → WP d 61 37 [l0, l1, l2, l3, l4, l5] st h Q) ∧ (¬ (¬ wr x = 0) → WP d 61 30 [l0, l1, l2, l3, l4, l5] st h Q)) := wp_if_ne (show (lcode 61)[29]? = some (.ifCond .ne 37) by decide +kernel)
theorem x61_30 : WP d 61 30 [some (Value.ref a), l1, l2, l3, l4, l5] st h Q ↔ WP d 61 31 [some (Value.ref a), l1, l2, l3, l4, l5] (Value.ref a :: st) h Q := wp_aload (show (lcode 61)[30]? = some (.aload 0) by decide +kernel) rfl
theorem x61_31 : WP d 61 31 [l0, some (Value.ref a), l2, l3, l4, l5] st h Q ↔ WP d 61 32 [l0, some (Value.ref a), l2, l3, l4, l5] (Value.ref a :: st) h Q := wp_aload (show (lcode 61)[31]? = some (.aload 1) by decide +kernel) rfl
theorem x61_32 : WP d 61 32 [l0, l1, l2, l3, some (vI x), l5] st h Q ↔ WP d 61 33 [l0, l1, l2, l3, some (vI x), l5] (vI x :: st) h Q := wp_iload (show (lcode 61)[32]? = some (.iload 4) by decide +kernel) rfl
theorem x61_33 : WP d 61 33 [l0, l1, l2, l3, l4, l5] (v2 :: v1 :: v :: st) h Q ↔ (sh st ∧ CALL d 62 [v, v1, v2] h (fun v h => WP d 61 34 [l0, l1, l2, l3, l4, l5] (v.toList ++ st) h Q)) := wp_call (n := 3) (show (lcode 61)[33]? = some (.invokestatic 62) by decide +kernel) (by decide +kernel) (by simp)
theorem x61_34 : WP d 61 34 [l0, l1, l2, l3, l4, l5] (vI x :: st) h Q ↔ ((wr x = 0 → WP d 61 37 [l0, l1, l2, l3, l4, l5] st h Q) ∧ (¬ (wr x = 0) → WP d 61 35 [l0, l1, l2, l3, l4, l5] st h Q)) := wp_if_eq (show (lcode 61)[34]? = some (.ifCond .eq 37) by decide +kernel)
theorem x61_35 : WP d 61 35 [l0, l1, l2, l3, some (vI x), l5] st h Q ↔ WP d 61 36 [l0, l1, l2, l3, some (vI x), l5] (vI x :: st) h Q := wp_iload (show (lcode 61)[35]? = some (.iload 4) by decide +kernel) rfl
theorem x61_36 : WP d 61 36 [l0, l1, l2, l3, l4, l5] (vI x :: st) h Q ↔ (nl l2 ∧ WP d 61 37 [l0, l1, l2, some (vI x), l4, l5] st h Q) := wp_istore (show (lcode 61)[36]? = some (.istore 3) by decide +kernel) (Nat.le_of_ble_eq_true rfl)
theorem x61_37 : WP d 61 37 [l0, l1, l2, l3, some (vI x), l5] st h Q ↔ (nl l3 ∧ WP d 61 38 [l0, l1, l2, l3, some (vI (x + 1)), l5] st h Q) := wp_iinc (show (lcode 61)[37]? = some (.iinc 4 1) by decide +kernel) rfl (Nat.le_of_ble_eq_true rfl)
theorem x61_38 : WP d 61 38 [l0, l1, l2, l3, l4, l5] st h Q ↔ WP d 61 9 [l0, l1, l2, l3, l4, l5] st h Q := wp_goto (show (lcode 61)[38]? = some (.goto 9) by decide +kernel)
theorem x61_39 : WP d 61 39 [l0, l1, l2, some (vI x), l4, l5] st h Q ↔ WP d 61 40 [l0, l1, l2, some (vI x), l4, l5] (vI x :: st) h Q := wp_iload (show (lcode 61)[39]? = some (.iload 3) by decide +kernel) rfl
theorem x61_40 : WP d 61 40 [l0, l1, l2, l3, l4, l5] [vI x] h Q ↔ Q (some (vI x)) h := wp_ireturn (show (lcode 61)[40]? = some (.ireturn) by decide +kernel)
-- 62: WakeOrder$Trials.nobodyStuckWithout
theorem x62_0 : WP d 62 0 [some (Value.ref a), l1, l2, l3] st h Q ↔ WP d 62 1 [some (Value.ref a), l1, l2, l3] (Value.ref a :: st) h Q := wp_aload (show (lcode 62)[0]? = some (.aload 0) by decide +kernel) rfl
theorem x62_1 : WP d 62 1 [l0, l1, l2, l3] (.ref a :: st) h Q ↔ gF (hRd h a) 8 0 (fun v => WP d 62 2 [l0, l1, l2, l3] (v :: st) h Q) := wp_getfield (show (lcode 62)[1]? = some (.getfield 512) by decide +kernel)
theorem x62_2 : WP d 62 2 [l0, some (Value.ref a), l2, l3] st h Q ↔ WP d 62 3 [l0, some (Value.ref a), l2, l3] (Value.ref a :: st) h Q := wp_aload (show (lcode 62)[2]? = some (.aload 1) by decide +kernel) rfl
theorem x62_3 : WP d 62 3 [l0, l1, l2, l3] (.ref a :: st) h Q ↔ gF (hRd h a) 1 1 (fun v => WP d 62 4 [l0, l1, l2, l3] (v :: st) h Q) := wp_getfield (show (lcode 62)[3]? = some (.getfield 65) by decide +kernel)
theorem x62_4 : WP d 62 4 [l0, l1, l2, l3] (.ref a :: st) h Q ↔ gF (hRd h a) 7 0 (fun v => WP d 62 5 [l0, l1, l2, l3] (v :: st) h Q) := wp_getfield (show (lcode 62)[4]? = some (.getfield 448) by decide +kernel)
theorem x62_5 : WP d 62 5 [l0, l1, l2, l3] (v1 :: v :: st) h Q ↔ (sh st ∧ CALL d 47 [v, v1] h (fun v h => WP d 62 6 [l0, l1, l2, l3] (v.toList ++ st) h Q)) := wp_call (n := 2) (show (lcode 62)[5]? = some (.invokestatic 47) by decide +kernel) (by decide +kernel) (by simp)
theorem x62_6 : WP d 62 6 [l0, l1, l2, l3] st h Q ↔ WP d 62 7 [l0, l1, l2, l3] (vI 0 :: st) h Q := wp_iconst (show (lcode 62)[6]? = some (.iconst 0) by decide +kernel)
theorem x62_7 : WP d 62 7 [l0, l1, l2, l3] (vI x :: st) h Q ↔ (nl l2 ∧ WP d 62 8 [l0, l1, l2, some (vI x)] st h Q) := wp_istore (show (lcode 62)[7]? = some (.istore 3) by decide +kernel) (Nat.le_of_ble_eq_true rfl)
theorem x62_8 : WP d 62 8 [l0, l1, l2, l3] st h Q ↔ WPC d 62 9 [l0, l1, l2, l3] st h Q := wp_nop (show (lcode 62)[8]? = some (.nop) by decide +kernel)
theorem x62_9 : WP d 62 9 [l0, l1, l2, some (vI x)] st h Q ↔ WP d 62 10 [l0, l1, l2, some (vI x)] (vI x :: st) h Q := wp_iload (show (lcode 62)[9]? = some (.iload 3) by decide +kernel) rfl
theorem x62_10 : WP d 62 10 [l0, l1, l2, l3] st h Q ↔ WP d 62 11 [l0, l1, l2, l3] (vI 6 :: st) h Q := wp_iconst (show (lcode 62)[10]? = some (.iconst 6) by decide +kernel)
theorem x62_11 : WP d 62 11 [l0, l1, l2, l3] (vI y :: vI x :: st) h Q ↔ ((wr y ≤ wr x → WP d 62 25 [l0, l1, l2, l3] st h Q) ∧ (¬ (wr y ≤ wr x) → WP d 62 12 [l0, l1, l2, l3] st h Q)) := wp_icmp_ge (show (lcode 62)[11]? = some (.if_icmp .ge 25) by decide +kernel)
theorem x62_12 : WP d 62 12 [l0, l1, some (vI x), l3] st h Q ↔ WP d 62 13 [l0, l1, some (vI x), l3] (vI x :: st) h Q := wp_iload (show (lcode 62)[12]? = some (.iload 2) by decide +kernel) rfl
theorem x62_13 : WP d 62 13 [l0, l1, l2, some (vI x)] st h Q ↔ WP d 62 14 [l0, l1, l2, some (vI x)] (vI x :: st) h Q := wp_iload (show (lcode 62)[13]? = some (.iload 3) by decide +kernel) rfl
theorem x62_14 : WP d 62 14 [l0, l1, l2, l3] (vI y :: vI x :: st) h Q ↔ WP d 62 15 [l0, l1, l2, l3] (vI (zshr x y) :: st) h Q := wp_ishr (show (lcode 62)[14]? = some (.ishr) by decide +kernel)
theorem x62_15 : WP d 62 15 [l0, l1, l2, l3] st h Q ↔ WP d 62 16 [l0, l1, l2, l3] (vI 1 :: st) h Q := wp_iconst (show (lcode 62)[15]? = some (.iconst 1) by decide +kernel)
theorem x62_16 : WP d 62 16 [l0, l1, l2, l3] (vI y :: vI x :: st) h Q ↔ WP d 62 17 [l0, l1, l2, l3] (vI (zand x y) :: st) h Q := wp_iand (show (lcode 62)[16]? = some (.iand) by decide +kernel)
theorem x62_17 : WP d 62 17 [l0, l1, l2, l3] st h Q ↔ WP d 62 18 [l0, l1, l2, l3] (vI 1 :: st) h Q := wp_iconst (show (lcode 62)[17]? = some (.iconst 1) by decide +kernel)
theorem x62_18 : WP d 62 18 [l0, l1, l2, l3] (vI y :: vI x :: st) h Q ↔ ((¬ wr x = wr y → WP d 62 23 [l0, l1, l2, l3] st h Q) ∧ (¬ (¬ wr x = wr y) → WP d 62 19 [l0, l1, l2, l3] st h Q)) := wp_icmp_ne (show (lcode 62)[18]? = some (.if_icmp .ne 23) by decide +kernel)
theorem x62_19 : WP d 62 19 [some (Value.ref a), l1, l2, l3] st h Q ↔ WP d 62 20 [some (Value.ref a), l1, l2, l3] (Value.ref a :: st) h Q := wp_aload (show (lcode 62)[19]? = some (.aload 0) by decide +kernel) rfl
theorem x62_20 : WP d 62 20 [l0, l1, l2, l3] (.ref a :: st) h Q ↔ gF (hRd h a) 8 0 (fun v => WP d 62 21 [l0, l1, l2, l3] (v :: st) h Q) := wp_getfield (show (lcode 62)[20]? = some (.getfield 512) by decide +kernel)
theorem x62_21 : WP d 62 21 [l0, l1, l2, some (vI x)] st h Q ↔ WP d 62 22 [l0, l1, l2, some (vI x)] (vI x :: st) h Q := wp_iload (show (lcode 62)[21]? = some (.iload 3) by decide +kernel) rfl
theorem x62_22 : WP d 62 22 [l0, l1, l2, l3] (v1 :: v :: st) h Q ↔ (sh st ∧ CALL d 49 [v, v1] h (fun v h => WP d 62 23 [l0, l1, l2, l3] (v.toList ++ st) h Q)) := wp_call (n := 2) (show (lcode 62)[22]? = some (.invokestatic 49) by decide +kernel) (by decide +kernel) (by simp)
theorem x62_23 : WP d 62 23 [l0, l1, l2, some (vI x)] st h Q ↔ (nl l2 ∧ WP d 62 24 [l0, l1, l2, some (vI (x + 1))] st h Q) := wp_iinc (show (lcode 62)[23]? = some (.iinc 3 1) by decide +kernel) rfl (Nat.le_of_ble_eq_true rfl)
theorem x62_24 : WP d 62 24 [l0, l1, l2, l3] st h Q ↔ WP d 62 8 [l0, l1, l2, l3] st h Q := wp_goto (show (lcode 62)[24]? = some (.goto 8) by decide +kernel)
theorem x62_25 : WP d 62 25 [l0, some (Value.ref a), l2, l3] st h Q ↔ WP d 62 26 [l0, some (Value.ref a), l2, l3] (Value.ref a :: st) h Q := wp_aload (show (lcode 62)[25]? = some (.aload 1) by decide +kernel) rfl
theorem x62_26 : WP d 62 26 [some (Value.ref a), l1, l2, l3] st h Q ↔ WP d 62 27 [some (Value.ref a), l1, l2, l3] (Value.ref a :: st) h Q := wp_aload (show (lcode 62)[26]? = some (.aload 0) by decide +kernel) rfl
theorem x62_27 : WP d 62 27 [l0, l1, l2, l3] (.ref a :: st) h Q ↔ gF (hRd h a) 8 0 (fun v => WP d 62 28 [l0, l1, l2, l3] (v :: st) h Q) := wp_getfield (show (lcode 62)[27]? = some (.getfield 512) by decide +kernel)
theorem x62_28 : WP d 62 28 [l0, some (Value.ref a), l2, l3] st h Q ↔ WP d 62 29 [l0, some (Value.ref a), l2, l3] (Value.ref a :: st) h Q := wp_aload (show (lcode 62)[28]? = some (.aload 1) by decide +kernel) rfl
theorem x62_29 : WP d 62 29 [l0, l1, l2, l3] (.ref a :: st) h Q ↔ gF (hRd h a) 1 1 (fun v => WP d 62 30 [l0, l1, l2, l3] (v :: st) h Q) := wp_getfield (show (lcode 62)[29]? = some (.getfield 65) by decide +kernel)
theorem x62_30 : WP d 62 30 [l0, l1, l2, l3] (.ref a :: st) h Q ↔ gF (hRd h a) 7 3 (fun v => WP d 62 31 [l0, l1, l2, l3] (v :: st) h Q) := wp_getfield (show (lcode 62)[30]? = some (.getfield 451) by decide +kernel)
theorem x62_31 : WP d 62 31 [l0, l1, l2, l3] (v2 :: v1 :: v :: st) h Q ↔ (sh st ∧ CALL d 5 [v, v1, v2] h (fun v h => WP d 62 32 [l0, l1, l2, l3] (v.toList ++ st) h Q)) := wp_call (n := 3) (show (lcode 62)[31]? = some (.invokestatic 5) by decide +kernel) (by decide +kernel) (by simp)
theorem x62_32 : WP d 62 32 [l0, some (Value.ref a), l2, l3] st h Q ↔ WP d 62 33 [l0, some (Value.ref a), l2, l3] (Value.ref a :: st) h Q := wp_aload (show (lcode 62)[32]? = some (.aload 1) by decide +kernel) rfl
theorem x62_33 : WP d 62 33 [some (Value.ref a), l1, l2, l3] st h Q ↔ WP d 62 34 [some (Value.ref a), l1, l2, l3] (Value.ref a :: st) h Q := wp_aload (show (lcode 62)[33]? = some (.aload 0) by decide +kernel) rfl
theorem x62_34 : WP d 62 34 [l0, l1, l2, l3] (.ref a :: st) h Q ↔ gF (hRd h a) 8 0 (fun v => WP d 62 35 [l0, l1, l2, l3] (v :: st) h Q) := wp_getfield (show (lcode 62)[34]? = some (.getfield 512) by decide +kernel)
theorem x62_35 : WP d 62 35 [l0, l1, l2, l3] (v1 :: v :: st) h Q ↔ (sh st ∧ CALL d 11 [v, v1] h (fun v h => WP d 62 36 [l0, l1, l2, l3] (v.toList ++ st) h Q)) := wp_call (n := 2) (show (lcode 62)[35]? = some (.invokestatic 11) by decide +kernel) (by decide +kernel) (by simp)
theorem x62_36 : WP d 62 36 [l0, l1, l2, l3] (vI x :: st) h Q ↔ ((¬ wr x = 0 → WP d 62 39 [l0, l1, l2, l3] st h Q) ∧ (¬ (¬ wr x = 0) → WP d 62 37 [l0, l1, l2, l3] st h Q)) := wp_if_ne (show (lcode 62)[36]? = some (.ifCond .ne 39) by decide +kernel)
theorem x62_37 : WP d 62 37 [l0, l1, l2, l3] st h Q ↔ WP d 62 38 [l0, l1, l2, l3] (vI 1 :: st) h Q := wp_iconst (show (lcode 62)[37]? = some (.iconst 1) by decide +kernel)
theorem x62_38 : WP d 62 38 [l0, l1, l2, l3] st h Q ↔ WP d 62 40 [l0, l1, l2, l3] st h Q := wp_goto (show (lcode 62)[38]? = some (.goto 40) by decide +kernel)
theorem x62_39 : WP d 62 39 [l0, l1, l2, l3] st h Q ↔ WP d 62 40 [l0, l1, l2, l3] (vI 0 :: st) h Q := wp_iconst (show (lcode 62)[39]? = some (.iconst 0) by decide +kernel)
theorem x62_40 : WP d 62 40 [l0, l1, l2, l3] [vI x] h Q ↔ ((Int32.ofInt x = 0 ∨ Int32.ofInt x = 1) ∧ Q (some (vI x)) h) := wp_areturn (show (lcode 62)[40]? = some (.areturn) by decide +kernel)
-- 63: WakeOrder$Windows.<init>
theorem x63_0 : WP d 63 0 [some (Value.ref a)] st h Q ↔ WP d 63 1 [some (Value.ref a)] (Value.ref a :: st) h Q := wp_aload (show (lcode 63)[0]? = some (.aload 0) by decide +kernel) rfl
theorem x63_1 : WP d 63 1 [l0] (.ref a :: st) h Q ↔ ((sd d ∧ sh st) ∧ WP d 63 2 [l0] st h Q) := wp_pop (show (lcode 63)[1]? = some (.pop) by decide +kernel)
theorem x63_2 : WP d 63 2 [some (Value.ref a)] st h Q ↔ WP d 63 3 [some (Value.ref a)] (Value.ref a :: st) h Q := wp_aload (show (lcode 63)[2]? = some (.aload 0) by decide +kernel) rfl
theorem x63_3 : WP d 63 3 [l0] st h Q ↔ WP d 63 4 [l0] (vI 6 :: st) h Q := wp_iconst (show (lcode 63)[3]? = some (.iconst 6) by decide +kernel)
theorem x63_5 : WP d 63 5 [l0] (Value.ref b :: .ref a :: st) h Q ↔ pF (hRd h a) 9 0 (Value.ref b) (fun c => WP d 63 6 [l0] st (hWr h a c) Q) := wp_putstatic (show (lcode 63)[5]? = some (.putstatic 576) by decide +kernel)
theorem x63_6 : WP d 63 6 [some (Value.ref a)] st h Q ↔ WP d 63 7 [some (Value.ref a)] (Value.ref a :: st) h Q := wp_aload (show (lcode 63)[6]? = some (.aload 0) by decide +kernel) rfl
theorem x63_7 : WP d 63 7 [l0] st h Q ↔ WP d 63 8 [l0] (vI 6 :: st) h Q := wp_iconst (show (lcode 63)[7]? = some (.iconst 6) by decide +kernel)
theorem x63_9 : WP d 63 9 [l0] (Value.ref b :: .ref a :: st) h Q ↔ pF (hRd h a) 9 1 (Value.ref b) (fun c => WP d 63 10 [l0] st (hWr h a c) Q) := wp_putstatic (show (lcode 63)[9]? = some (.putstatic 577) by decide +kernel)
theorem x63_10 : WP d 63 10 [some (Value.ref a)] st h Q ↔ WP d 63 11 [some (Value.ref a)] (Value.ref a :: st) h Q := wp_aload (show (lcode 63)[10]? = some (.aload 0) by decide +kernel) rfl
theorem x63_12 : WP d 63 12 [l0] (v :: st) h Q ↔ (c1 v ∧ WP d 63 13 [l0] (v :: v :: st) h Q) := wp_dup (show (lcode 63)[12]? = some (.dup) by decide +kernel)
theorem x63_13 : WP d 63 13 [l0] (v :: st) h Q ↔ (sh st ∧ CALL d 43 [v] h (fun v h => WP d 63 14 [l0] (v.toList ++ st) h Q)) := wp_call (n := 1) (show (lcode 63)[13]? = some (.invokestatic 43) by decide +kernel) (by decide +kernel) (by simp)
theorem x63_14 : WP d 63 14 [l0] (Value.ref b :: .ref a :: st) h Q ↔ pF (hRd h a) 9 3 (Value.ref b) (fun c => WP d 63 15 [l0] st (hWr h a c) Q) := wp_putstatic (show (lcode 63)[14]? = some (.putstatic 579) by decide +kernel)
theorem x63_15 : WP d 63 15 [some (Value.ref a)] st h Q ↔ WP d 63 16 [some (Value.ref a)] (Value.ref a :: st) h Q := wp_aload (show (lcode 63)[15]? = some (.aload 0) by decide +kernel) rfl
theorem x63_16 : WP d 63 16 [l0] st h Q ↔ WP d 63 17 [l0] (vI 6 :: st) h Q := wp_iconst (show (lcode 63)[16]? = some (.iconst 6) by decide +kernel)
theorem x63_18 : WP d 63 18 [l0] (Value.ref b :: .ref a :: st) h Q ↔ pF (hRd h a) 9 5 (Value.ref b) (fun c => WP d 63 19 [l0] st (hWr h a c) Q) := wp_putstatic (show (lcode 63)[18]? = some (.putstatic 581) by decide +kernel)
theorem x63_19 : WP d 63 19 [some (Value.ref a)] st h Q ↔ WP d 63 20 [some (Value.ref a)] (Value.ref a :: st) h Q := wp_aload (show (lcode 63)[19]? = some (.aload 0) by decide +kernel) rfl
theorem x63_20 : WP d 63 20 [l0] st h Q ↔ WP d 63 21 [l0] (vI 36 :: st) h Q := wp_iconst (show (lcode 63)[20]? = some (.iconst 36) by decide +kernel)
theorem x63_22 : WP d 63 22 [l0] (Value.ref b :: .ref a :: st) h Q ↔ pF (hRd h a) 9 6 (Value.ref b) (fun c => WP d 63 23 [l0] st (hWr h a c) Q) := wp_putstatic (show (lcode 63)[22]? = some (.putstatic 582) by decide +kernel)
theorem x63_23 : WP d 63 23 [l0] [] h Q ↔ Q none h := wp_return (show (lcode 63)[23]? = some (.return_) by decide +kernel)
-- 64: WakeOrder$Windows.append
theorem x64_0 : WP d 64 0 [some (Value.ref a), l1, l2] st h Q ↔ WP d 64 1 [some (Value.ref a), l1, l2] (Value.ref a :: st) h Q := wp_aload (show (lcode 64)[0]? = some (.aload 0) by decide +kernel) rfl
theorem x64_1 : WP d 64 1 [l0, l1, l2] (.ref a :: st) h Q ↔ gF (hRd h a) 9 2 (fun v => WP d 64 2 [l0, l1, l2] (v :: st) h Q) := wp_getfield (show (lcode 64)[1]? = some (.getfield 578) by decide +kernel)
theorem x64_2 : WP d 64 2 [l0, l1, l2] (vI x :: st) h Q ↔ ((wr x < 0 → WP d 64 7 [l0, l1, l2] st h Q) ∧ (¬ (wr x < 0) → WP d 64 3 [l0, l1, l2] st h Q)) := wp_if_lt (show (lcode 64)[2]? = some (.ifCond .lt 7) by decide +kernel)
theorem x64_3 : WP d 64 3 [some (Value.ref a), l1, l2] st h Q ↔ WP d 64 4 [some (Value.ref a), l1, l2] (Value.ref a :: st) h Q := wp_aload (show (lcode 64)[3]? = some (.aload 0) by decide +kernel) rfl
theorem x64_4 : WP d 64 4 [l0, l1, l2] (.ref a :: st) h Q ↔ gF (hRd h a) 9 2 (fun v => WP d 64 5 [l0, l1, l2] (v :: st) h Q) := wp_getfield (show (lcode 64)[4]? = some (.getfield 578) by decide +kernel)
theorem x64_5 : WP d 64 5 [l0, l1, l2] st h Q ↔ WP d 64 6 [l0, l1, l2] (vI 6 :: st) h Q := wp_iconst (show (lcode 64)[5]? = some (.iconst 6) by decide +kernel)
theorem x64_6 : WP d 64 6 [l0, l1, l2] (vI y :: vI x :: st) h Q ↔ ((wr x < wr y → WP d 64 9 [l0, l1, l2] st h Q) ∧ (¬ (wr x < wr y) → WP d 64 7 [l0, l1, l2] st h Q)) := wp_icmp_lt (show (lcode 64)[6]? = some (.if_icmp .lt 9) by decide +kernel)
theorem x64_7 : WP d 64 7 [l0, l1, l2] st h Q ↔ WP d 64 8 [l0, l1, l2] (vI 0 :: st) h Q := wp_iconst (show (lcode 64)[7]? = some (.iconst 0) by decide +kernel)
theorem x64_8 : WP d 64 8 [l0, l1, l2] [vI x] h Q ↔ ((Int32.ofInt x = 0 ∨ Int32.ofInt x = 1) ∧ Q (some (vI x)) h) := wp_areturn (show (lcode 64)[8]? = some (.areturn) by decide +kernel)
theorem x64_9 : WP d 64 9 [some (Value.ref a), l1, l2] st h Q ↔ WP d 64 10 [some (Value.ref a), l1, l2] (Value.ref a :: st) h Q := wp_aload (show (lcode 64)[9]? = some (.aload 0) by decide +kernel) rfl
theorem x64_10 : WP d 64 10 [l0, l1, l2] (.ref a :: st) h Q ↔ gF (hRd h a) 9 0 (fun v => WP d 64 11 [l0, l1, l2] (v :: st) h Q) := wp_getfield (show (lcode 64)[10]? = some (.getfield 576) by decide +kernel)
theorem x64_11 : WP d 64 11 [some (Value.ref a), l1, l2] st h Q ↔ WP d 64 12 [some (Value.ref a), l1, l2] (Value.ref a :: st) h Q := wp_aload (show (lcode 64)[11]? = some (.aload 0) by decide +kernel) rfl
theorem x64_12 : WP d 64 12 [l0, l1, l2] (.ref a :: st) h Q ↔ gF (hRd h a) 9 2 (fun v => WP d 64 13 [l0, l1, l2] (v :: st) h Q) := wp_getfield (show (lcode 64)[12]? = some (.getfield 578) by decide +kernel)
theorem x64_13 : WP d 64 13 [l0, some (vI x), l2] st h Q ↔ WP d 64 14 [l0, some (vI x), l2] (vI x :: st) h Q := wp_iload (show (lcode 64)[13]? = some (.iload 1) by decide +kernel) rfl
theorem x64_14 : WP d 64 14 [l0, l1, l2] (vI y :: vI x :: .ref a :: st) h Q ↔ stA (hRd h a) a x (vI y) (fun c => WP d 64 15 [l0, l1, l2] st (hWr h a c) Q) := wp_iastore (show (lcode 64)[14]? = some (.iastore) by decide +kernel)
theorem x64_15 : WP d 64 15 [some (Value.ref a), l1, l2] st h Q ↔ WP d 64 16 [some (Value.ref a), l1, l2] (Value.ref a :: st) h Q := wp_aload (show (lcode 64)[15]? = some (.aload 0) by decide +kernel) rfl
theorem x64_16 : WP d 64 16 [l0, l1, l2] (.ref a :: st) h Q ↔ gF (hRd h a) 9 1 (fun v => WP d 64 17 [l0, l1, l2] (v :: st) h Q) := wp_getfield (show (lcode 64)[16]? = some (.getfield 577) by decide +kernel)
theorem x64_17 : WP d 64 17 [some (Value.ref a), l1, l2] st h Q ↔ WP d 64 18 [some (Value.ref a), l1, l2] (Value.ref a :: st) h Q := wp_aload (show (lcode 64)[17]? = some (.aload 0) by decide +kernel) rfl
theorem x64_18 : WP d 64 18 [l0, l1, l2] (.ref a :: st) h Q ↔ gF (hRd h a) 9 2 (fun v => WP d 64 19 [l0, l1, l2] (v :: st) h Q) := wp_getfield (show (lcode 64)[18]? = some (.getfield 578) by decide +kernel)
theorem x64_19 : WP d 64 19 [l0, l1, some (vI x)] st h Q ↔ WP d 64 20 [l0, l1, some (vI x)] (vI x :: st) h Q := wp_iload (show (lcode 64)[19]? = some (.iload 2) by decide +kernel) rfl
theorem x64_20 : WP d 64 20 [l0, l1, l2] (vI y :: vI x :: .ref a :: st) h Q ↔ stA (hRd h a) a x (vI y) (fun c => WP d 64 21 [l0, l1, l2] st (hWr h a c) Q) := wp_iastore (show (lcode 64)[20]? = some (.iastore) by decide +kernel)
theorem x64_21 : WP d 64 21 [some (Value.ref a), l1, l2] st h Q ↔ WP d 64 22 [some (Value.ref a), l1, l2] (Value.ref a :: st) h Q := wp_aload (show (lcode 64)[21]? = some (.aload 0) by decide +kernel) rfl
theorem x64_22 : WP d 64 22 [l0, l1, l2] (v :: st) h Q ↔ (c1 v ∧ WP d 64 23 [l0, l1, l2] (v :: v :: st) h Q) := wp_dup (show (lcode 64)[22]? = some (.dup) by decide +kernel)
theorem x64_23 : WP d 64 23 [l0, l1, l2] (.ref a :: st) h Q ↔ gF (hRd h a) 9 2 (fun v => WP d 64 24 [l0, l1, l2] (v :: st) h Q) := wp_getfield (show (lcode 64)[23]? = some (.getfield 578) by decide +kernel)
theorem x64_24 : WP d 64 24 [l0, l1, l2] st h Q ↔ WP d 64 25 [l0, l1, l2] (vI 1 :: st) h Q := wp_iconst (show (lcode 64)[24]? = some (.iconst 1) by decide +kernel)
theorem x64_25 : WP d 64 25 [l0, l1, l2] (vI y :: vI x :: st) h Q ↔ WP d 64 26 [l0, l1, l2] (vI (x + y) :: st) h Q := wp_iadd (show (lcode 64)[25]? = some (.iadd) by decide +kernel)
theorem x64_26 : WP d 64 26 [l0, l1, l2] (vI x :: .ref a :: st) h Q ↔ pF (hRd h a) 9 2 (vI x) (fun c => WP d 64 27 [l0, l1, l2] st (hWr h a c) Q) := wp_putfield (show (lcode 64)[26]? = some (.putfield 578) by decide +kernel)
theorem x64_27 : WP d 64 27 [l0, l1, l2] st h Q ↔ WP d 64 28 [l0, l1, l2] (vI 1 :: st) h Q := wp_iconst (show (lcode 64)[27]? = some (.iconst 1) by decide +kernel)
theorem x64_28 : WP d 64 28 [l0, l1, l2] [vI x] h Q ↔ ((Int32.ofInt x = 0 ∨ Int32.ofInt x = 1) ∧ Q (some (vI x)) h) := wp_areturn (show (lcode 64)[28]? = some (.areturn) by decide +kernel)
-- 65: WakeOrder$Windows.survey
theorem x65_0 : WP d 65 0 [some (Value.ref a), l1, l2] st h Q ↔ WP d 65 1 [some (Value.ref a), l1, l2] (Value.ref a :: st) h Q := wp_aload (show (lcode 65)[0]? = some (.aload 0) by decide +kernel) rfl
theorem x65_1 : WP d 65 1 [l0, l1, l2] st h Q ↔ WP d 65 2 [l0, l1, l2] (vI 0 :: st) h Q := wp_iconst (show (lcode 65)[1]? = some (.iconst 0) by decide +kernel)
theorem x65_2 : WP d 65 2 [l0, l1, l2] (vI x :: .ref a :: st) h Q ↔ pF (hRd h a) 9 4 (vI x) (fun c => WP d 65 3 [l0, l1, l2] st (hWr h a c) Q) := wp_putfield (show (lcode 65)[2]? = some (.putfield 580) by decide +kernel)
theorem x65_3 : WP d 65 3 [some (Value.ref a), l1, l2] st h Q ↔ WP d 65 4 [some (Value.ref a), l1, l2] (Value.ref a :: st) h Q := wp_aload (show (lcode 65)[3]? = some (.aload 0) by decide +kernel) rfl
theorem x65_4 : WP d 65 4 [l0, l1, l2] (.ref a :: st) h Q ↔ gF (hRd h a) 9 5 (fun v => WP d 65 5 [l0, l1, l2] (v :: st) h Q) := wp_getfield (show (lcode 65)[4]? = some (.getfield 581) by decide +kernel)
theorem x65_5 : WP d 65 5 [l0, l1, l2] st h Q ↔ WP d 65 6 [l0, l1, l2] (vI (-1) :: st) h Q := wp_iconst (show (lcode 65)[5]? = some (.iconst (-1)) by decide +kernel)
theorem x65_6 : WP d 65 6 [l0, l1, l2] (v1 :: v :: st) h Q ↔ (sh st ∧ CALL d 183 [v, v1] h (fun v h => WP d 65 7 [l0, l1, l2] (v.toList ++ st) h Q)) := wp_call (n := 2) (show (lcode 65)[6]? = some (.invokestatic 183) by decide +kernel) (by decide +kernel) (by simp)
theorem x65_7 : WP d 65 7 [some (Value.ref a), l1, l2] st h Q ↔ WP d 65 8 [some (Value.ref a), l1, l2] (Value.ref a :: st) h Q := wp_aload (show (lcode 65)[7]? = some (.aload 0) by decide +kernel) rfl
theorem x65_8 : WP d 65 8 [l0, l1, l2] (.ref a :: st) h Q ↔ gF (hRd h a) 9 6 (fun v => WP d 65 9 [l0, l1, l2] (v :: st) h Q) := wp_getfield (show (lcode 65)[8]? = some (.getfield 582) by decide +kernel)
theorem x65_9 : WP d 65 9 [l0, l1, l2] st h Q ↔ WP d 65 10 [l0, l1, l2] (vI 0 :: st) h Q := wp_iconst (show (lcode 65)[9]? = some (.iconst 0) by decide +kernel)
theorem x65_10 : WP d 65 10 [l0, l1, l2] (v1 :: v :: st) h Q ↔ (sh st ∧ CALL d 183 [v, v1] h (fun v h => WP d 65 11 [l0, l1, l2] (v.toList ++ st) h Q)) := wp_call (n := 2) (show (lcode 65)[10]? = some (.invokestatic 183) by decide +kernel) (by decide +kernel) (by simp)
theorem x65_11 : WP d 65 11 [some (Value.ref a), l1, l2] st h Q ↔ WP d 65 12 [some (Value.ref a), l1, l2] (Value.ref a :: st) h Q := wp_aload (show (lcode 65)[11]? = some (.aload 0) by decide +kernel) rfl
theorem x65_12 : WP d 65 12 [l0, l1, l2] (.ref a :: st) h Q ↔ gF (hRd h a) 9 3 (fun v => WP d 65 13 [l0, l1, l2] (v :: st) h Q) := wp_getfield (show (lcode 65)[12]? = some (.getfield 579) by decide +kernel)
theorem x65_13 : WP d 65 13 [l0, some (Value.ref a), l2] st h Q ↔ WP d 65 14 [l0, some (Value.ref a), l2] (Value.ref a :: st) h Q := wp_aload (show (lcode 65)[13]? = some (.aload 1) by decide +kernel) rfl
theorem x65_14 : WP d 65 14 [l0, l1, l2] (.ref a :: st) h Q ↔ gF (hRd h a) 1 1 (fun v => WP d 65 15 [l0, l1, l2] (v :: st) h Q) := wp_getfield (show (lcode 65)[14]? = some (.getfield 65) by decide +kernel)
theorem x65_15 : WP d 65 15 [l0, l1, l2] (.ref a :: st) h Q ↔ gF (hRd h a) 7 0 (fun v => WP d 65 16 [l0, l1, l2] (v :: st) h Q) := wp_getfield (show (lcode 65)[15]? = some (.getfield 448) by decide +kernel)
theorem x65_16 : WP d 65 16 [l0, l1, l2] (v :: st) h Q ↔ (sh st ∧ CALL d 46 [v] h (fun v h => WP d 65 17 [l0, l1, l2] (v.toList ++ st) h Q)) := wp_call (n := 1) (show (lcode 65)[16]? = some (.invokestatic 46) by decide +kernel) (by decide +kernel) (by simp)
theorem x65_17 : WP d 65 17 [l0, l1, l2] (v1 :: v :: st) h Q ↔ (sh st ∧ CALL d 48 [v, v1] h (fun v h => WP d 65 18 [l0, l1, l2] (v.toList ++ st) h Q)) := wp_call (n := 2) (show (lcode 65)[17]? = some (.invokestatic 48) by decide +kernel) (by decide +kernel) (by simp)
theorem x65_18 : WP d 65 18 [l0, l1, l2] st h Q ↔ WP d 65 19 [l0, l1, l2] (vI 0 :: st) h Q := wp_iconst (show (lcode 65)[18]? = some (.iconst 0) by decide +kernel)
theorem x65_19 : WP d 65 19 [l0, l1, l2] (vI x :: st) h Q ↔ (nl l1 ∧ WP d 65 20 [l0, l1, some (vI x)] st h Q) := wp_istore (show (lcode 65)[19]? = some (.istore 2) by decide +kernel) (Nat.le_of_ble_eq_true rfl)
theorem x65_20 : WP d 65 20 [l0, l1, l2] st h Q ↔ WPC d 65 21 [l0, l1, l2] st h Q := wp_nop (show (lcode 65)[20]? = some (.nop) by decide +kernel)
theorem x65_21 : WP d 65 21 [l0, l1, some (vI x)] st h Q ↔ WP d 65 22 [l0, l1, some (vI x)] (vI x :: st) h Q := wp_iload (show (lcode 65)[21]? = some (.iload 2) by decide +kernel) rfl
theorem x65_22 : WP d 65 22 [l0, l1, l2] st h Q ↔ WP d 65 23 [l0, l1, l2] (vI 720 :: st) h Q := wp_iconst (show (lcode 65)[22]? = some (.iconst 720) by decide +kernel)
theorem x65_23 : WP d 65 23 [l0, l1, l2] (vI y :: vI x :: st) h Q ↔ ((wr y ≤ wr x → WP d 65 45 [l0, l1, l2] st h Q) ∧ (¬ (wr y ≤ wr x) → WP d 65 24 [l0, l1, l2] st h Q)) := wp_icmp_ge (show (lcode 65)[23]? = some (.if_icmp .ge 45) by decide +kernel)
theorem x65_24 : WP d 65 24 [l0, some (Value.ref a), l2] st h Q ↔ WP d 65 25 [l0, some (Value.ref a), l2] (Value.ref a :: st) h Q := wp_aload (show (lcode 65)[24]? = some (.aload 1) by decide +kernel) rfl
theorem x65_25 : WP d 65 25 [some (Value.ref a), l1, l2] st h Q ↔ WP d 65 26 [some (Value.ref a), l1, l2] (Value.ref a :: st) h Q := wp_aload (show (lcode 65)[25]? = some (.aload 0) by decide +kernel) rfl
theorem x65_26 : WP d 65 26 [l0, l1, l2] (.ref a :: st) h Q ↔ gF (hRd h a) 9 3 (fun v => WP d 65 27 [l0, l1, l2] (v :: st) h Q) := wp_getfield (show (lcode 65)[26]? = some (.getfield 579) by decide +kernel)
theorem x65_27 : WP d 65 27 [l0, some (Value.ref a), l2] st h Q ↔ WP d 65 28 [l0, some (Value.ref a), l2] (Value.ref a :: st) h Q := wp_aload (show (lcode 65)[27]? = some (.aload 1) by decide +kernel) rfl
theorem x65_28 : WP d 65 28 [l0, l1, l2] (.ref a :: st) h Q ↔ gF (hRd h a) 1 1 (fun v => WP d 65 29 [l0, l1, l2] (v :: st) h Q) := wp_getfield (show (lcode 65)[28]? = some (.getfield 65) by decide +kernel)
theorem x65_29 : WP d 65 29 [l0, l1, l2] (.ref a :: st) h Q ↔ gF (hRd h a) 7 3 (fun v => WP d 65 30 [l0, l1, l2] (v :: st) h Q) := wp_getfield (show (lcode 65)[29]? = some (.getfield 451) by decide +kernel)
theorem x65_30 : WP d 65 30 [l0, l1, l2] (v2 :: v1 :: v :: st) h Q ↔ (sh st ∧ CALL d 5 [v, v1, v2] h (fun v h => WP d 65 31 [l0, l1, l2] (v.toList ++ st) h Q)) := wp_call (n := 3) (show (lcode 65)[30]? = some (.invokestatic 5) by decide +kernel) (by decide +kernel) (by simp)
theorem x65_31 : WP d 65 31 [some (Value.ref a), l1, l2] st h Q ↔ WP d 65 32 [some (Value.ref a), l1, l2] (Value.ref a :: st) h Q := wp_aload (show (lcode 65)[31]? = some (.aload 0) by decide +kernel) rfl
theorem x65_32 : WP d 65 32 [l0, some (Value.ref a), l2] st h Q ↔ WP d 65 33 [l0, some (Value.ref a), l2] (Value.ref a :: st) h Q := wp_aload (show (lcode 65)[32]? = some (.aload 1) by decide +kernel) rfl
theorem x65_33 : WP d 65 33 [l0, l1, l2] (v1 :: v :: st) h Q ↔ (sh st ∧ CALL d 66 [v, v1] h (fun v h => WP d 65 34 [l0, l1, l2] (v.toList ++ st) h Q)) := wp_call (n := 2) (show (lcode 65)[33]? = some (.invokestatic 66) by decide +kernel) (by decide +kernel) (by simp)
theorem x65_34 : WP d 65 34 [l0, l1, l2] (vI x :: st) h Q ↔ ((wr x = 0 → WP d 65 38 [l0, l1, l2] st h Q) ∧ (¬ (wr x = 0) → WP d 65 35 [l0, l1, l2] st h Q)) := wp_if_eq (show (lcode 65)[34]? = some (.ifCond .eq 38) by decide +kernel)
theorem x65_35 : WP d 65 35 [some (Value.ref a), l1, l2] st h Q ↔ WP d 65 36 [some (Value.ref a), l1, l2] (Value.ref a :: st) h Q := wp_aload (show (lcode 65)[35]? = some (.aload 0) by decide +kernel) rfl
theorem x65_36 : WP d 65 36 [l0, some (Value.ref a), l2] st h Q ↔ WP d 65 37 [l0, some (Value.ref a), l2] (Value.ref a :: st) h Q := wp_aload (show (lcode 65)[36]? = some (.aload 1) by decide +kernel) rfl
theorem x65_37 : WP d 65 37 [l0, l1, l2] (v1 :: v :: st) h Q ↔ (sh st ∧ CALL d 67 [v, v1] h (fun v h => WP d 65 38 [l0, l1, l2] (v.toList ++ st) h Q)) := wp_call (n := 2) (show (lcode 65)[37]? = some (.invokestatic 67) by decide +kernel) (by decide +kernel) (by simp)
theorem x65_38 : WP d 65 38 [some (Value.ref a), l1, l2] st h Q ↔ WP d 65 39 [some (Value.ref a), l1, l2] (Value.ref a :: st) h Q := wp_aload (show (lcode 65)[38]? = some (.aload 0) by decide +kernel) rfl
theorem x65_39 : WP d 65 39 [l0, l1, l2] (.ref a :: st) h Q ↔ gF (hRd h a) 9 3 (fun v => WP d 65 40 [l0, l1, l2] (v :: st) h Q) := wp_getfield (show (lcode 65)[39]? = some (.getfield 579) by decide +kernel)
theorem x65_40 : WP d 65 40 [l0, l1, l2] (v :: st) h Q ↔ (sh st ∧ CALL d 52 [v] h (fun v h => WP d 65 41 [l0, l1, l2] (v.toList ++ st) h Q)) := wp_call (n := 1) (show (lcode 65)[40]? = some (.invokestatic 52) by decide +kernel) (by decide +kernel) (by simp)
theorem x65_41 : WP d 65 41 [l0, l1, l2] (vI x :: st) h Q ↔ ((¬ wr x = 0 → WP d 65 43 [l0, l1, l2] st h Q) ∧ (¬ (¬ wr x = 0) → WP d 65 42 [l0, l1, l2] st h Q)) := wp_if_ne (show (lcode 65)[41]? = some (.ifCond .ne 43) by decide +kernel)
theorem x65_42 : WP d 65 42 [l0, l1, l2] st h Q ↔ WP d 65 45 [l0, l1, l2] st h Q := wp_goto (show (lcode 65)[42]? = some (.goto 45) by decide +kernel)
theorem x65_43 : WP d 65 43 [l0, l1, some (vI x)] st h Q ↔ (nl l1 ∧ WP d 65 44 [l0, l1, some (vI (x + 1))] st h Q) := wp_iinc (show (lcode 65)[43]? = some (.iinc 2 1) by decide +kernel) rfl (Nat.le_of_ble_eq_true rfl)
theorem x65_44 : WP d 65 44 [l0, l1, l2] st h Q ↔ WP d 65 20 [l0, l1, l2] st h Q := wp_goto (show (lcode 65)[44]? = some (.goto 20) by decide +kernel)
theorem x65_45 : WP d 65 45 [l0, l1, l2] [] h Q ↔ Q none h := wp_return (show (lcode 65)[45]? = some (.return_) by decide +kernel)
-- 66: WakeOrder$Windows.fits
theorem x66_0 : WP d 66 0 [l0, l1, l2] st h Q ↔ WP d 66 1 [l0, l1, l2] (vI 0 :: st) h Q := wp_iconst (show (lcode 66)[0]? = some (.iconst 0) by decide +kernel)
theorem x66_1 : WP d 66 1 [l0, l1, l2] (vI x :: st) h Q ↔ (nl l1 ∧ WP d 66 2 [l0, l1, some (vI x)] st h Q) := wp_istore (show (lcode 66)[1]? = some (.istore 2) by decide +kernel) (Nat.le_of_ble_eq_true rfl)
theorem x66_2 : WP d 66 2 [l0, l1, l2] st h Q ↔ WPC d 66 3 [l0, l1, l2] st h Q := wp_nop (show (lcode 66)[2]? = some (.nop) by decide +kernel)
theorem x66_3 : WP d 66 3 [l0, l1, some (vI x)] st h Q ↔ WP d 66 4 [l0, l1, some (vI x)] (vI x :: st) h Q := wp_iload (show (lcode 66)[3]? = some (.iload 2) by decide +kernel) rfl
theorem x66_4 : WP d 66 4 [some (Value.ref a), l1, l2] st h Q ↔ WP d 66 5 [some (Value.ref a), l1, l2] (Value.ref a :: st) h Q := wp_aload (show (lcode 66)[4]? = some (.aload 0) by decide +kernel) rfl
theorem x66_5 : WP d 66 5 [l0, l1, l2] (.ref a :: st) h Q ↔ gF (hRd h a) 9 2 (fun v => WP d 66 6 [l0, l1, l2] (v :: st) h Q) := wp_getfield (show (lcode 66)[5]? = some (.getfield 578) by decide +kernel)
theorem x66_6 : WP d 66 6 [l0, l1, l2] (vI y :: vI x :: st) h Q ↔ ((wr y ≤ wr x → WP d 66 25 [l0, l1, l2] st h Q) ∧ (¬ (wr y ≤ wr x) → WP d 66 7 [l0, l1, l2] st h Q)) := wp_icmp_ge (show (lcode 66)[6]? = some (.if_icmp .ge 25) by decide +kernel)
theorem x66_7 : WP d 66 7 [l0, l1, some (vI x)] st h Q ↔ WP d 66 8 [l0, l1, some (vI x)] (vI x :: st) h Q := wp_iload (show (lcode 66)[7]? = some (.iload 2) by decide +kernel) rfl
theorem x66_8 : WP d 66 8 [l0, l1, l2] st h Q ↔ WP d 66 9 [l0, l1, l2] (vI 6 :: st) h Q := wp_iconst (show (lcode 66)[8]? = some (.iconst 6) by decide +kernel)
theorem x66_9 : WP d 66 9 [l0, l1, l2] (vI y :: vI x :: st) h Q ↔ ((wr y ≤ wr x → WP d 66 25 [l0, l1, l2] st h Q) ∧ (¬ (wr y ≤ wr x) → WP d 66 10 [l0, l1, l2] st h Q)) := wp_icmp_ge (show (lcode 66)[9]? = some (.if_icmp .ge 25) by decide +kernel)
theorem x66_10 : WP d 66 10 [l0, some (Value.ref a), l2] st h Q ↔ WP d 66 11 [l0, some (Value.ref a), l2] (Value.ref a :: st) h Q := wp_aload (show (lcode 66)[10]? = some (.aload 1) by decide +kernel) rfl
theorem x66_11 : WP d 66 11 [some (Value.ref a), l1, l2] st h Q ↔ WP d 66 12 [some (Value.ref a), l1, l2] (Value.ref a :: st) h Q := wp_aload (show (lcode 66)[11]? = some (.aload 0) by decide +kernel) rfl
theorem x66_12 : WP d 66 12 [l0, l1, l2] (.ref a :: st) h Q ↔ gF (hRd h a) 9 0 (fun v => WP d 66 13 [l0, l1, l2] (v :: st) h Q) := wp_getfield (show (lcode 66)[12]? = some (.getfield 576) by decide +kernel)
theorem x66_13 : WP d 66 13 [l0, l1, some (vI x)] st h Q ↔ WP d 66 14 [l0, l1, some (vI x)] (vI x :: st) h Q := wp_iload (show (lcode 66)[13]? = some (.iload 2) by decide +kernel) rfl
theorem x66_14 : WP d 66 14 [l0, l1, l2] (vI x :: .ref a :: st) h Q ↔ ldA (hRd h a) x (fun v => WP d 66 15 [l0, l1, l2] (v :: st) h Q) := wp_iaload (show (lcode 66)[14]? = some (.iaload) by decide +kernel)
theorem x66_15 : WP d 66 15 [some (Value.ref a), l1, l2] st h Q ↔ WP d 66 16 [some (Value.ref a), l1, l2] (Value.ref a :: st) h Q := wp_aload (show (lcode 66)[15]? = some (.aload 0) by decide +kernel) rfl
theorem x66_16 : WP d 66 16 [l0, l1, l2] (.ref a :: st) h Q ↔ gF (hRd h a) 9 1 (fun v => WP d 66 17 [l0, l1, l2] (v :: st) h Q) := wp_getfield (show (lcode 66)[16]? = some (.getfield 577) by decide +kernel)
theorem x66_17 : WP d 66 17 [l0, l1, some (vI x)] st h Q ↔ WP d 66 18 [l0, l1, some (vI x)] (vI x :: st) h Q := wp_iload (show (lcode 66)[17]? = some (.iload 2) by decide +kernel) rfl
theorem x66_18 : WP d 66 18 [l0, l1, l2] (vI x :: .ref a :: st) h Q ↔ ldA (hRd h a) x (fun v => WP d 66 19 [l0, l1, l2] (v :: st) h Q) := wp_iaload (show (lcode 66)[18]? = some (.iaload) by decide +kernel)
theorem x66_19 : WP d 66 19 [l0, l1, l2] (v2 :: v1 :: v :: st) h Q ↔ (sh st ∧ CALL d 13 [v, v1, v2] h (fun v h => WP d 66 20 [l0, l1, l2] (v.toList ++ st) h Q)) := wp_call (n := 3) (show (lcode 66)[19]? = some (.invokestatic 13) by decide +kernel) (by decide +kernel) (by simp)
theorem x66_20 : WP d 66 20 [l0, l1, l2] (vI x :: st) h Q ↔ ((¬ wr x = 0 → WP d 66 23 [l0, l1, l2] st h Q) ∧ (¬ (¬ wr x = 0) → WP d 66 21 [l0, l1, l2] st h Q)) := wp_if_ne (show (lcode 66)[20]? = some (.ifCond .ne 23) by decide +kernel)
theorem x66_21 : WP d 66 21 [l0, l1, l2] st h Q ↔ WP d 66 22 [l0, l1, l2] (vI 0 :: st) h Q := wp_iconst (show (lcode 66)[21]? = some (.iconst 0) by decide +kernel)
theorem x66_22 : WP d 66 22 [l0, l1, l2] [vI x] h Q ↔ ((Int32.ofInt x = 0 ∨ Int32.ofInt x = 1) ∧ Q (some (vI x)) h) := wp_areturn (show (lcode 66)[22]? = some (.areturn) by decide +kernel)
theorem x66_23 : WP d 66 23 [l0, l1, some (vI x)] st h Q ↔ (nl l1 ∧ WP d 66 24 [l0, l1, some (vI (x + 1))] st h Q) := wp_iinc (show (lcode 66)[23]? = some (.iinc 2 1) by decide +kernel) rfl (Nat.le_of_ble_eq_true rfl)
theorem x66_24 : WP d 66 24 [l0, l1, l2] st h Q ↔ WP d 66 2 [l0, l1, l2] st h Q := wp_goto (show (lcode 66)[24]? = some (.goto 2) by decide +kernel)
theorem x66_25 : WP d 66 25 [l0, l1, l2] st h Q ↔ WP d 66 26 [l0, l1, l2] (vI 1 :: st) h Q := wp_iconst (show (lcode 66)[25]? = some (.iconst 1) by decide +kernel)
theorem x66_26 : WP d 66 26 [l0, l1, l2] [vI x] h Q ↔ ((Int32.ofInt x = 0 ∨ Int32.ofInt x = 1) ∧ Q (some (vI x)) h) := wp_areturn (show (lcode 66)[26]? = some (.areturn) by decide +kernel)
-- 67: WakeOrder$Windows.countTrial
theorem x67_0 : WP d 67 0 [l0, l1, l2, l3, l4] st h Q ↔ WP d 67 1 [l0, l1, l2, l3, l4] (vI 0 :: st) h Q := wp_iconst (show (lcode 67)[0]? = some (.iconst 0) by decide +kernel)
theorem x67_1 : WP d 67 1 [l0, l1, l2, l3, l4] (vI x :: st) h Q ↔ (nl l1 ∧ WP d 67 2 [l0, l1, some (vI x), l3, l4] st h Q) := wp_istore (show (lcode 67)[1]? = some (.istore 2) by decide +kernel) (Nat.le_of_ble_eq_true rfl)
theorem x67_2 : WP d 67 2 [l0, l1, l2, l3, l4] st h Q ↔ WPC d 67 3 [l0, l1, l2, l3, l4] st h Q := wp_nop (show (lcode 67)[2]? = some (.nop) by decide +kernel)
theorem x67_3 : WP d 67 3 [l0, l1, some (vI x), l3, l4] st h Q ↔ WP d 67 4 [l0, l1, some (vI x), l3, l4] (vI x :: st) h Q := wp_iload (show (lcode 67)[3]? = some (.iload 2) by decide +kernel) rfl
theorem x67_4 : WP d 67 4 [l0, l1, l2, l3, l4] st h Q ↔ WP d 67 5 [l0, l1, l2, l3, l4] (vI 6 :: st) h Q := wp_iconst (show (lcode 67)[4]? = some (.iconst 6) by decide +kernel)
theorem x67_5 : WP d 67 5 [l0, l1, l2, l3, l4] (vI y :: vI x :: st) h Q ↔ ((wr y ≤ wr x → WP d 67 56 [l0, l1, l2, l3, l4] st h Q) ∧ (¬ (wr y ≤ wr x) → WP d 67 6 [l0, l1, l2, l3, l4] st h Q)) := wp_icmp_ge (show (lcode 67)[5]? = some (.if_icmp .ge 56) by decide +kernel)
theorem x67_6 : WP d 67 6 [some (Value.ref a), l1, l2, l3, l4] st h Q ↔ WP d 67 7 [some (Value.ref a), l1, l2, l3, l4] (Value.ref a :: st) h Q := wp_aload (show (lcode 67)[6]? = some (.aload 0) by decide +kernel) rfl
theorem x67_7 : WP d 67 7 [l0, l1, l2, l3, l4] (.ref a :: st) h Q ↔ gF (hRd h a) 9 3 (fun v => WP d 67 8 [l0, l1, l2, l3, l4] (v :: st) h Q) := wp_getfield (show (lcode 67)[7]? = some (.getfield 579) by decide +kernel)
theorem x67_8 : WP d 67 8 [l0, l1, some (vI x), l3, l4] st h Q ↔ WP d 67 9 [l0, l1, some (vI x), l3, l4] (vI x :: st) h Q := wp_iload (show (lcode 67)[8]? = some (.iload 2) by decide +kernel) rfl
theorem x67_9 : WP d 67 9 [l0, l1, l2, l3, l4] (v1 :: v :: st) h Q ↔ (sh st ∧ CALL d 45 [v, v1] h (fun v h => WP d 67 10 [l0, l1, l2, l3, l4] (v.toList ++ st) h Q)) := wp_call (n := 2) (show (lcode 67)[9]? = some (.invokestatic 45) by decide +kernel) (by decide +kernel) (by simp)
theorem x67_10 : WP d 67 10 [l0, l1, l2, l3, l4] (vI x :: st) h Q ↔ (nl l2 ∧ WP d 67 11 [l0, l1, l2, some (vI x), l4] st h Q) := wp_istore (show (lcode 67)[10]? = some (.istore 3) by decide +kernel) (Nat.le_of_ble_eq_true rfl)
theorem x67_11 : WP d 67 11 [some (Value.ref a), l1, l2, l3, l4] st h Q ↔ WP d 67 12 [some (Value.ref a), l1, l2, l3, l4] (Value.ref a :: st) h Q := wp_aload (show (lcode 67)[11]? = some (.aload 0) by decide +kernel) rfl
theorem x67_12 : WP d 67 12 [l0, l1, l2, l3, l4] (.ref a :: st) h Q ↔ gF (hRd h a) 9 5 (fun v => WP d 67 13 [l0, l1, l2, l3, l4] (v :: st) h Q) := wp_getfield (show (lcode 67)[12]? = some (.getfield 581) by decide +kernel)
theorem x67_13 : WP d 67 13 [l0, l1, some (vI x), l3, l4] st h Q ↔ WP d 67 14 [l0, l1, some (vI x), l3, l4] (vI x :: st) h Q := wp_iload (show (lcode 67)[13]? = some (.iload 2) by decide +kernel) rfl
theorem x67_14 : WP d 67 14 [some (Value.ref a), l1, l2, l3, l4] st h Q ↔ WP d 67 15 [some (Value.ref a), l1, l2, l3, l4] (Value.ref a :: st) h Q := wp_aload (show (lcode 67)[14]? = some (.aload 0) by decide +kernel) rfl
theorem x67_15 : WP d 67 15 [l0, l1, l2, l3, l4] (.ref a :: st) h Q ↔ gF (hRd h a) 9 4 (fun v => WP d 67 16 [l0, l1, l2, l3, l4] (v :: st) h Q) := wp_getfield (show (lcode 67)[15]? = some (.getfield 580) by decide +kernel)
theorem x67_16 : WP d 67 16 [l0, l1, l2, l3, l4] (vI x :: st) h Q ↔ ((wr x = 0 → WP d 67 23 [l0, l1, l2, l3, l4] st h Q) ∧ (¬ (wr x = 0) → WP d 67 17 [l0, l1, l2, l3, l4] st h Q)) := wp_if_eq (show (lcode 67)[16]? = some (.ifCond .eq 23) by decide +kernel)
theorem x67_17 : WP d 67 17 [some (Value.ref a), l1, l2, l3, l4] st h Q ↔ WP d 67 18 [some (Value.ref a), l1, l2, l3, l4] (Value.ref a :: st) h Q := wp_aload (show (lcode 67)[17]? = some (.aload 0) by decide +kernel) rfl
theorem x67_18 : WP d 67 18 [l0, l1, l2, l3, l4] (.ref a :: st) h Q ↔ gF (hRd h a) 9 5 (fun v => WP d 67 19 [l0, l1, l2, l3, l4] (v :: st) h Q) := wp_getfield (show (lcode 67)[18]? = some (.getfield 581) by decide +kernel)
theorem x67_19 : WP d 67 19 [l0, l1, some (vI x), l3, l4] st h Q ↔ WP d 67 20 [l0, l1, some (vI x), l3, l4] (vI x :: st) h Q := wp_iload (show (lcode 67)[19]? = some (.iload 2) by decide +kernel) rfl
theorem x67_20 : WP d 67 20 [l0, l1, l2, l3, l4] (vI x :: .ref a :: st) h Q ↔ ldA (hRd h a) x (fun v => WP d 67 21 [l0, l1, l2, l3, l4] (v :: st) h Q) := wp_iaload (show (lcode 67)[20]? = some (.iaload) by decide +kernel)
theorem x67_21 : WP d 67 21 [l0, l1, l2, some (vI x), l4] st h Q ↔ WP d 67 22 [l0, l1, l2, some (vI x), l4] (vI x :: st) h Q := wp_iload (show (lcode 67)[21]? = some (.iload 3) by decide +kernel) rfl
theorem x67_22 : WP d 67 22 [l0, l1, l2, l3, l4] (vI y :: vI x :: st) h Q ↔ ((¬ wr x = wr y → WP d 67 25 [l0, l1, l2, l3, l4] st h Q) ∧ (¬ (¬ wr x = wr y) → WP d 67 23 [l0, l1, l2, l3, l4] st h Q)) := wp_icmp_ne (show (lcode 67)[22]? = some (.if_icmp .ne 25) by decide +kernel)
theorem x67_23 : WP d 67 23 [l0, l1, l2, some (vI x), l4] st h Q ↔ WP d 67 24 [l0, l1, l2, some (vI x), l4] (vI x :: st) h Q := wp_iload (show (lcode 67)[23]? = some (.iload 3) by decide +kernel) rfl
theorem x67_24 : WP d 67 24 [l0, l1, l2, l3, l4] st h Q ↔ WP d 67 26 [l0, l1, l2, l3, l4] st h Q := wp_goto (show (lcode 67)[24]? = some (.goto 26) by decide +kernel)
theorem x67_25 : WP d 67 25 [l0, l1, l2, l3, l4] st h Q ↔ WP d 67 26 [l0, l1, l2, l3, l4] (vI (-1) :: st) h Q := wp_iconst (show (lcode 67)[25]? = some (.iconst (-1)) by decide +kernel)
theorem x67_26 : WP d 67 26 [l0, l1, l2, l3, l4] (vI y :: vI x :: .ref a :: st) h Q ↔ stA (hRd h a) a x (vI y) (fun c => WP d 67 27 [l0, l1, l2, l3, l4] st (hWr h a c) Q) := wp_iastore (show (lcode 67)[26]? = some (.iastore) by decide +kernel)
theorem x67_27 : WP d 67 27 [l0, l1, some (vI x), l3, l4] st h Q ↔ WP d 67 28 [l0, l1, some (vI x), l3, l4] (vI x :: st) h Q := wp_iload (show (lcode 67)[27]? = some (.iload 2) by decide +kernel) rfl
theorem x67_28 : WP d 67 28 [l0, l1, l2, l3, l4] st h Q ↔ WP d 67 29 [l0, l1, l2, l3, l4] (vI 1 :: st) h Q := wp_iconst (show (lcode 67)[28]? = some (.iconst 1) by decide +kernel)
theorem x67_29 : WP d 67 29 [l0, l1, l2, l3, l4] (vI y :: vI x :: st) h Q ↔ WP d 67 30 [l0, l1, l2, l3, l4] (vI (x + y) :: st) h Q := wp_iadd (show (lcode 67)[29]? = some (.iadd) by decide +kernel)
theorem x67_30 : WP d 67 30 [l0, l1, l2, l3, l4] (vI x :: st) h Q ↔ (nl l3 ∧ WP d 67 31 [l0, l1, l2, l3, some (vI x)] st h Q) := wp_istore (show (lcode 67)[30]? = some (.istore 4) by decide +kernel) (Nat.le_of_ble_eq_true rfl)
theorem x67_31 : WP d 67 31 [l0, l1, l2, l3, l4] st h Q ↔ WPC d 67 32 [l0, l1, l2, l3, l4] st h Q := wp_nop (show (lcode 67)[31]? = some (.nop) by decide +kernel)
theorem x67_32 : WP d 67 32 [l0, l1, l2, l3, some (vI x)] st h Q ↔ WP d 67 33 [l0, l1, l2, l3, some (vI x)] (vI x :: st) h Q := wp_iload (show (lcode 67)[32]? = some (.iload 4) by decide +kernel) rfl
theorem x67_33 : WP d 67 33 [l0, l1, l2, l3, l4] st h Q ↔ WP d 67 34 [l0, l1, l2, l3, l4] (vI 6 :: st) h Q := wp_iconst (show (lcode 67)[33]? = some (.iconst 6) by decide +kernel)
theorem x67_34 : WP d 67 34 [l0, l1, l2, l3, l4] (vI y :: vI x :: st) h Q ↔ ((wr y ≤ wr x → WP d 67 54 [l0, l1, l2, l3, l4] st h Q) ∧ (¬ (wr y ≤ wr x) → WP d 67 35 [l0, l1, l2, l3, l4] st h Q)) := wp_icmp_ge (show (lcode 67)[34]? = some (.if_icmp .ge 54) by decide +kernel)
theorem x67_35 : WP d 67 35 [l0, some (Value.ref a), l2, l3, l4] st h Q ↔ WP d 67 36 [l0, some (Value.ref a), l2, l3, l4] (Value.ref a :: st) h Q := wp_aload (show (lcode 67)[35]? = some (.aload 1) by decide +kernel) rfl
theorem x67_36 : WP d 67 36 [l0, l1, some (vI x), l3, l4] st h Q ↔ WP d 67 37 [l0, l1, some (vI x), l3, l4] (vI x :: st) h Q := wp_iload (show (lcode 67)[36]? = some (.iload 2) by decide +kernel) rfl
theorem x67_37 : WP d 67 37 [l0, l1, l2, l3, some (vI x)] st h Q ↔ WP d 67 38 [l0, l1, l2, l3, some (vI x)] (vI x :: st) h Q := wp_iload (show (lcode 67)[37]? = some (.iload 4) by decide +kernel) rfl
theorem x67_38 : WP d 67 38 [l0, l1, l2, l3, l4] (v2 :: v1 :: v :: st) h Q ↔ (sh st ∧ CALL d 13 [v, v1, v2] h (fun v h => WP d 67 39 [l0, l1, l2, l3, l4] (v.toList ++ st) h Q)) := wp_call (n := 3) (show (lcode 67)[38]? = some (.invokestatic 13) by decide +kernel) (by decide +kernel) (by simp)
theorem x67_39 : WP d 67 39 [l0, l1, l2, l3, l4] (vI x :: st) h Q ↔ ((wr x = 0 → WP d 67 52 [l0, l1, l2, l3, l4] st h Q) ∧ (¬ (wr x = 0) → WP d 67 40 [l0, l1, l2, l3, l4] st h Q)) := wp_if_eq (show (lcode 67)[39]? = some (.ifCond .eq 52) by decide +kernel)
theorem x67_40 : WP d 67 40 [some (Value.ref a), l1, l2, l3, l4] st h Q ↔ WP d 67 41 [some (Value.ref a), l1, l2, l3, l4] (Value.ref a :: st) h Q := wp_aload (show (lcode 67)[40]? = some (.aload 0) by decide +kernel) rfl
theorem x67_41 : WP d 67 41 [l0, l1, l2, l3, l4] (.ref a :: st) h Q ↔ gF (hRd h a) 9 6 (fun v => WP d 67 42 [l0, l1, l2, l3, l4] (v :: st) h Q) := wp_getfield (show (lcode 67)[41]? = some (.getfield 582) by decide +kernel)
theorem x67_42 : WP d 67 42 [l0, l1, some (vI x), l3, l4] st h Q ↔ WP d 67 43 [l0, l1, some (vI x), l3, l4] (vI x :: st) h Q := wp_iload (show (lcode 67)[42]? = some (.iload 2) by decide +kernel) rfl
theorem x67_43 : WP d 67 43 [l0, l1, l2, l3, l4] st h Q ↔ WP d 67 44 [l0, l1, l2, l3, l4] (vI 6 :: st) h Q := wp_iconst (show (lcode 67)[43]? = some (.iconst 6) by decide +kernel)
theorem x67_44 : WP d 67 44 [l0, l1, l2, l3, l4] (vI y :: vI x :: st) h Q ↔ WP d 67 45 [l0, l1, l2, l3, l4] (vI (x * y) :: st) h Q := wp_imul (show (lcode 67)[44]? = some (.imul) by decide +kernel)
theorem x67_45 : WP d 67 45 [l0, l1, l2, l3, some (vI x)] st h Q ↔ WP d 67 46 [l0, l1, l2, l3, some (vI x)] (vI x :: st) h Q := wp_iload (show (lcode 67)[45]? = some (.iload 4) by decide +kernel) rfl
theorem x67_46 : WP d 67 46 [l0, l1, l2, l3, l4] (vI y :: vI x :: st) h Q ↔ WP d 67 47 [l0, l1, l2, l3, l4] (vI (x + y) :: st) h Q := wp_iadd (show (lcode 67)[46]? = some (.iadd) by decide +kernel)
theorem x67_47 : WP d 67 47 [l0, l1, l2, l3, l4] (v :: v1 :: st) h Q ↔ ((c1 v ∧ c1 v1) ∧ WP d 67 48 [l0, l1, l2, l3, l4] (v :: v1 :: v :: v1 :: st) h Q) := wp_dup2 (show (lcode 67)[47]? = some (.dup2) by decide +kernel)
theorem x67_48 : WP d 67 48 [l0, l1, l2, l3, l4] (vI x :: .ref a :: st) h Q ↔ ldA (hRd h a) x (fun v => WP d 67 49 [l0, l1, l2, l3, l4] (v :: st) h Q) := wp_iaload (show (lcode 67)[48]? = some (.iaload) by decide +kernel)
theorem x67_49 : WP d 67 49 [l0, l1, l2, l3, l4] st h Q ↔ WP d 67 50 [l0, l1, l2, l3, l4] (vI 1 :: st) h Q := wp_iconst (show (lcode 67)[49]? = some (.iconst 1) by decide +kernel)
theorem x67_50 : WP d 67 50 [l0, l1, l2, l3, l4] (vI y :: vI x :: st) h Q ↔ WP d 67 51 [l0, l1, l2, l3, l4] (vI (x + y) :: st) h Q := wp_iadd (show (lcode 67)[50]? = some (.iadd) by decide +kernel)
theorem x67_51 : WP d 67 51 [l0, l1, l2, l3, l4] (vI y :: vI x :: .ref a :: st) h Q ↔ stA (hRd h a) a x (vI y) (fun c => WP d 67 52 [l0, l1, l2, l3, l4] st (hWr h a c) Q) := wp_iastore (show (lcode 67)[51]? = some (.iastore) by decide +kernel)
theorem x67_52 : WP d 67 52 [l0, l1, l2, l3, some (vI x)] st h Q ↔ (nl l3 ∧ WP d 67 53 [l0, l1, l2, l3, some (vI (x + 1))] st h Q) := wp_iinc (show (lcode 67)[52]? = some (.iinc 4 1) by decide +kernel) rfl (Nat.le_of_ble_eq_true rfl)
theorem x67_53 : WP d 67 53 [l0, l1, l2, l3, l4] st h Q ↔ WP d 67 31 [l0, l1, l2, l3, l4] st h Q := wp_goto (show (lcode 67)[53]? = some (.goto 31) by decide +kernel)
theorem x67_54 : WP d 67 54 [l0, l1, some (vI x), l3, l4] st h Q ↔ (nl l1 ∧ WP d 67 55 [l0, l1, some (vI (x + 1)), l3, l4] st h Q) := wp_iinc (show (lcode 67)[54]? = some (.iinc 2 1) by decide +kernel) rfl (Nat.le_of_ble_eq_true rfl)
theorem x67_55 : WP d 67 55 [l0, l1, l2, l3, l4] st h Q ↔ WP d 67 2 [l0, l1, l2, l3, l4] st h Q := wp_goto (show (lcode 67)[55]? = some (.goto 2) by decide +kernel)
theorem x67_56 : WP d 67 56 [some (Value.ref a), l1, l2, l3, l4] st h Q ↔ WP d 67 57 [some (Value.ref a), l1, l2, l3, l4] (Value.ref a :: st) h Q := wp_aload (show (lcode 67)[56]? = some (.aload 0) by decide +kernel) rfl
theorem x67_57 : WP d 67 57 [l0, l1, l2, l3, l4] (v :: st) h Q ↔ (c1 v ∧ WP d 67 58 [l0, l1, l2, l3, l4] (v :: v :: st) h Q) := wp_dup (show (lcode 67)[57]? = some (.dup) by decide +kernel)
theorem x67_58 : WP d 67 58 [l0, l1, l2, l3, l4] (.ref a :: st) h Q ↔ gF (hRd h a) 9 4 (fun v => WP d 67 59 [l0, l1, l2, l3, l4] (v :: st) h Q) := wp_getfield (show (lcode 67)[58]? = some (.getfield 580) by decide +kernel)
theorem x67_59 : WP d 67 59 [l0, l1, l2, l3, l4] st h Q ↔ WP d 67 60 [l0, l1, l2, l3, l4] (vI 1 :: st) h Q := wp_iconst (show (lcode 67)[59]? = some (.iconst 1) by decide +kernel)
theorem x67_60 : WP d 67 60 [l0, l1, l2, l3, l4] (vI y :: vI x :: st) h Q ↔ WP d 67 61 [l0, l1, l2, l3, l4] (vI (x + y) :: st) h Q := wp_iadd (show (lcode 67)[60]? = some (.iadd) by decide +kernel)
theorem x67_61 : WP d 67 61 [l0, l1, l2, l3, l4] (vI x :: .ref a :: st) h Q ↔ pF (hRd h a) 9 4 (vI x) (fun c => WP d 67 62 [l0, l1, l2, l3, l4] st (hWr h a c) Q) := wp_putfield (show (lcode 67)[61]? = some (.putfield 580) by decide +kernel)
theorem x67_62 : WP d 67 62 [l0, l1, l2, l3, l4] [] h Q ↔ Q none h := wp_return (show (lcode 67)[62]? = some (.return_) by decide +kernel)
-- 68: WakeOrder$Windows.sureOf
theorem x68_0 : WP d 68 0 [some (Value.ref a), l1] st h Q ↔ WP d 68 1 [some (Value.ref a), l1] (Value.ref a :: st) h Q := wp_aload (show (lcode 68)[0]? = some (.aload 0) by decide +kernel) rfl
theorem x68_1 : WP d 68 1 [l0, l1] (.ref a :: st) h Q ↔ gF (hRd h a) 9 5 (fun v => WP d 68 2 [l0, l1] (v :: st) h Q) := wp_getfield (show (lcode 68)[1]? = some (.getfield 581) by decide +kernel)
theorem x68_2 : WP d 68 2 [l0, some (vI x)] st h Q ↔ WP d 68 3 [l0, some (vI x)] (vI x :: st) h Q := wp_iload (show (lcode 68)[2]? = some (.iload 1) by decide +kernel) rfl
theorem x68_3 : WP d 68 3 [l0, l1] (v1 :: v :: st) h Q ↔ (sh st ∧ CALL d 107 [v, v1] h (fun v h => WP d 68 4 [l0, l1] (v.toList ++ st) h Q)) := wp_call (n := 2) (show (lcode 68)[3]? = some (.invokestatic 107) by decide +kernel) (by decide +kernel) (by simp)
theorem x68_4 : WP d 68 4 [l0, l1] [vI x] h Q ↔ Q (some (vI x)) h := wp_ireturn (show (lcode 68)[4]? = some (.ireturn) by decide +kernel)
-- 69: WakeOrder$Windows.bestPair
theorem x69_0 : WP d 69 0 [l0, l1, l2, l3, l4, l5, l6, l7] st h Q ↔ WP d 69 1 [l0, l1, l2, l3, l4, l5, l6, l7] (vI (-1) :: st) h Q := wp_iconst (show (lcode 69)[0]? = some (.iconst (-1)) by decide +kernel)
theorem x69_1 : WP d 69 1 [l0, l1, l2, l3, l4, l5, l6, l7] (vI x :: st) h Q ↔ (nl l1 ∧ WP d 69 2 [l0, l1, some (vI x), l3, l4, l5, l6, l7] st h Q) := wp_istore (show (lcode 69)[1]? = some (.istore 2) by decide +kernel) (Nat.le_of_ble_eq_true rfl)
theorem x69_2 : WP d 69 2 [some (Value.ref a), l1, l2, l3, l4, l5, l6, l7] st h Q ↔ WP d 69 3 [some (Value.ref a), l1, l2, l3, l4, l5, l6, l7] (Value.ref a :: st) h Q := wp_aload (show (lcode 69)[2]? = some (.aload 0) by decide +kernel) rfl
theorem x69_3 : WP d 69 3 [l0, l1, l2, l3, l4, l5, l6, l7] (.ref a :: st) h Q ↔ gF (hRd h a) 9 4 (fun v => WP d 69 4 [l0, l1, l2, l3, l4, l5, l6, l7] (v :: st) h Q) := wp_getfield (show (lcode 69)[3]? = some (.getfield 580) by decide +kernel)
theorem x69_4 : WP d 69 4 [l0, l1, l2, l3, l4, l5, l6, l7] (vI x :: st) h Q ↔ (nl l2 ∧ WP d 69 5 [l0, l1, l2, some (vI x), l4, l5, l6, l7] st h Q) := wp_istore (show (lcode 69)[4]? = some (.istore 3) by decide +kernel) (Nat.le_of_ble_eq_true rfl)
theorem x69_5 : WP d 69 5 [l0, l1, l2, l3, l4, l5, l6, l7] st h Q ↔ WP d 69 6 [l0, l1, l2, l3, l4, l5, l6, l7] (vI 0 :: st) h Q := wp_iconst (show (lcode 69)[5]? = some (.iconst 0) by decide +kernel)
theorem x69_6 : WP d 69 6 [l0, l1, l2, l3, l4, l5, l6, l7] (vI x :: st) h Q ↔ (nl l3 ∧ WP d 69 7 [l0, l1, l2, l3, some (vI x), l5, l6, l7] st h Q) := wp_istore (show (lcode 69)[6]? = some (.istore 4) by decide +kernel) (Nat.le_of_ble_eq_true rfl)
theorem x69_7 : WP d 69 7 [l0, l1, l2, l3, l4, l5, l6, l7] st h Q ↔ WPC d 69 8 [l0, l1, l2, l3, l4, l5, l6, l7] st h Q := wp_nop (show (lcode 69)[7]? = some (.nop) by decide +kernel)
theorem x69_8 : WP d 69 8 [l0, l1, l2, l3, some (vI x), l5, l6, l7] st h Q ↔ WP d 69 9 [l0, l1, l2, l3, some (vI x), l5, l6, l7] (vI x :: st) h Q := wp_iload (show (lcode 69)[8]? = some (.iload 4) by decide +kernel) rfl
theorem x69_9 : WP d 69 9 [l0, l1, l2, l3, l4, l5, l6, l7] st h Q ↔ WP d 69 10 [l0, l1, l2, l3, l4, l5, l6, l7] (vI 6 :: st) h Q := wp_iconst (show (lcode 69)[9]? = some (.iconst 6) by decide +kernel)
theorem x69_10 : WP d 69 10 [l0, l1, l2, l3, l4, l5, l6, l7] (vI y :: vI x :: st) h Q ↔ ((wr y ≤ wr x → WP d 69 56 [l0, l1, l2, l3, l4, l5, l6, l7] st h Q) ∧ (¬ (wr y ≤ wr x) → WP d 69 11 [l0, l1, l2, l3, l4, l5, l6, l7] st h Q)) := wp_icmp_ge (show (lcode 69)[10]? = some (.if_icmp .ge 56) by decide +kernel)
theorem x69_11 : WP d 69 11 [l0, l1, l2, l3, some (vI x), l5, l6, l7] st h Q ↔ WP d 69 12 [l0, l1, l2, l3, some (vI x), l5, l6, l7] (vI x :: st) h Q := wp_iload (show (lcode 69)[11]? = some (.iload 4) by decide +kernel) rfl
theorem x69_12 : WP d 69 12 [l0, some (vI x), l2, l3, l4, l5, l6, l7] st h Q ↔ WP d 69 13 [l0, some (vI x), l2, l3, l4, l5, l6, l7] (vI x :: st) h Q := wp_iload (show (lcode 69)[12]? = some (.iload 1) by decide +kernel) rfl
theorem x69_13 : WP d 69 13 [l0, l1, l2, l3, l4, l5, l6, l7] (vI y :: vI x :: st) h Q ↔ ((wr y ≤ wr x → WP d 69 56 [l0, l1, l2, l3, l4, l5, l6, l7] st h Q) ∧ (¬ (wr y ≤ wr x) → WP d 69 14 [l0, l1, l2, l3, l4, l5, l6, l7] st h Q)) := wp_icmp_ge (show (lcode 69)[13]? = some (.if_icmp .ge 56) by decide +kernel)
theorem x69_14 : WP d 69 14 [l0, l1, l2, l3, some (vI x), l5, l6, l7] st h Q ↔ WP d 69 15 [l0, l1, l2, l3, some (vI x), l5, l6, l7] (vI x :: st) h Q := wp_iload (show (lcode 69)[14]? = some (.iload 4) by decide +kernel) rfl
theorem x69_15 : WP d 69 15 [l0, l1, l2, l3, l4, l5, l6, l7] st h Q ↔ WP d 69 16 [l0, l1, l2, l3, l4, l5, l6, l7] (vI 1 :: st) h Q := wp_iconst (show (lcode 69)[15]? = some (.iconst 1) by decide +kernel)
theorem x69_16 : WP d 69 16 [l0, l1, l2, l3, l4, l5, l6, l7] (vI y :: vI x :: st) h Q ↔ WP d 69 17 [l0, l1, l2, l3, l4, l5, l6, l7] (vI (x + y) :: st) h Q := wp_iadd (show (lcode 69)[16]? = some (.iadd) by decide +kernel)
theorem x69_17 : WP d 69 17 [l0, l1, l2, l3, l4, l5, l6, l7] (vI x :: st) h Q ↔ (nl l4 ∧ WP d 69 18 [l0, l1, l2, l3, l4, some (vI x), l6, l7] st h Q) := wp_istore (show (lcode 69)[17]? = some (.istore 5) by decide +kernel) (Nat.le_of_ble_eq_true rfl)
theorem x69_18 : WP d 69 18 [l0, l1, l2, l3, l4, l5, l6, l7] st h Q ↔ WPC d 69 19 [l0, l1, l2, l3, l4, l5, l6, l7] st h Q := wp_nop (show (lcode 69)[18]? = some (.nop) by decide +kernel)
theorem x69_19 : WP d 69 19 [l0, l1, l2, l3, l4, some (vI x), l6, l7] st h Q ↔ WP d 69 20 [l0, l1, l2, l3, l4, some (vI x), l6, l7] (vI x :: st) h Q := wp_iload (show (lcode 69)[19]? = some (.iload 5) by decide +kernel) rfl
theorem x69_20 : WP d 69 20 [l0, l1, l2, l3, l4, l5, l6, l7] st h Q ↔ WP d 69 21 [l0, l1, l2, l3, l4, l5, l6, l7] (vI 6 :: st) h Q := wp_iconst (show (lcode 69)[20]? = some (.iconst 6) by decide +kernel)
theorem x69_21 : WP d 69 21 [l0, l1, l2, l3, l4, l5, l6, l7] (vI y :: vI x :: st) h Q ↔ ((wr y ≤ wr x → WP d 69 54 [l0, l1, l2, l3, l4, l5, l6, l7] st h Q) ∧ (¬ (wr y ≤ wr x) → WP d 69 22 [l0, l1, l2, l3, l4, l5, l6, l7] st h Q)) := wp_icmp_ge (show (lcode 69)[21]? = some (.if_icmp .ge 54) by decide +kernel)
theorem x69_22 : WP d 69 22 [l0, l1, l2, l3, l4, some (vI x), l6, l7] st h Q ↔ WP d 69 23 [l0, l1, l2, l3, l4, some (vI x), l6, l7] (vI x :: st) h Q := wp_iload (show (lcode 69)[22]? = some (.iload 5) by decide +kernel) rfl
theorem x69_23 : WP d 69 23 [l0, some (vI x), l2, l3, l4, l5, l6, l7] st h Q ↔ WP d 69 24 [l0, some (vI x), l2, l3, l4, l5, l6, l7] (vI x :: st) h Q := wp_iload (show (lcode 69)[23]? = some (.iload 1) by decide +kernel) rfl
theorem x69_24 : WP d 69 24 [l0, l1, l2, l3, l4, l5, l6, l7] (vI y :: vI x :: st) h Q ↔ ((wr y ≤ wr x → WP d 69 54 [l0, l1, l2, l3, l4, l5, l6, l7] st h Q) ∧ (¬ (wr y ≤ wr x) → WP d 69 25 [l0, l1, l2, l3, l4, l5, l6, l7] st h Q)) := wp_icmp_ge (show (lcode 69)[24]? = some (.if_icmp .ge 54) by decide +kernel)
theorem x69_25 : WP d 69 25 [some (Value.ref a), l1, l2, l3, l4, l5, l6, l7] st h Q ↔ WP d 69 26 [some (Value.ref a), l1, l2, l3, l4, l5, l6, l7] (Value.ref a :: st) h Q := wp_aload (show (lcode 69)[25]? = some (.aload 0) by decide +kernel) rfl
theorem x69_26 : WP d 69 26 [l0, l1, l2, l3, l4, l5, l6, l7] (.ref a :: st) h Q ↔ gF (hRd h a) 9 6 (fun v => WP d 69 27 [l0, l1, l2, l3, l4, l5, l6, l7] (v :: st) h Q) := wp_getfield (show (lcode 69)[26]? = some (.getfield 582) by decide +kernel)
theorem x69_27 : WP d 69 27 [l0, l1, l2, l3, some (vI x), l5, l6, l7] st h Q ↔ WP d 69 28 [l0, l1, l2, l3, some (vI x), l5, l6, l7] (vI x :: st) h Q := wp_iload (show (lcode 69)[27]? = some (.iload 4) by decide +kernel) rfl
theorem x69_28 : WP d 69 28 [l0, l1, l2, l3, l4, l5, l6, l7] st h Q ↔ WP d 69 29 [l0, l1, l2, l3, l4, l5, l6, l7] (vI 6 :: st) h Q := wp_iconst (show (lcode 69)[28]? = some (.iconst 6) by decide +kernel)
theorem x69_29 : WP d 69 29 [l0, l1, l2, l3, l4, l5, l6, l7] (vI y :: vI x :: st) h Q ↔ WP d 69 30 [l0, l1, l2, l3, l4, l5, l6, l7] (vI (x * y) :: st) h Q := wp_imul (show (lcode 69)[29]? = some (.imul) by decide +kernel)
theorem x69_30 : WP d 69 30 [l0, l1, l2, l3, l4, some (vI x), l6, l7] st h Q ↔ WP d 69 31 [l0, l1, l2, l3, l4, some (vI x), l6, l7] (vI x :: st) h Q := wp_iload (show (lcode 69)[30]? = some (.iload 5) by decide +kernel) rfl
theorem x69_31 : WP d 69 31 [l0, l1, l2, l3, l4, l5, l6, l7] (vI y :: vI x :: st) h Q ↔ WP d 69 32 [l0, l1, l2, l3, l4, l5, l6, l7] (vI (x + y) :: st) h Q := wp_iadd (show (lcode 69)[31]? = some (.iadd) by decide +kernel)
theorem x69_32 : WP d 69 32 [l0, l1, l2, l3, l4, l5, l6, l7] (vI x :: .ref a :: st) h Q ↔ ldA (hRd h a) x (fun v => WP d 69 33 [l0, l1, l2, l3, l4, l5, l6, l7] (v :: st) h Q) := wp_iaload (show (lcode 69)[32]? = some (.iaload) by decide +kernel)
theorem x69_33 : WP d 69 33 [l0, l1, l2, l3, l4, l5, l6, l7] (vI x :: st) h Q ↔ (nl l5 ∧ WP d 69 34 [l0, l1, l2, l3, l4, l5, some (vI x), l7] st h Q) := wp_istore (show (lcode 69)[33]? = some (.istore 6) by decide +kernel) (Nat.le_of_ble_eq_true rfl)
theorem x69_34 : WP d 69 34 [l0, l1, l2, l3, l4, l5, some (vI x), l7] st h Q ↔ WP d 69 35 [l0, l1, l2, l3, l4, l5, some (vI x), l7] (vI x :: st) h Q := wp_iload (show (lcode 69)[34]? = some (.iload 6) by decide +kernel) rfl
theorem x69_35 : WP d 69 35 [some (Value.ref a), l1, l2, l3, l4, l5, l6, l7] st h Q ↔ WP d 69 36 [some (Value.ref a), l1, l2, l3, l4, l5, l6, l7] (Value.ref a :: st) h Q := wp_aload (show (lcode 69)[35]? = some (.aload 0) by decide +kernel) rfl
theorem x69_36 : WP d 69 36 [l0, l1, l2, l3, l4, l5, l6, l7] (.ref a :: st) h Q ↔ gF (hRd h a) 9 4 (fun v => WP d 69 37 [l0, l1, l2, l3, l4, l5, l6, l7] (v :: st) h Q) := wp_getfield (show (lcode 69)[36]? = some (.getfield 580) by decide +kernel)
theorem x69_37 : WP d 69 37 [l0, l1, l2, l3, l4, l5, some (vI x), l7] st h Q ↔ WP d 69 38 [l0, l1, l2, l3, l4, l5, some (vI x), l7] (vI x :: st) h Q := wp_iload (show (lcode 69)[37]? = some (.iload 6) by decide +kernel) rfl
theorem x69_38 : WP d 69 38 [l0, l1, l2, l3, l4, l5, l6, l7] (vI y :: vI x :: st) h Q ↔ WP d 69 39 [l0, l1, l2, l3, l4, l5, l6, l7] (vI (x - y) :: st) h Q := wp_isub (show (lcode 69)[38]? = some (.isub) by decide +kernel)
theorem x69_39 : WP d 69 39 [l0, l1, l2, l3, l4, l5, l6, l7] (vI y :: vI x :: st) h Q ↔ ((sd d ∧ sh st) ∧ WP d 69 40 [l0, l1, l2, l3, l4, l5, l6, l7] (vI (if wr x < wr y then y else x) :: st) h Q) := wp_max (show (lcode 69)[39]? = some (.invokeinterface 0 0) by decide +kernel)
theorem x69_40 : WP d 69 40 [l0, l1, l2, l3, l4, l5, l6, l7] (vI x :: st) h Q ↔ (nl l6 ∧ WP d 69 41 [l0, l1, l2, l3, l4, l5, l6, some (vI x)] st h Q) := wp_istore (show (lcode 69)[40]? = some (.istore 7) by decide +kernel) (Nat.le_of_ble_eq_true rfl)
theorem x69_41 : WP d 69 41 [l0, l1, l2, l3, l4, l5, l6, some (vI x)] st h Q ↔ WP d 69 42 [l0, l1, l2, l3, l4, l5, l6, some (vI x)] (vI x :: st) h Q := wp_iload (show (lcode 69)[41]? = some (.iload 7) by decide +kernel) rfl
theorem x69_42 : WP d 69 42 [l0, l1, l2, some (vI x), l4, l5, l6, l7] st h Q ↔ WP d 69 43 [l0, l1, l2, some (vI x), l4, l5, l6, l7] (vI x :: st) h Q := wp_iload (show (lcode 69)[42]? = some (.iload 3) by decide +kernel) rfl
theorem x69_43 : WP d 69 43 [l0, l1, l2, l3, l4, l5, l6, l7] (vI y :: vI x :: st) h Q ↔ ((wr y ≤ wr x → WP d 69 52 [l0, l1, l2, l3, l4, l5, l6, l7] st h Q) ∧ (¬ (wr y ≤ wr x) → WP d 69 44 [l0, l1, l2, l3, l4, l5, l6, l7] st h Q)) := wp_icmp_ge (show (lcode 69)[43]? = some (.if_icmp .ge 52) by decide +kernel)
theorem x69_44 : WP d 69 44 [l0, l1, l2, l3, l4, l5, l6, some (vI x)] st h Q ↔ WP d 69 45 [l0, l1, l2, l3, l4, l5, l6, some (vI x)] (vI x :: st) h Q := wp_iload (show (lcode 69)[44]? = some (.iload 7) by decide +kernel) rfl
theorem x69_45 : WP d 69 45 [l0, l1, l2, l3, l4, l5, l6, l7] (vI x :: st) h Q ↔ (nl l2 ∧ WP d 69 46 [l0, l1, l2, some (vI x), l4, l5, l6, l7] st h Q) := wp_istore (show (lcode 69)[45]? = some (.istore 3) by decide +kernel) (Nat.le_of_ble_eq_true rfl)
theorem x69_46 : WP d 69 46 [l0, l1, l2, l3, l4, l5, l6, l7] st h Q ↔ WP d 69 47 [l0, l1, l2, l3, l4, l5, l6, l7] (vI 10 :: st) h Q := wp_iconst (show (lcode 69)[46]? = some (.iconst 10) by decide +kernel)
theorem x69_47 : WP d 69 47 [l0, l1, l2, l3, some (vI x), l5, l6, l7] st h Q ↔ WP d 69 48 [l0, l1, l2, l3, some (vI x), l5, l6, l7] (vI x :: st) h Q := wp_iload (show (lcode 69)[47]? = some (.iload 4) by decide +kernel) rfl
theorem x69_48 : WP d 69 48 [l0, l1, l2, l3, l4, l5, l6, l7] (vI y :: vI x :: st) h Q ↔ WP d 69 49 [l0, l1, l2, l3, l4, l5, l6, l7] (vI (x * y) :: st) h Q := wp_imul (show (lcode 69)[48]? = some (.imul) by decide +kernel)
theorem x69_49 : WP d 69 49 [l0, l1, l2, l3, l4, some (vI x), l6, l7] st h Q ↔ WP d 69 50 [l0, l1, l2, l3, l4, some (vI x), l6, l7] (vI x :: st) h Q := wp_iload (show (lcode 69)[49]? = some (.iload 5) by decide +kernel) rfl
theorem x69_50 : WP d 69 50 [l0, l1, l2, l3, l4, l5, l6, l7] (vI y :: vI x :: st) h Q ↔ WP d 69 51 [l0, l1, l2, l3, l4, l5, l6, l7] (vI (x + y) :: st) h Q := wp_iadd (show (lcode 69)[50]? = some (.iadd) by decide +kernel)
theorem x69_51 : WP d 69 51 [l0, l1, l2, l3, l4, l5, l6, l7] (vI x :: st) h Q ↔ (nl l1 ∧ WP d 69 52 [l0, l1, some (vI x), l3, l4, l5, l6, l7] st h Q) := wp_istore (show (lcode 69)[51]? = some (.istore 2) by decide +kernel) (Nat.le_of_ble_eq_true rfl)
theorem x69_52 : WP d 69 52 [l0, l1, l2, l3, l4, some (vI x), l6, l7] st h Q ↔ (nl l4 ∧ WP d 69 53 [l0, l1, l2, l3, l4, some (vI (x + 1)), l6, l7] st h Q) := wp_iinc (show (lcode 69)[52]? = some (.iinc 5 1) by decide +kernel) rfl (Nat.le_of_ble_eq_true rfl)
theorem x69_53 : WP d 69 53 [l0, l1, l2, l3, l4, l5, l6, l7] st h Q ↔ WP d 69 18 [l0, l1, l2, l3, l4, l5, l6, l7] st h Q := wp_goto (show (lcode 69)[53]? = some (.goto 18) by decide +kernel)
theorem x69_54 : WP d 69 54 [l0, l1, l2, l3, some (vI x), l5, l6, l7] st h Q ↔ (nl l3 ∧ WP d 69 55 [l0, l1, l2, l3, some (vI (x + 1)), l5, l6, l7] st h Q) := wp_iinc (show (lcode 69)[54]? = some (.iinc 4 1) by decide +kernel) rfl (Nat.le_of_ble_eq_true rfl)
theorem x69_55 : WP d 69 55 [l0, l1, l2, l3, l4, l5, l6, l7] st h Q ↔ WP d 69 7 [l0, l1, l2, l3, l4, l5, l6, l7] st h Q := wp_goto (show (lcode 69)[55]? = some (.goto 7) by decide +kernel)
theorem x69_56 : WP d 69 56 [l0, l1, some (vI x), l3, l4, l5, l6, l7] st h Q ↔ WP d 69 57 [l0, l1, some (vI x), l3, l4, l5, l6, l7] (vI x :: st) h Q := wp_iload (show (lcode 69)[56]? = some (.iload 2) by decide +kernel) rfl
theorem x69_57 : WP d 69 57 [l0, l1, l2, l3, l4, l5, l6, l7] [vI x] h Q ↔ Q (some (vI x)) h := wp_ireturn (show (lcode 69)[57]? = some (.ireturn) by decide +kernel)
-- 70: WakeOrder.<init>
theorem x70_0 : WP d 70 0 [some (Value.ref a)] st h Q ↔ WP d 70 1 [some (Value.ref a)] (Value.ref a :: st) h Q := wp_aload (show (lcode 70)[0]? = some (.aload 0) by decide +kernel) rfl
theorem x70_1 : WP d 70 1 [l0] (.ref a :: st) h Q ↔ ((sd d ∧ sh st) ∧ WP d 70 2 [l0] st h Q) := wp_pop (show (lcode 70)[1]? = some (.pop) by decide +kernel)
theorem x70_2 : WP d 70 2 [some (Value.ref a)] st h Q ↔ WP d 70 3 [some (Value.ref a)] (Value.ref a :: st) h Q := wp_aload (show (lcode 70)[2]? = some (.aload 0) by decide +kernel) rfl
theorem x70_4 : WP d 70 4 [l0] (v :: st) h Q ↔ (c1 v ∧ WP d 70 5 [l0] (v :: v :: st) h Q) := wp_dup (show (lcode 70)[4]? = some (.dup) by decide +kernel)
theorem x70_5 : WP d 70 5 [l0] (v :: st) h Q ↔ (sh st ∧ CALL d 29 [v] h (fun v h => WP d 70 6 [l0] (v.toList ++ st) h Q)) := wp_call (n := 1) (show (lcode 70)[5]? = some (.invokestatic 29) by decide +kernel) (by decide +kernel) (by simp)
theorem x70_6 : WP d 70 6 [l0] (Value.ref b :: .ref a :: st) h Q ↔ pF (hRd h a) 10 0 (Value.ref b) (fun c => WP d 70 7 [l0] st (hWr h a c) Q) := wp_putstatic (show (lcode 70)[6]? = some (.putstatic 640) by decide +kernel)
theorem x70_7 : WP d 70 7 [some (Value.ref a)] st h Q ↔ WP d 70 8 [some (Value.ref a)] (Value.ref a :: st) h Q := wp_aload (show (lcode 70)[7]? = some (.aload 0) by decide +kernel) rfl
theorem x70_9 : WP d 70 9 [l0] (v :: st) h Q ↔ (c1 v ∧ WP d 70 10 [l0] (v :: v :: st) h Q) := wp_dup (show (lcode 70)[9]? = some (.dup) by decide +kernel)
theorem x70_10 : WP d 70 10 [l0] (v :: st) h Q ↔ (sh st ∧ CALL d 3 [v] h (fun v h => WP d 70 11 [l0] (v.toList ++ st) h Q)) := wp_call (n := 1) (show (lcode 70)[10]? = some (.invokestatic 3) by decide +kernel) (by decide +kernel) (by simp)
theorem x70_11 : WP d 70 11 [l0] (Value.ref b :: .ref a :: st) h Q ↔ pF (hRd h a) 10 1 (Value.ref b) (fun c => WP d 70 12 [l0] st (hWr h a c) Q) := wp_putstatic (show (lcode 70)[11]? = some (.putstatic 641) by decide +kernel)
theorem x70_12 : WP d 70 12 [some (Value.ref a)] st h Q ↔ WP d 70 13 [some (Value.ref a)] (Value.ref a :: st) h Q := wp_aload (show (lcode 70)[12]? = some (.aload 0) by decide +kernel) rfl
theorem x70_13 : WP d 70 13 [some (Value.ref a)] st h Q ↔ WP d 70 14 [some (Value.ref a)] (Value.ref a :: st) h Q := wp_aload (show (lcode 70)[13]? = some (.aload 0) by decide +kernel) rfl
theorem x70_14 : WP d 70 14 [l0] (.ref a :: st) h Q ↔ gF (hRd h a) 10 1 (fun v => WP d 70 15 [l0] (v :: st) h Q) := wp_getfield (show (lcode 70)[14]? = some (.getfield 641) by decide +kernel)
theorem x70_15 : WP d 70 15 [l0] (.ref a :: st) h Q ↔ gF (hRd h a) 1 0 (fun v => WP d 70 16 [l0] (v :: st) h Q) := wp_getfield (show (lcode 70)[15]? = some (.getfield 64) by decide +kernel)
theorem x70_16 : WP d 70 16 [l0] (Value.ref b :: .ref a :: st) h Q ↔ pF (hRd h a) 10 2 (Value.ref b) (fun c => WP d 70 17 [l0] st (hWr h a c) Q) := wp_putstatic (show (lcode 70)[16]? = some (.putstatic 642) by decide +kernel)
theorem x70_17 : WP d 70 17 [some (Value.ref a)] st h Q ↔ WP d 70 18 [some (Value.ref a)] (Value.ref a :: st) h Q := wp_aload (show (lcode 70)[17]? = some (.aload 0) by decide +kernel) rfl
theorem x70_18 : WP d 70 18 [some (Value.ref a)] st h Q ↔ WP d 70 19 [some (Value.ref a)] (Value.ref a :: st) h Q := wp_aload (show (lcode 70)[18]? = some (.aload 0) by decide +kernel) rfl
theorem x70_19 : WP d 70 19 [l0] (.ref a :: st) h Q ↔ gF (hRd h a) 10 1 (fun v => WP d 70 20 [l0] (v :: st) h Q) := wp_getfield (show (lcode 70)[19]? = some (.getfield 641) by decide +kernel)
theorem x70_20 : WP d 70 20 [l0] (.ref a :: st) h Q ↔ gF (hRd h a) 1 1 (fun v => WP d 70 21 [l0] (v :: st) h Q) := wp_getfield (show (lcode 70)[20]? = some (.getfield 65) by decide +kernel)
theorem x70_21 : WP d 70 21 [l0] (Value.ref b :: .ref a :: st) h Q ↔ pF (hRd h a) 10 3 (Value.ref b) (fun c => WP d 70 22 [l0] st (hWr h a c) Q) := wp_putstatic (show (lcode 70)[21]? = some (.putstatic 643) by decide +kernel)
theorem x70_22 : WP d 70 22 [some (Value.ref a)] st h Q ↔ WP d 70 23 [some (Value.ref a)] (Value.ref a :: st) h Q := wp_aload (show (lcode 70)[22]? = some (.aload 0) by decide +kernel) rfl
theorem x70_24 : WP d 70 24 [l0] (v :: st) h Q ↔ (c1 v ∧ WP d 70 25 [l0] (v :: v :: st) h Q) := wp_dup (show (lcode 70)[24]? = some (.dup) by decide +kernel)
theorem x70_25 : WP d 70 25 [l0] (v :: st) h Q ↔ (sh st ∧ CALL d 21 [v] h (fun v h => WP d 70 26 [l0] (v.toList ++ st) h Q)) := wp_call (n := 1) (show (lcode 70)[25]? = some (.invokestatic 21) by decide +kernel) (by decide +kernel) (by simp)
theorem x70_26 : WP d 70 26 [l0] (Value.ref b :: .ref a :: st) h Q ↔ pF (hRd h a) 10 4 (Value.ref b) (fun c => WP d 70 27 [l0] st (hWr h a c) Q) := wp_putstatic (show (lcode 70)[26]? = some (.putstatic 644) by decide +kernel)
theorem x70_27 : WP d 70 27 [some (Value.ref a)] st h Q ↔ WP d 70 28 [some (Value.ref a)] (Value.ref a :: st) h Q := wp_aload (show (lcode 70)[27]? = some (.aload 0) by decide +kernel) rfl
theorem x70_29 : WP d 70 29 [l0] (v :: st) h Q ↔ (c1 v ∧ WP d 70 30 [l0] (v :: v :: st) h Q) := wp_dup (show (lcode 70)[29]? = some (.dup) by decide +kernel)
theorem x70_30 : WP d 70 30 [l0] (v :: st) h Q ↔ (sh st ∧ CALL d 25 [v] h (fun v h => WP d 70 31 [l0] (v.toList ++ st) h Q)) := wp_call (n := 1) (show (lcode 70)[30]? = some (.invokestatic 25) by decide +kernel) (by decide +kernel) (by simp)
theorem x70_31 : WP d 70 31 [l0] (Value.ref b :: .ref a :: st) h Q ↔ pF (hRd h a) 10 5 (Value.ref b) (fun c => WP d 70 32 [l0] st (hWr h a c) Q) := wp_putstatic (show (lcode 70)[31]? = some (.putstatic 645) by decide +kernel)
theorem x70_32 : WP d 70 32 [some (Value.ref a)] st h Q ↔ WP d 70 33 [some (Value.ref a)] (Value.ref a :: st) h Q := wp_aload (show (lcode 70)[32]? = some (.aload 0) by decide +kernel) rfl
theorem x70_34 : WP d 70 34 [l0] (v :: st) h Q ↔ (c1 v ∧ WP d 70 35 [l0] (v :: v :: st) h Q) := wp_dup (show (lcode 70)[34]? = some (.dup) by decide +kernel)
theorem x70_35 : WP d 70 35 [l0] (v :: st) h Q ↔ (sh st ∧ CALL d 57 [v] h (fun v h => WP d 70 36 [l0] (v.toList ++ st) h Q)) := wp_call (n := 1) (show (lcode 70)[35]? = some (.invokestatic 57) by decide +kernel) (by decide +kernel) (by simp)
theorem x70_36 : WP d 70 36 [l0] (Value.ref b :: .ref a :: st) h Q ↔ pF (hRd h a) 10 6 (Value.ref b) (fun c => WP d 70 37 [l0] st (hWr h a c) Q) := wp_putstatic (show (lcode 70)[36]? = some (.putstatic 646) by decide +kernel)
theorem x70_37 : WP d 70 37 [some (Value.ref a)] st h Q ↔ WP d 70 38 [some (Value.ref a)] (Value.ref a :: st) h Q := wp_aload (show (lcode 70)[37]? = some (.aload 0) by decide +kernel) rfl
theorem x70_39 : WP d 70 39 [l0] (v :: st) h Q ↔ (c1 v ∧ WP d 70 40 [l0] (v :: v :: st) h Q) := wp_dup (show (lcode 70)[39]? = some (.dup) by decide +kernel)
theorem x70_40 : WP d 70 40 [l0] (v :: st) h Q ↔ (sh st ∧ CALL d 63 [v] h (fun v h => WP d 70 41 [l0] (v.toList ++ st) h Q)) := wp_call (n := 1) (show (lcode 70)[40]? = some (.invokestatic 63) by decide +kernel) (by decide +kernel) (by simp)
theorem x70_41 : WP d 70 41 [l0] (Value.ref b :: .ref a :: st) h Q ↔ pF (hRd h a) 10 7 (Value.ref b) (fun c => WP d 70 42 [l0] st (hWr h a c) Q) := wp_putstatic (show (lcode 70)[41]? = some (.putstatic 647) by decide +kernel)
theorem x70_42 : WP d 70 42 [some (Value.ref a)] st h Q ↔ WP d 70 43 [some (Value.ref a)] (Value.ref a :: st) h Q := wp_aload (show (lcode 70)[42]? = some (.aload 0) by decide +kernel) rfl
theorem x70_44 : WP d 70 44 [l0] (v :: st) h Q ↔ (c1 v ∧ WP d 70 45 [l0] (v :: v :: st) h Q) := wp_dup (show (lcode 70)[44]? = some (.dup) by decide +kernel)
theorem x70_45 : WP d 70 45 [l0] (v :: st) h Q ↔ (sh st ∧ CALL d 0 [v] h (fun v h => WP d 70 46 [l0] (v.toList ++ st) h Q)) := wp_call (n := 1) (show (lcode 70)[45]? = some (.invokestatic 0) by decide +kernel) (by decide +kernel) (by simp)
theorem x70_46 : WP d 70 46 [l0] (Value.ref b :: .ref a :: st) h Q ↔ pF (hRd h a) 10 8 (Value.ref b) (fun c => WP d 70 47 [l0] st (hWr h a c) Q) := wp_putstatic (show (lcode 70)[46]? = some (.putstatic 648) by decide +kernel)
theorem x70_47 : WP d 70 47 [l0] [] h Q ↔ Q none h := wp_return (show (lcode 70)[47]? = some (.return_) by decide +kernel)
-- 71: WakeOrder.feed
theorem x71_0 : WP d 71 0 [l0, some (vI x)] st h Q ↔ WP d 71 1 [l0, some (vI x)] (vI x :: st) h Q := wp_iload (show (lcode 71)[0]? = some (.iload 1) by decide +kernel) rfl
theorem x71_1 : WP d 71 1 [l0, l1] (vI x :: st) h Q ↔ ((wr x < 0 → WP d 71 5 [l0, l1] st h Q) ∧ (¬ (wr x < 0) → WP d 71 2 [l0, l1] st h Q)) := wp_if_lt (show (lcode 71)[1]? = some (.ifCond .lt 5) by decide +kernel)
theorem x71_2 : WP d 71 2 [l0, some (vI x)] st h Q ↔ WP d 71 3 [l0, some (vI x)] (vI x :: st) h Q := wp_iload (show (lcode 71)[2]? = some (.iload 1) by decide +kernel) rfl
theorem x71_3 : WP d 71 3 [l0, l1] st h Q ↔ WP d 71 4 [l0, l1] (vI 255 :: st) h Q := wp_iconst (show (lcode 71)[3]? = some (.iconst 255) by decide +kernel)
theorem x71_4 : WP d 71 4 [l0, l1] (vI y :: vI x :: st) h Q ↔ ((wr x ≤ wr y → WP d 71 7 [l0, l1] st h Q) ∧ (¬ (wr x ≤ wr y) → WP d 71 5 [l0, l1] st h Q)) := wp_icmp_le (show (lcode 71)[4]? = some (.if_icmp .le 7) by decide +kernel)
theorem x71_5 : WP d 71 5 [l0, l1] st h Q ↔ WP d 71 6 [l0, l1] (vI (-1000000002) :: st) h Q := wp_iconst (show (lcode 71)[5]? = some (.iconst (-1000000002)) by decide +kernel)
theorem x71_6 : WP d 71 6 [l0, l1] [vI x] h Q ↔ Q (some (vI x)) h := wp_ireturn (show (lcode 71)[6]? = some (.ireturn) by decide +kernel)
theorem x71_7 : WP d 71 7 [some (Value.ref a), l1] st h Q ↔ WP d 71 8 [some (Value.ref a), l1] (Value.ref a :: st) h Q := wp_aload (show (lcode 71)[7]? = some (.aload 0) by decide +kernel) rfl
theorem x71_8 : WP d 71 8 [l0, l1] (.ref a :: st) h Q ↔ gF (hRd h a) 10 0 (fun v => WP d 71 9 [l0, l1] (v :: st) h Q) := wp_getfield (show (lcode 71)[8]? = some (.getfield 640) by decide +kernel)
theorem x71_9 : WP d 71 9 [l0, some (vI x)] st h Q ↔ WP d 71 10 [l0, some (vI x)] (vI x :: st) h Q := wp_iload (show (lcode 71)[9]? = some (.iload 1) by decide +kernel) rfl
theorem x71_10 : WP d 71 10 [l0, l1] (v1 :: v :: st) h Q ↔ (sh st ∧ CALL d 30 [v, v1] h (fun v h => WP d 71 11 [l0, l1] (v.toList ++ st) h Q)) := wp_call (n := 2) (show (lcode 71)[10]? = some (.invokestatic 30) by decide +kernel) (by decide +kernel) (by simp)
theorem x71_11 : WP d 71 11 [l0, l1] (vI x :: st) h Q ↔ ((wr x = 0 → WP d 71 16 [l0, l1] st h Q) ∧ (¬ (wr x = 0) → WP d 71 12 [l0, l1] st h Q)) := wp_if_eq (show (lcode 71)[11]? = some (.ifCond .eq 16) by decide +kernel)
theorem x71_12 : WP d 71 12 [some (Value.ref a), l1] st h Q ↔ WP d 71 13 [some (Value.ref a), l1] (Value.ref a :: st) h Q := wp_aload (show (lcode 71)[12]? = some (.aload 0) by decide +kernel) rfl
theorem x71_13 : WP d 71 13 [l0, l1] (.ref a :: st) h Q ↔ gF (hRd h a) 10 0 (fun v => WP d 71 14 [l0, l1] (v :: st) h Q) := wp_getfield (show (lcode 71)[13]? = some (.getfield 640) by decide +kernel)
theorem x71_14 : WP d 71 14 [l0, l1] (.ref a :: st) h Q ↔ gF (hRd h a) 5 2 (fun v => WP d 71 15 [l0, l1] (v :: st) h Q) := wp_getfield (show (lcode 71)[14]? = some (.getfield 322) by decide +kernel)
theorem x71_15 : WP d 71 15 [l0, l1] st h Q ↔ WP d 71 17 [l0, l1] st h Q := wp_goto (show (lcode 71)[15]? = some (.goto 17) by decide +kernel)
theorem x71_16 : WP d 71 16 [l0, l1] st h Q ↔ WP d 71 17 [l0, l1] (vI (-1000000004) :: st) h Q := wp_iconst (show (lcode 71)[16]? = some (.iconst (-1000000004)) by decide +kernel)
theorem x71_17 : WP d 71 17 [l0, l1] [vI x] h Q ↔ Q (some (vI x)) h := wp_ireturn (show (lcode 71)[17]? = some (.ireturn) by decide +kernel)
-- 72: WakeOrder.city
theorem x72_0 : WP d 72 0 [some (Value.ref a)] st h Q ↔ WP d 72 1 [some (Value.ref a)] (Value.ref a :: st) h Q := wp_aload (show (lcode 72)[0]? = some (.aload 0) by decide +kernel) rfl
theorem x72_1 : WP d 72 1 [l0] (.ref a :: st) h Q ↔ gF (hRd h a) 10 0 (fun v => WP d 72 2 [l0] (v :: st) h Q) := wp_getfield (show (lcode 72)[1]? = some (.getfield 640) by decide +kernel)
theorem x72_2 : WP d 72 2 [l0] (v :: st) h Q ↔ (sh st ∧ CALL d 31 [v] h (fun v h => WP d 72 3 [l0] (v.toList ++ st) h Q)) := wp_call (n := 1) (show (lcode 72)[2]? = some (.invokestatic 31) by decide +kernel) (by decide +kernel) (by simp)
theorem x72_3 : WP d 72 3 [some (Value.ref a)] st h Q ↔ WP d 72 4 [some (Value.ref a)] (Value.ref a :: st) h Q := wp_aload (show (lcode 72)[3]? = some (.aload 0) by decide +kernel) rfl
theorem x72_4 : WP d 72 4 [l0] (.ref a :: st) h Q ↔ gF (hRd h a) 10 0 (fun v => WP d 72 5 [l0] (v :: st) h Q) := wp_getfield (show (lcode 72)[4]? = some (.getfield 640) by decide +kernel)
theorem x72_5 : WP d 72 5 [l0] (.ref a :: st) h Q ↔ gF (hRd h a) 5 3 (fun v => WP d 72 6 [l0] (v :: st) h Q) := wp_getfield (show (lcode 72)[5]? = some (.getfield 323) by decide +kernel)
theorem x72_6 : WP d 72 6 [l0] (vI x :: st) h Q ↔ ((wr x = 0 → WP d 72 13 [l0] st h Q) ∧ (¬ (wr x = 0) → WP d 72 7 [l0] st h Q)) := wp_if_eq (show (lcode 72)[6]? = some (.ifCond .eq 13) by decide +kernel)
theorem x72_7 : WP d 72 7 [l0] st h Q ↔ WP d 72 8 [l0] (vI (-10) :: st) h Q := wp_iconst (show (lcode 72)[7]? = some (.iconst (-10)) by decide +kernel)
theorem x72_8 : WP d 72 8 [some (Value.ref a)] st h Q ↔ WP d 72 9 [some (Value.ref a)] (Value.ref a :: st) h Q := wp_aload (show (lcode 72)[8]? = some (.aload 0) by decide +kernel) rfl
theorem x72_9 : WP d 72 9 [l0] (.ref a :: st) h Q ↔ gF (hRd h a) 10 0 (fun v => WP d 72 10 [l0] (v :: st) h Q) := wp_getfield (show (lcode 72)[9]? = some (.getfield 640) by decide +kernel)
theorem x72_10 : WP d 72 10 [l0] (.ref a :: st) h Q ↔ gF (hRd h a) 5 3 (fun v => WP d 72 11 [l0] (v :: st) h Q) := wp_getfield (show (lcode 72)[10]? = some (.getfield 323) by decide +kernel)
theorem x72_11 : WP d 72 11 [l0] (vI y :: vI x :: st) h Q ↔ WP d 72 12 [l0] (vI (x - y) :: st) h Q := wp_isub (show (lcode 72)[11]? = some (.isub) by decide +kernel)
theorem x72_12 : WP d 72 12 [l0] [vI x] h Q ↔ Q (some (vI x)) h := wp_ireturn (show (lcode 72)[12]? = some (.ireturn) by decide +kernel)
theorem x72_13 : WP d 72 13 [some (Value.ref a)] st h Q ↔ WP d 72 14 [some (Value.ref a)] (Value.ref a :: st) h Q := wp_aload (show (lcode 72)[13]? = some (.aload 0) by decide +kernel) rfl
theorem x72_14 : WP d 72 14 [l0] (.ref a :: st) h Q ↔ gF (hRd h a) 10 2 (fun v => WP d 72 15 [l0] (v :: st) h Q) := wp_getfield (show (lcode 72)[14]? = some (.getfield 642) by decide +kernel)
theorem x72_15 : WP d 72 15 [some (Value.ref a)] st h Q ↔ WP d 72 16 [some (Value.ref a)] (Value.ref a :: st) h Q := wp_aload (show (lcode 72)[15]? = some (.aload 0) by decide +kernel) rfl
theorem x72_16 : WP d 72 16 [l0] (.ref a :: st) h Q ↔ gF (hRd h a) 10 0 (fun v => WP d 72 17 [l0] (v :: st) h Q) := wp_getfield (show (lcode 72)[16]? = some (.getfield 640) by decide +kernel)
theorem x72_17 : WP d 72 17 [l0] (.ref a :: st) h Q ↔ gF (hRd h a) 5 1 (fun v => WP d 72 18 [l0] (v :: st) h Q) := wp_getfield (show (lcode 72)[17]? = some (.getfield 321) by decide +kernel)
theorem x72_18 : WP d 72 18 [l0] (v1 :: v :: st) h Q ↔ (sh st ∧ CALL d 18 [v, v1] h (fun v h => WP d 72 19 [l0] (v.toList ++ st) h Q)) := wp_call (n := 2) (show (lcode 72)[18]? = some (.invokestatic 18) by decide +kernel) (by decide +kernel) (by simp)
theorem x72_19 : WP d 72 19 [some (Value.ref a)] st h Q ↔ WP d 72 20 [some (Value.ref a)] (Value.ref a :: st) h Q := wp_aload (show (lcode 72)[19]? = some (.aload 0) by decide +kernel) rfl
theorem x72_20 : WP d 72 20 [l0] (.ref a :: st) h Q ↔ gF (hRd h a) 10 3 (fun v => WP d 72 21 [l0] (v :: st) h Q) := wp_getfield (show (lcode 72)[20]? = some (.getfield 643) by decide +kernel)
theorem x72_21 : WP d 72 21 [some (Value.ref a)] st h Q ↔ WP d 72 22 [some (Value.ref a)] (Value.ref a :: st) h Q := wp_aload (show (lcode 72)[21]? = some (.aload 0) by decide +kernel) rfl
theorem x72_22 : WP d 72 22 [l0] (.ref a :: st) h Q ↔ gF (hRd h a) 10 2 (fun v => WP d 72 23 [l0] (v :: st) h Q) := wp_getfield (show (lcode 72)[22]? = some (.getfield 642) by decide +kernel)
theorem x72_23 : WP d 72 23 [l0] (v1 :: v :: st) h Q ↔ (sh st ∧ CALL d 55 [v, v1] h (fun v h => WP d 72 24 [l0] (v.toList ++ st) h Q)) := wp_call (n := 2) (show (lcode 72)[23]? = some (.invokestatic 55) by decide +kernel) (by decide +kernel) (by simp)
theorem x72_24 : WP d 72 24 [some (Value.ref a)] st h Q ↔ WP d 72 25 [some (Value.ref a)] (Value.ref a :: st) h Q := wp_aload (show (lcode 72)[24]? = some (.aload 0) by decide +kernel) rfl
theorem x72_25 : WP d 72 25 [l0] (.ref a :: st) h Q ↔ gF (hRd h a) 10 4 (fun v => WP d 72 26 [l0] (v :: st) h Q) := wp_getfield (show (lcode 72)[25]? = some (.getfield 644) by decide +kernel)
theorem x72_26 : WP d 72 26 [l0] (v :: st) h Q ↔ (sh st ∧ CALL d 24 [v] h (fun v h => WP d 72 27 [l0] (v.toList ++ st) h Q)) := wp_call (n := 1) (show (lcode 72)[26]? = some (.invokestatic 24) by decide +kernel) (by decide +kernel) (by simp)
theorem x72_27 : WP d 72 27 [some (Value.ref a)] st h Q ↔ WP d 72 28 [some (Value.ref a)] (Value.ref a :: st) h Q := wp_aload (show (lcode 72)[27]? = some (.aload 0) by decide +kernel) rfl
theorem x72_28 : WP d 72 28 [l0] (.ref a :: st) h Q ↔ gF (hRd h a) 10 5 (fun v => WP d 72 29 [l0] (v :: st) h Q) := wp_getfield (show (lcode 72)[28]? = some (.getfield 645) by decide +kernel)
theorem x72_29 : WP d 72 29 [l0] (v :: st) h Q ↔ (sh st ∧ CALL d 28 [v] h (fun v h => WP d 72 30 [l0] (v.toList ++ st) h Q)) := wp_call (n := 1) (show (lcode 72)[29]? = some (.invokestatic 28) by decide +kernel) (by decide +kernel) (by simp)
theorem x72_30 : WP d 72 30 [some (Value.ref a)] st h Q ↔ WP d 72 31 [some (Value.ref a)] (Value.ref a :: st) h Q := wp_aload (show (lcode 72)[30]? = some (.aload 0) by decide +kernel) rfl
theorem x72_31 : WP d 72 31 [l0] (.ref a :: st) h Q ↔ gF (hRd h a) 10 7 (fun v => WP d 72 32 [l0] (v :: st) h Q) := wp_getfield (show (lcode 72)[31]? = some (.getfield 647) by decide +kernel)
theorem x72_32 : WP d 72 32 [l0] st h Q ↔ WP d 72 33 [l0] (vI 0 :: st) h Q := wp_iconst (show (lcode 72)[32]? = some (.iconst 0) by decide +kernel)
theorem x72_33 : WP d 72 33 [l0] (vI x :: .ref a :: st) h Q ↔ pF (hRd h a) 9 2 (vI x) (fun c => WP d 72 34 [l0] st (hWr h a c) Q) := wp_putfield (show (lcode 72)[33]? = some (.putfield 578) by decide +kernel)
theorem x72_34 : WP d 72 34 [some (Value.ref a)] st h Q ↔ WP d 72 35 [some (Value.ref a)] (Value.ref a :: st) h Q := wp_aload (show (lcode 72)[34]? = some (.aload 0) by decide +kernel) rfl
theorem x72_35 : WP d 72 35 [l0] (.ref a :: st) h Q ↔ gF (hRd h a) 10 8 (fun v => WP d 72 36 [l0] (v :: st) h Q) := wp_getfield (show (lcode 72)[35]? = some (.getfield 648) by decide +kernel)
theorem x72_36 : WP d 72 36 [l0] st h Q ↔ WP d 72 37 [l0] (vI 0 :: st) h Q := wp_iconst (show (lcode 72)[36]? = some (.iconst 0) by decide +kernel)
theorem x72_37 : WP d 72 37 [l0] (vI x :: .ref a :: st) h Q ↔ pF (hRd h a) 0 2 (vI x) (fun c => WP d 72 38 [l0] st (hWr h a c) Q) := wp_putfield (show (lcode 72)[37]? = some (.putfield 2) by decide +kernel)
theorem x72_38 : WP d 72 38 [some (Value.ref a)] st h Q ↔ WP d 72 39 [some (Value.ref a)] (Value.ref a :: st) h Q := wp_aload (show (lcode 72)[38]? = some (.aload 0) by decide +kernel) rfl
theorem x72_39 : WP d 72 39 [l0] (.ref a :: st) h Q ↔ gF (hRd h a) 10 2 (fun v => WP d 72 40 [l0] (v :: st) h Q) := wp_getfield (show (lcode 72)[39]? = some (.getfield 642) by decide +kernel)
theorem x72_40 : WP d 72 40 [l0] (.ref a :: st) h Q ↔ gF (hRd h a) 2 1 (fun v => WP d 72 41 [l0] (v :: st) h Q) := wp_getfield (show (lcode 72)[40]? = some (.getfield 129) by decide +kernel)
theorem x72_41 : WP d 72 41 [l0] [vI x] h Q ↔ Q (some (vI x)) h := wp_ireturn (show (lcode 72)[41]? = some (.ireturn) by decide +kernel)
-- 73: WakeOrder.fault
theorem x73_0 : WP d 73 0 [some (Value.ref a)] st h Q ↔ WP d 73 1 [some (Value.ref a)] (Value.ref a :: st) h Q := wp_aload (show (lcode 73)[0]? = some (.aload 0) by decide +kernel) rfl
theorem x73_1 : WP d 73 1 [l0] (.ref a :: st) h Q ↔ gF (hRd h a) 10 0 (fun v => WP d 73 2 [l0] (v :: st) h Q) := wp_getfield (show (lcode 73)[1]? = some (.getfield 640) by decide +kernel)
theorem x73_2 : WP d 73 2 [l0] (.ref a :: st) h Q ↔ gF (hRd h a) 5 4 (fun v => WP d 73 3 [l0] (v :: st) h Q) := wp_getfield (show (lcode 73)[2]? = some (.getfield 324) by decide +kernel)
theorem x73_3 : WP d 73 3 [l0] [vI x] h Q ↔ Q (some (vI x)) h := wp_ireturn (show (lcode 73)[3]? = some (.ireturn) by decide +kernel)
-- 74: WakeOrder.told
theorem x74_0 : WP d 74 0 [some (Value.ref a), l1] st h Q ↔ WP d 74 1 [some (Value.ref a), l1] (Value.ref a :: st) h Q := wp_aload (show (lcode 74)[0]? = some (.aload 0) by decide +kernel) rfl
theorem x74_1 : WP d 74 1 [l0, l1] (.ref a :: st) h Q ↔ gF (hRd h a) 10 1 (fun v => WP d 74 2 [l0, l1] (v :: st) h Q) := wp_getfield (show (lcode 74)[1]? = some (.getfield 641) by decide +kernel)
theorem x74_2 : WP d 74 2 [l0, l1] (v :: st) h Q ↔ (sh st ∧ CALL d 4 [v] h (fun v h => WP d 74 3 [l0, l1] (v.toList ++ st) h Q)) := wp_call (n := 1) (show (lcode 74)[2]? = some (.invokestatic 4) by decide +kernel) (by decide +kernel) (by simp)
theorem x74_3 : WP d 74 3 [l0, some (vI x)] st h Q ↔ WP d 74 4 [l0, some (vI x)] (vI x :: st) h Q := wp_iload (show (lcode 74)[3]? = some (.iload 1) by decide +kernel) rfl
theorem x74_4 (c0 : wr x = 0 → WP d 74 5 [l0, l1] st h Q) (c1 : wr x = 1 → WP d 74 9 [l0, l1] st h Q) (c2 : wr x = 2 → WP d 74 13 [l0, l1] st h Q) (c3 : wr x = 3 → WP d 74 17 [l0, l1] st h Q) (c4 : wr x = 4 → WP d 74 21 [l0, l1] st h Q) (c5 : wr x = 5 → WP d 74 25 [l0, l1] st h Q) (c6 : wr x = 6 → WP d 74 28 [l0, l1] st h Q) (c7 : wr x = 7 → WP d 74 32 [l0, l1] st h Q) (c8 : wr x = 8 → WP d 74 39 [l0, l1] st h Q) (c9 : wr x = 9 → WP d 74 43 [l0, l1] st h Q) (c10 : wr x = 10 → WP d 74 47 [l0, l1] st h Q) (c11 : wr x = 11 → WP d 74 51 [l0, l1] st h Q) (cd : wr x < 0 ∨ 11 < wr x → WP d 74 55 [l0, l1] st h Q) : WP d 74 4 [l0, l1] (vI x :: st) h Q := by
  refine wp_tsw (show (lcode 74)[4]? = some (.tableswitch 55 0 11 #[5, 9, 13, 17, 21, 25, 28, 32, 39, 43, 47, 51]) by decide +kernel) (by decide) (fun j t hj hx => ?_) cd
  match j, hj with
  | 0, hj => cases hj; exact c0 (by omega)
  | 1, hj => cases hj; exact c1 (by omega)
  | 2, hj => cases hj; exact c2 (by omega)
  | 3, hj => cases hj; exact c3 (by omega)
  | 4, hj => cases hj; exact c4 (by omega)
  | 5, hj => cases hj; exact c5 (by omega)
  | 6, hj => cases hj; exact c6 (by omega)
  | 7, hj => cases hj; exact c7 (by omega)
  | 8, hj => cases hj; exact c8 (by omega)
  | 9, hj => cases hj; exact c9 (by omega)
  | 10, hj => cases hj; exact c10 (by omega)
  | 11, hj => cases hj; exact c11 (by omega)
  | n + 12, hj => simp at hj
theorem x74_5 : WP d 74 5 [some (Value.ref a), l1] st h Q ↔ WP d 74 6 [some (Value.ref a), l1] (Value.ref a :: st) h Q := wp_aload (show (lcode 74)[5]? = some (.aload 0) by decide +kernel) rfl
theorem x74_6 : WP d 74 6 [l0, l1] (.ref a :: st) h Q ↔ gF (hRd h a) 10 2 (fun v => WP d 74 7 [l0, l1] (v :: st) h Q) := wp_getfield (show (lcode 74)[6]? = some (.getfield 642) by decide +kernel)
theorem x74_7 : WP d 74 7 [l0, l1] (.ref a :: st) h Q ↔ gF (hRd h a) 2 0 (fun v => WP d 74 8 [l0, l1] (v :: st) h Q) := wp_getfield (show (lcode 74)[7]? = some (.getfield 128) by decide +kernel)
theorem x74_8 : WP d 74 8 [l0, l1] [vI x] h Q ↔ Q (some (vI x)) h := wp_ireturn (show (lcode 74)[8]? = some (.ireturn) by decide +kernel)
theorem x74_9 : WP d 74 9 [some (Value.ref a), l1] st h Q ↔ WP d 74 10 [some (Value.ref a), l1] (Value.ref a :: st) h Q := wp_aload (show (lcode 74)[9]? = some (.aload 0) by decide +kernel) rfl
theorem x74_10 : WP d 74 10 [l0, l1] (.ref a :: st) h Q ↔ gF (hRd h a) 10 2 (fun v => WP d 74 11 [l0, l1] (v :: st) h Q) := wp_getfield (show (lcode 74)[10]? = some (.getfield 642) by decide +kernel)
theorem x74_11 : WP d 74 11 [l0, l1] (.ref a :: st) h Q ↔ gF (hRd h a) 2 1 (fun v => WP d 74 12 [l0, l1] (v :: st) h Q) := wp_getfield (show (lcode 74)[11]? = some (.getfield 129) by decide +kernel)
theorem x74_12 : WP d 74 12 [l0, l1] [vI x] h Q ↔ Q (some (vI x)) h := wp_ireturn (show (lcode 74)[12]? = some (.ireturn) by decide +kernel)
theorem x74_13 : WP d 74 13 [some (Value.ref a), l1] st h Q ↔ WP d 74 14 [some (Value.ref a), l1] (Value.ref a :: st) h Q := wp_aload (show (lcode 74)[13]? = some (.aload 0) by decide +kernel) rfl
theorem x74_14 : WP d 74 14 [l0, l1] (.ref a :: st) h Q ↔ gF (hRd h a) 10 2 (fun v => WP d 74 15 [l0, l1] (v :: st) h Q) := wp_getfield (show (lcode 74)[14]? = some (.getfield 642) by decide +kernel)
theorem x74_15 : WP d 74 15 [l0, l1] (.ref a :: st) h Q ↔ gF (hRd h a) 2 2 (fun v => WP d 74 16 [l0, l1] (v :: st) h Q) := wp_getfield (show (lcode 74)[15]? = some (.getfield 130) by decide +kernel)
theorem x74_16 : WP d 74 16 [l0, l1] [vI x] h Q ↔ Q (some (vI x)) h := wp_ireturn (show (lcode 74)[16]? = some (.ireturn) by decide +kernel)
theorem x74_17 : WP d 74 17 [some (Value.ref a), l1] st h Q ↔ WP d 74 18 [some (Value.ref a), l1] (Value.ref a :: st) h Q := wp_aload (show (lcode 74)[17]? = some (.aload 0) by decide +kernel) rfl
theorem x74_18 : WP d 74 18 [l0, l1] (.ref a :: st) h Q ↔ gF (hRd h a) 10 0 (fun v => WP d 74 19 [l0, l1] (v :: st) h Q) := wp_getfield (show (lcode 74)[18]? = some (.getfield 640) by decide +kernel)
theorem x74_19 : WP d 74 19 [l0, l1] (.ref a :: st) h Q ↔ gF (hRd h a) 5 2 (fun v => WP d 74 20 [l0, l1] (v :: st) h Q) := wp_getfield (show (lcode 74)[19]? = some (.getfield 322) by decide +kernel)
theorem x74_20 : WP d 74 20 [l0, l1] [vI x] h Q ↔ Q (some (vI x)) h := wp_ireturn (show (lcode 74)[20]? = some (.ireturn) by decide +kernel)
theorem x74_21 : WP d 74 21 [some (Value.ref a), l1] st h Q ↔ WP d 74 22 [some (Value.ref a), l1] (Value.ref a :: st) h Q := wp_aload (show (lcode 74)[21]? = some (.aload 0) by decide +kernel) rfl
theorem x74_22 : WP d 74 22 [l0, l1] (.ref a :: st) h Q ↔ gF (hRd h a) 10 3 (fun v => WP d 74 23 [l0, l1] (v :: st) h Q) := wp_getfield (show (lcode 74)[22]? = some (.getfield 643) by decide +kernel)
theorem x74_23 : WP d 74 23 [l0, l1] (.ref a :: st) h Q ↔ gF (hRd h a) 7 4 (fun v => WP d 74 24 [l0, l1] (v :: st) h Q) := wp_getfield (show (lcode 74)[23]? = some (.getfield 452) by decide +kernel)
theorem x74_24 : WP d 74 24 [l0, l1] [vI x] h Q ↔ Q (some (vI x)) h := wp_ireturn (show (lcode 74)[24]? = some (.ireturn) by decide +kernel)
theorem x74_25 : WP d 74 25 [some (Value.ref a), l1] st h Q ↔ WP d 74 26 [some (Value.ref a), l1] (Value.ref a :: st) h Q := wp_aload (show (lcode 74)[25]? = some (.aload 0) by decide +kernel) rfl
theorem x74_26 : WP d 74 26 [l0, l1] (v :: st) h Q ↔ (sh st ∧ CALL d 102 [v] h (fun v h => WP d 74 27 [l0, l1] (v.toList ++ st) h Q)) := wp_call (n := 1) (show (lcode 74)[26]? = some (.invokestatic 102) by decide +kernel) (by decide +kernel) (by simp)
theorem x74_27 : WP d 74 27 [l0, l1] [vI x] h Q ↔ Q (some (vI x)) h := wp_ireturn (show (lcode 74)[27]? = some (.ireturn) by decide +kernel)
theorem x74_28 : WP d 74 28 [some (Value.ref a), l1] st h Q ↔ WP d 74 29 [some (Value.ref a), l1] (Value.ref a :: st) h Q := wp_aload (show (lcode 74)[28]? = some (.aload 0) by decide +kernel) rfl
theorem x74_29 : WP d 74 29 [l0, l1] (.ref a :: st) h Q ↔ gF (hRd h a) 10 3 (fun v => WP d 74 30 [l0, l1] (v :: st) h Q) := wp_getfield (show (lcode 74)[29]? = some (.getfield 643) by decide +kernel)
theorem x74_30 : WP d 74 30 [l0, l1] (.ref a :: st) h Q ↔ gF (hRd h a) 7 3 (fun v => WP d 74 31 [l0, l1] (v :: st) h Q) := wp_getfield (show (lcode 74)[30]? = some (.getfield 451) by decide +kernel)
theorem x74_31 : WP d 74 31 [l0, l1] [vI x] h Q ↔ Q (some (vI x)) h := wp_ireturn (show (lcode 74)[31]? = some (.ireturn) by decide +kernel)
theorem x74_32 : WP d 74 32 [some (Value.ref a), l1] st h Q ↔ WP d 74 33 [some (Value.ref a), l1] (Value.ref a :: st) h Q := wp_aload (show (lcode 74)[32]? = some (.aload 0) by decide +kernel) rfl
theorem x74_33 : WP d 74 33 [l0, l1] (.ref a :: st) h Q ↔ gF (hRd h a) 10 1 (fun v => WP d 74 34 [l0, l1] (v :: st) h Q) := wp_getfield (show (lcode 74)[33]? = some (.getfield 641) by decide +kernel)
theorem x74_34 : WP d 74 34 [some (Value.ref a), l1] st h Q ↔ WP d 74 35 [some (Value.ref a), l1] (Value.ref a :: st) h Q := wp_aload (show (lcode 74)[34]? = some (.aload 0) by decide +kernel) rfl
theorem x74_35 : WP d 74 35 [l0, l1] (.ref a :: st) h Q ↔ gF (hRd h a) 10 3 (fun v => WP d 74 36 [l0, l1] (v :: st) h Q) := wp_getfield (show (lcode 74)[35]? = some (.getfield 643) by decide +kernel)
theorem x74_36 : WP d 74 36 [l0, l1] (.ref a :: st) h Q ↔ gF (hRd h a) 7 0 (fun v => WP d 74 37 [l0, l1] (v :: st) h Q) := wp_getfield (show (lcode 74)[36]? = some (.getfield 448) by decide +kernel)
theorem x74_37 : WP d 74 37 [l0, l1] (v1 :: v :: st) h Q ↔ (sh st ∧ CALL d 11 [v, v1] h (fun v h => WP d 74 38 [l0, l1] (v.toList ++ st) h Q)) := wp_call (n := 2) (show (lcode 74)[37]? = some (.invokestatic 11) by decide +kernel) (by decide +kernel) (by simp)
theorem x74_38 : WP d 74 38 [l0, l1] [vI x] h Q ↔ Q (some (vI x)) h := wp_ireturn (show (lcode 74)[38]? = some (.ireturn) by decide +kernel)
theorem x74_39 : WP d 74 39 [some (Value.ref a), l1] st h Q ↔ WP d 74 40 [some (Value.ref a), l1] (Value.ref a :: st) h Q := wp_aload (show (lcode 74)[39]? = some (.aload 0) by decide +kernel) rfl
theorem x74_40 : WP d 74 40 [l0, l1] (.ref a :: st) h Q ↔ gF (hRd h a) 10 1 (fun v => WP d 74 41 [l0, l1] (v :: st) h Q) := wp_getfield (show (lcode 74)[40]? = some (.getfield 641) by decide +kernel)
theorem x74_41 : WP d 74 41 [l0, l1] (v :: st) h Q ↔ (sh st ∧ CALL d 12 [v] h (fun v h => WP d 74 42 [l0, l1] (v.toList ++ st) h Q)) := wp_call (n := 1) (show (lcode 74)[41]? = some (.invokestatic 12) by decide +kernel) (by decide +kernel) (by simp)
theorem x74_42 : WP d 74 42 [l0, l1] [vI x] h Q ↔ Q (some (vI x)) h := wp_ireturn (show (lcode 74)[42]? = some (.ireturn) by decide +kernel)
theorem x74_43 : WP d 74 43 [some (Value.ref a), l1] st h Q ↔ WP d 74 44 [some (Value.ref a), l1] (Value.ref a :: st) h Q := wp_aload (show (lcode 74)[43]? = some (.aload 0) by decide +kernel) rfl
theorem x74_44 : WP d 74 44 [l0, l1] (.ref a :: st) h Q ↔ gF (hRd h a) 10 7 (fun v => WP d 74 45 [l0, l1] (v :: st) h Q) := wp_getfield (show (lcode 74)[44]? = some (.getfield 647) by decide +kernel)
theorem x74_45 : WP d 74 45 [l0, l1] (.ref a :: st) h Q ↔ gF (hRd h a) 9 2 (fun v => WP d 74 46 [l0, l1] (v :: st) h Q) := wp_getfield (show (lcode 74)[45]? = some (.getfield 578) by decide +kernel)
theorem x74_46 : WP d 74 46 [l0, l1] [vI x] h Q ↔ Q (some (vI x)) h := wp_ireturn (show (lcode 74)[46]? = some (.ireturn) by decide +kernel)
theorem x74_47 : WP d 74 47 [some (Value.ref a), l1] st h Q ↔ WP d 74 48 [some (Value.ref a), l1] (Value.ref a :: st) h Q := wp_aload (show (lcode 74)[47]? = some (.aload 0) by decide +kernel) rfl
theorem x74_48 : WP d 74 48 [l0, l1] (.ref a :: st) h Q ↔ gF (hRd h a) 10 8 (fun v => WP d 74 49 [l0, l1] (v :: st) h Q) := wp_getfield (show (lcode 74)[48]? = some (.getfield 648) by decide +kernel)
theorem x74_49 : WP d 74 49 [l0, l1] (.ref a :: st) h Q ↔ gF (hRd h a) 0 2 (fun v => WP d 74 50 [l0, l1] (v :: st) h Q) := wp_getfield (show (lcode 74)[49]? = some (.getfield 2) by decide +kernel)
theorem x74_50 : WP d 74 50 [l0, l1] [vI x] h Q ↔ Q (some (vI x)) h := wp_ireturn (show (lcode 74)[50]? = some (.ireturn) by decide +kernel)
theorem x74_51 : WP d 74 51 [some (Value.ref a), l1] st h Q ↔ WP d 74 52 [some (Value.ref a), l1] (Value.ref a :: st) h Q := wp_aload (show (lcode 74)[51]? = some (.aload 0) by decide +kernel) rfl
theorem x74_52 : WP d 74 52 [l0, l1] (.ref a :: st) h Q ↔ gF (hRd h a) 10 4 (fun v => WP d 74 53 [l0, l1] (v :: st) h Q) := wp_getfield (show (lcode 74)[52]? = some (.getfield 644) by decide +kernel)
theorem x74_53 : WP d 74 53 [l0, l1] (.ref a :: st) h Q ↔ gF (hRd h a) 3 2 (fun v => WP d 74 54 [l0, l1] (v :: st) h Q) := wp_getfield (show (lcode 74)[53]? = some (.getfield 194) by decide +kernel)
theorem x74_54 : WP d 74 54 [l0, l1] [vI x] h Q ↔ Q (some (vI x)) h := wp_ireturn (show (lcode 74)[54]? = some (.ireturn) by decide +kernel)
theorem x74_55 : WP d 74 55 [l0, l1] st h Q ↔ WP d 74 56 [l0, l1] (vI (-1000000002) :: st) h Q := wp_iconst (show (lcode 74)[55]? = some (.iconst (-1000000002)) by decide +kernel)
theorem x74_56 : WP d 74 56 [l0, l1] [vI x] h Q ↔ Q (some (vI x)) h := wp_ireturn (show (lcode 74)[56]? = some (.ireturn) by decide +kernel)
-- 75: WakeOrder.person
theorem x75_0 : WP d 75 0 [some (Value.ref a), l1, l2] st h Q ↔ WP d 75 1 [some (Value.ref a), l1, l2] (Value.ref a :: st) h Q := wp_aload (show (lcode 75)[0]? = some (.aload 0) by decide +kernel) rfl
theorem x75_1 : WP d 75 1 [l0, some (vI x), l2] st h Q ↔ WP d 75 2 [l0, some (vI x), l2] (vI x :: st) h Q := wp_iload (show (lcode 75)[1]? = some (.iload 1) by decide +kernel) rfl
theorem x75_2 : WP d 75 2 [l0, l1, l2] (v1 :: v :: st) h Q ↔ (sh st ∧ CALL d 99 [v, v1] h (fun v h => WP d 75 3 [l0, l1, l2] (v.toList ++ st) h Q)) := wp_call (n := 2) (show (lcode 75)[2]? = some (.invokestatic 99) by decide +kernel) (by decide +kernel) (by simp)
theorem x75_3 : WP d 75 3 [l0, l1, l2] (vI x :: st) h Q ↔ ((¬ wr x = 0 → WP d 75 6 [l0, l1, l2] st h Q) ∧ (¬ (¬ wr x = 0) → WP d 75 4 [l0, l1, l2] st h Q)) := wp_if_ne (show (lcode 75)[3]? = some (.ifCond .ne 6) by decide +kernel)
theorem x75_4 : WP d 75 4 [l0, l1, l2] st h Q ↔ WP d 75 5 [l0, l1, l2] (vI (-1000000001) :: st) h Q := wp_iconst (show (lcode 75)[4]? = some (.iconst (-1000000001)) by decide +kernel)
theorem x75_5 : WP d 75 5 [l0, l1, l2] [vI x] h Q ↔ Q (some (vI x)) h := wp_ireturn (show (lcode 75)[5]? = some (.ireturn) by decide +kernel)
theorem x75_6 : WP d 75 6 [some (Value.ref a), l1, l2] st h Q ↔ WP d 75 7 [some (Value.ref a), l1, l2] (Value.ref a :: st) h Q := wp_aload (show (lcode 75)[6]? = some (.aload 0) by decide +kernel) rfl
theorem x75_7 : WP d 75 7 [l0, l1, l2] (.ref a :: st) h Q ↔ gF (hRd h a) 10 1 (fun v => WP d 75 8 [l0, l1, l2] (v :: st) h Q) := wp_getfield (show (lcode 75)[7]? = some (.getfield 641) by decide +kernel)
theorem x75_8 : WP d 75 8 [l0, l1, l2] (v :: st) h Q ↔ (sh st ∧ CALL d 4 [v] h (fun v h => WP d 75 9 [l0, l1, l2] (v.toList ++ st) h Q)) := wp_call (n := 1) (show (lcode 75)[8]? = some (.invokestatic 4) by decide +kernel) (by decide +kernel) (by simp)
theorem x75_9 : WP d 75 9 [l0, l1, some (vI x)] st h Q ↔ WP d 75 10 [l0, l1, some (vI x)] (vI x :: st) h Q := wp_iload (show (lcode 75)[9]? = some (.iload 2) by decide +kernel) rfl
theorem x75_10 (c0 : wr x = 0 → WP d 75 11 [l0, l1, l2] st h Q) (c1 : wr x = 1 → WP d 75 17 [l0, l1, l2] st h Q) (c2 : wr x = 2 → WP d 75 23 [l0, l1, l2] st h Q) (c3 : wr x = 3 → WP d 75 29 [l0, l1, l2] st h Q) (c4 : wr x = 4 → WP d 75 35 [l0, l1, l2] st h Q) (cd : wr x < 0 ∨ 4 < wr x → WP d 75 39 [l0, l1, l2] st h Q) : WP d 75 10 [l0, l1, l2] (vI x :: st) h Q := by
  refine wp_tsw (show (lcode 75)[10]? = some (.tableswitch 39 0 4 #[11, 17, 23, 29, 35]) by decide +kernel) (by decide) (fun j t hj hx => ?_) cd
  match j, hj with
  | 0, hj => cases hj; exact c0 (by omega)
  | 1, hj => cases hj; exact c1 (by omega)
  | 2, hj => cases hj; exact c2 (by omega)
  | 3, hj => cases hj; exact c3 (by omega)
  | 4, hj => cases hj; exact c4 (by omega)
  | n + 5, hj => simp at hj
theorem x75_11 : WP d 75 11 [some (Value.ref a), l1, l2] st h Q ↔ WP d 75 12 [some (Value.ref a), l1, l2] (Value.ref a :: st) h Q := wp_aload (show (lcode 75)[11]? = some (.aload 0) by decide +kernel) rfl
theorem x75_12 : WP d 75 12 [l0, l1, l2] (.ref a :: st) h Q ↔ gF (hRd h a) 10 3 (fun v => WP d 75 13 [l0, l1, l2] (v :: st) h Q) := wp_getfield (show (lcode 75)[12]? = some (.getfield 643) by decide +kernel)
theorem x75_13 : WP d 75 13 [l0, l1, l2] (.ref a :: st) h Q ↔ gF (hRd h a) 7 1 (fun v => WP d 75 14 [l0, l1, l2] (v :: st) h Q) := wp_getfield (show (lcode 75)[13]? = some (.getfield 449) by decide +kernel)
theorem x75_14 : WP d 75 14 [l0, some (vI x), l2] st h Q ↔ WP d 75 15 [l0, some (vI x), l2] (vI x :: st) h Q := wp_iload (show (lcode 75)[14]? = some (.iload 1) by decide +kernel) rfl
theorem x75_15 : WP d 75 15 [l0, l1, l2] (vI x :: .ref a :: st) h Q ↔ ldA (hRd h a) x (fun v => WP d 75 16 [l0, l1, l2] (v :: st) h Q) := wp_iaload (show (lcode 75)[15]? = some (.iaload) by decide +kernel)
theorem x75_16 : WP d 75 16 [l0, l1, l2] [vI x] h Q ↔ Q (some (vI x)) h := wp_ireturn (show (lcode 75)[16]? = some (.ireturn) by decide +kernel)
theorem x75_17 : WP d 75 17 [some (Value.ref a), l1, l2] st h Q ↔ WP d 75 18 [some (Value.ref a), l1, l2] (Value.ref a :: st) h Q := wp_aload (show (lcode 75)[17]? = some (.aload 0) by decide +kernel) rfl
theorem x75_18 : WP d 75 18 [l0, l1, l2] (.ref a :: st) h Q ↔ gF (hRd h a) 10 3 (fun v => WP d 75 19 [l0, l1, l2] (v :: st) h Q) := wp_getfield (show (lcode 75)[18]? = some (.getfield 643) by decide +kernel)
theorem x75_19 : WP d 75 19 [l0, l1, l2] (.ref a :: st) h Q ↔ gF (hRd h a) 7 0 (fun v => WP d 75 20 [l0, l1, l2] (v :: st) h Q) := wp_getfield (show (lcode 75)[19]? = some (.getfield 448) by decide +kernel)
theorem x75_20 : WP d 75 20 [l0, some (vI x), l2] st h Q ↔ WP d 75 21 [l0, some (vI x), l2] (vI x :: st) h Q := wp_iload (show (lcode 75)[20]? = some (.iload 1) by decide +kernel) rfl
theorem x75_21 : WP d 75 21 [l0, l1, l2] (v1 :: v :: st) h Q ↔ (sh st ∧ CALL d 45 [v, v1] h (fun v h => WP d 75 22 [l0, l1, l2] (v.toList ++ st) h Q)) := wp_call (n := 2) (show (lcode 75)[21]? = some (.invokestatic 45) by decide +kernel) (by decide +kernel) (by simp)
theorem x75_22 : WP d 75 22 [l0, l1, l2] [vI x] h Q ↔ Q (some (vI x)) h := wp_ireturn (show (lcode 75)[22]? = some (.ireturn) by decide +kernel)
theorem x75_23 : WP d 75 23 [some (Value.ref a), l1, l2] st h Q ↔ WP d 75 24 [some (Value.ref a), l1, l2] (Value.ref a :: st) h Q := wp_aload (show (lcode 75)[23]? = some (.aload 0) by decide +kernel) rfl
theorem x75_24 : WP d 75 24 [l0, l1, l2] (.ref a :: st) h Q ↔ gF (hRd h a) 10 2 (fun v => WP d 75 25 [l0, l1, l2] (v :: st) h Q) := wp_getfield (show (lcode 75)[24]? = some (.getfield 642) by decide +kernel)
theorem x75_25 : WP d 75 25 [l0, l1, l2] (.ref a :: st) h Q ↔ gF (hRd h a) 2 4 (fun v => WP d 75 26 [l0, l1, l2] (v :: st) h Q) := wp_getfield (show (lcode 75)[25]? = some (.getfield 132) by decide +kernel)
theorem x75_26 : WP d 75 26 [l0, some (vI x), l2] st h Q ↔ WP d 75 27 [l0, some (vI x), l2] (vI x :: st) h Q := wp_iload (show (lcode 75)[26]? = some (.iload 1) by decide +kernel) rfl
theorem x75_27 : WP d 75 27 [l0, l1, l2] (vI x :: .ref a :: st) h Q ↔ ldA (hRd h a) x (fun v => WP d 75 28 [l0, l1, l2] (v :: st) h Q) := wp_iaload (show (lcode 75)[27]? = some (.iaload) by decide +kernel)
theorem x75_28 : WP d 75 28 [l0, l1, l2] [vI x] h Q ↔ Q (some (vI x)) h := wp_ireturn (show (lcode 75)[28]? = some (.ireturn) by decide +kernel)
theorem x75_29 : WP d 75 29 [some (Value.ref a), l1, l2] st h Q ↔ WP d 75 30 [some (Value.ref a), l1, l2] (Value.ref a :: st) h Q := wp_aload (show (lcode 75)[29]? = some (.aload 0) by decide +kernel) rfl
theorem x75_30 : WP d 75 30 [l0, l1, l2] (.ref a :: st) h Q ↔ gF (hRd h a) 10 1 (fun v => WP d 75 31 [l0, l1, l2] (v :: st) h Q) := wp_getfield (show (lcode 75)[30]? = some (.getfield 641) by decide +kernel)
theorem x75_31 : WP d 75 31 [l0, l1, l2] (.ref a :: st) h Q ↔ gF (hRd h a) 1 2 (fun v => WP d 75 32 [l0, l1, l2] (v :: st) h Q) := wp_getfield (show (lcode 75)[31]? = some (.getfield 66) by decide +kernel)
theorem x75_32 : WP d 75 32 [l0, some (vI x), l2] st h Q ↔ WP d 75 33 [l0, some (vI x), l2] (vI x :: st) h Q := wp_iload (show (lcode 75)[32]? = some (.iload 1) by decide +kernel) rfl
theorem x75_33 : WP d 75 33 [l0, l1, l2] (vI x :: .ref a :: st) h Q ↔ ldA (hRd h a) x (fun v => WP d 75 34 [l0, l1, l2] (v :: st) h Q) := wp_iaload (show (lcode 75)[33]? = some (.iaload) by decide +kernel)
theorem x75_34 : WP d 75 34 [l0, l1, l2] [vI x] h Q ↔ Q (some (vI x)) h := wp_ireturn (show (lcode 75)[34]? = some (.ireturn) by decide +kernel)
theorem x75_35 : WP d 75 35 [some (Value.ref a), l1, l2] st h Q ↔ WP d 75 36 [some (Value.ref a), l1, l2] (Value.ref a :: st) h Q := wp_aload (show (lcode 75)[35]? = some (.aload 0) by decide +kernel) rfl
theorem x75_36 : WP d 75 36 [l0, some (vI x), l2] st h Q ↔ WP d 75 37 [l0, some (vI x), l2] (vI x :: st) h Q := wp_iload (show (lcode 75)[36]? = some (.iload 1) by decide +kernel) rfl
theorem x75_37 : WP d 75 37 [l0, l1, l2] (v1 :: v :: st) h Q ↔ (sh st ∧ CALL d 103 [v, v1] h (fun v h => WP d 75 38 [l0, l1, l2] (v.toList ++ st) h Q)) := wp_call (n := 2) (show (lcode 75)[37]? = some (.invokestatic 103) by decide +kernel) (by decide +kernel) (by simp)
theorem x75_38 : WP d 75 38 [l0, l1, l2] [vI x] h Q ↔ Q (some (vI x)) h := wp_ireturn (show (lcode 75)[38]? = some (.ireturn) by decide +kernel)
theorem x75_39 : WP d 75 39 [l0, l1, l2] st h Q ↔ WP d 75 40 [l0, l1, l2] (vI (-1000000002) :: st) h Q := wp_iconst (show (lcode 75)[39]? = some (.iconst (-1000000002)) by decide +kernel)
theorem x75_40 : WP d 75 40 [l0, l1, l2] [vI x] h Q ↔ Q (some (vI x)) h := wp_ireturn (show (lcode 75)[40]? = some (.ireturn) by decide +kernel)
-- 76: WakeOrder.job
theorem x76_0 : WP d 76 0 [some (Value.ref a), l1, l2] st h Q ↔ WP d 76 1 [some (Value.ref a), l1, l2] (Value.ref a :: st) h Q := wp_aload (show (lcode 76)[0]? = some (.aload 0) by decide +kernel) rfl
theorem x76_1 : WP d 76 1 [l0, some (vI x), l2] st h Q ↔ WP d 76 2 [l0, some (vI x), l2] (vI x :: st) h Q := wp_iload (show (lcode 76)[1]? = some (.iload 1) by decide +kernel) rfl
theorem x76_2 : WP d 76 2 [l0, l1, l2] (v1 :: v :: st) h Q ↔ (sh st ∧ CALL d 100 [v, v1] h (fun v h => WP d 76 3 [l0, l1, l2] (v.toList ++ st) h Q)) := wp_call (n := 2) (show (lcode 76)[2]? = some (.invokestatic 100) by decide +kernel) (by decide +kernel) (by simp)
theorem x76_3 : WP d 76 3 [l0, l1, l2] (vI x :: st) h Q ↔ ((¬ wr x = 0 → WP d 76 6 [l0, l1, l2] st h Q) ∧ (¬ (¬ wr x = 0) → WP d 76 4 [l0, l1, l2] st h Q)) := wp_if_ne (show (lcode 76)[3]? = some (.ifCond .ne 6) by decide +kernel)
theorem x76_4 : WP d 76 4 [l0, l1, l2] st h Q ↔ WP d 76 5 [l0, l1, l2] (vI (-1000000001) :: st) h Q := wp_iconst (show (lcode 76)[4]? = some (.iconst (-1000000001)) by decide +kernel)
theorem x76_5 : WP d 76 5 [l0, l1, l2] [vI x] h Q ↔ Q (some (vI x)) h := wp_ireturn (show (lcode 76)[5]? = some (.ireturn) by decide +kernel)
theorem x76_6 : WP d 76 6 [some (Value.ref a), l1, l2] st h Q ↔ WP d 76 7 [some (Value.ref a), l1, l2] (Value.ref a :: st) h Q := wp_aload (show (lcode 76)[6]? = some (.aload 0) by decide +kernel) rfl
theorem x76_7 : WP d 76 7 [l0, l1, l2] (.ref a :: st) h Q ↔ gF (hRd h a) 10 1 (fun v => WP d 76 8 [l0, l1, l2] (v :: st) h Q) := wp_getfield (show (lcode 76)[7]? = some (.getfield 641) by decide +kernel)
theorem x76_8 : WP d 76 8 [l0, l1, l2] (v :: st) h Q ↔ (sh st ∧ CALL d 4 [v] h (fun v h => WP d 76 9 [l0, l1, l2] (v.toList ++ st) h Q)) := wp_call (n := 1) (show (lcode 76)[8]? = some (.invokestatic 4) by decide +kernel) (by decide +kernel) (by simp)
theorem x76_9 : WP d 76 9 [l0, l1, some (vI x)] st h Q ↔ WP d 76 10 [l0, l1, some (vI x)] (vI x :: st) h Q := wp_iload (show (lcode 76)[9]? = some (.iload 2) by decide +kernel) rfl
theorem x76_10 (c0 : wr x = 0 → WP d 76 11 [l0, l1, l2] st h Q) (c1 : wr x = 1 → WP d 76 17 [l0, l1, l2] st h Q) (c2 : wr x = 2 → WP d 76 23 [l0, l1, l2] st h Q) (c3 : wr x = 3 → WP d 76 29 [l0, l1, l2] st h Q) (cd : wr x < 0 ∨ 3 < wr x → WP d 76 35 [l0, l1, l2] st h Q) : WP d 76 10 [l0, l1, l2] (vI x :: st) h Q := by
  refine wp_tsw (show (lcode 76)[10]? = some (.tableswitch 35 0 3 #[11, 17, 23, 29]) by decide +kernel) (by decide) (fun j t hj hx => ?_) cd
  match j, hj with
  | 0, hj => cases hj; exact c0 (by omega)
  | 1, hj => cases hj; exact c1 (by omega)
  | 2, hj => cases hj; exact c2 (by omega)
  | 3, hj => cases hj; exact c3 (by omega)
  | n + 4, hj => simp at hj
theorem x76_11 : WP d 76 11 [some (Value.ref a), l1, l2] st h Q ↔ WP d 76 12 [some (Value.ref a), l1, l2] (Value.ref a :: st) h Q := wp_aload (show (lcode 76)[11]? = some (.aload 0) by decide +kernel) rfl
theorem x76_12 : WP d 76 12 [l0, l1, l2] (.ref a :: st) h Q ↔ gF (hRd h a) 10 3 (fun v => WP d 76 13 [l0, l1, l2] (v :: st) h Q) := wp_getfield (show (lcode 76)[12]? = some (.getfield 643) by decide +kernel)
theorem x76_13 : WP d 76 13 [l0, l1, l2] (.ref a :: st) h Q ↔ gF (hRd h a) 7 2 (fun v => WP d 76 14 [l0, l1, l2] (v :: st) h Q) := wp_getfield (show (lcode 76)[13]? = some (.getfield 450) by decide +kernel)
theorem x76_14 : WP d 76 14 [l0, some (vI x), l2] st h Q ↔ WP d 76 15 [l0, some (vI x), l2] (vI x :: st) h Q := wp_iload (show (lcode 76)[14]? = some (.iload 1) by decide +kernel) rfl
theorem x76_15 : WP d 76 15 [l0, l1, l2] (vI x :: .ref a :: st) h Q ↔ ldA (hRd h a) x (fun v => WP d 76 16 [l0, l1, l2] (v :: st) h Q) := wp_iaload (show (lcode 76)[15]? = some (.iaload) by decide +kernel)
theorem x76_16 : WP d 76 16 [l0, l1, l2] [vI x] h Q ↔ Q (some (vI x)) h := wp_ireturn (show (lcode 76)[16]? = some (.ireturn) by decide +kernel)
theorem x76_17 : WP d 76 17 [some (Value.ref a), l1, l2] st h Q ↔ WP d 76 18 [some (Value.ref a), l1, l2] (Value.ref a :: st) h Q := wp_aload (show (lcode 76)[17]? = some (.aload 0) by decide +kernel) rfl
theorem x76_18 : WP d 76 18 [l0, l1, l2] (.ref a :: st) h Q ↔ gF (hRd h a) 10 2 (fun v => WP d 76 19 [l0, l1, l2] (v :: st) h Q) := wp_getfield (show (lcode 76)[18]? = some (.getfield 642) by decide +kernel)
theorem x76_19 : WP d 76 19 [l0, l1, l2] (.ref a :: st) h Q ↔ gF (hRd h a) 2 6 (fun v => WP d 76 20 [l0, l1, l2] (v :: st) h Q) := wp_getfield (show (lcode 76)[19]? = some (.getfield 134) by decide +kernel)
theorem x76_20 : WP d 76 20 [l0, some (vI x), l2] st h Q ↔ WP d 76 21 [l0, some (vI x), l2] (vI x :: st) h Q := wp_iload (show (lcode 76)[20]? = some (.iload 1) by decide +kernel) rfl
theorem x76_21 : WP d 76 21 [l0, l1, l2] (vI x :: .ref a :: st) h Q ↔ ldA (hRd h a) x (fun v => WP d 76 22 [l0, l1, l2] (v :: st) h Q) := wp_iaload (show (lcode 76)[21]? = some (.iaload) by decide +kernel)
theorem x76_22 : WP d 76 22 [l0, l1, l2] [vI x] h Q ↔ Q (some (vI x)) h := wp_ireturn (show (lcode 76)[22]? = some (.ireturn) by decide +kernel)
theorem x76_23 : WP d 76 23 [some (Value.ref a), l1, l2] st h Q ↔ WP d 76 24 [some (Value.ref a), l1, l2] (Value.ref a :: st) h Q := wp_aload (show (lcode 76)[23]? = some (.aload 0) by decide +kernel) rfl
theorem x76_24 : WP d 76 24 [l0, l1, l2] (.ref a :: st) h Q ↔ gF (hRd h a) 10 2 (fun v => WP d 76 25 [l0, l1, l2] (v :: st) h Q) := wp_getfield (show (lcode 76)[24]? = some (.getfield 642) by decide +kernel)
theorem x76_25 : WP d 76 25 [l0, l1, l2] (.ref a :: st) h Q ↔ gF (hRd h a) 2 7 (fun v => WP d 76 26 [l0, l1, l2] (v :: st) h Q) := wp_getfield (show (lcode 76)[25]? = some (.getfield 135) by decide +kernel)
theorem x76_26 : WP d 76 26 [l0, some (vI x), l2] st h Q ↔ WP d 76 27 [l0, some (vI x), l2] (vI x :: st) h Q := wp_iload (show (lcode 76)[26]? = some (.iload 1) by decide +kernel) rfl
theorem x76_27 : WP d 76 27 [l0, l1, l2] (vI x :: .ref a :: st) h Q ↔ ldA (hRd h a) x (fun v => WP d 76 28 [l0, l1, l2] (v :: st) h Q) := wp_iaload (show (lcode 76)[27]? = some (.iaload) by decide +kernel)
theorem x76_28 : WP d 76 28 [l0, l1, l2] [vI x] h Q ↔ Q (some (vI x)) h := wp_ireturn (show (lcode 76)[28]? = some (.ireturn) by decide +kernel)
theorem x76_29 : WP d 76 29 [some (Value.ref a), l1, l2] st h Q ↔ WP d 76 30 [some (Value.ref a), l1, l2] (Value.ref a :: st) h Q := wp_aload (show (lcode 76)[29]? = some (.aload 0) by decide +kernel) rfl
theorem x76_30 : WP d 76 30 [l0, l1, l2] (.ref a :: st) h Q ↔ gF (hRd h a) 10 1 (fun v => WP d 76 31 [l0, l1, l2] (v :: st) h Q) := wp_getfield (show (lcode 76)[30]? = some (.getfield 641) by decide +kernel)
theorem x76_31 : WP d 76 31 [l0, l1, l2] (.ref a :: st) h Q ↔ gF (hRd h a) 1 3 (fun v => WP d 76 32 [l0, l1, l2] (v :: st) h Q) := wp_getfield (show (lcode 76)[31]? = some (.getfield 67) by decide +kernel)
theorem x76_32 : WP d 76 32 [l0, some (vI x), l2] st h Q ↔ WP d 76 33 [l0, some (vI x), l2] (vI x :: st) h Q := wp_iload (show (lcode 76)[32]? = some (.iload 1) by decide +kernel) rfl
theorem x76_33 : WP d 76 33 [l0, l1, l2] (vI x :: .ref a :: st) h Q ↔ ldA (hRd h a) x (fun v => WP d 76 34 [l0, l1, l2] (v :: st) h Q) := wp_iaload (show (lcode 76)[33]? = some (.iaload) by decide +kernel)
theorem x76_34 : WP d 76 34 [l0, l1, l2] [vI x] h Q ↔ Q (some (vI x)) h := wp_ireturn (show (lcode 76)[34]? = some (.ireturn) by decide +kernel)
theorem x76_35 : WP d 76 35 [l0, l1, l2] st h Q ↔ WP d 76 36 [l0, l1, l2] (vI (-1000000002) :: st) h Q := wp_iconst (show (lcode 76)[35]? = some (.iconst (-1000000002)) by decide +kernel)
theorem x76_36 : WP d 76 36 [l0, l1, l2] [vI x] h Q ↔ Q (some (vI x)) h := wp_ireturn (show (lcode 76)[36]? = some (.ireturn) by decide +kernel)
-- 77: WakeOrder.order
theorem x77_0 : WP d 77 0 [some (Value.ref a), l1] st h Q ↔ WP d 77 1 [some (Value.ref a), l1] (Value.ref a :: st) h Q := wp_aload (show (lcode 77)[0]? = some (.aload 0) by decide +kernel) rfl
theorem x77_1 : WP d 77 1 [l0, l1] (.ref a :: st) h Q ↔ gF (hRd h a) 10 3 (fun v => WP d 77 2 [l0, l1] (v :: st) h Q) := wp_getfield (show (lcode 77)[1]? = some (.getfield 643) by decide +kernel)
theorem x77_2 : WP d 77 2 [l0, l1] (.ref a :: st) h Q ↔ gF (hRd h a) 7 0 (fun v => WP d 77 3 [l0, l1] (v :: st) h Q) := wp_getfield (show (lcode 77)[2]? = some (.getfield 448) by decide +kernel)
theorem x77_3 : WP d 77 3 [l0, some (vI x)] st h Q ↔ WP d 77 4 [l0, some (vI x)] (vI x :: st) h Q := wp_iload (show (lcode 77)[3]? = some (.iload 1) by decide +kernel) rfl
theorem x77_4 : WP d 77 4 [l0, l1] (v1 :: v :: st) h Q ↔ (sh st ∧ CALL d 44 [v, v1] h (fun v h => WP d 77 5 [l0, l1] (v.toList ++ st) h Q)) := wp_call (n := 2) (show (lcode 77)[4]? = some (.invokestatic 44) by decide +kernel) (by decide +kernel) (by simp)
theorem x77_5 : WP d 77 5 [l0, l1] [vI x] h Q ↔ Q (some (vI x)) h := wp_ireturn (show (lcode 77)[5]? = some (.ireturn) by decide +kernel)
-- 78: WakeOrder.rank
theorem x78_0 : WP d 78 0 [some (Value.ref a), l1, l2, l3] st h Q ↔ WP d 78 1 [some (Value.ref a), l1, l2, l3] (Value.ref a :: st) h Q := wp_aload (show (lcode 78)[0]? = some (.aload 0) by decide +kernel) rfl
theorem x78_1 : WP d 78 1 [l0, some (vI x), l2, l3] st h Q ↔ WP d 78 2 [l0, some (vI x), l2, l3] (vI x :: st) h Q := wp_iload (show (lcode 78)[1]? = some (.iload 1) by decide +kernel) rfl
theorem x78_2 : WP d 78 2 [l0, l1, l2, l3] (v1 :: v :: st) h Q ↔ (sh st ∧ CALL d 99 [v, v1] h (fun v h => WP d 78 3 [l0, l1, l2, l3] (v.toList ++ st) h Q)) := wp_call (n := 2) (show (lcode 78)[2]? = some (.invokestatic 99) by decide +kernel) (by decide +kernel) (by simp)
theorem x78_3 : WP d 78 3 [l0, l1, l2, l3] (vI x :: st) h Q ↔ ((¬ wr x = 0 → WP d 78 6 [l0, l1, l2, l3] st h Q) ∧ (¬ (¬ wr x = 0) → WP d 78 4 [l0, l1, l2, l3] st h Q)) := wp_if_ne (show (lcode 78)[3]? = some (.ifCond .ne 6) by decide +kernel)
theorem x78_4 : WP d 78 4 [l0, l1, l2, l3] st h Q ↔ WP d 78 5 [l0, l1, l2, l3] (vI (-1000000001) :: st) h Q := wp_iconst (show (lcode 78)[4]? = some (.iconst (-1000000001)) by decide +kernel)
theorem x78_5 : WP d 78 5 [l0, l1, l2, l3] [vI x] h Q ↔ Q (some (vI x)) h := wp_ireturn (show (lcode 78)[5]? = some (.ireturn) by decide +kernel)
theorem x78_6 : WP d 78 6 [l0, l1, some (vI x), l3] st h Q ↔ WP d 78 7 [l0, l1, some (vI x), l3] (vI x :: st) h Q := wp_iload (show (lcode 78)[6]? = some (.iload 2) by decide +kernel) rfl
theorem x78_7 : WP d 78 7 [l0, l1, l2, l3] (vI x :: st) h Q ↔ ((wr x < 0 → WP d 78 14 [l0, l1, l2, l3] st h Q) ∧ (¬ (wr x < 0) → WP d 78 8 [l0, l1, l2, l3] st h Q)) := wp_if_lt (show (lcode 78)[7]? = some (.ifCond .lt 14) by decide +kernel)
theorem x78_8 : WP d 78 8 [l0, l1, some (vI x), l3] st h Q ↔ WP d 78 9 [l0, l1, some (vI x), l3] (vI x :: st) h Q := wp_iload (show (lcode 78)[8]? = some (.iload 2) by decide +kernel) rfl
theorem x78_9 : WP d 78 9 [some (Value.ref a), l1, l2, l3] st h Q ↔ WP d 78 10 [some (Value.ref a), l1, l2, l3] (Value.ref a :: st) h Q := wp_aload (show (lcode 78)[9]? = some (.aload 0) by decide +kernel) rfl
theorem x78_10 : WP d 78 10 [l0, l1, l2, l3] (.ref a :: st) h Q ↔ gF (hRd h a) 10 3 (fun v => WP d 78 11 [l0, l1, l2, l3] (v :: st) h Q) := wp_getfield (show (lcode 78)[10]? = some (.getfield 643) by decide +kernel)
theorem x78_11 : WP d 78 11 [l0, l1, l2, l3] (.ref a :: st) h Q ↔ gF (hRd h a) 7 0 (fun v => WP d 78 12 [l0, l1, l2, l3] (v :: st) h Q) := wp_getfield (show (lcode 78)[11]? = some (.getfield 448) by decide +kernel)
theorem x78_12 : WP d 78 12 [l0, l1, l2, l3] (.ref a :: st) h Q ↔ gF (hRd h a) 6 1 (fun v => WP d 78 13 [l0, l1, l2, l3] (v :: st) h Q) := wp_getfield (show (lcode 78)[12]? = some (.getfield 385) by decide +kernel)
theorem x78_13 : WP d 78 13 [l0, l1, l2, l3] (vI y :: vI x :: st) h Q ↔ ((wr x < wr y → WP d 78 16 [l0, l1, l2, l3] st h Q) ∧ (¬ (wr x < wr y) → WP d 78 14 [l0, l1, l2, l3] st h Q)) := wp_icmp_lt (show (lcode 78)[13]? = some (.if_icmp .lt 16) by decide +kernel)
theorem x78_14 : WP d 78 14 [l0, l1, l2, l3] st h Q ↔ WP d 78 15 [l0, l1, l2, l3] (vI (-1000000002) :: st) h Q := wp_iconst (show (lcode 78)[14]? = some (.iconst (-1000000002)) by decide +kernel)
theorem x78_15 : WP d 78 15 [l0, l1, l2, l3] [vI x] h Q ↔ Q (some (vI x)) h := wp_ireturn (show (lcode 78)[15]? = some (.ireturn) by decide +kernel)
theorem x78_16 : WP d 78 16 [some (Value.ref a), l1, l2, l3] st h Q ↔ WP d 78 17 [some (Value.ref a), l1, l2, l3] (Value.ref a :: st) h Q := wp_aload (show (lcode 78)[16]? = some (.aload 0) by decide +kernel) rfl
theorem x78_17 : WP d 78 17 [l0, l1, l2, l3] (.ref a :: st) h Q ↔ gF (hRd h a) 10 3 (fun v => WP d 78 18 [l0, l1, l2, l3] (v :: st) h Q) := wp_getfield (show (lcode 78)[17]? = some (.getfield 643) by decide +kernel)
theorem x78_18 : WP d 78 18 [l0, l1, l2, l3] (.ref a :: st) h Q ↔ gF (hRd h a) 7 0 (fun v => WP d 78 19 [l0, l1, l2, l3] (v :: st) h Q) := wp_getfield (show (lcode 78)[18]? = some (.getfield 448) by decide +kernel)
theorem x78_19 : WP d 78 19 [l0, some (vI x), l2, l3] st h Q ↔ WP d 78 20 [l0, some (vI x), l2, l3] (vI x :: st) h Q := wp_iload (show (lcode 78)[19]? = some (.iload 1) by decide +kernel) rfl
theorem x78_20 : WP d 78 20 [l0, l1, l2, l3] (v1 :: v :: st) h Q ↔ (sh st ∧ CALL d 45 [v, v1] h (fun v h => WP d 78 21 [l0, l1, l2, l3] (v.toList ++ st) h Q)) := wp_call (n := 2) (show (lcode 78)[20]? = some (.invokestatic 45) by decide +kernel) (by decide +kernel) (by simp)
theorem x78_21 : WP d 78 21 [l0, l1, l2, l3] (vI x :: st) h Q ↔ (nl l2 ∧ WP d 78 22 [l0, l1, l2, some (vI x)] st h Q) := wp_istore (show (lcode 78)[21]? = some (.istore 3) by decide +kernel) (Nat.le_of_ble_eq_true rfl)
theorem x78_22 : WP d 78 22 [l0, l1, l2, some (vI x)] st h Q ↔ WP d 78 23 [l0, l1, l2, some (vI x)] (vI x :: st) h Q := wp_iload (show (lcode 78)[22]? = some (.iload 3) by decide +kernel) rfl
theorem x78_23 : WP d 78 23 [l0, l1, l2, l3] st h Q ↔ WP d 78 24 [l0, l1, l2, l3] (vI (-1) :: st) h Q := wp_iconst (show (lcode 78)[23]? = some (.iconst (-1)) by decide +kernel)
theorem x78_24 : WP d 78 24 [l0, l1, l2, l3] (vI y :: vI x :: st) h Q ↔ ((¬ wr x = wr y → WP d 78 27 [l0, l1, l2, l3] st h Q) ∧ (¬ (¬ wr x = wr y) → WP d 78 25 [l0, l1, l2, l3] st h Q)) := wp_icmp_ne (show (lcode 78)[24]? = some (.if_icmp .ne 27) by decide +kernel)
theorem x78_25 : WP d 78 25 [l0, l1, l2, l3] st h Q ↔ WP d 78 26 [l0, l1, l2, l3] (vI (-1000000003) :: st) h Q := wp_iconst (show (lcode 78)[25]? = some (.iconst (-1000000003)) by decide +kernel)
theorem x78_26 : WP d 78 26 [l0, l1, l2, l3] [vI x] h Q ↔ Q (some (vI x)) h := wp_ireturn (show (lcode 78)[26]? = some (.ireturn) by decide +kernel)
theorem x78_27 : WP d 78 27 [some (Value.ref a), l1, l2, l3] st h Q ↔ WP d 78 28 [some (Value.ref a), l1, l2, l3] (Value.ref a :: st) h Q := wp_aload (show (lcode 78)[27]? = some (.aload 0) by decide +kernel) rfl
theorem x78_28 : WP d 78 28 [l0, l1, l2, l3] (.ref a :: st) h Q ↔ gF (hRd h a) 10 4 (fun v => WP d 78 29 [l0, l1, l2, l3] (v :: st) h Q) := wp_getfield (show (lcode 78)[28]? = some (.getfield 644) by decide +kernel)
theorem x78_29 : WP d 78 29 [some (Value.ref a), l1, l2, l3] st h Q ↔ WP d 78 30 [some (Value.ref a), l1, l2, l3] (Value.ref a :: st) h Q := wp_aload (show (lcode 78)[29]? = some (.aload 0) by decide +kernel) rfl
theorem x78_30 : WP d 78 30 [l0, l1, l2, l3] (.ref a :: st) h Q ↔ gF (hRd h a) 10 3 (fun v => WP d 78 31 [l0, l1, l2, l3] (v :: st) h Q) := wp_getfield (show (lcode 78)[30]? = some (.getfield 643) by decide +kernel)
theorem x78_31 : WP d 78 31 [l0, l1, l2, l3] (v1 :: v :: st) h Q ↔ (sh st ∧ CALL d 22 [v, v1] h (fun v h => WP d 78 32 [l0, l1, l2, l3] (v.toList ++ st) h Q)) := wp_call (n := 2) (show (lcode 78)[31]? = some (.invokestatic 22) by decide +kernel) (by decide +kernel) (by simp)
theorem x78_32 : WP d 78 32 [some (Value.ref a), l1, l2, l3] st h Q ↔ WP d 78 33 [some (Value.ref a), l1, l2, l3] (Value.ref a :: st) h Q := wp_aload (show (lcode 78)[32]? = some (.aload 0) by decide +kernel) rfl
theorem x78_33 : WP d 78 33 [l0, l1, l2, l3] (.ref a :: st) h Q ↔ gF (hRd h a) 10 3 (fun v => WP d 78 34 [l0, l1, l2, l3] (v :: st) h Q) := wp_getfield (show (lcode 78)[33]? = some (.getfield 643) by decide +kernel)
theorem x78_34 : WP d 78 34 [l0, l1, l2, l3] (.ref a :: st) h Q ↔ gF (hRd h a) 7 0 (fun v => WP d 78 35 [l0, l1, l2, l3] (v :: st) h Q) := wp_getfield (show (lcode 78)[34]? = some (.getfield 448) by decide +kernel)
theorem x78_35 : WP d 78 35 [l0, some (vI x), l2, l3] st h Q ↔ WP d 78 36 [l0, some (vI x), l2, l3] (vI x :: st) h Q := wp_iload (show (lcode 78)[35]? = some (.iload 1) by decide +kernel) rfl
theorem x78_36 : WP d 78 36 [l0, l1, l2, l3] (v1 :: v :: st) h Q ↔ (sh st ∧ CALL d 49 [v, v1] h (fun v h => WP d 78 37 [l0, l1, l2, l3] (v.toList ++ st) h Q)) := wp_call (n := 2) (show (lcode 78)[36]? = some (.invokestatic 49) by decide +kernel) (by decide +kernel) (by simp)
theorem x78_37 : WP d 78 37 [some (Value.ref a), l1, l2, l3] st h Q ↔ WP d 78 38 [some (Value.ref a), l1, l2, l3] (Value.ref a :: st) h Q := wp_aload (show (lcode 78)[37]? = some (.aload 0) by decide +kernel) rfl
theorem x78_38 : WP d 78 38 [l0, l1, l2, l3] (.ref a :: st) h Q ↔ gF (hRd h a) 10 3 (fun v => WP d 78 39 [l0, l1, l2, l3] (v :: st) h Q) := wp_getfield (show (lcode 78)[38]? = some (.getfield 643) by decide +kernel)
theorem x78_39 : WP d 78 39 [l0, l1, l2, l3] (.ref a :: st) h Q ↔ gF (hRd h a) 7 0 (fun v => WP d 78 40 [l0, l1, l2, l3] (v :: st) h Q) := wp_getfield (show (lcode 78)[39]? = some (.getfield 448) by decide +kernel)
theorem x78_40 : WP d 78 40 [l0, some (vI x), l2, l3] st h Q ↔ WP d 78 41 [l0, some (vI x), l2, l3] (vI x :: st) h Q := wp_iload (show (lcode 78)[40]? = some (.iload 1) by decide +kernel) rfl
theorem x78_41 : WP d 78 41 [l0, l1, some (vI x), l3] st h Q ↔ WP d 78 42 [l0, l1, some (vI x), l3] (vI x :: st) h Q := wp_iload (show (lcode 78)[41]? = some (.iload 2) by decide +kernel) rfl
theorem x78_42 : WP d 78 42 [l0, l1, l2, l3] (v2 :: v1 :: v :: st) h Q ↔ (sh st ∧ CALL d 50 [v, v1, v2] h (fun v h => WP d 78 43 [l0, l1, l2, l3] (v.toList ++ st) h Q)) := wp_call (n := 3) (show (lcode 78)[42]? = some (.invokestatic 50) by decide +kernel) (by decide +kernel) (by simp)
theorem x78_43 : WP d 78 43 [l0, l1, l2, some (vI x)] st h Q ↔ WP d 78 44 [l0, l1, l2, some (vI x)] (vI x :: st) h Q := wp_iload (show (lcode 78)[43]? = some (.iload 3) by decide +kernel) rfl
theorem x78_44 : WP d 78 44 [l0, l1, l2, l3] [vI x] h Q ↔ Q (some (vI x)) h := wp_ireturn (show (lcode 78)[44]? = some (.ireturn) by decide +kernel)
-- 79: WakeOrder.eyes
theorem x79_0 : WP d 79 0 [some (Value.ref a), l1, l2, l3] st h Q ↔ WP d 79 1 [some (Value.ref a), l1, l2, l3] (Value.ref a :: st) h Q := wp_aload (show (lcode 79)[0]? = some (.aload 0) by decide +kernel) rfl
theorem x79_1 : WP d 79 1 [l0, some (vI x), l2, l3] st h Q ↔ WP d 79 2 [l0, some (vI x), l2, l3] (vI x :: st) h Q := wp_iload (show (lcode 79)[1]? = some (.iload 1) by decide +kernel) rfl
theorem x79_2 : WP d 79 2 [l0, l1, l2, l3] (v1 :: v :: st) h Q ↔ (sh st ∧ CALL d 99 [v, v1] h (fun v h => WP d 79 3 [l0, l1, l2, l3] (v.toList ++ st) h Q)) := wp_call (n := 2) (show (lcode 79)[2]? = some (.invokestatic 99) by decide +kernel) (by decide +kernel) (by simp)
theorem x79_3 : WP d 79 3 [l0, l1, l2, l3] (vI x :: st) h Q ↔ ((¬ wr x = 0 → WP d 79 6 [l0, l1, l2, l3] st h Q) ∧ (¬ (¬ wr x = 0) → WP d 79 4 [l0, l1, l2, l3] st h Q)) := wp_if_ne (show (lcode 79)[3]? = some (.ifCond .ne 6) by decide +kernel)
theorem x79_4 : WP d 79 4 [l0, l1, l2, l3] st h Q ↔ WP d 79 5 [l0, l1, l2, l3] (vI (-1000000001) :: st) h Q := wp_iconst (show (lcode 79)[4]? = some (.iconst (-1000000001)) by decide +kernel)
theorem x79_5 : WP d 79 5 [l0, l1, l2, l3] [vI x] h Q ↔ Q (some (vI x)) h := wp_ireturn (show (lcode 79)[5]? = some (.ireturn) by decide +kernel)
theorem x79_6 : WP d 79 6 [some (Value.ref a), l1, l2, l3] st h Q ↔ WP d 79 7 [some (Value.ref a), l1, l2, l3] (Value.ref a :: st) h Q := wp_aload (show (lcode 79)[6]? = some (.aload 0) by decide +kernel) rfl
theorem x79_7 : WP d 79 7 [l0, l1, l2, l3] (.ref a :: st) h Q ↔ gF (hRd h a) 10 4 (fun v => WP d 79 8 [l0, l1, l2, l3] (v :: st) h Q) := wp_getfield (show (lcode 79)[7]? = some (.getfield 644) by decide +kernel)
theorem x79_8 : WP d 79 8 [some (Value.ref a), l1, l2, l3] st h Q ↔ WP d 79 9 [some (Value.ref a), l1, l2, l3] (Value.ref a :: st) h Q := wp_aload (show (lcode 79)[8]? = some (.aload 0) by decide +kernel) rfl
theorem x79_9 : WP d 79 9 [l0, l1, l2, l3] (.ref a :: st) h Q ↔ gF (hRd h a) 10 3 (fun v => WP d 79 10 [l0, l1, l2, l3] (v :: st) h Q) := wp_getfield (show (lcode 79)[9]? = some (.getfield 643) by decide +kernel)
theorem x79_10 : WP d 79 10 [l0, l1, l2, l3] (v1 :: v :: st) h Q ↔ (sh st ∧ CALL d 22 [v, v1] h (fun v h => WP d 79 11 [l0, l1, l2, l3] (v.toList ++ st) h Q)) := wp_call (n := 2) (show (lcode 79)[10]? = some (.invokestatic 22) by decide +kernel) (by decide +kernel) (by simp)
theorem x79_11 : WP d 79 11 [some (Value.ref a), l1, l2, l3] st h Q ↔ WP d 79 12 [some (Value.ref a), l1, l2, l3] (Value.ref a :: st) h Q := wp_aload (show (lcode 79)[11]? = some (.aload 0) by decide +kernel) rfl
theorem x79_12 : WP d 79 12 [l0, l1, l2, l3] (.ref a :: st) h Q ↔ gF (hRd h a) 10 3 (fun v => WP d 79 13 [l0, l1, l2, l3] (v :: st) h Q) := wp_getfield (show (lcode 79)[12]? = some (.getfield 643) by decide +kernel)
theorem x79_13 : WP d 79 13 [l0, l1, l2, l3] (.ref a :: st) h Q ↔ gF (hRd h a) 7 3 (fun v => WP d 79 14 [l0, l1, l2, l3] (v :: st) h Q) := wp_getfield (show (lcode 79)[13]? = some (.getfield 451) by decide +kernel)
theorem x79_14 : WP d 79 14 [l0, some (vI x), l2, l3] st h Q ↔ WP d 79 15 [l0, some (vI x), l2, l3] (vI x :: st) h Q := wp_iload (show (lcode 79)[14]? = some (.iload 1) by decide +kernel) rfl
theorem x79_15 : WP d 79 15 [l0, l1, l2, l3] (vI y :: vI x :: st) h Q ↔ WP d 79 16 [l0, l1, l2, l3] (vI (zshr x y) :: st) h Q := wp_ishr (show (lcode 79)[15]? = some (.ishr) by decide +kernel)
theorem x79_16 : WP d 79 16 [l0, l1, l2, l3] st h Q ↔ WP d 79 17 [l0, l1, l2, l3] (vI 1 :: st) h Q := wp_iconst (show (lcode 79)[16]? = some (.iconst 1) by decide +kernel)
theorem x79_17 : WP d 79 17 [l0, l1, l2, l3] (vI y :: vI x :: st) h Q ↔ WP d 79 18 [l0, l1, l2, l3] (vI (zand x y) :: st) h Q := wp_iand (show (lcode 79)[17]? = some (.iand) by decide +kernel)
theorem x79_18 : WP d 79 18 [l0, l1, l2, l3] (vI x :: st) h Q ↔ (nl l2 ∧ WP d 79 19 [l0, l1, l2, some (vI x)] st h Q) := wp_istore (show (lcode 79)[18]? = some (.istore 3) by decide +kernel) (Nat.le_of_ble_eq_true rfl)
theorem x79_19 : WP d 79 19 [some (Value.ref a), l1, l2, l3] st h Q ↔ WP d 79 20 [some (Value.ref a), l1, l2, l3] (Value.ref a :: st) h Q := wp_aload (show (lcode 79)[19]? = some (.aload 0) by decide +kernel) rfl
theorem x79_20 : WP d 79 20 [l0, l1, l2, l3] (.ref a :: st) h Q ↔ gF (hRd h a) 10 3 (fun v => WP d 79 21 [l0, l1, l2, l3] (v :: st) h Q) := wp_getfield (show (lcode 79)[20]? = some (.getfield 643) by decide +kernel)
theorem x79_21 : WP d 79 21 [l0, l1, some (vI x), l3] st h Q ↔ WP d 79 22 [l0, l1, some (vI x), l3] (vI x :: st) h Q := wp_iload (show (lcode 79)[21]? = some (.iload 2) by decide +kernel) rfl
theorem x79_22 : WP d 79 22 [l0, l1, l2, l3] (vI x :: st) h Q ↔ ((wr x = 0 → WP d 79 31 [l0, l1, l2, l3] st h Q) ∧ (¬ (wr x = 0) → WP d 79 23 [l0, l1, l2, l3] st h Q)) := wp_if_eq (show (lcode 79)[22]? = some (.ifCond .eq 31) by decide +kernel)
theorem x79_23 : WP d 79 23 [some (Value.ref a), l1, l2, l3] st h Q ↔ WP d 79 24 [some (Value.ref a), l1, l2, l3] (Value.ref a :: st) h Q := wp_aload (show (lcode 79)[23]? = some (.aload 0) by decide +kernel) rfl
theorem x79_24 : WP d 79 24 [l0, l1, l2, l3] (.ref a :: st) h Q ↔ gF (hRd h a) 10 3 (fun v => WP d 79 25 [l0, l1, l2, l3] (v :: st) h Q) := wp_getfield (show (lcode 79)[24]? = some (.getfield 643) by decide +kernel)
theorem x79_25 : WP d 79 25 [l0, l1, l2, l3] (.ref a :: st) h Q ↔ gF (hRd h a) 7 3 (fun v => WP d 79 26 [l0, l1, l2, l3] (v :: st) h Q) := wp_getfield (show (lcode 79)[25]? = some (.getfield 451) by decide +kernel)
theorem x79_26 : WP d 79 26 [l0, l1, l2, l3] st h Q ↔ WP d 79 27 [l0, l1, l2, l3] (vI 1 :: st) h Q := wp_iconst (show (lcode 79)[26]? = some (.iconst 1) by decide +kernel)
theorem x79_27 : WP d 79 27 [l0, some (vI x), l2, l3] st h Q ↔ WP d 79 28 [l0, some (vI x), l2, l3] (vI x :: st) h Q := wp_iload (show (lcode 79)[27]? = some (.iload 1) by decide +kernel) rfl
theorem x79_28 : WP d 79 28 [l0, l1, l2, l3] (vI y :: vI x :: st) h Q ↔ WP d 79 29 [l0, l1, l2, l3] (vI (zshl x y) :: st) h Q := wp_ishl (show (lcode 79)[28]? = some (.ishl) by decide +kernel)
theorem x79_29 : WP d 79 29 [l0, l1, l2, l3] (vI y :: vI x :: st) h Q ↔ WP d 79 30 [l0, l1, l2, l3] (vI (zor x y) :: st) h Q := wp_ior (show (lcode 79)[29]? = some (.ior) by decide +kernel)
theorem x79_30 : WP d 79 30 [l0, l1, l2, l3] st h Q ↔ WP d 79 40 [l0, l1, l2, l3] st h Q := wp_goto (show (lcode 79)[30]? = some (.goto 40) by decide +kernel)
theorem x79_31 : WP d 79 31 [some (Value.ref a), l1, l2, l3] st h Q ↔ WP d 79 32 [some (Value.ref a), l1, l2, l3] (Value.ref a :: st) h Q := wp_aload (show (lcode 79)[31]? = some (.aload 0) by decide +kernel) rfl
theorem x79_32 : WP d 79 32 [l0, l1, l2, l3] (.ref a :: st) h Q ↔ gF (hRd h a) 10 3 (fun v => WP d 79 33 [l0, l1, l2, l3] (v :: st) h Q) := wp_getfield (show (lcode 79)[32]? = some (.getfield 643) by decide +kernel)
theorem x79_33 : WP d 79 33 [l0, l1, l2, l3] (.ref a :: st) h Q ↔ gF (hRd h a) 7 3 (fun v => WP d 79 34 [l0, l1, l2, l3] (v :: st) h Q) := wp_getfield (show (lcode 79)[33]? = some (.getfield 451) by decide +kernel)
theorem x79_34 : WP d 79 34 [l0, l1, l2, l3] st h Q ↔ WP d 79 35 [l0, l1, l2, l3] (vI 1 :: st) h Q := wp_iconst (show (lcode 79)[34]? = some (.iconst 1) by decide +kernel)
theorem x79_35 : WP d 79 35 [l0, some (vI x), l2, l3] st h Q ↔ WP d 79 36 [l0, some (vI x), l2, l3] (vI x :: st) h Q := wp_iload (show (lcode 79)[35]? = some (.iload 1) by decide +kernel) rfl
theorem x79_36 : WP d 79 36 [l0, l1, l2, l3] (vI y :: vI x :: st) h Q ↔ WP d 79 37 [l0, l1, l2, l3] (vI (zshl x y) :: st) h Q := wp_ishl (show (lcode 79)[36]? = some (.ishl) by decide +kernel)
theorem x79_37 : WP d 79 37 [l0, l1, l2, l3] st h Q ↔ WP d 79 38 [l0, l1, l2, l3] (vI (-1) :: st) h Q := wp_iconst (show (lcode 79)[37]? = some (.iconst (-1)) by decide +kernel)
theorem x79_38 : WP d 79 38 [l0, l1, l2, l3] (vI y :: vI x :: st) h Q ↔ WP d 79 39 [l0, l1, l2, l3] (vI (zxor x y) :: st) h Q := wp_ixor (show (lcode 79)[38]? = some (.ixor) by decide +kernel)
theorem x79_39 : WP d 79 39 [l0, l1, l2, l3] (vI y :: vI x :: st) h Q ↔ WP d 79 40 [l0, l1, l2, l3] (vI (zand x y) :: st) h Q := wp_iand (show (lcode 79)[39]? = some (.iand) by decide +kernel)
theorem x79_40 : WP d 79 40 [l0, l1, l2, l3] (vI x :: .ref a :: st) h Q ↔ pF (hRd h a) 7 3 (vI x) (fun c => WP d 79 41 [l0, l1, l2, l3] st (hWr h a c) Q) := wp_putfield (show (lcode 79)[40]? = some (.putfield 451) by decide +kernel)
theorem x79_41 : WP d 79 41 [l0, l1, l2, some (vI x)] st h Q ↔ WP d 79 42 [l0, l1, l2, some (vI x)] (vI x :: st) h Q := wp_iload (show (lcode 79)[41]? = some (.iload 3) by decide +kernel) rfl
theorem x79_42 : WP d 79 42 [l0, l1, l2, l3] [vI x] h Q ↔ Q (some (vI x)) h := wp_ireturn (show (lcode 79)[42]? = some (.ireturn) by decide +kernel)
-- 80: WakeOrder.hand
theorem x80_0 : WP d 80 0 [some (Value.ref a), l1, l2, l3] st h Q ↔ WP d 80 1 [some (Value.ref a), l1, l2, l3] (Value.ref a :: st) h Q := wp_aload (show (lcode 80)[0]? = some (.aload 0) by decide +kernel) rfl
theorem x80_1 : WP d 80 1 [l0, some (vI x), l2, l3] st h Q ↔ WP d 80 2 [l0, some (vI x), l2, l3] (vI x :: st) h Q := wp_iload (show (lcode 80)[1]? = some (.iload 1) by decide +kernel) rfl
theorem x80_2 : WP d 80 2 [l0, l1, l2, l3] (v1 :: v :: st) h Q ↔ (sh st ∧ CALL d 100 [v, v1] h (fun v h => WP d 80 3 [l0, l1, l2, l3] (v.toList ++ st) h Q)) := wp_call (n := 2) (show (lcode 80)[2]? = some (.invokestatic 100) by decide +kernel) (by decide +kernel) (by simp)
theorem x80_3 : WP d 80 3 [l0, l1, l2, l3] (vI x :: st) h Q ↔ ((wr x = 0 → WP d 80 8 [l0, l1, l2, l3] st h Q) ∧ (¬ (wr x = 0) → WP d 80 4 [l0, l1, l2, l3] st h Q)) := wp_if_eq (show (lcode 80)[3]? = some (.ifCond .eq 8) by decide +kernel)
theorem x80_4 : WP d 80 4 [some (Value.ref a), l1, l2, l3] st h Q ↔ WP d 80 5 [some (Value.ref a), l1, l2, l3] (Value.ref a :: st) h Q := wp_aload (show (lcode 80)[4]? = some (.aload 0) by decide +kernel) rfl
theorem x80_5 : WP d 80 5 [l0, l1, some (vI x), l3] st h Q ↔ WP d 80 6 [l0, l1, some (vI x), l3] (vI x :: st) h Q := wp_iload (show (lcode 80)[5]? = some (.iload 2) by decide +kernel) rfl
theorem x80_6 : WP d 80 6 [l0, l1, l2, l3] (v1 :: v :: st) h Q ↔ (sh st ∧ CALL d 99 [v, v1] h (fun v h => WP d 80 7 [l0, l1, l2, l3] (v.toList ++ st) h Q)) := wp_call (n := 2) (show (lcode 80)[6]? = some (.invokestatic 99) by decide +kernel) (by decide +kernel) (by simp)
theorem x80_7 : WP d 80 7 [l0, l1, l2, l3] (vI x :: st) h Q ↔ ((¬ wr x = 0 → WP d 80 10 [l0, l1, l2, l3] st h Q) ∧ (¬ (¬ wr x = 0) → WP d 80 8 [l0, l1, l2, l3] st h Q)) := wp_if_ne (show (lcode 80)[7]? = some (.ifCond .ne 10) by decide +kernel)
theorem x80_8 : WP d 80 8 [l0, l1, l2, l3] st h Q ↔ WP d 80 9 [l0, l1, l2, l3] (vI (-1000000001) :: st) h Q := wp_iconst (show (lcode 80)[8]? = some (.iconst (-1000000001)) by decide +kernel)
theorem x80_9 : WP d 80 9 [l0, l1, l2, l3] [vI x] h Q ↔ Q (some (vI x)) h := wp_ireturn (show (lcode 80)[9]? = some (.ireturn) by decide +kernel)
theorem x80_10 : WP d 80 10 [some (Value.ref a), l1, l2, l3] st h Q ↔ WP d 80 11 [some (Value.ref a), l1, l2, l3] (Value.ref a :: st) h Q := wp_aload (show (lcode 80)[10]? = some (.aload 0) by decide +kernel) rfl
theorem x80_11 : WP d 80 11 [l0, l1, l2, l3] (.ref a :: st) h Q ↔ gF (hRd h a) 10 4 (fun v => WP d 80 12 [l0, l1, l2, l3] (v :: st) h Q) := wp_getfield (show (lcode 80)[11]? = some (.getfield 644) by decide +kernel)
theorem x80_12 : WP d 80 12 [some (Value.ref a), l1, l2, l3] st h Q ↔ WP d 80 13 [some (Value.ref a), l1, l2, l3] (Value.ref a :: st) h Q := wp_aload (show (lcode 80)[12]? = some (.aload 0) by decide +kernel) rfl
theorem x80_13 : WP d 80 13 [l0, l1, l2, l3] (.ref a :: st) h Q ↔ gF (hRd h a) 10 3 (fun v => WP d 80 14 [l0, l1, l2, l3] (v :: st) h Q) := wp_getfield (show (lcode 80)[13]? = some (.getfield 643) by decide +kernel)
theorem x80_14 : WP d 80 14 [l0, l1, l2, l3] (v1 :: v :: st) h Q ↔ (sh st ∧ CALL d 22 [v, v1] h (fun v h => WP d 80 15 [l0, l1, l2, l3] (v.toList ++ st) h Q)) := wp_call (n := 2) (show (lcode 80)[14]? = some (.invokestatic 22) by decide +kernel) (by decide +kernel) (by simp)
theorem x80_15 : WP d 80 15 [some (Value.ref a), l1, l2, l3] st h Q ↔ WP d 80 16 [some (Value.ref a), l1, l2, l3] (Value.ref a :: st) h Q := wp_aload (show (lcode 80)[15]? = some (.aload 0) by decide +kernel) rfl
theorem x80_16 : WP d 80 16 [l0, l1, l2, l3] (.ref a :: st) h Q ↔ gF (hRd h a) 10 3 (fun v => WP d 80 17 [l0, l1, l2, l3] (v :: st) h Q) := wp_getfield (show (lcode 80)[16]? = some (.getfield 643) by decide +kernel)
theorem x80_17 : WP d 80 17 [l0, l1, l2, l3] (.ref a :: st) h Q ↔ gF (hRd h a) 7 2 (fun v => WP d 80 18 [l0, l1, l2, l3] (v :: st) h Q) := wp_getfield (show (lcode 80)[17]? = some (.getfield 450) by decide +kernel)
theorem x80_18 : WP d 80 18 [l0, some (vI x), l2, l3] st h Q ↔ WP d 80 19 [l0, some (vI x), l2, l3] (vI x :: st) h Q := wp_iload (show (lcode 80)[18]? = some (.iload 1) by decide +kernel) rfl
theorem x80_19 : WP d 80 19 [l0, l1, l2, l3] (vI x :: .ref a :: st) h Q ↔ ldA (hRd h a) x (fun v => WP d 80 20 [l0, l1, l2, l3] (v :: st) h Q) := wp_iaload (show (lcode 80)[19]? = some (.iaload) by decide +kernel)
theorem x80_20 : WP d 80 20 [l0, l1, l2, l3] (vI x :: st) h Q ↔ (nl l2 ∧ WP d 80 21 [l0, l1, l2, some (vI x)] st h Q) := wp_istore (show (lcode 80)[20]? = some (.istore 3) by decide +kernel) (Nat.le_of_ble_eq_true rfl)
theorem x80_21 : WP d 80 21 [some (Value.ref a), l1, l2, l3] st h Q ↔ WP d 80 22 [some (Value.ref a), l1, l2, l3] (Value.ref a :: st) h Q := wp_aload (show (lcode 80)[21]? = some (.aload 0) by decide +kernel) rfl
theorem x80_22 : WP d 80 22 [l0, l1, l2, l3] (.ref a :: st) h Q ↔ gF (hRd h a) 10 3 (fun v => WP d 80 23 [l0, l1, l2, l3] (v :: st) h Q) := wp_getfield (show (lcode 80)[22]? = some (.getfield 643) by decide +kernel)
theorem x80_23 : WP d 80 23 [l0, l1, l2, l3] (.ref a :: st) h Q ↔ gF (hRd h a) 7 2 (fun v => WP d 80 24 [l0, l1, l2, l3] (v :: st) h Q) := wp_getfield (show (lcode 80)[23]? = some (.getfield 450) by decide +kernel)
theorem x80_24 : WP d 80 24 [l0, some (vI x), l2, l3] st h Q ↔ WP d 80 25 [l0, some (vI x), l2, l3] (vI x :: st) h Q := wp_iload (show (lcode 80)[24]? = some (.iload 1) by decide +kernel) rfl
theorem x80_25 : WP d 80 25 [l0, l1, some (vI x), l3] st h Q ↔ WP d 80 26 [l0, l1, some (vI x), l3] (vI x :: st) h Q := wp_iload (show (lcode 80)[25]? = some (.iload 2) by decide +kernel) rfl
theorem x80_26 : WP d 80 26 [l0, l1, l2, l3] (vI y :: vI x :: .ref a :: st) h Q ↔ stA (hRd h a) a x (vI y) (fun c => WP d 80 27 [l0, l1, l2, l3] st (hWr h a c) Q) := wp_iastore (show (lcode 80)[26]? = some (.iastore) by decide +kernel)
theorem x80_27 : WP d 80 27 [l0, l1, l2, some (vI x)] st h Q ↔ WP d 80 28 [l0, l1, l2, some (vI x)] (vI x :: st) h Q := wp_iload (show (lcode 80)[27]? = some (.iload 3) by decide +kernel) rfl
theorem x80_28 : WP d 80 28 [l0, l1, l2, l3] [vI x] h Q ↔ Q (some (vI x)) h := wp_ireturn (show (lcode 80)[28]? = some (.ireturn) by decide +kernel)
-- 81: WakeOrder.dismiss
theorem x81_0 : WP d 81 0 [some (Value.ref a), l1] st h Q ↔ WP d 81 1 [some (Value.ref a), l1] (Value.ref a :: st) h Q := wp_aload (show (lcode 81)[0]? = some (.aload 0) by decide +kernel) rfl
theorem x81_1 : WP d 81 1 [l0, some (vI x)] st h Q ↔ WP d 81 2 [l0, some (vI x)] (vI x :: st) h Q := wp_iload (show (lcode 81)[1]? = some (.iload 1) by decide +kernel) rfl
theorem x81_2 : WP d 81 2 [l0, l1] (v1 :: v :: st) h Q ↔ (sh st ∧ CALL d 99 [v, v1] h (fun v h => WP d 81 3 [l0, l1] (v.toList ++ st) h Q)) := wp_call (n := 2) (show (lcode 81)[2]? = some (.invokestatic 99) by decide +kernel) (by decide +kernel) (by simp)
theorem x81_3 : WP d 81 3 [l0, l1] (vI x :: st) h Q ↔ ((¬ wr x = 0 → WP d 81 6 [l0, l1] st h Q) ∧ (¬ (¬ wr x = 0) → WP d 81 4 [l0, l1] st h Q)) := wp_if_ne (show (lcode 81)[3]? = some (.ifCond .ne 6) by decide +kernel)
theorem x81_4 : WP d 81 4 [l0, l1] st h Q ↔ WP d 81 5 [l0, l1] (vI (-1000000001) :: st) h Q := wp_iconst (show (lcode 81)[4]? = some (.iconst (-1000000001)) by decide +kernel)
theorem x81_5 : WP d 81 5 [l0, l1] [vI x] h Q ↔ Q (some (vI x)) h := wp_ireturn (show (lcode 81)[5]? = some (.ireturn) by decide +kernel)
theorem x81_6 : WP d 81 6 [some (Value.ref a), l1] st h Q ↔ WP d 81 7 [some (Value.ref a), l1] (Value.ref a :: st) h Q := wp_aload (show (lcode 81)[6]? = some (.aload 0) by decide +kernel) rfl
theorem x81_7 : WP d 81 7 [l0, l1] (.ref a :: st) h Q ↔ gF (hRd h a) 10 3 (fun v => WP d 81 8 [l0, l1] (v :: st) h Q) := wp_getfield (show (lcode 81)[7]? = some (.getfield 643) by decide +kernel)
theorem x81_8 : WP d 81 8 [l0, l1] (.ref a :: st) h Q ↔ gF (hRd h a) 7 0 (fun v => WP d 81 9 [l0, l1] (v :: st) h Q) := wp_getfield (show (lcode 81)[8]? = some (.getfield 448) by decide +kernel)
theorem x81_9 : WP d 81 9 [l0, some (vI x)] st h Q ↔ WP d 81 10 [l0, some (vI x)] (vI x :: st) h Q := wp_iload (show (lcode 81)[9]? = some (.iload 1) by decide +kernel) rfl
theorem x81_10 : WP d 81 10 [l0, l1] (v1 :: v :: st) h Q ↔ (sh st ∧ CALL d 45 [v, v1] h (fun v h => WP d 81 11 [l0, l1] (v.toList ++ st) h Q)) := wp_call (n := 2) (show (lcode 81)[10]? = some (.invokestatic 45) by decide +kernel) (by decide +kernel) (by simp)
theorem x81_11 : WP d 81 11 [l0, l1] st h Q ↔ WP d 81 12 [l0, l1] (vI (-1) :: st) h Q := wp_iconst (show (lcode 81)[11]? = some (.iconst (-1)) by decide +kernel)
theorem x81_12 : WP d 81 12 [l0, l1] (vI y :: vI x :: st) h Q ↔ ((¬ wr x = wr y → WP d 81 15 [l0, l1] st h Q) ∧ (¬ (¬ wr x = wr y) → WP d 81 13 [l0, l1] st h Q)) := wp_icmp_ne (show (lcode 81)[12]? = some (.if_icmp .ne 15) by decide +kernel)
theorem x81_13 : WP d 81 13 [l0, l1] st h Q ↔ WP d 81 14 [l0, l1] (vI (-1000000003) :: st) h Q := wp_iconst (show (lcode 81)[13]? = some (.iconst (-1000000003)) by decide +kernel)
theorem x81_14 : WP d 81 14 [l0, l1] [vI x] h Q ↔ Q (some (vI x)) h := wp_ireturn (show (lcode 81)[14]? = some (.ireturn) by decide +kernel)
theorem x81_15 : WP d 81 15 [some (Value.ref a), l1] st h Q ↔ WP d 81 16 [some (Value.ref a), l1] (Value.ref a :: st) h Q := wp_aload (show (lcode 81)[15]? = some (.aload 0) by decide +kernel) rfl
theorem x81_16 : WP d 81 16 [l0, l1] (.ref a :: st) h Q ↔ gF (hRd h a) 10 4 (fun v => WP d 81 17 [l0, l1] (v :: st) h Q) := wp_getfield (show (lcode 81)[16]? = some (.getfield 644) by decide +kernel)
theorem x81_17 : WP d 81 17 [some (Value.ref a), l1] st h Q ↔ WP d 81 18 [some (Value.ref a), l1] (Value.ref a :: st) h Q := wp_aload (show (lcode 81)[17]? = some (.aload 0) by decide +kernel) rfl
theorem x81_18 : WP d 81 18 [l0, l1] (.ref a :: st) h Q ↔ gF (hRd h a) 10 3 (fun v => WP d 81 19 [l0, l1] (v :: st) h Q) := wp_getfield (show (lcode 81)[18]? = some (.getfield 643) by decide +kernel)
theorem x81_19 : WP d 81 19 [l0, l1] (v1 :: v :: st) h Q ↔ (sh st ∧ CALL d 22 [v, v1] h (fun v h => WP d 81 20 [l0, l1] (v.toList ++ st) h Q)) := wp_call (n := 2) (show (lcode 81)[19]? = some (.invokestatic 22) by decide +kernel) (by decide +kernel) (by simp)
theorem x81_20 : WP d 81 20 [some (Value.ref a), l1] st h Q ↔ WP d 81 21 [some (Value.ref a), l1] (Value.ref a :: st) h Q := wp_aload (show (lcode 81)[20]? = some (.aload 0) by decide +kernel) rfl
theorem x81_21 : WP d 81 21 [l0, l1] (.ref a :: st) h Q ↔ gF (hRd h a) 10 3 (fun v => WP d 81 22 [l0, l1] (v :: st) h Q) := wp_getfield (show (lcode 81)[21]? = some (.getfield 643) by decide +kernel)
theorem x81_22 : WP d 81 22 [l0, l1] (.ref a :: st) h Q ↔ gF (hRd h a) 7 0 (fun v => WP d 81 23 [l0, l1] (v :: st) h Q) := wp_getfield (show (lcode 81)[22]? = some (.getfield 448) by decide +kernel)
theorem x81_23 : WP d 81 23 [l0, some (vI x)] st h Q ↔ WP d 81 24 [l0, some (vI x)] (vI x :: st) h Q := wp_iload (show (lcode 81)[23]? = some (.iload 1) by decide +kernel) rfl
theorem x81_24 : WP d 81 24 [l0, l1] (v1 :: v :: st) h Q ↔ (sh st ∧ CALL d 49 [v, v1] h (fun v h => WP d 81 25 [l0, l1] (v.toList ++ st) h Q)) := wp_call (n := 2) (show (lcode 81)[24]? = some (.invokestatic 49) by decide +kernel) (by decide +kernel) (by simp)
theorem x81_25 : WP d 81 25 [some (Value.ref a), l1] st h Q ↔ WP d 81 26 [some (Value.ref a), l1] (Value.ref a :: st) h Q := wp_aload (show (lcode 81)[25]? = some (.aload 0) by decide +kernel) rfl
theorem x81_26 : WP d 81 26 [l0, l1] (.ref a :: st) h Q ↔ gF (hRd h a) 10 3 (fun v => WP d 81 27 [l0, l1] (v :: st) h Q) := wp_getfield (show (lcode 81)[26]? = some (.getfield 643) by decide +kernel)
theorem x81_27 : WP d 81 27 [l0, l1] (.ref a :: st) h Q ↔ gF (hRd h a) 7 0 (fun v => WP d 81 28 [l0, l1] (v :: st) h Q) := wp_getfield (show (lcode 81)[27]? = some (.getfield 448) by decide +kernel)
theorem x81_28 : WP d 81 28 [l0, l1] (.ref a :: st) h Q ↔ gF (hRd h a) 6 1 (fun v => WP d 81 29 [l0, l1] (v :: st) h Q) := wp_getfield (show (lcode 81)[28]? = some (.getfield 385) by decide +kernel)
theorem x81_29 : WP d 81 29 [l0, l1] [vI x] h Q ↔ Q (some (vI x)) h := wp_ireturn (show (lcode 81)[29]? = some (.ireturn) by decide +kernel)
-- 82: WakeOrder.wake
theorem x82_0 : WP d 82 0 [some (Value.ref a), l1, l2, l3] st h Q ↔ WP d 82 1 [some (Value.ref a), l1, l2, l3] (Value.ref a :: st) h Q := wp_aload (show (lcode 82)[0]? = some (.aload 0) by decide +kernel) rfl
theorem x82_1 : WP d 82 1 [l0, some (vI x), l2, l3] st h Q ↔ WP d 82 2 [l0, some (vI x), l2, l3] (vI x :: st) h Q := wp_iload (show (lcode 82)[1]? = some (.iload 1) by decide +kernel) rfl
theorem x82_2 : WP d 82 2 [l0, l1, l2, l3] (v1 :: v :: st) h Q ↔ (sh st ∧ CALL d 99 [v, v1] h (fun v h => WP d 82 3 [l0, l1, l2, l3] (v.toList ++ st) h Q)) := wp_call (n := 2) (show (lcode 82)[2]? = some (.invokestatic 99) by decide +kernel) (by decide +kernel) (by simp)
theorem x82_3 : WP d 82 3 [l0, l1, l2, l3] (vI x :: st) h Q ↔ ((¬ wr x = 0 → WP d 82 6 [l0, l1, l2, l3] st h Q) ∧ (¬ (¬ wr x = 0) → WP d 82 4 [l0, l1, l2, l3] st h Q)) := wp_if_ne (show (lcode 82)[3]? = some (.ifCond .ne 6) by decide +kernel)
theorem x82_4 : WP d 82 4 [l0, l1, l2, l3] st h Q ↔ WP d 82 5 [l0, l1, l2, l3] (vI (-1000000001) :: st) h Q := wp_iconst (show (lcode 82)[4]? = some (.iconst (-1000000001)) by decide +kernel)
theorem x82_5 : WP d 82 5 [l0, l1, l2, l3] [vI x] h Q ↔ Q (some (vI x)) h := wp_ireturn (show (lcode 82)[5]? = some (.ireturn) by decide +kernel)
theorem x82_6 : WP d 82 6 [l0, l1, some (vI x), l3] st h Q ↔ WP d 82 7 [l0, l1, some (vI x), l3] (vI x :: st) h Q := wp_iload (show (lcode 82)[6]? = some (.iload 2) by decide +kernel) rfl
theorem x82_7 : WP d 82 7 [l0, l1, l2, l3] (vI x :: st) h Q ↔ ((wr x < 0 → WP d 82 11 [l0, l1, l2, l3] st h Q) ∧ (¬ (wr x < 0) → WP d 82 8 [l0, l1, l2, l3] st h Q)) := wp_if_lt (show (lcode 82)[7]? = some (.ifCond .lt 11) by decide +kernel)
theorem x82_8 : WP d 82 8 [l0, l1, some (vI x), l3] st h Q ↔ WP d 82 9 [l0, l1, some (vI x), l3] (vI x :: st) h Q := wp_iload (show (lcode 82)[8]? = some (.iload 2) by decide +kernel) rfl
theorem x82_9 : WP d 82 9 [l0, l1, l2, l3] st h Q ↔ WP d 82 10 [l0, l1, l2, l3] (vI 999 :: st) h Q := wp_iconst (show (lcode 82)[9]? = some (.iconst 999) by decide +kernel)
theorem x82_10 : WP d 82 10 [l0, l1, l2, l3] (vI y :: vI x :: st) h Q ↔ ((wr x ≤ wr y → WP d 82 13 [l0, l1, l2, l3] st h Q) ∧ (¬ (wr x ≤ wr y) → WP d 82 11 [l0, l1, l2, l3] st h Q)) := wp_icmp_le (show (lcode 82)[10]? = some (.if_icmp .le 13) by decide +kernel)
theorem x82_11 : WP d 82 11 [l0, l1, l2, l3] st h Q ↔ WP d 82 12 [l0, l1, l2, l3] (vI (-1000000002) :: st) h Q := wp_iconst (show (lcode 82)[11]? = some (.iconst (-1000000002)) by decide +kernel)
theorem x82_12 : WP d 82 12 [l0, l1, l2, l3] [vI x] h Q ↔ Q (some (vI x)) h := wp_ireturn (show (lcode 82)[12]? = some (.ireturn) by decide +kernel)
theorem x82_13 : WP d 82 13 [some (Value.ref a), l1, l2, l3] st h Q ↔ WP d 82 14 [some (Value.ref a), l1, l2, l3] (Value.ref a :: st) h Q := wp_aload (show (lcode 82)[13]? = some (.aload 0) by decide +kernel) rfl
theorem x82_14 : WP d 82 14 [l0, l1, l2, l3] (.ref a :: st) h Q ↔ gF (hRd h a) 10 4 (fun v => WP d 82 15 [l0, l1, l2, l3] (v :: st) h Q) := wp_getfield (show (lcode 82)[14]? = some (.getfield 644) by decide +kernel)
theorem x82_15 : WP d 82 15 [some (Value.ref a), l1, l2, l3] st h Q ↔ WP d 82 16 [some (Value.ref a), l1, l2, l3] (Value.ref a :: st) h Q := wp_aload (show (lcode 82)[15]? = some (.aload 0) by decide +kernel) rfl
theorem x82_16 : WP d 82 16 [l0, l1, l2, l3] (.ref a :: st) h Q ↔ gF (hRd h a) 10 3 (fun v => WP d 82 17 [l0, l1, l2, l3] (v :: st) h Q) := wp_getfield (show (lcode 82)[16]? = some (.getfield 643) by decide +kernel)
theorem x82_17 : WP d 82 17 [l0, l1, l2, l3] (v1 :: v :: st) h Q ↔ (sh st ∧ CALL d 22 [v, v1] h (fun v h => WP d 82 18 [l0, l1, l2, l3] (v.toList ++ st) h Q)) := wp_call (n := 2) (show (lcode 82)[17]? = some (.invokestatic 22) by decide +kernel) (by decide +kernel) (by simp)
theorem x82_18 : WP d 82 18 [some (Value.ref a), l1, l2, l3] st h Q ↔ WP d 82 19 [some (Value.ref a), l1, l2, l3] (Value.ref a :: st) h Q := wp_aload (show (lcode 82)[18]? = some (.aload 0) by decide +kernel) rfl
theorem x82_19 : WP d 82 19 [l0, l1, l2, l3] (.ref a :: st) h Q ↔ gF (hRd h a) 10 3 (fun v => WP d 82 20 [l0, l1, l2, l3] (v :: st) h Q) := wp_getfield (show (lcode 82)[19]? = some (.getfield 643) by decide +kernel)
theorem x82_20 : WP d 82 20 [l0, l1, l2, l3] (.ref a :: st) h Q ↔ gF (hRd h a) 7 1 (fun v => WP d 82 21 [l0, l1, l2, l3] (v :: st) h Q) := wp_getfield (show (lcode 82)[20]? = some (.getfield 449) by decide +kernel)
theorem x82_21 : WP d 82 21 [l0, some (vI x), l2, l3] st h Q ↔ WP d 82 22 [l0, some (vI x), l2, l3] (vI x :: st) h Q := wp_iload (show (lcode 82)[21]? = some (.iload 1) by decide +kernel) rfl
theorem x82_22 : WP d 82 22 [l0, l1, l2, l3] (vI x :: .ref a :: st) h Q ↔ ldA (hRd h a) x (fun v => WP d 82 23 [l0, l1, l2, l3] (v :: st) h Q) := wp_iaload (show (lcode 82)[22]? = some (.iaload) by decide +kernel)
theorem x82_23 : WP d 82 23 [l0, l1, l2, l3] (vI x :: st) h Q ↔ (nl l2 ∧ WP d 82 24 [l0, l1, l2, some (vI x)] st h Q) := wp_istore (show (lcode 82)[23]? = some (.istore 3) by decide +kernel) (Nat.le_of_ble_eq_true rfl)
theorem x82_24 : WP d 82 24 [some (Value.ref a), l1, l2, l3] st h Q ↔ WP d 82 25 [some (Value.ref a), l1, l2, l3] (Value.ref a :: st) h Q := wp_aload (show (lcode 82)[24]? = some (.aload 0) by decide +kernel) rfl
theorem x82_25 : WP d 82 25 [l0, l1, l2, l3] (.ref a :: st) h Q ↔ gF (hRd h a) 10 3 (fun v => WP d 82 26 [l0, l1, l2, l3] (v :: st) h Q) := wp_getfield (show (lcode 82)[25]? = some (.getfield 643) by decide +kernel)
theorem x82_26 : WP d 82 26 [l0, l1, l2, l3] (.ref a :: st) h Q ↔ gF (hRd h a) 7 1 (fun v => WP d 82 27 [l0, l1, l2, l3] (v :: st) h Q) := wp_getfield (show (lcode 82)[26]? = some (.getfield 449) by decide +kernel)
theorem x82_27 : WP d 82 27 [l0, some (vI x), l2, l3] st h Q ↔ WP d 82 28 [l0, some (vI x), l2, l3] (vI x :: st) h Q := wp_iload (show (lcode 82)[27]? = some (.iload 1) by decide +kernel) rfl
theorem x82_28 : WP d 82 28 [l0, l1, some (vI x), l3] st h Q ↔ WP d 82 29 [l0, l1, some (vI x), l3] (vI x :: st) h Q := wp_iload (show (lcode 82)[28]? = some (.iload 2) by decide +kernel) rfl
theorem x82_29 : WP d 82 29 [l0, l1, l2, l3] (vI y :: vI x :: .ref a :: st) h Q ↔ stA (hRd h a) a x (vI y) (fun c => WP d 82 30 [l0, l1, l2, l3] st (hWr h a c) Q) := wp_iastore (show (lcode 82)[29]? = some (.iastore) by decide +kernel)
theorem x82_30 : WP d 82 30 [l0, l1, l2, some (vI x)] st h Q ↔ WP d 82 31 [l0, l1, l2, some (vI x)] (vI x :: st) h Q := wp_iload (show (lcode 82)[30]? = some (.iload 3) by decide +kernel) rfl
theorem x82_31 : WP d 82 31 [l0, l1, l2, l3] [vI x] h Q ↔ Q (some (vI x)) h := wp_ireturn (show (lcode 82)[31]? = some (.ireturn) by decide +kernel)
-- 83: WakeOrder.drift
theorem x83_0 : WP d 83 0 [l0, some (vI x), l2] st h Q ↔ WP d 83 1 [l0, some (vI x), l2] (vI x :: st) h Q := wp_iload (show (lcode 83)[0]? = some (.iload 1) by decide +kernel) rfl
theorem x83_1 : WP d 83 1 [l0, l1, l2] st h Q ↔ WP d 83 2 [l0, l1, l2] (vI 1 :: st) h Q := wp_iconst (show (lcode 83)[1]? = some (.iconst 1) by decide +kernel)
theorem x83_2 : WP d 83 2 [l0, l1, l2] (vI y :: vI x :: st) h Q ↔ ((wr x < wr y → WP d 83 6 [l0, l1, l2] st h Q) ∧ (¬ (wr x < wr y) → WP d 83 3 [l0, l1, l2] st h Q)) := wp_icmp_lt (show (lcode 83)[2]? = some (.if_icmp .lt 6) by decide +kernel)
theorem x83_3 : WP d 83 3 [l0, some (vI x), l2] st h Q ↔ WP d 83 4 [l0, some (vI x), l2] (vI x :: st) h Q := wp_iload (show (lcode 83)[3]? = some (.iload 1) by decide +kernel) rfl
theorem x83_4 : WP d 83 4 [l0, l1, l2] st h Q ↔ WP d 83 5 [l0, l1, l2] (vI 40 :: st) h Q := wp_iconst (show (lcode 83)[4]? = some (.iconst 40) by decide +kernel)
theorem x83_5 : WP d 83 5 [l0, l1, l2] (vI y :: vI x :: st) h Q ↔ ((wr x ≤ wr y → WP d 83 8 [l0, l1, l2] st h Q) ∧ (¬ (wr x ≤ wr y) → WP d 83 6 [l0, l1, l2] st h Q)) := wp_icmp_le (show (lcode 83)[5]? = some (.if_icmp .le 8) by decide +kernel)
theorem x83_6 : WP d 83 6 [l0, l1, l2] st h Q ↔ WP d 83 7 [l0, l1, l2] (vI (-1000000002) :: st) h Q := wp_iconst (show (lcode 83)[6]? = some (.iconst (-1000000002)) by decide +kernel)
theorem x83_7 : WP d 83 7 [l0, l1, l2] [vI x] h Q ↔ Q (some (vI x)) h := wp_ireturn (show (lcode 83)[7]? = some (.ireturn) by decide +kernel)
theorem x83_8 : WP d 83 8 [some (Value.ref a), l1, l2] st h Q ↔ WP d 83 9 [some (Value.ref a), l1, l2] (Value.ref a :: st) h Q := wp_aload (show (lcode 83)[8]? = some (.aload 0) by decide +kernel) rfl
theorem x83_9 : WP d 83 9 [l0, l1, l2] (.ref a :: st) h Q ↔ gF (hRd h a) 10 2 (fun v => WP d 83 10 [l0, l1, l2] (v :: st) h Q) := wp_getfield (show (lcode 83)[9]? = some (.getfield 642) by decide +kernel)
theorem x83_10 : WP d 83 10 [l0, l1, l2] (.ref a :: st) h Q ↔ gF (hRd h a) 2 0 (fun v => WP d 83 11 [l0, l1, l2] (v :: st) h Q) := wp_getfield (show (lcode 83)[10]? = some (.getfield 128) by decide +kernel)
theorem x83_11 : WP d 83 11 [l0, l1, l2] (vI x :: st) h Q ↔ ((¬ wr x = 0 → WP d 83 14 [l0, l1, l2] st h Q) ∧ (¬ (¬ wr x = 0) → WP d 83 12 [l0, l1, l2] st h Q)) := wp_if_ne (show (lcode 83)[11]? = some (.ifCond .ne 14) by decide +kernel)
theorem x83_12 : WP d 83 12 [l0, l1, l2] st h Q ↔ WP d 83 13 [l0, l1, l2] (vI (-1000000003) :: st) h Q := wp_iconst (show (lcode 83)[12]? = some (.iconst (-1000000003)) by decide +kernel)
theorem x83_13 : WP d 83 13 [l0, l1, l2] [vI x] h Q ↔ Q (some (vI x)) h := wp_ireturn (show (lcode 83)[13]? = some (.ireturn) by decide +kernel)
theorem x83_14 : WP d 83 14 [some (Value.ref a), l1, l2] st h Q ↔ WP d 83 15 [some (Value.ref a), l1, l2] (Value.ref a :: st) h Q := wp_aload (show (lcode 83)[14]? = some (.aload 0) by decide +kernel) rfl
theorem x83_15 : WP d 83 15 [l0, l1, l2] (.ref a :: st) h Q ↔ gF (hRd h a) 10 3 (fun v => WP d 83 16 [l0, l1, l2] (v :: st) h Q) := wp_getfield (show (lcode 83)[15]? = some (.getfield 643) by decide +kernel)
theorem x83_16 : WP d 83 16 [l0, l1, l2] (.ref a :: st) h Q ↔ gF (hRd h a) 7 4 (fun v => WP d 83 17 [l0, l1, l2] (v :: st) h Q) := wp_getfield (show (lcode 83)[16]? = some (.getfield 452) by decide +kernel)
theorem x83_17 : WP d 83 17 [l0, l1, l2] st h Q ↔ WP d 83 18 [l0, l1, l2] (vI 9000 :: st) h Q := wp_iconst (show (lcode 83)[17]? = some (.iconst 9000) by decide +kernel)
theorem x83_18 : WP d 83 18 [l0, l1, l2] (vI y :: vI x :: st) h Q ↔ ((wr x ≤ wr y → WP d 83 21 [l0, l1, l2] st h Q) ∧ (¬ (wr x ≤ wr y) → WP d 83 19 [l0, l1, l2] st h Q)) := wp_icmp_le (show (lcode 83)[18]? = some (.if_icmp .le 21) by decide +kernel)
theorem x83_19 : WP d 83 19 [l0, l1, l2] st h Q ↔ WP d 83 20 [l0, l1, l2] (vI (-1000000004) :: st) h Q := wp_iconst (show (lcode 83)[19]? = some (.iconst (-1000000004)) by decide +kernel)
theorem x83_20 : WP d 83 20 [l0, l1, l2] [vI x] h Q ↔ Q (some (vI x)) h := wp_ireturn (show (lcode 83)[20]? = some (.ireturn) by decide +kernel)
theorem x83_21 : WP d 83 21 [some (Value.ref a), l1, l2] st h Q ↔ WP d 83 22 [some (Value.ref a), l1, l2] (Value.ref a :: st) h Q := wp_aload (show (lcode 83)[21]? = some (.aload 0) by decide +kernel) rfl
theorem x83_22 : WP d 83 22 [l0, l1, l2] (.ref a :: st) h Q ↔ gF (hRd h a) 10 4 (fun v => WP d 83 23 [l0, l1, l2] (v :: st) h Q) := wp_getfield (show (lcode 83)[22]? = some (.getfield 644) by decide +kernel)
theorem x83_23 : WP d 83 23 [some (Value.ref a), l1, l2] st h Q ↔ WP d 83 24 [some (Value.ref a), l1, l2] (Value.ref a :: st) h Q := wp_aload (show (lcode 83)[23]? = some (.aload 0) by decide +kernel) rfl
theorem x83_24 : WP d 83 24 [l0, l1, l2] (.ref a :: st) h Q ↔ gF (hRd h a) 10 3 (fun v => WP d 83 25 [l0, l1, l2] (v :: st) h Q) := wp_getfield (show (lcode 83)[24]? = some (.getfield 643) by decide +kernel)
theorem x83_25 : WP d 83 25 [l0, l1, l2] (v1 :: v :: st) h Q ↔ (sh st ∧ CALL d 22 [v, v1] h (fun v h => WP d 83 26 [l0, l1, l2] (v.toList ++ st) h Q)) := wp_call (n := 2) (show (lcode 83)[25]? = some (.invokestatic 22) by decide +kernel) (by decide +kernel) (by simp)
theorem x83_26 : WP d 83 26 [l0, l1, l2] st h Q ↔ WP d 83 27 [l0, l1, l2] (vI 0 :: st) h Q := wp_iconst (show (lcode 83)[26]? = some (.iconst 0) by decide +kernel)
theorem x83_27 : WP d 83 27 [l0, l1, l2] (vI x :: st) h Q ↔ (nl l1 ∧ WP d 83 28 [l0, l1, some (vI x)] st h Q) := wp_istore (show (lcode 83)[27]? = some (.istore 2) by decide +kernel) (Nat.le_of_ble_eq_true rfl)
theorem x83_28 : WP d 83 28 [l0, l1, l2] st h Q ↔ WPC d 83 29 [l0, l1, l2] st h Q := wp_nop (show (lcode 83)[28]? = some (.nop) by decide +kernel)
theorem x83_29 : WP d 83 29 [l0, l1, some (vI x)] st h Q ↔ WP d 83 30 [l0, l1, some (vI x)] (vI x :: st) h Q := wp_iload (show (lcode 83)[29]? = some (.iload 2) by decide +kernel) rfl
theorem x83_30 : WP d 83 30 [l0, some (vI x), l2] st h Q ↔ WP d 83 31 [l0, some (vI x), l2] (vI x :: st) h Q := wp_iload (show (lcode 83)[30]? = some (.iload 1) by decide +kernel) rfl
theorem x83_31 : WP d 83 31 [l0, l1, l2] (vI y :: vI x :: st) h Q ↔ ((wr y ≤ wr x → WP d 83 36 [l0, l1, l2] st h Q) ∧ (¬ (wr y ≤ wr x) → WP d 83 32 [l0, l1, l2] st h Q)) := wp_icmp_ge (show (lcode 83)[31]? = some (.if_icmp .ge 36) by decide +kernel)
theorem x83_32 : WP d 83 32 [some (Value.ref a), l1, l2] st h Q ↔ WP d 83 33 [some (Value.ref a), l1, l2] (Value.ref a :: st) h Q := wp_aload (show (lcode 83)[32]? = some (.aload 0) by decide +kernel) rfl
theorem x83_33 : WP d 83 33 [l0, l1, l2] (v :: st) h Q ↔ (sh st ∧ CALL d 104 [v] h (fun v h => WP d 83 34 [l0, l1, l2] (v.toList ++ st) h Q)) := wp_call (n := 1) (show (lcode 83)[33]? = some (.invokestatic 104) by decide +kernel) (by decide +kernel) (by simp)
theorem x83_34 : WP d 83 34 [l0, l1, some (vI x)] st h Q ↔ (nl l1 ∧ WP d 83 35 [l0, l1, some (vI (x + 1))] st h Q) := wp_iinc (show (lcode 83)[34]? = some (.iinc 2 1) by decide +kernel) rfl (Nat.le_of_ble_eq_true rfl)
theorem x83_35 : WP d 83 35 [l0, l1, l2] st h Q ↔ WP d 83 28 [l0, l1, l2] st h Q := wp_goto (show (lcode 83)[35]? = some (.goto 28) by decide +kernel)
theorem x83_36 : WP d 83 36 [some (Value.ref a), l1, l2] st h Q ↔ WP d 83 37 [some (Value.ref a), l1, l2] (Value.ref a :: st) h Q := wp_aload (show (lcode 83)[36]? = some (.aload 0) by decide +kernel) rfl
theorem x83_37 : WP d 83 37 [l0, l1, l2] (.ref a :: st) h Q ↔ gF (hRd h a) 10 3 (fun v => WP d 83 38 [l0, l1, l2] (v :: st) h Q) := wp_getfield (show (lcode 83)[37]? = some (.getfield 643) by decide +kernel)
theorem x83_38 : WP d 83 38 [l0, l1, l2] (v :: st) h Q ↔ (c1 v ∧ WP d 83 39 [l0, l1, l2] (v :: v :: st) h Q) := wp_dup (show (lcode 83)[38]? = some (.dup) by decide +kernel)
theorem x83_39 : WP d 83 39 [l0, l1, l2] (.ref a :: st) h Q ↔ gF (hRd h a) 7 4 (fun v => WP d 83 40 [l0, l1, l2] (v :: st) h Q) := wp_getfield (show (lcode 83)[39]? = some (.getfield 452) by decide +kernel)
theorem x83_40 : WP d 83 40 [l0, some (vI x), l2] st h Q ↔ WP d 83 41 [l0, some (vI x), l2] (vI x :: st) h Q := wp_iload (show (lcode 83)[40]? = some (.iload 1) by decide +kernel) rfl
theorem x83_41 : WP d 83 41 [l0, l1, l2] (vI y :: vI x :: st) h Q ↔ WP d 83 42 [l0, l1, l2] (vI (x + y) :: st) h Q := wp_iadd (show (lcode 83)[41]? = some (.iadd) by decide +kernel)
theorem x83_42 : WP d 83 42 [l0, l1, l2] (vI x :: .ref a :: st) h Q ↔ pF (hRd h a) 7 4 (vI x) (fun c => WP d 83 43 [l0, l1, l2] st (hWr h a c) Q) := wp_putfield (show (lcode 83)[42]? = some (.putfield 452) by decide +kernel)
theorem x83_43 : WP d 83 43 [some (Value.ref a), l1, l2] st h Q ↔ WP d 83 44 [some (Value.ref a), l1, l2] (Value.ref a :: st) h Q := wp_aload (show (lcode 83)[43]? = some (.aload 0) by decide +kernel) rfl
theorem x83_44 : WP d 83 44 [l0, l1, l2] (.ref a :: st) h Q ↔ gF (hRd h a) 10 3 (fun v => WP d 83 45 [l0, l1, l2] (v :: st) h Q) := wp_getfield (show (lcode 83)[44]? = some (.getfield 643) by decide +kernel)
theorem x83_45 : WP d 83 45 [l0, l1, l2] (.ref a :: st) h Q ↔ gF (hRd h a) 7 4 (fun v => WP d 83 46 [l0, l1, l2] (v :: st) h Q) := wp_getfield (show (lcode 83)[45]? = some (.getfield 452) by decide +kernel)
theorem x83_46 : WP d 83 46 [l0, l1, l2] [vI x] h Q ↔ Q (some (vI x)) h := wp_ireturn (show (lcode 83)[46]? = some (.ireturn) by decide +kernel)
-- 84: WakeOrder.undo
theorem x84_0 : WP d 84 0 [some (Value.ref a)] st h Q ↔ WP d 84 1 [some (Value.ref a)] (Value.ref a :: st) h Q := wp_aload (show (lcode 84)[0]? = some (.aload 0) by decide +kernel) rfl
theorem x84_1 : WP d 84 1 [l0] (.ref a :: st) h Q ↔ gF (hRd h a) 10 4 (fun v => WP d 84 2 [l0] (v :: st) h Q) := wp_getfield (show (lcode 84)[1]? = some (.getfield 644) by decide +kernel)
theorem x84_2 : WP d 84 2 [some (Value.ref a)] st h Q ↔ WP d 84 3 [some (Value.ref a)] (Value.ref a :: st) h Q := wp_aload (show (lcode 84)[2]? = some (.aload 0) by decide +kernel) rfl
theorem x84_3 : WP d 84 3 [l0] (.ref a :: st) h Q ↔ gF (hRd h a) 10 3 (fun v => WP d 84 4 [l0] (v :: st) h Q) := wp_getfield (show (lcode 84)[3]? = some (.getfield 643) by decide +kernel)
theorem x84_4 : WP d 84 4 [l0] (v1 :: v :: st) h Q ↔ (sh st ∧ CALL d 23 [v, v1] h (fun v h => WP d 84 5 [l0] (v.toList ++ st) h Q)) := wp_call (n := 2) (show (lcode 84)[4]? = some (.invokestatic 23) by decide +kernel) (by decide +kernel) (by simp)
theorem x84_5 : WP d 84 5 [l0] (vI x :: st) h Q ↔ ((wr x = 0 → WP d 84 10 [l0] st h Q) ∧ (¬ (wr x = 0) → WP d 84 6 [l0] st h Q)) := wp_if_eq (show (lcode 84)[5]? = some (.ifCond .eq 10) by decide +kernel)
theorem x84_6 : WP d 84 6 [some (Value.ref a)] st h Q ↔ WP d 84 7 [some (Value.ref a)] (Value.ref a :: st) h Q := wp_aload (show (lcode 84)[6]? = some (.aload 0) by decide +kernel) rfl
theorem x84_7 : WP d 84 7 [l0] (.ref a :: st) h Q ↔ gF (hRd h a) 10 4 (fun v => WP d 84 8 [l0] (v :: st) h Q) := wp_getfield (show (lcode 84)[7]? = some (.getfield 644) by decide +kernel)
theorem x84_8 : WP d 84 8 [l0] (.ref a :: st) h Q ↔ gF (hRd h a) 3 2 (fun v => WP d 84 9 [l0] (v :: st) h Q) := wp_getfield (show (lcode 84)[8]? = some (.getfield 194) by decide +kernel)
theorem x84_9 : WP d 84 9 [l0] st h Q ↔ WP d 84 11 [l0] st h Q := wp_goto (show (lcode 84)[9]? = some (.goto 11) by decide +kernel)
theorem x84_10 : WP d 84 10 [l0] st h Q ↔ WP d 84 11 [l0] (vI (-1000000003) :: st) h Q := wp_iconst (show (lcode 84)[10]? = some (.iconst (-1000000003)) by decide +kernel)
theorem x84_11 : WP d 84 11 [l0] [vI x] h Q ↔ Q (some (vI x)) h := wp_ireturn (show (lcode 84)[11]? = some (.ireturn) by decide +kernel)
-- 85: WakeOrder.raise
theorem x85_0 : WP d 85 0 [l0, some (vI x), l2, l3] st h Q ↔ WP d 85 1 [l0, some (vI x), l2, l3] (vI x :: st) h Q := wp_iload (show (lcode 85)[0]? = some (.iload 1) by decide +kernel) rfl
theorem x85_1 : WP d 85 1 [some (Value.ref a), l1, l2, l3] st h Q ↔ WP d 85 2 [some (Value.ref a), l1, l2, l3] (Value.ref a :: st) h Q := wp_aload (show (lcode 85)[1]? = some (.aload 0) by decide +kernel) rfl
theorem x85_2 : WP d 85 2 [l0, l1, l2, l3] (.ref a :: st) h Q ↔ gF (hRd h a) 10 2 (fun v => WP d 85 3 [l0, l1, l2, l3] (v :: st) h Q) := wp_getfield (show (lcode 85)[2]? = some (.getfield 642) by decide +kernel)
theorem x85_3 : WP d 85 3 [l0, l1, l2, l3] (.ref a :: st) h Q ↔ gF (hRd h a) 2 2 (fun v => WP d 85 4 [l0, l1, l2, l3] (v :: st) h Q) := wp_getfield (show (lcode 85)[3]? = some (.getfield 130) by decide +kernel)
theorem x85_4 : WP d 85 4 [l0, l1, l2, l3] (v :: st) h Q ↔ (sh st ∧ CALL d 101 [v] h (fun v h => WP d 85 5 [l0, l1, l2, l3] (v.toList ++ st) h Q)) := wp_call (n := 1) (show (lcode 85)[4]? = some (.invokestatic 101) by decide +kernel) (by decide +kernel) (by simp)
theorem x85_5 : WP d 85 5 [l0, l1, l2, l3] st h Q ↔ WP d 85 6 [l0, l1, l2, l3] (vI (-1) :: st) h Q := wp_iconst (show (lcode 85)[5]? = some (.iconst (-1)) by decide +kernel)
theorem x85_6 : WP d 85 6 [l0, l1, l2, l3] (vI y :: vI x :: st) h Q ↔ WP d 85 7 [l0, l1, l2, l3] (vI (zxor x y) :: st) h Q := wp_ixor (show (lcode 85)[6]? = some (.ixor) by decide +kernel)
theorem x85_7 : WP d 85 7 [l0, l1, l2, l3] (vI y :: vI x :: st) h Q ↔ WP d 85 8 [l0, l1, l2, l3] (vI (zand x y) :: st) h Q := wp_iand (show (lcode 85)[7]? = some (.iand) by decide +kernel)
theorem x85_8 : WP d 85 8 [l0, l1, l2, l3] (vI x :: st) h Q ↔ ((wr x = 0 → WP d 85 11 [l0, l1, l2, l3] st h Q) ∧ (¬ (wr x = 0) → WP d 85 9 [l0, l1, l2, l3] st h Q)) := wp_if_eq (show (lcode 85)[8]? = some (.ifCond .eq 11) by decide +kernel)
theorem x85_9 : WP d 85 9 [l0, l1, l2, l3] st h Q ↔ WP d 85 10 [l0, l1, l2, l3] (vI (-1000000001) :: st) h Q := wp_iconst (show (lcode 85)[9]? = some (.iconst (-1000000001)) by decide +kernel)
theorem x85_10 : WP d 85 10 [l0, l1, l2, l3] [vI x] h Q ↔ Q (some (vI x)) h := wp_ireturn (show (lcode 85)[10]? = some (.ireturn) by decide +kernel)
theorem x85_11 : WP d 85 11 [l0, l1, some (vI x), l3] st h Q ↔ WP d 85 12 [l0, l1, some (vI x), l3] (vI x :: st) h Q := wp_iload (show (lcode 85)[11]? = some (.iload 2) by decide +kernel) rfl
theorem x85_12 : WP d 85 12 [l0, l1, l2, l3] (vI x :: st) h Q ↔ ((wr x < 0 → WP d 85 16 [l0, l1, l2, l3] st h Q) ∧ (¬ (wr x < 0) → WP d 85 13 [l0, l1, l2, l3] st h Q)) := wp_if_lt (show (lcode 85)[12]? = some (.ifCond .lt 16) by decide +kernel)
theorem x85_13 : WP d 85 13 [l0, l1, some (vI x), l3] st h Q ↔ WP d 85 14 [l0, l1, some (vI x), l3] (vI x :: st) h Q := wp_iload (show (lcode 85)[13]? = some (.iload 2) by decide +kernel) rfl
theorem x85_14 : WP d 85 14 [l0, l1, l2, l3] st h Q ↔ WP d 85 15 [l0, l1, l2, l3] (vI 999 :: st) h Q := wp_iconst (show (lcode 85)[14]? = some (.iconst 999) by decide +kernel)
theorem x85_15 : WP d 85 15 [l0, l1, l2, l3] (vI y :: vI x :: st) h Q ↔ ((wr x ≤ wr y → WP d 85 18 [l0, l1, l2, l3] st h Q) ∧ (¬ (wr x ≤ wr y) → WP d 85 16 [l0, l1, l2, l3] st h Q)) := wp_icmp_le (show (lcode 85)[15]? = some (.if_icmp .le 18) by decide +kernel)
theorem x85_16 : WP d 85 16 [l0, l1, l2, l3] st h Q ↔ WP d 85 17 [l0, l1, l2, l3] (vI (-1000000002) :: st) h Q := wp_iconst (show (lcode 85)[16]? = some (.iconst (-1000000002)) by decide +kernel)
theorem x85_17 : WP d 85 17 [l0, l1, l2, l3] [vI x] h Q ↔ Q (some (vI x)) h := wp_ireturn (show (lcode 85)[17]? = some (.ireturn) by decide +kernel)
theorem x85_18 : WP d 85 18 [some (Value.ref a), l1, l2, l3] st h Q ↔ WP d 85 19 [some (Value.ref a), l1, l2, l3] (Value.ref a :: st) h Q := wp_aload (show (lcode 85)[18]? = some (.aload 0) by decide +kernel) rfl
theorem x85_19 : WP d 85 19 [l0, l1, l2, l3] (.ref a :: st) h Q ↔ gF (hRd h a) 10 6 (fun v => WP d 85 20 [l0, l1, l2, l3] (v :: st) h Q) := wp_getfield (show (lcode 85)[19]? = some (.getfield 646) by decide +kernel)
theorem x85_20 : WP d 85 20 [some (Value.ref a), l1, l2, l3] st h Q ↔ WP d 85 21 [some (Value.ref a), l1, l2, l3] (Value.ref a :: st) h Q := wp_aload (show (lcode 85)[20]? = some (.aload 0) by decide +kernel) rfl
theorem x85_21 : WP d 85 21 [l0, l1, l2, l3] (.ref a :: st) h Q ↔ gF (hRd h a) 10 1 (fun v => WP d 85 22 [l0, l1, l2, l3] (v :: st) h Q) := wp_getfield (show (lcode 85)[21]? = some (.getfield 641) by decide +kernel)
theorem x85_22 : WP d 85 22 [l0, some (vI x), l2, l3] st h Q ↔ WP d 85 23 [l0, some (vI x), l2, l3] (vI x :: st) h Q := wp_iload (show (lcode 85)[22]? = some (.iload 1) by decide +kernel) rfl
theorem x85_23 : WP d 85 23 [l0, l1, some (vI x), l3] st h Q ↔ WP d 85 24 [l0, l1, some (vI x), l3] (vI x :: st) h Q := wp_iload (show (lcode 85)[23]? = some (.iload 2) by decide +kernel) rfl
theorem x85_24 : WP d 85 24 [l0, l1, l2, l3] (q3 :: q2 :: q1 :: q0 :: st) h Q ↔ (sh st ∧ CALL d 58 [q0, q1, q2, q3] h (fun v h => WP d 85 25 [l0, l1, l2, l3] (v.toList ++ st) h Q)) := wp_call (n := 4) (show (lcode 85)[24]? = some (.invokestatic 58) by decide +kernel) (by decide +kernel) (by simp)
theorem x85_25 : WP d 85 25 [some (Value.ref a), l1, l2, l3] st h Q ↔ WP d 85 26 [some (Value.ref a), l1, l2, l3] (Value.ref a :: st) h Q := wp_aload (show (lcode 85)[25]? = some (.aload 0) by decide +kernel) rfl
theorem x85_26 : WP d 85 26 [l0, l1, l2, l3] (.ref a :: st) h Q ↔ gF (hRd h a) 10 6 (fun v => WP d 85 27 [l0, l1, l2, l3] (v :: st) h Q) := wp_getfield (show (lcode 85)[26]? = some (.getfield 646) by decide +kernel)
theorem x85_27 : WP d 85 27 [l0, l1, l2, l3] (.ref a :: st) h Q ↔ gF (hRd h a) 8 2 (fun v => WP d 85 28 [l0, l1, l2, l3] (v :: st) h Q) := wp_getfield (show (lcode 85)[27]? = some (.getfield 514) by decide +kernel)
theorem x85_28 : WP d 85 28 [l0, l1, l2, l3] st h Q ↔ WP d 85 29 [l0, l1, l2, l3] (vI (-1) :: st) h Q := wp_iconst (show (lcode 85)[28]? = some (.iconst (-1)) by decide +kernel)
theorem x85_29 : WP d 85 29 [l0, l1, l2, l3] (vI y :: vI x :: st) h Q ↔ ((¬ wr x = wr y → WP d 85 32 [l0, l1, l2, l3] st h Q) ∧ (¬ (¬ wr x = wr y) → WP d 85 30 [l0, l1, l2, l3] st h Q)) := wp_icmp_ne (show (lcode 85)[29]? = some (.if_icmp .ne 32) by decide +kernel)
theorem x85_30 : WP d 85 30 [l0, l1, l2, l3] st h Q ↔ WP d 85 31 [l0, l1, l2, l3] (vI (-1) :: st) h Q := wp_iconst (show (lcode 85)[30]? = some (.iconst (-1)) by decide +kernel)
theorem x85_31 : WP d 85 31 [l0, l1, l2, l3] [vI x] h Q ↔ Q (some (vI x)) h := wp_ireturn (show (lcode 85)[31]? = some (.ireturn) by decide +kernel)
theorem x85_32 : WP d 85 32 [l0, l1, l2, some (vI x)] st h Q ↔ WP d 85 33 [l0, l1, l2, some (vI x)] (vI x :: st) h Q := wp_iload (show (lcode 85)[32]? = some (.iload 3) by decide +kernel) rfl
theorem x85_33 : WP d 85 33 [l0, l1, l2, l3] st h Q ↔ WP d 85 34 [l0, l1, l2, l3] (vI (-1) :: st) h Q := wp_iconst (show (lcode 85)[33]? = some (.iconst (-1)) by decide +kernel)
theorem x85_34 : WP d 85 34 [l0, l1, l2, l3] (vI y :: vI x :: st) h Q ↔ ((¬ wr x = wr y → WP d 85 39 [l0, l1, l2, l3] st h Q) ∧ (¬ (¬ wr x = wr y) → WP d 85 35 [l0, l1, l2, l3] st h Q)) := wp_icmp_ne (show (lcode 85)[34]? = some (.if_icmp .ne 39) by decide +kernel)
theorem x85_35 : WP d 85 35 [some (Value.ref a), l1, l2, l3] st h Q ↔ WP d 85 36 [some (Value.ref a), l1, l2, l3] (Value.ref a :: st) h Q := wp_aload (show (lcode 85)[35]? = some (.aload 0) by decide +kernel) rfl
theorem x85_36 : WP d 85 36 [l0, l1, l2, l3] (.ref a :: st) h Q ↔ gF (hRd h a) 10 6 (fun v => WP d 85 37 [l0, l1, l2, l3] (v :: st) h Q) := wp_getfield (show (lcode 85)[36]? = some (.getfield 646) by decide +kernel)
theorem x85_37 : WP d 85 37 [l0, l1, l2, l3] (.ref a :: st) h Q ↔ gF (hRd h a) 8 2 (fun v => WP d 85 38 [l0, l1, l2, l3] (v :: st) h Q) := wp_getfield (show (lcode 85)[37]? = some (.getfield 514) by decide +kernel)
theorem x85_38 : WP d 85 38 [l0, l1, l2, l3] st h Q ↔ WP d 85 44 [l0, l1, l2, l3] st h Q := wp_goto (show (lcode 85)[38]? = some (.goto 44) by decide +kernel)
theorem x85_39 : WP d 85 39 [some (Value.ref a), l1, l2, l3] st h Q ↔ WP d 85 40 [some (Value.ref a), l1, l2, l3] (Value.ref a :: st) h Q := wp_aload (show (lcode 85)[39]? = some (.aload 0) by decide +kernel) rfl
theorem x85_40 : WP d 85 40 [l0, l1, l2, l3] (.ref a :: st) h Q ↔ gF (hRd h a) 10 6 (fun v => WP d 85 41 [l0, l1, l2, l3] (v :: st) h Q) := wp_getfield (show (lcode 85)[40]? = some (.getfield 646) by decide +kernel)
theorem x85_41 : WP d 85 41 [l0, l1, l2, l3] (.ref a :: st) h Q ↔ gF (hRd h a) 8 1 (fun v => WP d 85 42 [l0, l1, l2, l3] (v :: st) h Q) := wp_getfield (show (lcode 85)[41]? = some (.getfield 513) by decide +kernel)
theorem x85_42 : WP d 85 42 [l0, l1, l2, some (vI x)] st h Q ↔ WP d 85 43 [l0, l1, l2, some (vI x)] (vI x :: st) h Q := wp_iload (show (lcode 85)[42]? = some (.iload 3) by decide +kernel) rfl
theorem x85_43 : WP d 85 43 [l0, l1, l2, l3] (v1 :: v :: st) h Q ↔ (sh st ∧ CALL d 44 [v, v1] h (fun v h => WP d 85 44 [l0, l1, l2, l3] (v.toList ++ st) h Q)) := wp_call (n := 2) (show (lcode 85)[43]? = some (.invokestatic 44) by decide +kernel) (by decide +kernel) (by simp)
theorem x85_44 : WP d 85 44 [l0, l1, l2, l3] [vI x] h Q ↔ Q (some (vI x)) h := wp_ireturn (show (lcode 85)[44]? = some (.ireturn) by decide +kernel)
-- 86: WakeOrder.leastHarm
theorem x86_0 : WP d 86 0 [some (Value.ref a), l1, l2] st h Q ↔ WP d 86 1 [some (Value.ref a), l1, l2] (Value.ref a :: st) h Q := wp_aload (show (lcode 86)[0]? = some (.aload 0) by decide +kernel) rfl
theorem x86_1 : WP d 86 1 [l0, some (vI x), l2] st h Q ↔ WP d 86 2 [l0, some (vI x), l2] (vI x :: st) h Q := wp_iload (show (lcode 86)[1]? = some (.iload 1) by decide +kernel) rfl
theorem x86_2 : WP d 86 2 [l0, l1, l2] (v1 :: v :: st) h Q ↔ (sh st ∧ CALL d 99 [v, v1] h (fun v h => WP d 86 3 [l0, l1, l2] (v.toList ++ st) h Q)) := wp_call (n := 2) (show (lcode 86)[2]? = some (.invokestatic 99) by decide +kernel) (by decide +kernel) (by simp)
theorem x86_3 : WP d 86 3 [l0, l1, l2] (vI x :: st) h Q ↔ ((¬ wr x = 0 → WP d 86 6 [l0, l1, l2] st h Q) ∧ (¬ (¬ wr x = 0) → WP d 86 4 [l0, l1, l2] st h Q)) := wp_if_ne (show (lcode 86)[3]? = some (.ifCond .ne 6) by decide +kernel)
theorem x86_4 : WP d 86 4 [l0, l1, l2] st h Q ↔ WP d 86 5 [l0, l1, l2] (vI (-1000000001) :: st) h Q := wp_iconst (show (lcode 86)[4]? = some (.iconst (-1000000001)) by decide +kernel)
theorem x86_5 : WP d 86 5 [l0, l1, l2] [vI x] h Q ↔ Q (some (vI x)) h := wp_ireturn (show (lcode 86)[5]? = some (.ireturn) by decide +kernel)
theorem x86_6 : WP d 86 6 [l0, l1, some (vI x)] st h Q ↔ WP d 86 7 [l0, l1, some (vI x)] (vI x :: st) h Q := wp_iload (show (lcode 86)[6]? = some (.iload 2) by decide +kernel) rfl
theorem x86_7 : WP d 86 7 [l0, l1, l2] (vI x :: st) h Q ↔ ((wr x = 0 → WP d 86 13 [l0, l1, l2] st h Q) ∧ (¬ (wr x = 0) → WP d 86 8 [l0, l1, l2] st h Q)) := wp_if_eq (show (lcode 86)[7]? = some (.ifCond .eq 13) by decide +kernel)
theorem x86_8 : WP d 86 8 [l0, l1, some (vI x)] st h Q ↔ WP d 86 9 [l0, l1, some (vI x)] (vI x :: st) h Q := wp_iload (show (lcode 86)[8]? = some (.iload 2) by decide +kernel) rfl
theorem x86_9 : WP d 86 9 [l0, l1, l2] st h Q ↔ WP d 86 10 [l0, l1, l2] (vI 1 :: st) h Q := wp_iconst (show (lcode 86)[9]? = some (.iconst 1) by decide +kernel)
theorem x86_10 : WP d 86 10 [l0, l1, l2] (vI y :: vI x :: st) h Q ↔ ((wr x = wr y → WP d 86 13 [l0, l1, l2] st h Q) ∧ (¬ (wr x = wr y) → WP d 86 11 [l0, l1, l2] st h Q)) := wp_icmp_eq (show (lcode 86)[10]? = some (.if_icmp .eq 13) by decide +kernel)
theorem x86_11 : WP d 86 11 [l0, l1, l2] st h Q ↔ WP d 86 12 [l0, l1, l2] (vI (-1000000002) :: st) h Q := wp_iconst (show (lcode 86)[11]? = some (.iconst (-1000000002)) by decide +kernel)
theorem x86_12 : WP d 86 12 [l0, l1, l2] [vI x] h Q ↔ Q (some (vI x)) h := wp_ireturn (show (lcode 86)[12]? = some (.ireturn) by decide +kernel)
theorem x86_13 : WP d 86 13 [some (Value.ref a), l1, l2] st h Q ↔ WP d 86 14 [some (Value.ref a), l1, l2] (Value.ref a :: st) h Q := wp_aload (show (lcode 86)[13]? = some (.aload 0) by decide +kernel) rfl
theorem x86_14 : WP d 86 14 [l0, l1, l2] (.ref a :: st) h Q ↔ gF (hRd h a) 10 6 (fun v => WP d 86 15 [l0, l1, l2] (v :: st) h Q) := wp_getfield (show (lcode 86)[14]? = some (.getfield 646) by decide +kernel)
theorem x86_15 : WP d 86 15 [some (Value.ref a), l1, l2] st h Q ↔ WP d 86 16 [some (Value.ref a), l1, l2] (Value.ref a :: st) h Q := wp_aload (show (lcode 86)[15]? = some (.aload 0) by decide +kernel) rfl
theorem x86_16 : WP d 86 16 [l0, l1, l2] (.ref a :: st) h Q ↔ gF (hRd h a) 10 1 (fun v => WP d 86 17 [l0, l1, l2] (v :: st) h Q) := wp_getfield (show (lcode 86)[16]? = some (.getfield 641) by decide +kernel)
theorem x86_17 : WP d 86 17 [l0, some (vI x), l2] st h Q ↔ WP d 86 18 [l0, some (vI x), l2] (vI x :: st) h Q := wp_iload (show (lcode 86)[17]? = some (.iload 1) by decide +kernel) rfl
theorem x86_18 : WP d 86 18 [l0, l1, l2] (v2 :: v1 :: v :: st) h Q ↔ (sh st ∧ CALL d 60 [v, v1, v2] h (fun v h => WP d 86 19 [l0, l1, l2] (v.toList ++ st) h Q)) := wp_call (n := 3) (show (lcode 86)[18]? = some (.invokestatic 60) by decide +kernel) (by decide +kernel) (by simp)
theorem x86_19 : WP d 86 19 [l0, l1, some (vI x)] st h Q ↔ WP d 86 20 [l0, l1, some (vI x)] (vI x :: st) h Q := wp_iload (show (lcode 86)[19]? = some (.iload 2) by decide +kernel) rfl
theorem x86_20 : WP d 86 20 [l0, l1, l2] (vI x :: st) h Q ↔ ((¬ wr x = 0 → WP d 86 25 [l0, l1, l2] st h Q) ∧ (¬ (¬ wr x = 0) → WP d 86 21 [l0, l1, l2] st h Q)) := wp_if_ne (show (lcode 86)[20]? = some (.ifCond .ne 25) by decide +kernel)
theorem x86_21 : WP d 86 21 [some (Value.ref a), l1, l2] st h Q ↔ WP d 86 22 [some (Value.ref a), l1, l2] (Value.ref a :: st) h Q := wp_aload (show (lcode 86)[21]? = some (.aload 0) by decide +kernel) rfl
theorem x86_22 : WP d 86 22 [l0, l1, l2] (.ref a :: st) h Q ↔ gF (hRd h a) 10 6 (fun v => WP d 86 23 [l0, l1, l2] (v :: st) h Q) := wp_getfield (show (lcode 86)[22]? = some (.getfield 646) by decide +kernel)
theorem x86_23 : WP d 86 23 [l0, l1, l2] (.ref a :: st) h Q ↔ gF (hRd h a) 8 3 (fun v => WP d 86 24 [l0, l1, l2] (v :: st) h Q) := wp_getfield (show (lcode 86)[23]? = some (.getfield 515) by decide +kernel)
theorem x86_24 : WP d 86 24 [l0, l1, l2] st h Q ↔ WP d 86 28 [l0, l1, l2] st h Q := wp_goto (show (lcode 86)[24]? = some (.goto 28) by decide +kernel)
theorem x86_25 : WP d 86 25 [some (Value.ref a), l1, l2] st h Q ↔ WP d 86 26 [some (Value.ref a), l1, l2] (Value.ref a :: st) h Q := wp_aload (show (lcode 86)[25]? = some (.aload 0) by decide +kernel) rfl
theorem x86_26 : WP d 86 26 [l0, l1, l2] (.ref a :: st) h Q ↔ gF (hRd h a) 10 6 (fun v => WP d 86 27 [l0, l1, l2] (v :: st) h Q) := wp_getfield (show (lcode 86)[26]? = some (.getfield 646) by decide +kernel)
theorem x86_27 : WP d 86 27 [l0, l1, l2] (.ref a :: st) h Q ↔ gF (hRd h a) 8 4 (fun v => WP d 86 28 [l0, l1, l2] (v :: st) h Q) := wp_getfield (show (lcode 86)[27]? = some (.getfield 516) by decide +kernel)
theorem x86_28 : WP d 86 28 [l0, l1, l2] [vI x] h Q ↔ Q (some (vI x)) h := wp_ireturn (show (lcode 86)[28]? = some (.ireturn) by decide +kernel)
-- 87: WakeOrder.bread
theorem x87_0 : WP d 87 0 [some (Value.ref a), l1, l2] st h Q ↔ WP d 87 1 [some (Value.ref a), l1, l2] (Value.ref a :: st) h Q := wp_aload (show (lcode 87)[0]? = some (.aload 0) by decide +kernel) rfl
theorem x87_1 : WP d 87 1 [l0, some (vI x), l2] st h Q ↔ WP d 87 2 [l0, some (vI x), l2] (vI x :: st) h Q := wp_iload (show (lcode 87)[1]? = some (.iload 1) by decide +kernel) rfl
theorem x87_2 : WP d 87 2 [l0, l1, l2] (v1 :: v :: st) h Q ↔ (sh st ∧ CALL d 100 [v, v1] h (fun v h => WP d 87 3 [l0, l1, l2] (v.toList ++ st) h Q)) := wp_call (n := 2) (show (lcode 87)[2]? = some (.invokestatic 100) by decide +kernel) (by decide +kernel) (by simp)
theorem x87_3 : WP d 87 3 [l0, l1, l2] (vI x :: st) h Q ↔ ((¬ wr x = 0 → WP d 87 6 [l0, l1, l2] st h Q) ∧ (¬ (¬ wr x = 0) → WP d 87 4 [l0, l1, l2] st h Q)) := wp_if_ne (show (lcode 87)[3]? = some (.ifCond .ne 6) by decide +kernel)
theorem x87_4 : WP d 87 4 [l0, l1, l2] st h Q ↔ WP d 87 5 [l0, l1, l2] (vI (-1000000001) :: st) h Q := wp_iconst (show (lcode 87)[4]? = some (.iconst (-1000000001)) by decide +kernel)
theorem x87_5 : WP d 87 5 [l0, l1, l2] [vI x] h Q ↔ Q (some (vI x)) h := wp_ireturn (show (lcode 87)[5]? = some (.ireturn) by decide +kernel)
theorem x87_6 : WP d 87 6 [some (Value.ref a), l1, l2] st h Q ↔ WP d 87 7 [some (Value.ref a), l1, l2] (Value.ref a :: st) h Q := wp_aload (show (lcode 87)[6]? = some (.aload 0) by decide +kernel) rfl
theorem x87_7 : WP d 87 7 [l0, l1, l2] (.ref a :: st) h Q ↔ gF (hRd h a) 10 1 (fun v => WP d 87 8 [l0, l1, l2] (v :: st) h Q) := wp_getfield (show (lcode 87)[7]? = some (.getfield 641) by decide +kernel)
theorem x87_8 : WP d 87 8 [l0, l1, l2] (v :: st) h Q ↔ (sh st ∧ CALL d 4 [v] h (fun v h => WP d 87 9 [l0, l1, l2] (v.toList ++ st) h Q)) := wp_call (n := 1) (show (lcode 87)[8]? = some (.invokestatic 4) by decide +kernel) (by decide +kernel) (by simp)
theorem x87_9 : WP d 87 9 [some (Value.ref a), l1, l2] st h Q ↔ WP d 87 10 [some (Value.ref a), l1, l2] (Value.ref a :: st) h Q := wp_aload (show (lcode 87)[9]? = some (.aload 0) by decide +kernel) rfl
theorem x87_10 : WP d 87 10 [l0, l1, l2] (.ref a :: st) h Q ↔ gF (hRd h a) 10 1 (fun v => WP d 87 11 [l0, l1, l2] (v :: st) h Q) := wp_getfield (show (lcode 87)[10]? = some (.getfield 641) by decide +kernel)
theorem x87_11 : WP d 87 11 [some (Value.ref a), l1, l2] st h Q ↔ WP d 87 12 [some (Value.ref a), l1, l2] (Value.ref a :: st) h Q := wp_aload (show (lcode 87)[11]? = some (.aload 0) by decide +kernel) rfl
theorem x87_12 : WP d 87 12 [l0, l1, l2] (.ref a :: st) h Q ↔ gF (hRd h a) 10 1 (fun v => WP d 87 13 [l0, l1, l2] (v :: st) h Q) := wp_getfield (show (lcode 87)[12]? = some (.getfield 641) by decide +kernel)
theorem x87_13 : WP d 87 13 [l0, l1, l2] (.ref a :: st) h Q ↔ gF (hRd h a) 1 3 (fun v => WP d 87 14 [l0, l1, l2] (v :: st) h Q) := wp_getfield (show (lcode 87)[13]? = some (.getfield 67) by decide +kernel)
theorem x87_14 : WP d 87 14 [l0, some (vI x), l2] st h Q ↔ WP d 87 15 [l0, some (vI x), l2] (vI x :: st) h Q := wp_iload (show (lcode 87)[14]? = some (.iload 1) by decide +kernel) rfl
theorem x87_15 : WP d 87 15 [l0, l1, l2] (vI x :: .ref a :: st) h Q ↔ ldA (hRd h a) x (fun v => WP d 87 16 [l0, l1, l2] (v :: st) h Q) := wp_iaload (show (lcode 87)[15]? = some (.iaload) by decide +kernel)
theorem x87_16 : WP d 87 16 [l0, l1, l2] (v1 :: v :: st) h Q ↔ (sh st ∧ CALL d 10 [v, v1] h (fun v h => WP d 87 17 [l0, l1, l2] (v.toList ++ st) h Q)) := wp_call (n := 2) (show (lcode 87)[16]? = some (.invokestatic 10) by decide +kernel) (by decide +kernel) (by simp)
theorem x87_17 : WP d 87 17 [l0, l1, l2] (vI x :: st) h Q ↔ (nl l1 ∧ WP d 87 18 [l0, l1, some (vI x)] st h Q) := wp_istore (show (lcode 87)[17]? = some (.istore 2) by decide +kernel) (Nat.le_of_ble_eq_true rfl)
theorem x87_18 : WP d 87 18 [some (Value.ref a), l1, l2] st h Q ↔ WP d 87 19 [some (Value.ref a), l1, l2] (Value.ref a :: st) h Q := wp_aload (show (lcode 87)[18]? = some (.aload 0) by decide +kernel) rfl
theorem x87_19 : WP d 87 19 [l0, l1, l2] (.ref a :: st) h Q ↔ gF (hRd h a) 10 1 (fun v => WP d 87 20 [l0, l1, l2] (v :: st) h Q) := wp_getfield (show (lcode 87)[19]? = some (.getfield 641) by decide +kernel)
theorem x87_20 : WP d 87 20 [some (Value.ref a), l1, l2] st h Q ↔ WP d 87 21 [some (Value.ref a), l1, l2] (Value.ref a :: st) h Q := wp_aload (show (lcode 87)[20]? = some (.aload 0) by decide +kernel) rfl
theorem x87_21 : WP d 87 21 [l0, l1, l2] (.ref a :: st) h Q ↔ gF (hRd h a) 10 3 (fun v => WP d 87 22 [l0, l1, l2] (v :: st) h Q) := wp_getfield (show (lcode 87)[21]? = some (.getfield 643) by decide +kernel)
theorem x87_22 : WP d 87 22 [l0, l1, l2] (.ref a :: st) h Q ↔ gF (hRd h a) 7 0 (fun v => WP d 87 23 [l0, l1, l2] (v :: st) h Q) := wp_getfield (show (lcode 87)[22]? = some (.getfield 448) by decide +kernel)
theorem x87_23 : WP d 87 23 [l0, l1, l2] st h Q ↔ WP d 87 24 [l0, l1, l2] (vI 63 :: st) h Q := wp_iconst (show (lcode 87)[23]? = some (.iconst 63) by decide +kernel)
theorem x87_24 : WP d 87 24 [l0, l1, l2] (v2 :: v1 :: v :: st) h Q ↔ (sh st ∧ CALL d 5 [v, v1, v2] h (fun v h => WP d 87 25 [l0, l1, l2] (v.toList ++ st) h Q)) := wp_call (n := 3) (show (lcode 87)[24]? = some (.invokestatic 5) by decide +kernel) (by decide +kernel) (by simp)
theorem x87_25 : WP d 87 25 [l0, l1, some (vI x)] st h Q ↔ WP d 87 26 [l0, l1, some (vI x)] (vI x :: st) h Q := wp_iload (show (lcode 87)[25]? = some (.iload 2) by decide +kernel) rfl
theorem x87_26 : WP d 87 26 [some (Value.ref a), l1, l2] st h Q ↔ WP d 87 27 [some (Value.ref a), l1, l2] (Value.ref a :: st) h Q := wp_aload (show (lcode 87)[26]? = some (.aload 0) by decide +kernel) rfl
theorem x87_27 : WP d 87 27 [l0, l1, l2] (.ref a :: st) h Q ↔ gF (hRd h a) 10 1 (fun v => WP d 87 28 [l0, l1, l2] (v :: st) h Q) := wp_getfield (show (lcode 87)[27]? = some (.getfield 641) by decide +kernel)
theorem x87_28 : WP d 87 28 [some (Value.ref a), l1, l2] st h Q ↔ WP d 87 29 [some (Value.ref a), l1, l2] (Value.ref a :: st) h Q := wp_aload (show (lcode 87)[28]? = some (.aload 0) by decide +kernel) rfl
theorem x87_29 : WP d 87 29 [l0, l1, l2] (.ref a :: st) h Q ↔ gF (hRd h a) 10 1 (fun v => WP d 87 30 [l0, l1, l2] (v :: st) h Q) := wp_getfield (show (lcode 87)[29]? = some (.getfield 641) by decide +kernel)
theorem x87_30 : WP d 87 30 [l0, l1, l2] (.ref a :: st) h Q ↔ gF (hRd h a) 1 3 (fun v => WP d 87 31 [l0, l1, l2] (v :: st) h Q) := wp_getfield (show (lcode 87)[30]? = some (.getfield 67) by decide +kernel)
theorem x87_31 : WP d 87 31 [l0, some (vI x), l2] st h Q ↔ WP d 87 32 [l0, some (vI x), l2] (vI x :: st) h Q := wp_iload (show (lcode 87)[31]? = some (.iload 1) by decide +kernel) rfl
theorem x87_32 : WP d 87 32 [l0, l1, l2] (vI x :: .ref a :: st) h Q ↔ ldA (hRd h a) x (fun v => WP d 87 33 [l0, l1, l2] (v :: st) h Q) := wp_iaload (show (lcode 87)[32]? = some (.iaload) by decide +kernel)
theorem x87_33 : WP d 87 33 [l0, l1, l2] (v1 :: v :: st) h Q ↔ (sh st ∧ CALL d 10 [v, v1] h (fun v h => WP d 87 34 [l0, l1, l2] (v.toList ++ st) h Q)) := wp_call (n := 2) (show (lcode 87)[33]? = some (.invokestatic 10) by decide +kernel) (by decide +kernel) (by simp)
theorem x87_34 : WP d 87 34 [l0, l1, l2] (vI y :: vI x :: st) h Q ↔ WP d 87 35 [l0, l1, l2] (vI (x - y) :: st) h Q := wp_isub (show (lcode 87)[34]? = some (.isub) by decide +kernel)
theorem x87_35 : WP d 87 35 [l0, l1, l2] [vI x] h Q ↔ Q (some (vI x)) h := wp_ireturn (show (lcode 87)[35]? = some (.ireturn) by decide +kernel)
-- 88: WakeOrder.free
theorem x88_0 : WP d 88 0 [l0, some (vI x), l2] st h Q ↔ WP d 88 1 [l0, some (vI x), l2] (vI x :: st) h Q := wp_iload (show (lcode 88)[0]? = some (.iload 1) by decide +kernel) rfl
theorem x88_1 : WP d 88 1 [l0, l1, l2] (vI x :: st) h Q ↔ ((wr x = 0 → WP d 88 7 [l0, l1, l2] st h Q) ∧ (¬ (wr x = 0) → WP d 88 2 [l0, l1, l2] st h Q)) := wp_if_eq (show (lcode 88)[1]? = some (.ifCond .eq 7) by decide +kernel)
theorem x88_2 : WP d 88 2 [l0, some (vI x), l2] st h Q ↔ WP d 88 3 [l0, some (vI x), l2] (vI x :: st) h Q := wp_iload (show (lcode 88)[2]? = some (.iload 1) by decide +kernel) rfl
theorem x88_3 : WP d 88 3 [l0, l1, l2] st h Q ↔ WP d 88 4 [l0, l1, l2] (vI 1 :: st) h Q := wp_iconst (show (lcode 88)[3]? = some (.iconst 1) by decide +kernel)
theorem x88_4 : WP d 88 4 [l0, l1, l2] (vI y :: vI x :: st) h Q ↔ ((wr x = wr y → WP d 88 7 [l0, l1, l2] st h Q) ∧ (¬ (wr x = wr y) → WP d 88 5 [l0, l1, l2] st h Q)) := wp_icmp_eq (show (lcode 88)[4]? = some (.if_icmp .eq 7) by decide +kernel)
theorem x88_5 : WP d 88 5 [l0, l1, l2] st h Q ↔ WP d 88 6 [l0, l1, l2] (vI (-1000000002) :: st) h Q := wp_iconst (show (lcode 88)[5]? = some (.iconst (-1000000002)) by decide +kernel)
theorem x88_6 : WP d 88 6 [l0, l1, l2] [vI x] h Q ↔ Q (some (vI x)) h := wp_ireturn (show (lcode 88)[6]? = some (.ireturn) by decide +kernel)
theorem x88_7 : WP d 88 7 [some (Value.ref a), l1, l2] st h Q ↔ WP d 88 8 [some (Value.ref a), l1, l2] (Value.ref a :: st) h Q := wp_aload (show (lcode 88)[7]? = some (.aload 0) by decide +kernel) rfl
theorem x88_8 : WP d 88 8 [l0, l1, l2] (.ref a :: st) h Q ↔ gF (hRd h a) 10 6 (fun v => WP d 88 9 [l0, l1, l2] (v :: st) h Q) := wp_getfield (show (lcode 88)[8]? = some (.getfield 646) by decide +kernel)
theorem x88_9 : WP d 88 9 [some (Value.ref a), l1, l2] st h Q ↔ WP d 88 10 [some (Value.ref a), l1, l2] (Value.ref a :: st) h Q := wp_aload (show (lcode 88)[9]? = some (.aload 0) by decide +kernel) rfl
theorem x88_10 : WP d 88 10 [l0, l1, l2] (.ref a :: st) h Q ↔ gF (hRd h a) 10 1 (fun v => WP d 88 11 [l0, l1, l2] (v :: st) h Q) := wp_getfield (show (lcode 88)[10]? = some (.getfield 641) by decide +kernel)
theorem x88_11 : WP d 88 11 [l0, l1, l2] (v1 :: v :: st) h Q ↔ (sh st ∧ CALL d 61 [v, v1] h (fun v h => WP d 88 12 [l0, l1, l2] (v.toList ++ st) h Q)) := wp_call (n := 2) (show (lcode 88)[11]? = some (.invokestatic 61) by decide +kernel) (by decide +kernel) (by simp)
theorem x88_12 : WP d 88 12 [l0, l1, l2] (vI x :: st) h Q ↔ (nl l1 ∧ WP d 88 13 [l0, l1, some (vI x)] st h Q) := wp_istore (show (lcode 88)[12]? = some (.istore 2) by decide +kernel) (Nat.le_of_ble_eq_true rfl)
theorem x88_13 : WP d 88 13 [l0, some (vI x), l2] st h Q ↔ WP d 88 14 [l0, some (vI x), l2] (vI x :: st) h Q := wp_iload (show (lcode 88)[13]? = some (.iload 1) by decide +kernel) rfl
theorem x88_14 : WP d 88 14 [l0, l1, l2] (vI x :: st) h Q ↔ ((¬ wr x = 0 → WP d 88 18 [l0, l1, l2] st h Q) ∧ (¬ (¬ wr x = 0) → WP d 88 15 [l0, l1, l2] st h Q)) := wp_if_ne (show (lcode 88)[14]? = some (.ifCond .ne 18) by decide +kernel)
theorem x88_15 : WP d 88 15 [l0, l1, some (vI x)] st h Q ↔ WP d 88 16 [l0, l1, some (vI x)] (vI x :: st) h Q := wp_iload (show (lcode 88)[15]? = some (.iload 2) by decide +kernel) rfl
theorem x88_16 : WP d 88 16 [l0, l1, l2] (v :: st) h Q ↔ (sh st ∧ CALL d 180 [v] h (fun v h => WP d 88 17 [l0, l1, l2] (v.toList ++ st) h Q)) := wp_call (n := 1) (show (lcode 88)[16]? = some (.invokestatic 180) by decide +kernel) (by decide +kernel) (by simp)
theorem x88_17 : WP d 88 17 [l0, l1, l2] st h Q ↔ WP d 88 19 [l0, l1, l2] st h Q := wp_goto (show (lcode 88)[17]? = some (.goto 19) by decide +kernel)
theorem x88_18 : WP d 88 18 [l0, l1, some (vI x)] st h Q ↔ WP d 88 19 [l0, l1, some (vI x)] (vI x :: st) h Q := wp_iload (show (lcode 88)[18]? = some (.iload 2) by decide +kernel) rfl
theorem x88_19 : WP d 88 19 [l0, l1, l2] [vI x] h Q ↔ Q (some (vI x)) h := wp_ireturn (show (lcode 88)[19]? = some (.ireturn) by decide +kernel)
-- 89: WakeOrder.sleeps
theorem x89_0 : WP d 89 0 [l0, some (vI x), l2, l3, l4, l5] st h Q ↔ WP d 89 1 [l0, some (vI x), l2, l3, l4, l5] (vI x :: st) h Q := wp_iload (show (lcode 89)[0]? = some (.iload 1) by decide +kernel) rfl
theorem x89_1 : WP d 89 1 [l0, l1, l2, l3, l4, l5] (vI x :: st) h Q ↔ ((wr x < 0 → WP d 89 10 [l0, l1, l2, l3, l4, l5] st h Q) ∧ (¬ (wr x < 0) → WP d 89 2 [l0, l1, l2, l3, l4, l5] st h Q)) := wp_if_lt (show (lcode 89)[1]? = some (.ifCond .lt 10) by decide +kernel)
theorem x89_2 : WP d 89 2 [l0, some (vI x), l2, l3, l4, l5] st h Q ↔ WP d 89 3 [l0, some (vI x), l2, l3, l4, l5] (vI x :: st) h Q := wp_iload (show (lcode 89)[2]? = some (.iload 1) by decide +kernel) rfl
theorem x89_3 : WP d 89 3 [l0, l1, l2, l3, l4, l5] st h Q ↔ WP d 89 4 [l0, l1, l2, l3, l4, l5] (vI 60 :: st) h Q := wp_iconst (show (lcode 89)[3]? = some (.iconst 60) by decide +kernel)
theorem x89_4 : WP d 89 4 [l0, l1, l2, l3, l4, l5] (vI y :: vI x :: st) h Q ↔ ((wr y < wr x → WP d 89 10 [l0, l1, l2, l3, l4, l5] st h Q) ∧ (¬ (wr y < wr x) → WP d 89 5 [l0, l1, l2, l3, l4, l5] st h Q)) := wp_icmp_gt (show (lcode 89)[4]? = some (.if_icmp .gt 10) by decide +kernel)
theorem x89_5 : WP d 89 5 [l0, l1, some (vI x), l3, l4, l5] st h Q ↔ WP d 89 6 [l0, l1, some (vI x), l3, l4, l5] (vI x :: st) h Q := wp_iload (show (lcode 89)[5]? = some (.iload 2) by decide +kernel) rfl
theorem x89_6 : WP d 89 6 [l0, l1, l2, l3, l4, l5] (vI x :: st) h Q ↔ ((wr x < 0 → WP d 89 10 [l0, l1, l2, l3, l4, l5] st h Q) ∧ (¬ (wr x < 0) → WP d 89 7 [l0, l1, l2, l3, l4, l5] st h Q)) := wp_if_lt (show (lcode 89)[6]? = some (.ifCond .lt 10) by decide +kernel)
theorem x89_7 : WP d 89 7 [l0, l1, some (vI x), l3, l4, l5] st h Q ↔ WP d 89 8 [l0, l1, some (vI x), l3, l4, l5] (vI x :: st) h Q := wp_iload (show (lcode 89)[7]? = some (.iload 2) by decide +kernel) rfl
theorem x89_8 : WP d 89 8 [l0, l1, l2, l3, l4, l5] st h Q ↔ WP d 89 9 [l0, l1, l2, l3, l4, l5] (vI 100 :: st) h Q := wp_iconst (show (lcode 89)[8]? = some (.iconst 100) by decide +kernel)
theorem x89_9 : WP d 89 9 [l0, l1, l2, l3, l4, l5] (vI y :: vI x :: st) h Q ↔ ((wr x ≤ wr y → WP d 89 12 [l0, l1, l2, l3, l4, l5] st h Q) ∧ (¬ (wr x ≤ wr y) → WP d 89 10 [l0, l1, l2, l3, l4, l5] st h Q)) := wp_icmp_le (show (lcode 89)[9]? = some (.if_icmp .le 12) by decide +kernel)
theorem x89_10 : WP d 89 10 [l0, l1, l2, l3, l4, l5] st h Q ↔ WP d 89 11 [l0, l1, l2, l3, l4, l5] (vI (-1000000002) :: st) h Q := wp_iconst (show (lcode 89)[10]? = some (.iconst (-1000000002)) by decide +kernel)
theorem x89_11 : WP d 89 11 [l0, l1, l2, l3, l4, l5] [vI x] h Q ↔ Q (some (vI x)) h := wp_ireturn (show (lcode 89)[11]? = some (.ireturn) by decide +kernel)
theorem x89_12 : WP d 89 12 [l0, l1, l2, l3, l4, l5] st h Q ↔ WP d 89 13 [l0, l1, l2, l3, l4, l5] (vL 1000000000 :: st) h Q := wp_lconst (show (lcode 89)[12]? = some (.jsr_w 1000000000) by decide +kernel)
theorem x89_13 : WP d 89 13 [l0, l1, l2, l3, l4, l5] (vL x :: st) h Q ↔ (nl l2 ∧ WP d 89 14 [l0, l1, l2, some (vL x), none, l5] st h Q) := wp_lstore (show (lcode 89)[13]? = some (.lstore 3) by decide +kernel) (Nat.le_of_ble_eq_true rfl)
theorem x89_14 : WP d 89 14 [l0, l1, l2, l3, l4, l5] st h Q ↔ WP d 89 15 [l0, l1, l2, l3, l4, l5] (vI 0 :: st) h Q := wp_iconst (show (lcode 89)[14]? = some (.iconst 0) by decide +kernel)
theorem x89_15 : WP d 89 15 [l0, l1, l2, l3, l4, l5] (vI x :: st) h Q ↔ (nl l4 ∧ WP d 89 16 [l0, l1, l2, l3, l4, some (vI x)] st h Q) := wp_istore (show (lcode 89)[15]? = some (.istore 5) by decide +kernel) (Nat.le_of_ble_eq_true rfl)
theorem x89_16 : WP d 89 16 [l0, l1, l2, l3, l4, l5] st h Q ↔ WPC d 89 17 [l0, l1, l2, l3, l4, l5] st h Q := wp_nop (show (lcode 89)[16]? = some (.nop) by decide +kernel)
theorem x89_17 : WP d 89 17 [l0, l1, l2, l3, l4, some (vI x)] st h Q ↔ WP d 89 18 [l0, l1, l2, l3, l4, some (vI x)] (vI x :: st) h Q := wp_iload (show (lcode 89)[17]? = some (.iload 5) by decide +kernel) rfl
theorem x89_18 : WP d 89 18 [l0, some (vI x), l2, l3, l4, l5] st h Q ↔ WP d 89 19 [l0, some (vI x), l2, l3, l4, l5] (vI x :: st) h Q := wp_iload (show (lcode 89)[18]? = some (.iload 1) by decide +kernel) rfl
theorem x89_19 : WP d 89 19 [l0, l1, l2, l3, l4, l5] (vI y :: vI x :: st) h Q ↔ ((wr y ≤ wr x → WP d 89 31 [l0, l1, l2, l3, l4, l5] st h Q) ∧ (¬ (wr y ≤ wr x) → WP d 89 20 [l0, l1, l2, l3, l4, l5] st h Q)) := wp_icmp_ge (show (lcode 89)[19]? = some (.if_icmp .ge 31) by decide +kernel)
theorem x89_20 : WP d 89 20 [l0, l1, l2, some (vL x), l4, l5] st h Q ↔ WP d 89 21 [l0, l1, l2, some (vL x), l4, l5] (vL x :: st) h Q := wp_lload (show (lcode 89)[20]? = some (.lload 3) by decide +kernel) rfl
theorem x89_21 : WP d 89 21 [l0, l1, l2, l3, l4, l5] st h Q ↔ WP d 89 22 [l0, l1, l2, l3, l4, l5] (vI 100 :: st) h Q := wp_iconst (show (lcode 89)[21]? = some (.iconst 100) by decide +kernel)
theorem x89_22 : WP d 89 22 [l0, l1, some (vI x), l3, l4, l5] st h Q ↔ WP d 89 23 [l0, l1, some (vI x), l3, l4, l5] (vI x :: st) h Q := wp_iload (show (lcode 89)[22]? = some (.iload 2) by decide +kernel) rfl
theorem x89_23 : WP d 89 23 [l0, l1, l2, l3, l4, l5] (vI y :: vI x :: st) h Q ↔ WP d 89 24 [l0, l1, l2, l3, l4, l5] (vI (x - y) :: st) h Q := wp_isub (show (lcode 89)[23]? = some (.isub) by decide +kernel)
theorem x89_24 : WP d 89 24 [l0, l1, l2, l3, l4, l5] (vI x :: st) h Q ↔ WP d 89 25 [l0, l1, l2, l3, l4, l5] (vL (wr x) :: st) h Q := wp_i2l (show (lcode 89)[24]? = some (.i2l) by decide +kernel)
theorem x89_25 : WP d 89 25 [l0, l1, l2, l3, l4, l5] (vL y :: vL x :: st) h Q ↔ WP d 89 26 [l0, l1, l2, l3, l4, l5] (vL (x * y) :: st) h Q := wp_lmul (show (lcode 89)[25]? = some (.lmul) by decide +kernel)
theorem x89_26 : WP d 89 26 [l0, l1, l2, l3, l4, l5] st h Q ↔ WP d 89 27 [l0, l1, l2, l3, l4, l5] (vL 100 :: st) h Q := wp_lconst (show (lcode 89)[26]? = some (.jsr_w 100) by decide +kernel)
theorem x89_27 : WP d 89 27 [l0, l1, l2, l3, l4, l5] (vL y :: vL x :: st) h Q ↔ (¬ wl y = 0 ∧ WP d 89 28 [l0, l1, l2, l3, l4, l5] (vL (zldiv x y) :: st) h Q) := wp_ldiv (show (lcode 89)[27]? = some (.ldiv) by decide +kernel)
theorem x89_28 : WP d 89 28 [l0, l1, l2, l3, l4, l5] (vL x :: st) h Q ↔ (nl l2 ∧ WP d 89 29 [l0, l1, l2, some (vL x), none, l5] st h Q) := wp_lstore (show (lcode 89)[28]? = some (.lstore 3) by decide +kernel) (Nat.le_of_ble_eq_true rfl)
theorem x89_29 : WP d 89 29 [l0, l1, l2, l3, l4, some (vI x)] st h Q ↔ (nl l4 ∧ WP d 89 30 [l0, l1, l2, l3, l4, some (vI (x + 1))] st h Q) := wp_iinc (show (lcode 89)[29]? = some (.iinc 5 1) by decide +kernel) rfl (Nat.le_of_ble_eq_true rfl)
theorem x89_30 : WP d 89 30 [l0, l1, l2, l3, l4, l5] st h Q ↔ WP d 89 16 [l0, l1, l2, l3, l4, l5] st h Q := wp_goto (show (lcode 89)[30]? = some (.goto 16) by decide +kernel)
theorem x89_31 : WP d 89 31 [l0, l1, l2, some (vL x), l4, l5] st h Q ↔ WP d 89 32 [l0, l1, l2, some (vL x), l4, l5] (vL x :: st) h Q := wp_lload (show (lcode 89)[31]? = some (.lload 3) by decide +kernel) rfl
theorem x89_32 : WP d 89 32 [l0, l1, l2, l3, l4, l5] (vL x :: st) h Q ↔ WP d 89 33 [l0, l1, l2, l3, l4, l5] (vI x :: st) h Q := wp_l2i (show (lcode 89)[32]? = some (.l2i) by decide +kernel)
theorem x89_33 : WP d 89 33 [l0, l1, l2, l3, l4, l5] [vI x] h Q ↔ Q (some (vI x)) h := wp_ireturn (show (lcode 89)[33]? = some (.ireturn) by decide +kernel)
-- 90: WakeOrder.see
theorem x90_0 : WP d 90 0 [some (Value.ref a), l1, l2] st h Q ↔ WP d 90 1 [some (Value.ref a), l1, l2] (Value.ref a :: st) h Q := wp_aload (show (lcode 90)[0]? = some (.aload 0) by decide +kernel) rfl
theorem x90_1 : WP d 90 1 [l0, some (vI x), l2] st h Q ↔ WP d 90 2 [l0, some (vI x), l2] (vI x :: st) h Q := wp_iload (show (lcode 90)[1]? = some (.iload 1) by decide +kernel) rfl
theorem x90_2 : WP d 90 2 [l0, l1, l2] (v1 :: v :: st) h Q ↔ (sh st ∧ CALL d 99 [v, v1] h (fun v h => WP d 90 3 [l0, l1, l2] (v.toList ++ st) h Q)) := wp_call (n := 2) (show (lcode 90)[2]? = some (.invokestatic 99) by decide +kernel) (by decide +kernel) (by simp)
theorem x90_3 : WP d 90 3 [l0, l1, l2] (vI x :: st) h Q ↔ ((wr x = 0 → WP d 90 11 [l0, l1, l2] st h Q) ∧ (¬ (wr x = 0) → WP d 90 4 [l0, l1, l2] st h Q)) := wp_if_eq (show (lcode 90)[3]? = some (.ifCond .eq 11) by decide +kernel)
theorem x90_4 : WP d 90 4 [some (Value.ref a), l1, l2] st h Q ↔ WP d 90 5 [some (Value.ref a), l1, l2] (Value.ref a :: st) h Q := wp_aload (show (lcode 90)[4]? = some (.aload 0) by decide +kernel) rfl
theorem x90_5 : WP d 90 5 [l0, l1, some (vI x)] st h Q ↔ WP d 90 6 [l0, l1, some (vI x)] (vI x :: st) h Q := wp_iload (show (lcode 90)[5]? = some (.iload 2) by decide +kernel) rfl
theorem x90_6 : WP d 90 6 [l0, l1, l2] (v1 :: v :: st) h Q ↔ (sh st ∧ CALL d 99 [v, v1] h (fun v h => WP d 90 7 [l0, l1, l2] (v.toList ++ st) h Q)) := wp_call (n := 2) (show (lcode 90)[6]? = some (.invokestatic 99) by decide +kernel) (by decide +kernel) (by simp)
theorem x90_7 : WP d 90 7 [l0, l1, l2] (vI x :: st) h Q ↔ ((wr x = 0 → WP d 90 11 [l0, l1, l2] st h Q) ∧ (¬ (wr x = 0) → WP d 90 8 [l0, l1, l2] st h Q)) := wp_if_eq (show (lcode 90)[7]? = some (.ifCond .eq 11) by decide +kernel)
theorem x90_8 : WP d 90 8 [l0, some (vI x), l2] st h Q ↔ WP d 90 9 [l0, some (vI x), l2] (vI x :: st) h Q := wp_iload (show (lcode 90)[8]? = some (.iload 1) by decide +kernel) rfl
theorem x90_9 : WP d 90 9 [l0, l1, some (vI x)] st h Q ↔ WP d 90 10 [l0, l1, some (vI x)] (vI x :: st) h Q := wp_iload (show (lcode 90)[9]? = some (.iload 2) by decide +kernel) rfl
theorem x90_10 : WP d 90 10 [l0, l1, l2] (vI y :: vI x :: st) h Q ↔ ((¬ wr x = wr y → WP d 90 13 [l0, l1, l2] st h Q) ∧ (¬ (¬ wr x = wr y) → WP d 90 11 [l0, l1, l2] st h Q)) := wp_icmp_ne (show (lcode 90)[10]? = some (.if_icmp .ne 13) by decide +kernel)
theorem x90_11 : WP d 90 11 [l0, l1, l2] st h Q ↔ WP d 90 12 [l0, l1, l2] (vI (-1000000001) :: st) h Q := wp_iconst (show (lcode 90)[11]? = some (.iconst (-1000000001)) by decide +kernel)
theorem x90_12 : WP d 90 12 [l0, l1, l2] [vI x] h Q ↔ Q (some (vI x)) h := wp_ireturn (show (lcode 90)[12]? = some (.ireturn) by decide +kernel)
theorem x90_13 : WP d 90 13 [some (Value.ref a), l1, l2] st h Q ↔ WP d 90 14 [some (Value.ref a), l1, l2] (Value.ref a :: st) h Q := wp_aload (show (lcode 90)[13]? = some (.aload 0) by decide +kernel) rfl
theorem x90_14 : WP d 90 14 [l0, l1, l2] (.ref a :: st) h Q ↔ gF (hRd h a) 10 7 (fun v => WP d 90 15 [l0, l1, l2] (v :: st) h Q) := wp_getfield (show (lcode 90)[14]? = some (.getfield 647) by decide +kernel)
theorem x90_15 : WP d 90 15 [l0, some (vI x), l2] st h Q ↔ WP d 90 16 [l0, some (vI x), l2] (vI x :: st) h Q := wp_iload (show (lcode 90)[15]? = some (.iload 1) by decide +kernel) rfl
theorem x90_16 : WP d 90 16 [l0, l1, some (vI x)] st h Q ↔ WP d 90 17 [l0, l1, some (vI x)] (vI x :: st) h Q := wp_iload (show (lcode 90)[16]? = some (.iload 2) by decide +kernel) rfl
theorem x90_17 : WP d 90 17 [l0, l1, l2] (v2 :: v1 :: v :: st) h Q ↔ (sh st ∧ CALL d 64 [v, v1, v2] h (fun v h => WP d 90 18 [l0, l1, l2] (v.toList ++ st) h Q)) := wp_call (n := 3) (show (lcode 90)[17]? = some (.invokestatic 64) by decide +kernel) (by decide +kernel) (by simp)
theorem x90_18 : WP d 90 18 [l0, l1, l2] (vI x :: st) h Q ↔ ((wr x = 0 → WP d 90 23 [l0, l1, l2] st h Q) ∧ (¬ (wr x = 0) → WP d 90 19 [l0, l1, l2] st h Q)) := wp_if_eq (show (lcode 90)[18]? = some (.ifCond .eq 23) by decide +kernel)
theorem x90_19 : WP d 90 19 [some (Value.ref a), l1, l2] st h Q ↔ WP d 90 20 [some (Value.ref a), l1, l2] (Value.ref a :: st) h Q := wp_aload (show (lcode 90)[19]? = some (.aload 0) by decide +kernel) rfl
theorem x90_20 : WP d 90 20 [l0, l1, l2] (.ref a :: st) h Q ↔ gF (hRd h a) 10 7 (fun v => WP d 90 21 [l0, l1, l2] (v :: st) h Q) := wp_getfield (show (lcode 90)[20]? = some (.getfield 647) by decide +kernel)
theorem x90_21 : WP d 90 21 [l0, l1, l2] (.ref a :: st) h Q ↔ gF (hRd h a) 9 2 (fun v => WP d 90 22 [l0, l1, l2] (v :: st) h Q) := wp_getfield (show (lcode 90)[21]? = some (.getfield 578) by decide +kernel)
theorem x90_22 : WP d 90 22 [l0, l1, l2] st h Q ↔ WP d 90 24 [l0, l1, l2] st h Q := wp_goto (show (lcode 90)[22]? = some (.goto 24) by decide +kernel)
theorem x90_23 : WP d 90 23 [l0, l1, l2] st h Q ↔ WP d 90 24 [l0, l1, l2] (vI (-1000000004) :: st) h Q := wp_iconst (show (lcode 90)[23]? = some (.iconst (-1000000004)) by decide +kernel)
theorem x90_24 : WP d 90 24 [l0, l1, l2] [vI x] h Q ↔ Q (some (vI x)) h := wp_ireturn (show (lcode 90)[24]? = some (.ireturn) by decide +kernel)
-- 91: WakeOrder.orders
theorem x91_0 : WP d 91 0 [l0, some (vI x)] st h Q ↔ WP d 91 1 [l0, some (vI x)] (vI x :: st) h Q := wp_iload (show (lcode 91)[0]? = some (.iload 1) by decide +kernel) rfl
theorem x91_1 : WP d 91 1 [l0, l1] st h Q ↔ WP d 91 2 [l0, l1] (vI (-1) :: st) h Q := wp_iconst (show (lcode 91)[1]? = some (.iconst (-1)) by decide +kernel)
theorem x91_2 : WP d 91 2 [l0, l1] (vI y :: vI x :: st) h Q ↔ ((wr x = wr y → WP d 91 9 [l0, l1] st h Q) ∧ (¬ (wr x = wr y) → WP d 91 3 [l0, l1] st h Q)) := wp_icmp_eq (show (lcode 91)[2]? = some (.if_icmp .eq 9) by decide +kernel)
theorem x91_3 : WP d 91 3 [some (Value.ref a), l1] st h Q ↔ WP d 91 4 [some (Value.ref a), l1] (Value.ref a :: st) h Q := wp_aload (show (lcode 91)[3]? = some (.aload 0) by decide +kernel) rfl
theorem x91_4 : WP d 91 4 [l0, some (vI x)] st h Q ↔ WP d 91 5 [l0, some (vI x)] (vI x :: st) h Q := wp_iload (show (lcode 91)[4]? = some (.iload 1) by decide +kernel) rfl
theorem x91_5 : WP d 91 5 [l0, l1] (v1 :: v :: st) h Q ↔ (sh st ∧ CALL d 99 [v, v1] h (fun v h => WP d 91 6 [l0, l1] (v.toList ++ st) h Q)) := wp_call (n := 2) (show (lcode 91)[5]? = some (.invokestatic 99) by decide +kernel) (by decide +kernel) (by simp)
theorem x91_6 : WP d 91 6 [l0, l1] (vI x :: st) h Q ↔ ((¬ wr x = 0 → WP d 91 9 [l0, l1] st h Q) ∧ (¬ (¬ wr x = 0) → WP d 91 7 [l0, l1] st h Q)) := wp_if_ne (show (lcode 91)[6]? = some (.ifCond .ne 9) by decide +kernel)
theorem x91_7 : WP d 91 7 [l0, l1] st h Q ↔ WP d 91 8 [l0, l1] (vI (-1000000001) :: st) h Q := wp_iconst (show (lcode 91)[7]? = some (.iconst (-1000000001)) by decide +kernel)
theorem x91_8 : WP d 91 8 [l0, l1] [vI x] h Q ↔ Q (some (vI x)) h := wp_ireturn (show (lcode 91)[8]? = some (.ireturn) by decide +kernel)
theorem x91_9 : WP d 91 9 [some (Value.ref a), l1] st h Q ↔ WP d 91 10 [some (Value.ref a), l1] (Value.ref a :: st) h Q := wp_aload (show (lcode 91)[9]? = some (.aload 0) by decide +kernel) rfl
theorem x91_10 : WP d 91 10 [l0, l1] (.ref a :: st) h Q ↔ gF (hRd h a) 10 7 (fun v => WP d 91 11 [l0, l1] (v :: st) h Q) := wp_getfield (show (lcode 91)[10]? = some (.getfield 647) by decide +kernel)
theorem x91_11 : WP d 91 11 [some (Value.ref a), l1] st h Q ↔ WP d 91 12 [some (Value.ref a), l1] (Value.ref a :: st) h Q := wp_aload (show (lcode 91)[11]? = some (.aload 0) by decide +kernel) rfl
theorem x91_12 : WP d 91 12 [l0, l1] (.ref a :: st) h Q ↔ gF (hRd h a) 10 1 (fun v => WP d 91 13 [l0, l1] (v :: st) h Q) := wp_getfield (show (lcode 91)[12]? = some (.getfield 641) by decide +kernel)
theorem x91_13 : WP d 91 13 [l0, l1] (v1 :: v :: st) h Q ↔ (sh st ∧ CALL d 65 [v, v1] h (fun v h => WP d 91 14 [l0, l1] (v.toList ++ st) h Q)) := wp_call (n := 2) (show (lcode 91)[13]? = some (.invokestatic 65) by decide +kernel) (by decide +kernel) (by simp)
theorem x91_14 : WP d 91 14 [l0, some (vI x)] st h Q ↔ WP d 91 15 [l0, some (vI x)] (vI x :: st) h Q := wp_iload (show (lcode 91)[14]? = some (.iload 1) by decide +kernel) rfl
theorem x91_15 : WP d 91 15 [l0, l1] st h Q ↔ WP d 91 16 [l0, l1] (vI (-1) :: st) h Q := wp_iconst (show (lcode 91)[15]? = some (.iconst (-1)) by decide +kernel)
theorem x91_16 : WP d 91 16 [l0, l1] (vI y :: vI x :: st) h Q ↔ ((¬ wr x = wr y → WP d 91 21 [l0, l1] st h Q) ∧ (¬ (¬ wr x = wr y) → WP d 91 17 [l0, l1] st h Q)) := wp_icmp_ne (show (lcode 91)[16]? = some (.if_icmp .ne 21) by decide +kernel)
theorem x91_17 : WP d 91 17 [some (Value.ref a), l1] st h Q ↔ WP d 91 18 [some (Value.ref a), l1] (Value.ref a :: st) h Q := wp_aload (show (lcode 91)[17]? = some (.aload 0) by decide +kernel) rfl
theorem x91_18 : WP d 91 18 [l0, l1] (.ref a :: st) h Q ↔ gF (hRd h a) 10 7 (fun v => WP d 91 19 [l0, l1] (v :: st) h Q) := wp_getfield (show (lcode 91)[18]? = some (.getfield 647) by decide +kernel)
theorem x91_19 : WP d 91 19 [l0, l1] (.ref a :: st) h Q ↔ gF (hRd h a) 9 4 (fun v => WP d 91 20 [l0, l1] (v :: st) h Q) := wp_getfield (show (lcode 91)[19]? = some (.getfield 580) by decide +kernel)
theorem x91_20 : WP d 91 20 [l0, l1] st h Q ↔ WP d 91 25 [l0, l1] st h Q := wp_goto (show (lcode 91)[20]? = some (.goto 25) by decide +kernel)
theorem x91_21 : WP d 91 21 [some (Value.ref a), l1] st h Q ↔ WP d 91 22 [some (Value.ref a), l1] (Value.ref a :: st) h Q := wp_aload (show (lcode 91)[21]? = some (.aload 0) by decide +kernel) rfl
theorem x91_22 : WP d 91 22 [l0, l1] (.ref a :: st) h Q ↔ gF (hRd h a) 10 7 (fun v => WP d 91 23 [l0, l1] (v :: st) h Q) := wp_getfield (show (lcode 91)[22]? = some (.getfield 647) by decide +kernel)
theorem x91_23 : WP d 91 23 [l0, some (vI x)] st h Q ↔ WP d 91 24 [l0, some (vI x)] (vI x :: st) h Q := wp_iload (show (lcode 91)[23]? = some (.iload 1) by decide +kernel) rfl
theorem x91_24 : WP d 91 24 [l0, l1] (v1 :: v :: st) h Q ↔ (sh st ∧ CALL d 68 [v, v1] h (fun v h => WP d 91 25 [l0, l1] (v.toList ++ st) h Q)) := wp_call (n := 2) (show (lcode 91)[24]? = some (.invokestatic 68) by decide +kernel) (by decide +kernel) (by simp)
theorem x91_25 : WP d 91 25 [l0, l1] [vI x] h Q ↔ Q (some (vI x)) h := wp_ireturn (show (lcode 91)[25]? = some (.ireturn) by decide +kernel)
-- 92: WakeOrder.lookNext
theorem x92_0 : WP d 92 0 [some (Value.ref a)] st h Q ↔ WP d 92 1 [some (Value.ref a)] (Value.ref a :: st) h Q := wp_aload (show (lcode 92)[0]? = some (.aload 0) by decide +kernel) rfl
theorem x92_1 : WP d 92 1 [l0] (.ref a :: st) h Q ↔ gF (hRd h a) 10 7 (fun v => WP d 92 2 [l0] (v :: st) h Q) := wp_getfield (show (lcode 92)[1]? = some (.getfield 647) by decide +kernel)
theorem x92_2 : WP d 92 2 [some (Value.ref a)] st h Q ↔ WP d 92 3 [some (Value.ref a)] (Value.ref a :: st) h Q := wp_aload (show (lcode 92)[2]? = some (.aload 0) by decide +kernel) rfl
theorem x92_3 : WP d 92 3 [l0] (.ref a :: st) h Q ↔ gF (hRd h a) 10 1 (fun v => WP d 92 4 [l0] (v :: st) h Q) := wp_getfield (show (lcode 92)[3]? = some (.getfield 641) by decide +kernel)
theorem x92_4 : WP d 92 4 [l0] (v1 :: v :: st) h Q ↔ (sh st ∧ CALL d 65 [v, v1] h (fun v h => WP d 92 5 [l0] (v.toList ++ st) h Q)) := wp_call (n := 2) (show (lcode 92)[4]? = some (.invokestatic 65) by decide +kernel) (by decide +kernel) (by simp)
theorem x92_5 : WP d 92 5 [some (Value.ref a)] st h Q ↔ WP d 92 6 [some (Value.ref a)] (Value.ref a :: st) h Q := wp_aload (show (lcode 92)[5]? = some (.aload 0) by decide +kernel) rfl
theorem x92_6 : WP d 92 6 [l0] (.ref a :: st) h Q ↔ gF (hRd h a) 10 7 (fun v => WP d 92 7 [l0] (v :: st) h Q) := wp_getfield (show (lcode 92)[6]? = some (.getfield 647) by decide +kernel)
theorem x92_7 : WP d 92 7 [some (Value.ref a)] st h Q ↔ WP d 92 8 [some (Value.ref a)] (Value.ref a :: st) h Q := wp_aload (show (lcode 92)[7]? = some (.aload 0) by decide +kernel) rfl
theorem x92_8 : WP d 92 8 [l0] (.ref a :: st) h Q ↔ gF (hRd h a) 10 2 (fun v => WP d 92 9 [l0] (v :: st) h Q) := wp_getfield (show (lcode 92)[8]? = some (.getfield 642) by decide +kernel)
theorem x92_9 : WP d 92 9 [l0] (.ref a :: st) h Q ↔ gF (hRd h a) 2 1 (fun v => WP d 92 10 [l0] (v :: st) h Q) := wp_getfield (show (lcode 92)[9]? = some (.getfield 129) by decide +kernel)
theorem x92_10 : WP d 92 10 [l0] (v1 :: v :: st) h Q ↔ (sh st ∧ CALL d 69 [v, v1] h (fun v h => WP d 92 11 [l0] (v.toList ++ st) h Q)) := wp_call (n := 2) (show (lcode 92)[10]? = some (.invokestatic 69) by decide +kernel) (by decide +kernel) (by simp)
theorem x92_11 : WP d 92 11 [l0] [vI x] h Q ↔ Q (some (vI x)) h := wp_ireturn (show (lcode 92)[11]? = some (.ireturn) by decide +kernel)
-- 93: WakeOrder.write
theorem x93_0 : WP d 93 0 [some (Value.ref a), l1, l2] st h Q ↔ WP d 93 1 [some (Value.ref a), l1, l2] (Value.ref a :: st) h Q := wp_aload (show (lcode 93)[0]? = some (.aload 0) by decide +kernel) rfl
theorem x93_1 : WP d 93 1 [l0, some (vI x), l2] st h Q ↔ WP d 93 2 [l0, some (vI x), l2] (vI x :: st) h Q := wp_iload (show (lcode 93)[1]? = some (.iload 1) by decide +kernel) rfl
theorem x93_2 : WP d 93 2 [l0, l1, l2] (v1 :: v :: st) h Q ↔ (sh st ∧ CALL d 100 [v, v1] h (fun v h => WP d 93 3 [l0, l1, l2] (v.toList ++ st) h Q)) := wp_call (n := 2) (show (lcode 93)[2]? = some (.invokestatic 100) by decide +kernel) (by decide +kernel) (by simp)
theorem x93_3 : WP d 93 3 [l0, l1, l2] (vI x :: st) h Q ↔ ((¬ wr x = 0 → WP d 93 6 [l0, l1, l2] st h Q) ∧ (¬ (¬ wr x = 0) → WP d 93 4 [l0, l1, l2] st h Q)) := wp_if_ne (show (lcode 93)[3]? = some (.ifCond .ne 6) by decide +kernel)
theorem x93_4 : WP d 93 4 [l0, l1, l2] st h Q ↔ WP d 93 5 [l0, l1, l2] (vI (-1000000001) :: st) h Q := wp_iconst (show (lcode 93)[4]? = some (.iconst (-1000000001)) by decide +kernel)
theorem x93_5 : WP d 93 5 [l0, l1, l2] [vI x] h Q ↔ Q (some (vI x)) h := wp_ireturn (show (lcode 93)[5]? = some (.ireturn) by decide +kernel)
theorem x93_6 : WP d 93 6 [l0, l1, some (vI x)] st h Q ↔ WP d 93 7 [l0, l1, some (vI x)] (vI x :: st) h Q := wp_iload (show (lcode 93)[6]? = some (.iload 2) by decide +kernel) rfl
theorem x93_7 : WP d 93 7 [l0, l1, l2] st h Q ↔ WP d 93 8 [l0, l1, l2] (vI (-1) :: st) h Q := wp_iconst (show (lcode 93)[7]? = some (.iconst (-1)) by decide +kernel)
theorem x93_8 : WP d 93 8 [l0, l1, l2] (vI y :: vI x :: st) h Q ↔ ((wr x < wr y → WP d 93 12 [l0, l1, l2] st h Q) ∧ (¬ (wr x < wr y) → WP d 93 9 [l0, l1, l2] st h Q)) := wp_icmp_lt (show (lcode 93)[8]? = some (.if_icmp .lt 12) by decide +kernel)
theorem x93_9 : WP d 93 9 [l0, l1, some (vI x)] st h Q ↔ WP d 93 10 [l0, l1, some (vI x)] (vI x :: st) h Q := wp_iload (show (lcode 93)[9]? = some (.iload 2) by decide +kernel) rfl
theorem x93_10 : WP d 93 10 [l0, l1, l2] st h Q ↔ WP d 93 11 [l0, l1, l2] (vI 999 :: st) h Q := wp_iconst (show (lcode 93)[10]? = some (.iconst 999) by decide +kernel)
theorem x93_11 : WP d 93 11 [l0, l1, l2] (vI y :: vI x :: st) h Q ↔ ((wr x ≤ wr y → WP d 93 14 [l0, l1, l2] st h Q) ∧ (¬ (wr x ≤ wr y) → WP d 93 12 [l0, l1, l2] st h Q)) := wp_icmp_le (show (lcode 93)[11]? = some (.if_icmp .le 14) by decide +kernel)
theorem x93_12 : WP d 93 12 [l0, l1, l2] st h Q ↔ WP d 93 13 [l0, l1, l2] (vI (-1000000002) :: st) h Q := wp_iconst (show (lcode 93)[12]? = some (.iconst (-1000000002)) by decide +kernel)
theorem x93_13 : WP d 93 13 [l0, l1, l2] [vI x] h Q ↔ Q (some (vI x)) h := wp_ireturn (show (lcode 93)[13]? = some (.ireturn) by decide +kernel)
theorem x93_14 : WP d 93 14 [some (Value.ref a), l1, l2] st h Q ↔ WP d 93 15 [some (Value.ref a), l1, l2] (Value.ref a :: st) h Q := wp_aload (show (lcode 93)[14]? = some (.aload 0) by decide +kernel) rfl
theorem x93_15 : WP d 93 15 [l0, l1, l2] (.ref a :: st) h Q ↔ gF (hRd h a) 10 8 (fun v => WP d 93 16 [l0, l1, l2] (v :: st) h Q) := wp_getfield (show (lcode 93)[15]? = some (.getfield 648) by decide +kernel)
theorem x93_16 : WP d 93 16 [l0, some (vI x), l2] st h Q ↔ WP d 93 17 [l0, some (vI x), l2] (vI x :: st) h Q := wp_iload (show (lcode 93)[16]? = some (.iload 1) by decide +kernel) rfl
theorem x93_17 : WP d 93 17 [l0, l1, some (vI x)] st h Q ↔ WP d 93 18 [l0, l1, some (vI x)] (vI x :: st) h Q := wp_iload (show (lcode 93)[17]? = some (.iload 2) by decide +kernel) rfl
theorem x93_18 : WP d 93 18 [l0, l1, l2] (v2 :: v1 :: v :: st) h Q ↔ (sh st ∧ CALL d 1 [v, v1, v2] h (fun v h => WP d 93 19 [l0, l1, l2] (v.toList ++ st) h Q)) := wp_call (n := 3) (show (lcode 93)[18]? = some (.invokestatic 1) by decide +kernel) (by decide +kernel) (by simp)
theorem x93_19 : WP d 93 19 [l0, l1, l2] (vI x :: st) h Q ↔ ((wr x = 0 → WP d 93 24 [l0, l1, l2] st h Q) ∧ (¬ (wr x = 0) → WP d 93 20 [l0, l1, l2] st h Q)) := wp_if_eq (show (lcode 93)[19]? = some (.ifCond .eq 24) by decide +kernel)
theorem x93_20 : WP d 93 20 [some (Value.ref a), l1, l2] st h Q ↔ WP d 93 21 [some (Value.ref a), l1, l2] (Value.ref a :: st) h Q := wp_aload (show (lcode 93)[20]? = some (.aload 0) by decide +kernel) rfl
theorem x93_21 : WP d 93 21 [l0, l1, l2] (.ref a :: st) h Q ↔ gF (hRd h a) 10 8 (fun v => WP d 93 22 [l0, l1, l2] (v :: st) h Q) := wp_getfield (show (lcode 93)[21]? = some (.getfield 648) by decide +kernel)
theorem x93_22 : WP d 93 22 [l0, l1, l2] (.ref a :: st) h Q ↔ gF (hRd h a) 0 2 (fun v => WP d 93 23 [l0, l1, l2] (v :: st) h Q) := wp_getfield (show (lcode 93)[22]? = some (.getfield 2) by decide +kernel)
theorem x93_23 : WP d 93 23 [l0, l1, l2] st h Q ↔ WP d 93 25 [l0, l1, l2] st h Q := wp_goto (show (lcode 93)[23]? = some (.goto 25) by decide +kernel)
theorem x93_24 : WP d 93 24 [l0, l1, l2] st h Q ↔ WP d 93 25 [l0, l1, l2] (vI (-1000000004) :: st) h Q := wp_iconst (show (lcode 93)[24]? = some (.iconst (-1000000004)) by decide +kernel)
theorem x93_25 : WP d 93 25 [l0, l1, l2] [vI x] h Q ↔ Q (some (vI x)) h := wp_ireturn (show (lcode 93)[25]? = some (.ireturn) by decide +kernel)
-- 94: WakeOrder.tear
theorem x94_0 : WP d 94 0 [some (Value.ref a), l1] st h Q ↔ WP d 94 1 [some (Value.ref a), l1] (Value.ref a :: st) h Q := wp_aload (show (lcode 94)[0]? = some (.aload 0) by decide +kernel) rfl
theorem x94_1 : WP d 94 1 [l0, l1] (.ref a :: st) h Q ↔ gF (hRd h a) 10 7 (fun v => WP d 94 2 [l0, l1] (v :: st) h Q) := wp_getfield (show (lcode 94)[1]? = some (.getfield 647) by decide +kernel)
theorem x94_2 : WP d 94 2 [l0, l1] (.ref a :: st) h Q ↔ gF (hRd h a) 9 2 (fun v => WP d 94 3 [l0, l1] (v :: st) h Q) := wp_getfield (show (lcode 94)[2]? = some (.getfield 578) by decide +kernel)
theorem x94_3 : WP d 94 3 [some (Value.ref a), l1] st h Q ↔ WP d 94 4 [some (Value.ref a), l1] (Value.ref a :: st) h Q := wp_aload (show (lcode 94)[3]? = some (.aload 0) by decide +kernel) rfl
theorem x94_4 : WP d 94 4 [l0, l1] (.ref a :: st) h Q ↔ gF (hRd h a) 10 8 (fun v => WP d 94 5 [l0, l1] (v :: st) h Q) := wp_getfield (show (lcode 94)[4]? = some (.getfield 648) by decide +kernel)
theorem x94_5 : WP d 94 5 [l0, l1] (.ref a :: st) h Q ↔ gF (hRd h a) 0 2 (fun v => WP d 94 6 [l0, l1] (v :: st) h Q) := wp_getfield (show (lcode 94)[5]? = some (.getfield 2) by decide +kernel)
theorem x94_6 : WP d 94 6 [l0, l1] (vI y :: vI x :: st) h Q ↔ WP d 94 7 [l0, l1] (vI (x + y) :: st) h Q := wp_iadd (show (lcode 94)[6]? = some (.iadd) by decide +kernel)
theorem x94_7 : WP d 94 7 [l0, l1] (vI x :: st) h Q ↔ (nl l0 ∧ WP d 94 8 [l0, some (vI x)] st h Q) := wp_istore (show (lcode 94)[7]? = some (.istore 1) by decide +kernel) (Nat.le_of_ble_eq_true rfl)
theorem x94_8 : WP d 94 8 [some (Value.ref a), l1] st h Q ↔ WP d 94 9 [some (Value.ref a), l1] (Value.ref a :: st) h Q := wp_aload (show (lcode 94)[8]? = some (.aload 0) by decide +kernel) rfl
theorem x94_9 : WP d 94 9 [l0, l1] (.ref a :: st) h Q ↔ gF (hRd h a) 10 7 (fun v => WP d 94 10 [l0, l1] (v :: st) h Q) := wp_getfield (show (lcode 94)[9]? = some (.getfield 647) by decide +kernel)
theorem x94_10 : WP d 94 10 [l0, l1] st h Q ↔ WP d 94 11 [l0, l1] (vI 0 :: st) h Q := wp_iconst (show (lcode 94)[10]? = some (.iconst 0) by decide +kernel)
theorem x94_11 : WP d 94 11 [l0, l1] (vI x :: .ref a :: st) h Q ↔ pF (hRd h a) 9 2 (vI x) (fun c => WP d 94 12 [l0, l1] st (hWr h a c) Q) := wp_putfield (show (lcode 94)[11]? = some (.putfield 578) by decide +kernel)
theorem x94_12 : WP d 94 12 [some (Value.ref a), l1] st h Q ↔ WP d 94 13 [some (Value.ref a), l1] (Value.ref a :: st) h Q := wp_aload (show (lcode 94)[12]? = some (.aload 0) by decide +kernel) rfl
theorem x94_13 : WP d 94 13 [l0, l1] (.ref a :: st) h Q ↔ gF (hRd h a) 10 8 (fun v => WP d 94 14 [l0, l1] (v :: st) h Q) := wp_getfield (show (lcode 94)[13]? = some (.getfield 648) by decide +kernel)
theorem x94_14 : WP d 94 14 [l0, l1] st h Q ↔ WP d 94 15 [l0, l1] (vI 0 :: st) h Q := wp_iconst (show (lcode 94)[14]? = some (.iconst 0) by decide +kernel)
theorem x94_15 : WP d 94 15 [l0, l1] (vI x :: .ref a :: st) h Q ↔ pF (hRd h a) 0 2 (vI x) (fun c => WP d 94 16 [l0, l1] st (hWr h a c) Q) := wp_putfield (show (lcode 94)[15]? = some (.putfield 2) by decide +kernel)
theorem x94_16 : WP d 94 16 [l0, some (vI x)] st h Q ↔ WP d 94 17 [l0, some (vI x)] (vI x :: st) h Q := wp_iload (show (lcode 94)[16]? = some (.iload 1) by decide +kernel) rfl
theorem x94_17 : WP d 94 17 [l0, l1] [vI x] h Q ↔ Q (some (vI x)) h := wp_ireturn (show (lcode 94)[17]? = some (.ireturn) by decide +kernel)
-- 95: WakeOrder.judge
theorem x95_0 : WP d 95 0 [some (Value.ref a)] st h Q ↔ WP d 95 1 [some (Value.ref a)] (Value.ref a :: st) h Q := wp_aload (show (lcode 95)[0]? = some (.aload 0) by decide +kernel) rfl
theorem x95_1 : WP d 95 1 [l0] (.ref a :: st) h Q ↔ gF (hRd h a) 10 1 (fun v => WP d 95 2 [l0] (v :: st) h Q) := wp_getfield (show (lcode 95)[1]? = some (.getfield 641) by decide +kernel)
theorem x95_2 : WP d 95 2 [l0] (v :: st) h Q ↔ (sh st ∧ CALL d 4 [v] h (fun v h => WP d 95 3 [l0] (v.toList ++ st) h Q)) := wp_call (n := 1) (show (lcode 95)[2]? = some (.invokestatic 4) by decide +kernel) (by decide +kernel) (by simp)
theorem x95_3 : WP d 95 3 [some (Value.ref a)] st h Q ↔ WP d 95 4 [some (Value.ref a)] (Value.ref a :: st) h Q := wp_aload (show (lcode 95)[3]? = some (.aload 0) by decide +kernel) rfl
theorem x95_4 : WP d 95 4 [l0] (.ref a :: st) h Q ↔ gF (hRd h a) 10 8 (fun v => WP d 95 5 [l0] (v :: st) h Q) := wp_getfield (show (lcode 95)[4]? = some (.getfield 648) by decide +kernel)
theorem x95_5 : WP d 95 5 [some (Value.ref a)] st h Q ↔ WP d 95 6 [some (Value.ref a)] (Value.ref a :: st) h Q := wp_aload (show (lcode 95)[5]? = some (.aload 0) by decide +kernel) rfl
theorem x95_6 : WP d 95 6 [l0] (.ref a :: st) h Q ↔ gF (hRd h a) 10 1 (fun v => WP d 95 7 [l0] (v :: st) h Q) := wp_getfield (show (lcode 95)[6]? = some (.getfield 641) by decide +kernel)
theorem x95_7 : WP d 95 7 [l0] (v1 :: v :: st) h Q ↔ (sh st ∧ CALL d 2 [v, v1] h (fun v h => WP d 95 8 [l0] (v.toList ++ st) h Q)) := wp_call (n := 2) (show (lcode 95)[7]? = some (.invokestatic 2) by decide +kernel) (by decide +kernel) (by simp)
theorem x95_8 : WP d 95 8 [l0] [vI x] h Q ↔ Q (some (vI x)) h := wp_ireturn (show (lcode 95)[8]? = some (.ireturn) by decide +kernel)
-- 96: WakeOrder.seed
theorem x96_0 : WP d 96 0 [l0, some (vI x), l2] st h Q ↔ WP d 96 1 [l0, some (vI x), l2] (vI x :: st) h Q := wp_iload (show (lcode 96)[0]? = some (.iload 1) by decide +kernel) rfl
theorem x96_1 : WP d 96 1 [l0, l1, l2] (vI x :: st) h Q ↔ ((0 ≤ wr x → WP d 96 4 [l0, l1, l2] st h Q) ∧ (¬ (0 ≤ wr x) → WP d 96 2 [l0, l1, l2] st h Q)) := wp_if_ge (show (lcode 96)[1]? = some (.ifCond .ge 4) by decide +kernel)
theorem x96_2 : WP d 96 2 [l0, l1, l2] st h Q ↔ WP d 96 3 [l0, l1, l2] (vI (-1000000002) :: st) h Q := wp_iconst (show (lcode 96)[2]? = some (.iconst (-1000000002)) by decide +kernel)
theorem x96_3 : WP d 96 3 [l0, l1, l2] [vI x] h Q ↔ Q (some (vI x)) h := wp_ireturn (show (lcode 96)[3]? = some (.ireturn) by decide +kernel)
theorem x96_4 : WP d 96 4 [some (Value.ref a), l1, l2] st h Q ↔ WP d 96 5 [some (Value.ref a), l1, l2] (Value.ref a :: st) h Q := wp_aload (show (lcode 96)[4]? = some (.aload 0) by decide +kernel) rfl
theorem x96_5 : WP d 96 5 [l0, l1, l2] (.ref a :: st) h Q ↔ gF (hRd h a) 10 9 (fun v => WP d 96 6 [l0, l1, l2] (v :: st) h Q) := wp_getfield (show (lcode 96)[5]? = some (.getfield 649) by decide +kernel)
theorem x96_6 : WP d 96 6 [l0, l1, l2] (vI x :: st) h Q ↔ (nl l1 ∧ WP d 96 7 [l0, l1, some (vI x)] st h Q) := wp_istore (show (lcode 96)[6]? = some (.istore 2) by decide +kernel) (Nat.le_of_ble_eq_true rfl)
theorem x96_7 : WP d 96 7 [some (Value.ref a), l1, l2] st h Q ↔ WP d 96 8 [some (Value.ref a), l1, l2] (Value.ref a :: st) h Q := wp_aload (show (lcode 96)[7]? = some (.aload 0) by decide +kernel) rfl
theorem x96_8 : WP d 96 8 [l0, some (vI x), l2] st h Q ↔ WP d 96 9 [l0, some (vI x), l2] (vI x :: st) h Q := wp_iload (show (lcode 96)[8]? = some (.iload 1) by decide +kernel) rfl
theorem x96_9 : WP d 96 9 [l0, l1, l2] (vI x :: .ref a :: st) h Q ↔ pF (hRd h a) 10 9 (vI x) (fun c => WP d 96 10 [l0, l1, l2] st (hWr h a c) Q) := wp_putfield (show (lcode 96)[9]? = some (.putfield 649) by decide +kernel)
theorem x96_10 : WP d 96 10 [l0, l1, some (vI x)] st h Q ↔ WP d 96 11 [l0, l1, some (vI x)] (vI x :: st) h Q := wp_iload (show (lcode 96)[10]? = some (.iload 2) by decide +kernel) rfl
theorem x96_11 : WP d 96 11 [l0, l1, l2] [vI x] h Q ↔ Q (some (vI x)) h := wp_ireturn (show (lcode 96)[11]? = some (.ireturn) by decide +kernel)
-- 97: WakeOrder.keep
theorem x97_0 : WP d 97 0 [l0, some (vI x)] st h Q ↔ WP d 97 1 [l0, some (vI x)] (vI x :: st) h Q := wp_iload (show (lcode 97)[0]? = some (.iload 1) by decide +kernel) rfl
theorem x97_1 : WP d 97 1 [l0, l1] (vI x :: st) h Q ↔ ((wr x < 0 → WP d 97 5 [l0, l1] st h Q) ∧ (¬ (wr x < 0) → WP d 97 2 [l0, l1] st h Q)) := wp_if_lt (show (lcode 97)[1]? = some (.ifCond .lt 5) by decide +kernel)
theorem x97_2 : WP d 97 2 [l0, some (vI x)] st h Q ↔ WP d 97 3 [l0, some (vI x)] (vI x :: st) h Q := wp_iload (show (lcode 97)[2]? = some (.iload 1) by decide +kernel) rfl
theorem x97_3 : WP d 97 3 [l0, l1] st h Q ↔ WP d 97 4 [l0, l1] (vI 2 :: st) h Q := wp_iconst (show (lcode 97)[3]? = some (.iconst 2) by decide +kernel)
theorem x97_4 : WP d 97 4 [l0, l1] (vI y :: vI x :: st) h Q ↔ ((wr x < wr y → WP d 97 7 [l0, l1] st h Q) ∧ (¬ (wr x < wr y) → WP d 97 5 [l0, l1] st h Q)) := wp_icmp_lt (show (lcode 97)[4]? = some (.if_icmp .lt 7) by decide +kernel)
theorem x97_5 : WP d 97 5 [l0, l1] st h Q ↔ WP d 97 6 [l0, l1] (vI (-1000000001) :: st) h Q := wp_iconst (show (lcode 97)[5]? = some (.iconst (-1000000001)) by decide +kernel)
theorem x97_6 : WP d 97 6 [l0, l1] [vI x] h Q ↔ Q (some (vI x)) h := wp_ireturn (show (lcode 97)[6]? = some (.ireturn) by decide +kernel)
theorem x97_7 : WP d 97 7 [some (Value.ref a), l1] st h Q ↔ WP d 97 8 [some (Value.ref a), l1] (Value.ref a :: st) h Q := wp_aload (show (lcode 97)[7]? = some (.aload 0) by decide +kernel) rfl
theorem x97_8 : WP d 97 8 [l0, l1] (.ref a :: st) h Q ↔ gF (hRd h a) 10 5 (fun v => WP d 97 9 [l0, l1] (v :: st) h Q) := wp_getfield (show (lcode 97)[8]? = some (.getfield 645) by decide +kernel)
theorem x97_9 : WP d 97 9 [l0, some (vI x)] st h Q ↔ WP d 97 10 [l0, some (vI x)] (vI x :: st) h Q := wp_iload (show (lcode 97)[9]? = some (.iload 1) by decide +kernel) rfl
theorem x97_10 : WP d 97 10 [some (Value.ref a), l1] st h Q ↔ WP d 97 11 [some (Value.ref a), l1] (Value.ref a :: st) h Q := wp_aload (show (lcode 97)[10]? = some (.aload 0) by decide +kernel) rfl
theorem x97_11 : WP d 97 11 [l0, l1] (.ref a :: st) h Q ↔ gF (hRd h a) 10 3 (fun v => WP d 97 12 [l0, l1] (v :: st) h Q) := wp_getfield (show (lcode 97)[11]? = some (.getfield 643) by decide +kernel)
theorem x97_12 : WP d 97 12 [some (Value.ref a), l1] st h Q ↔ WP d 97 13 [some (Value.ref a), l1] (Value.ref a :: st) h Q := wp_aload (show (lcode 97)[12]? = some (.aload 0) by decide +kernel) rfl
theorem x97_13 : WP d 97 13 [l0, l1] (.ref a :: st) h Q ↔ gF (hRd h a) 10 9 (fun v => WP d 97 14 [l0, l1] (v :: st) h Q) := wp_getfield (show (lcode 97)[13]? = some (.getfield 649) by decide +kernel)
theorem x97_14 : WP d 97 14 [l0, l1] (q3 :: q2 :: q1 :: q0 :: st) h Q ↔ (sh st ∧ CALL d 26 [q0, q1, q2, q3] h (fun v h => WP d 97 15 [l0, l1] (v.toList ++ st) h Q)) := wp_call (n := 4) (show (lcode 97)[14]? = some (.invokestatic 26) by decide +kernel) (by decide +kernel) (by simp)
theorem x97_15 : WP d 97 15 [some (Value.ref a), l1] st h Q ↔ WP d 97 16 [some (Value.ref a), l1] (Value.ref a :: st) h Q := wp_aload (show (lcode 97)[15]? = some (.aload 0) by decide +kernel) rfl
theorem x97_16 : WP d 97 16 [l0, l1] (.ref a :: st) h Q ↔ gF (hRd h a) 10 4 (fun v => WP d 97 17 [l0, l1] (v :: st) h Q) := wp_getfield (show (lcode 97)[16]? = some (.getfield 644) by decide +kernel)
theorem x97_17 : WP d 97 17 [l0, l1] (v :: st) h Q ↔ (sh st ∧ CALL d 24 [v] h (fun v h => WP d 97 18 [l0, l1] (v.toList ++ st) h Q)) := wp_call (n := 1) (show (lcode 97)[17]? = some (.invokestatic 24) by decide +kernel) (by decide +kernel) (by simp)
theorem x97_18 : WP d 97 18 [l0, l1] st h Q ↔ WP d 97 19 [l0, l1] (vI 1 :: st) h Q := wp_iconst (show (lcode 97)[18]? = some (.iconst 1) by decide +kernel)
theorem x97_19 : WP d 97 19 [l0, l1] [vI x] h Q ↔ Q (some (vI x)) h := wp_ireturn (show (lcode 97)[19]? = some (.ireturn) by decide +kernel)
-- 98: WakeOrder.goBack
theorem x98_0 : WP d 98 0 [l0, some (vI x)] st h Q ↔ WP d 98 1 [l0, some (vI x)] (vI x :: st) h Q := wp_iload (show (lcode 98)[0]? = some (.iload 1) by decide +kernel) rfl
theorem x98_1 : WP d 98 1 [l0, l1] (vI x :: st) h Q ↔ ((wr x < 0 → WP d 98 5 [l0, l1] st h Q) ∧ (¬ (wr x < 0) → WP d 98 2 [l0, l1] st h Q)) := wp_if_lt (show (lcode 98)[1]? = some (.ifCond .lt 5) by decide +kernel)
theorem x98_2 : WP d 98 2 [l0, some (vI x)] st h Q ↔ WP d 98 3 [l0, some (vI x)] (vI x :: st) h Q := wp_iload (show (lcode 98)[2]? = some (.iload 1) by decide +kernel) rfl
theorem x98_3 : WP d 98 3 [l0, l1] st h Q ↔ WP d 98 4 [l0, l1] (vI 2 :: st) h Q := wp_iconst (show (lcode 98)[3]? = some (.iconst 2) by decide +kernel)
theorem x98_4 : WP d 98 4 [l0, l1] (vI y :: vI x :: st) h Q ↔ ((wr x < wr y → WP d 98 7 [l0, l1] st h Q) ∧ (¬ (wr x < wr y) → WP d 98 5 [l0, l1] st h Q)) := wp_icmp_lt (show (lcode 98)[4]? = some (.if_icmp .lt 7) by decide +kernel)
theorem x98_5 : WP d 98 5 [l0, l1] st h Q ↔ WP d 98 6 [l0, l1] (vI (-1000000001) :: st) h Q := wp_iconst (show (lcode 98)[5]? = some (.iconst (-1000000001)) by decide +kernel)
theorem x98_6 : WP d 98 6 [l0, l1] [vI x] h Q ↔ Q (some (vI x)) h := wp_ireturn (show (lcode 98)[6]? = some (.ireturn) by decide +kernel)
theorem x98_7 : WP d 98 7 [some (Value.ref a), l1] st h Q ↔ WP d 98 8 [some (Value.ref a), l1] (Value.ref a :: st) h Q := wp_aload (show (lcode 98)[7]? = some (.aload 0) by decide +kernel) rfl
theorem x98_8 : WP d 98 8 [l0, l1] (.ref a :: st) h Q ↔ gF (hRd h a) 10 5 (fun v => WP d 98 9 [l0, l1] (v :: st) h Q) := wp_getfield (show (lcode 98)[8]? = some (.getfield 645) by decide +kernel)
theorem x98_9 : WP d 98 9 [l0, l1] (.ref a :: st) h Q ↔ gF (hRd h a) 4 2 (fun v => WP d 98 10 [l0, l1] (v :: st) h Q) := wp_getfield (show (lcode 98)[9]? = some (.getfield 258) by decide +kernel)
theorem x98_10 : WP d 98 10 [l0, some (vI x)] st h Q ↔ WP d 98 11 [l0, some (vI x)] (vI x :: st) h Q := wp_iload (show (lcode 98)[10]? = some (.iload 1) by decide +kernel) rfl
theorem x98_11 : WP d 98 11 [l0, l1] (vI x :: .ref a :: st) h Q ↔ ldB (hRd h a) x (fun v => WP d 98 12 [l0, l1] (v :: st) h Q) := wp_baload (show (lcode 98)[11]? = some (.baload) by decide +kernel)
theorem x98_12 : WP d 98 12 [l0, l1] (vI x :: st) h Q ↔ ((¬ wr x = 0 → WP d 98 15 [l0, l1] st h Q) ∧ (¬ (¬ wr x = 0) → WP d 98 13 [l0, l1] st h Q)) := wp_if_ne (show (lcode 98)[12]? = some (.ifCond .ne 15) by decide +kernel)
theorem x98_13 : WP d 98 13 [l0, l1] st h Q ↔ WP d 98 14 [l0, l1] (vI (-1000000003) :: st) h Q := wp_iconst (show (lcode 98)[13]? = some (.iconst (-1000000003)) by decide +kernel)
theorem x98_14 : WP d 98 14 [l0, l1] [vI x] h Q ↔ Q (some (vI x)) h := wp_ireturn (show (lcode 98)[14]? = some (.ireturn) by decide +kernel)
theorem x98_15 : WP d 98 15 [some (Value.ref a), l1] st h Q ↔ WP d 98 16 [some (Value.ref a), l1] (Value.ref a :: st) h Q := wp_aload (show (lcode 98)[15]? = some (.aload 0) by decide +kernel) rfl
theorem x98_16 : WP d 98 16 [l0, l1] (.ref a :: st) h Q ↔ gF (hRd h a) 10 5 (fun v => WP d 98 17 [l0, l1] (v :: st) h Q) := wp_getfield (show (lcode 98)[16]? = some (.getfield 645) by decide +kernel)
theorem x98_17 : WP d 98 17 [l0, some (vI x)] st h Q ↔ WP d 98 18 [l0, some (vI x)] (vI x :: st) h Q := wp_iload (show (lcode 98)[17]? = some (.iload 1) by decide +kernel) rfl
theorem x98_18 : WP d 98 18 [some (Value.ref a), l1] st h Q ↔ WP d 98 19 [some (Value.ref a), l1] (Value.ref a :: st) h Q := wp_aload (show (lcode 98)[18]? = some (.aload 0) by decide +kernel) rfl
theorem x98_19 : WP d 98 19 [l0, l1] (.ref a :: st) h Q ↔ gF (hRd h a) 10 3 (fun v => WP d 98 20 [l0, l1] (v :: st) h Q) := wp_getfield (show (lcode 98)[19]? = some (.getfield 643) by decide +kernel)
theorem x98_20 : WP d 98 20 [l0, l1] (v2 :: v1 :: v :: st) h Q ↔ (sh st ∧ CALL d 27 [v, v1, v2] h (fun v h => WP d 98 21 [l0, l1] (v.toList ++ st) h Q)) := wp_call (n := 3) (show (lcode 98)[20]? = some (.invokestatic 27) by decide +kernel) (by decide +kernel) (by simp)
theorem x98_21 : WP d 98 21 [some (Value.ref a), l1] st h Q ↔ WP d 98 22 [some (Value.ref a), l1] (Value.ref a :: st) h Q := wp_aload (show (lcode 98)[21]? = some (.aload 0) by decide +kernel) rfl
theorem x98_22 : WP d 98 22 [some (Value.ref a), l1] st h Q ↔ WP d 98 23 [some (Value.ref a), l1] (Value.ref a :: st) h Q := wp_aload (show (lcode 98)[22]? = some (.aload 0) by decide +kernel) rfl
theorem x98_23 : WP d 98 23 [l0, l1] (.ref a :: st) h Q ↔ gF (hRd h a) 10 5 (fun v => WP d 98 24 [l0, l1] (v :: st) h Q) := wp_getfield (show (lcode 98)[23]? = some (.getfield 645) by decide +kernel)
theorem x98_24 : WP d 98 24 [l0, l1] (.ref a :: st) h Q ↔ gF (hRd h a) 4 1 (fun v => WP d 98 25 [l0, l1] (v :: st) h Q) := wp_getfield (show (lcode 98)[24]? = some (.getfield 257) by decide +kernel)
theorem x98_25 : WP d 98 25 [l0, some (vI x)] st h Q ↔ WP d 98 26 [l0, some (vI x)] (vI x :: st) h Q := wp_iload (show (lcode 98)[25]? = some (.iload 1) by decide +kernel) rfl
theorem x98_26 : WP d 98 26 [l0, l1] (vI x :: .ref a :: st) h Q ↔ ldA (hRd h a) x (fun v => WP d 98 27 [l0, l1] (v :: st) h Q) := wp_iaload (show (lcode 98)[26]? = some (.iaload) by decide +kernel)
theorem x98_27 : WP d 98 27 [l0, l1] (vI x :: .ref a :: st) h Q ↔ pF (hRd h a) 10 9 (vI x) (fun c => WP d 98 28 [l0, l1] st (hWr h a c) Q) := wp_putfield (show (lcode 98)[27]? = some (.putfield 649) by decide +kernel)
theorem x98_28 : WP d 98 28 [some (Value.ref a), l1] st h Q ↔ WP d 98 29 [some (Value.ref a), l1] (Value.ref a :: st) h Q := wp_aload (show (lcode 98)[28]? = some (.aload 0) by decide +kernel) rfl
theorem x98_29 : WP d 98 29 [l0, l1] (.ref a :: st) h Q ↔ gF (hRd h a) 10 4 (fun v => WP d 98 30 [l0, l1] (v :: st) h Q) := wp_getfield (show (lcode 98)[29]? = some (.getfield 644) by decide +kernel)
theorem x98_30 : WP d 98 30 [l0, l1] (v :: st) h Q ↔ (sh st ∧ CALL d 24 [v] h (fun v h => WP d 98 31 [l0, l1] (v.toList ++ st) h Q)) := wp_call (n := 1) (show (lcode 98)[30]? = some (.invokestatic 24) by decide +kernel) (by decide +kernel) (by simp)
theorem x98_31 : WP d 98 31 [l0, l1] st h Q ↔ WP d 98 32 [l0, l1] (vI 1 :: st) h Q := wp_iconst (show (lcode 98)[31]? = some (.iconst 1) by decide +kernel)
theorem x98_32 : WP d 98 32 [l0, l1] [vI x] h Q ↔ Q (some (vI x)) h := wp_ireturn (show (lcode 98)[32]? = some (.ireturn) by decide +kernel)
-- 99: WakeOrder.isPerson
theorem x99_0 : WP d 99 0 [l0, some (vI x)] st h Q ↔ WP d 99 1 [l0, some (vI x)] (vI x :: st) h Q := wp_iload (show (lcode 99)[0]? = some (.iload 1) by decide +kernel) rfl
theorem x99_1 : WP d 99 1 [l0, l1] (vI x :: st) h Q ↔ ((wr x < 0 → WP d 99 12 [l0, l1] st h Q) ∧ (¬ (wr x < 0) → WP d 99 2 [l0, l1] st h Q)) := wp_if_lt (show (lcode 99)[1]? = some (.ifCond .lt 12) by decide +kernel)
theorem x99_2 : WP d 99 2 [l0, some (vI x)] st h Q ↔ WP d 99 3 [l0, some (vI x)] (vI x :: st) h Q := wp_iload (show (lcode 99)[2]? = some (.iload 1) by decide +kernel) rfl
theorem x99_3 : WP d 99 3 [some (Value.ref a), l1] st h Q ↔ WP d 99 4 [some (Value.ref a), l1] (Value.ref a :: st) h Q := wp_aload (show (lcode 99)[3]? = some (.aload 0) by decide +kernel) rfl
theorem x99_4 : WP d 99 4 [l0, l1] (.ref a :: st) h Q ↔ gF (hRd h a) 10 2 (fun v => WP d 99 5 [l0, l1] (v :: st) h Q) := wp_getfield (show (lcode 99)[4]? = some (.getfield 642) by decide +kernel)
theorem x99_5 : WP d 99 5 [l0, l1] (.ref a :: st) h Q ↔ gF (hRd h a) 2 1 (fun v => WP d 99 6 [l0, l1] (v :: st) h Q) := wp_getfield (show (lcode 99)[5]? = some (.getfield 129) by decide +kernel)
theorem x99_6 : WP d 99 6 [l0, l1] (vI y :: vI x :: st) h Q ↔ ((wr y ≤ wr x → WP d 99 12 [l0, l1] st h Q) ∧ (¬ (wr y ≤ wr x) → WP d 99 7 [l0, l1] st h Q)) := wp_icmp_ge (show (lcode 99)[6]? = some (.if_icmp .ge 12) by decide +kernel)
theorem x99_7 : WP d 99 7 [l0, some (vI x)] st h Q ↔ WP d 99 8 [l0, some (vI x)] (vI x :: st) h Q := wp_iload (show (lcode 99)[7]? = some (.iload 1) by decide +kernel) rfl
theorem x99_8 : WP d 99 8 [l0, l1] st h Q ↔ WP d 99 9 [l0, l1] (vI 6 :: st) h Q := wp_iconst (show (lcode 99)[8]? = some (.iconst 6) by decide +kernel)
theorem x99_9 : WP d 99 9 [l0, l1] (vI y :: vI x :: st) h Q ↔ ((wr y ≤ wr x → WP d 99 12 [l0, l1] st h Q) ∧ (¬ (wr y ≤ wr x) → WP d 99 10 [l0, l1] st h Q)) := wp_icmp_ge (show (lcode 99)[9]? = some (.if_icmp .ge 12) by decide +kernel)
theorem x99_10 : WP d 99 10 [l0, l1] st h Q ↔ WP d 99 11 [l0, l1] (vI 1 :: st) h Q := wp_iconst (show (lcode 99)[10]? = some (.iconst 1) by decide +kernel)
theorem x99_11 : WP d 99 11 [l0, l1] st h Q ↔ WP d 99 13 [l0, l1] st h Q := wp_goto (show (lcode 99)[11]? = some (.goto 13) by decide +kernel)
theorem x99_12 : WP d 99 12 [l0, l1] st h Q ↔ WP d 99 13 [l0, l1] (vI 0 :: st) h Q := wp_iconst (show (lcode 99)[12]? = some (.iconst 0) by decide +kernel)
theorem x99_13 : WP d 99 13 [l0, l1] [vI x] h Q ↔ ((Int32.ofInt x = 0 ∨ Int32.ofInt x = 1) ∧ Q (some (vI x)) h) := wp_areturn (show (lcode 99)[13]? = some (.areturn) by decide +kernel)
-- 100: WakeOrder.isJob
theorem x100_0 : WP d 100 0 [l0, some (vI x)] st h Q ↔ WP d 100 1 [l0, some (vI x)] (vI x :: st) h Q := wp_iload (show (lcode 100)[0]? = some (.iload 1) by decide +kernel) rfl
theorem x100_1 : WP d 100 1 [l0, l1] (vI x :: st) h Q ↔ ((wr x < 0 → WP d 100 12 [l0, l1] st h Q) ∧ (¬ (wr x < 0) → WP d 100 2 [l0, l1] st h Q)) := wp_if_lt (show (lcode 100)[1]? = some (.ifCond .lt 12) by decide +kernel)
theorem x100_2 : WP d 100 2 [l0, some (vI x)] st h Q ↔ WP d 100 3 [l0, some (vI x)] (vI x :: st) h Q := wp_iload (show (lcode 100)[2]? = some (.iload 1) by decide +kernel) rfl
theorem x100_3 : WP d 100 3 [some (Value.ref a), l1] st h Q ↔ WP d 100 4 [some (Value.ref a), l1] (Value.ref a :: st) h Q := wp_aload (show (lcode 100)[3]? = some (.aload 0) by decide +kernel) rfl
theorem x100_4 : WP d 100 4 [l0, l1] (.ref a :: st) h Q ↔ gF (hRd h a) 10 2 (fun v => WP d 100 5 [l0, l1] (v :: st) h Q) := wp_getfield (show (lcode 100)[4]? = some (.getfield 642) by decide +kernel)
theorem x100_5 : WP d 100 5 [l0, l1] (.ref a :: st) h Q ↔ gF (hRd h a) 2 2 (fun v => WP d 100 6 [l0, l1] (v :: st) h Q) := wp_getfield (show (lcode 100)[5]? = some (.getfield 130) by decide +kernel)
theorem x100_6 : WP d 100 6 [l0, l1] (vI y :: vI x :: st) h Q ↔ ((wr y ≤ wr x → WP d 100 12 [l0, l1] st h Q) ∧ (¬ (wr y ≤ wr x) → WP d 100 7 [l0, l1] st h Q)) := wp_icmp_ge (show (lcode 100)[6]? = some (.if_icmp .ge 12) by decide +kernel)
theorem x100_7 : WP d 100 7 [l0, some (vI x)] st h Q ↔ WP d 100 8 [l0, some (vI x)] (vI x :: st) h Q := wp_iload (show (lcode 100)[7]? = some (.iload 1) by decide +kernel) rfl
theorem x100_8 : WP d 100 8 [l0, l1] st h Q ↔ WP d 100 9 [l0, l1] (vI 8 :: st) h Q := wp_iconst (show (lcode 100)[8]? = some (.iconst 8) by decide +kernel)
theorem x100_9 : WP d 100 9 [l0, l1] (vI y :: vI x :: st) h Q ↔ ((wr y ≤ wr x → WP d 100 12 [l0, l1] st h Q) ∧ (¬ (wr y ≤ wr x) → WP d 100 10 [l0, l1] st h Q)) := wp_icmp_ge (show (lcode 100)[9]? = some (.if_icmp .ge 12) by decide +kernel)
theorem x100_10 : WP d 100 10 [l0, l1] st h Q ↔ WP d 100 11 [l0, l1] (vI 1 :: st) h Q := wp_iconst (show (lcode 100)[10]? = some (.iconst 1) by decide +kernel)
theorem x100_11 : WP d 100 11 [l0, l1] st h Q ↔ WP d 100 13 [l0, l1] st h Q := wp_goto (show (lcode 100)[11]? = some (.goto 13) by decide +kernel)
theorem x100_12 : WP d 100 12 [l0, l1] st h Q ↔ WP d 100 13 [l0, l1] (vI 0 :: st) h Q := wp_iconst (show (lcode 100)[12]? = some (.iconst 0) by decide +kernel)
theorem x100_13 : WP d 100 13 [l0, l1] [vI x] h Q ↔ ((Int32.ofInt x = 0 ∨ Int32.ofInt x = 1) ∧ Q (some (vI x)) h) := wp_areturn (show (lcode 100)[13]? = some (.areturn) by decide +kernel)
-- 101: WakeOrder.setOfFirst
theorem x101_0 : WP d 101 0 [l0] st h Q ↔ WP d 101 1 [l0] (vI 1 :: st) h Q := wp_iconst (show (lcode 101)[0]? = some (.iconst 1) by decide +kernel)
theorem x101_1 : WP d 101 1 [some (vI x)] st h Q ↔ WP d 101 2 [some (vI x)] (vI x :: st) h Q := wp_iload (show (lcode 101)[1]? = some (.iload 0) by decide +kernel) rfl
theorem x101_2 : WP d 101 2 [l0] (vI y :: vI x :: st) h Q ↔ WP d 101 3 [l0] (vI (zshl x y) :: st) h Q := wp_ishl (show (lcode 101)[2]? = some (.ishl) by decide +kernel)
theorem x101_3 : WP d 101 3 [l0] st h Q ↔ WP d 101 4 [l0] (vI 1 :: st) h Q := wp_iconst (show (lcode 101)[3]? = some (.iconst 1) by decide +kernel)
theorem x101_4 : WP d 101 4 [l0] (vI y :: vI x :: st) h Q ↔ WP d 101 5 [l0] (vI (x - y) :: st) h Q := wp_isub (show (lcode 101)[4]? = some (.isub) by decide +kernel)
theorem x101_5 : WP d 101 5 [l0] [vI x] h Q ↔ Q (some (vI x)) h := wp_ireturn (show (lcode 101)[5]? = some (.ireturn) by decide +kernel)
-- 102: WakeOrder.dismissedOnes
theorem x102_0 : WP d 102 0 [some (Value.ref a)] st h Q ↔ WP d 102 1 [some (Value.ref a)] (Value.ref a :: st) h Q := wp_aload (show (lcode 102)[0]? = some (.aload 0) by decide +kernel) rfl
theorem x102_1 : WP d 102 1 [l0] (.ref a :: st) h Q ↔ gF (hRd h a) 10 2 (fun v => WP d 102 2 [l0] (v :: st) h Q) := wp_getfield (show (lcode 102)[1]? = some (.getfield 642) by decide +kernel)
theorem x102_2 : WP d 102 2 [l0] (.ref a :: st) h Q ↔ gF (hRd h a) 2 1 (fun v => WP d 102 3 [l0] (v :: st) h Q) := wp_getfield (show (lcode 102)[2]? = some (.getfield 129) by decide +kernel)
theorem x102_3 : WP d 102 3 [l0] (v :: st) h Q ↔ (sh st ∧ CALL d 101 [v] h (fun v h => WP d 102 4 [l0] (v.toList ++ st) h Q)) := wp_call (n := 1) (show (lcode 102)[3]? = some (.invokestatic 101) by decide +kernel) (by decide +kernel) (by simp)
theorem x102_4 : WP d 102 4 [some (Value.ref a)] st h Q ↔ WP d 102 5 [some (Value.ref a)] (Value.ref a :: st) h Q := wp_aload (show (lcode 102)[4]? = some (.aload 0) by decide +kernel) rfl
theorem x102_5 : WP d 102 5 [l0] (.ref a :: st) h Q ↔ gF (hRd h a) 10 3 (fun v => WP d 102 6 [l0] (v :: st) h Q) := wp_getfield (show (lcode 102)[5]? = some (.getfield 643) by decide +kernel)
theorem x102_6 : WP d 102 6 [l0] (.ref a :: st) h Q ↔ gF (hRd h a) 7 0 (fun v => WP d 102 7 [l0] (v :: st) h Q) := wp_getfield (show (lcode 102)[6]? = some (.getfield 448) by decide +kernel)
theorem x102_7 : WP d 102 7 [l0] (v :: st) h Q ↔ (sh st ∧ CALL d 46 [v] h (fun v h => WP d 102 8 [l0] (v.toList ++ st) h Q)) := wp_call (n := 1) (show (lcode 102)[7]? = some (.invokestatic 46) by decide +kernel) (by decide +kernel) (by simp)
theorem x102_8 : WP d 102 8 [l0] st h Q ↔ WP d 102 9 [l0] (vI (-1) :: st) h Q := wp_iconst (show (lcode 102)[8]? = some (.iconst (-1)) by decide +kernel)
theorem x102_9 : WP d 102 9 [l0] (vI y :: vI x :: st) h Q ↔ WP d 102 10 [l0] (vI (zxor x y) :: st) h Q := wp_ixor (show (lcode 102)[9]? = some (.ixor) by decide +kernel)
theorem x102_10 : WP d 102 10 [l0] (vI y :: vI x :: st) h Q ↔ WP d 102 11 [l0] (vI (zand x y) :: st) h Q := wp_iand (show (lcode 102)[10]? = some (.iand) by decide +kernel)
theorem x102_11 : WP d 102 11 [l0] [vI x] h Q ↔ Q (some (vI x)) h := wp_ireturn (show (lcode 102)[11]? = some (.ireturn) by decide +kernel)
-- 103: WakeOrder.jobsOf
theorem x103_0 : WP d 103 0 [l0, l1, l2, l3] st h Q ↔ WP d 103 1 [l0, l1, l2, l3] (vI 0 :: st) h Q := wp_iconst (show (lcode 103)[0]? = some (.iconst 0) by decide +kernel)
theorem x103_1 : WP d 103 1 [l0, l1, l2, l3] (vI x :: st) h Q ↔ (nl l1 ∧ WP d 103 2 [l0, l1, some (vI x), l3] st h Q) := wp_istore (show (lcode 103)[1]? = some (.istore 2) by decide +kernel) (Nat.le_of_ble_eq_true rfl)
theorem x103_2 : WP d 103 2 [l0, l1, l2, l3] st h Q ↔ WP d 103 3 [l0, l1, l2, l3] (vI 0 :: st) h Q := wp_iconst (show (lcode 103)[2]? = some (.iconst 0) by decide +kernel)
theorem x103_3 : WP d 103 3 [l0, l1, l2, l3] (vI x :: st) h Q ↔ (nl l2 ∧ WP d 103 4 [l0, l1, l2, some (vI x)] st h Q) := wp_istore (show (lcode 103)[3]? = some (.istore 3) by decide +kernel) (Nat.le_of_ble_eq_true rfl)
theorem x103_4 : WP d 103 4 [l0, l1, l2, l3] st h Q ↔ WPC d 103 5 [l0, l1, l2, l3] st h Q := wp_nop (show (lcode 103)[4]? = some (.nop) by decide +kernel)
theorem x103_5 : WP d 103 5 [l0, l1, l2, some (vI x)] st h Q ↔ WP d 103 6 [l0, l1, l2, some (vI x)] (vI x :: st) h Q := wp_iload (show (lcode 103)[5]? = some (.iload 3) by decide +kernel) rfl
theorem x103_6 : WP d 103 6 [l0, l1, l2, l3] st h Q ↔ WP d 103 7 [l0, l1, l2, l3] (vI 8 :: st) h Q := wp_iconst (show (lcode 103)[6]? = some (.iconst 8) by decide +kernel)
theorem x103_7 : WP d 103 7 [l0, l1, l2, l3] (vI y :: vI x :: st) h Q ↔ ((wr y ≤ wr x → WP d 103 23 [l0, l1, l2, l3] st h Q) ∧ (¬ (wr y ≤ wr x) → WP d 103 8 [l0, l1, l2, l3] st h Q)) := wp_icmp_ge (show (lcode 103)[7]? = some (.if_icmp .ge 23) by decide +kernel)
theorem x103_8 : WP d 103 8 [l0, l1, l2, some (vI x)] st h Q ↔ WP d 103 9 [l0, l1, l2, some (vI x)] (vI x :: st) h Q := wp_iload (show (lcode 103)[8]? = some (.iload 3) by decide +kernel) rfl
theorem x103_9 : WP d 103 9 [some (Value.ref a), l1, l2, l3] st h Q ↔ WP d 103 10 [some (Value.ref a), l1, l2, l3] (Value.ref a :: st) h Q := wp_aload (show (lcode 103)[9]? = some (.aload 0) by decide +kernel) rfl
theorem x103_10 : WP d 103 10 [l0, l1, l2, l3] (.ref a :: st) h Q ↔ gF (hRd h a) 10 2 (fun v => WP d 103 11 [l0, l1, l2, l3] (v :: st) h Q) := wp_getfield (show (lcode 103)[10]? = some (.getfield 642) by decide +kernel)
theorem x103_11 : WP d 103 11 [l0, l1, l2, l3] (.ref a :: st) h Q ↔ gF (hRd h a) 2 2 (fun v => WP d 103 12 [l0, l1, l2, l3] (v :: st) h Q) := wp_getfield (show (lcode 103)[11]? = some (.getfield 130) by decide +kernel)
theorem x103_12 : WP d 103 12 [l0, l1, l2, l3] (vI y :: vI x :: st) h Q ↔ ((wr y ≤ wr x → WP d 103 23 [l0, l1, l2, l3] st h Q) ∧ (¬ (wr y ≤ wr x) → WP d 103 13 [l0, l1, l2, l3] st h Q)) := wp_icmp_ge (show (lcode 103)[12]? = some (.if_icmp .ge 23) by decide +kernel)
theorem x103_13 : WP d 103 13 [some (Value.ref a), l1, l2, l3] st h Q ↔ WP d 103 14 [some (Value.ref a), l1, l2, l3] (Value.ref a :: st) h Q := wp_aload (show (lcode 103)[13]? = some (.aload 0) by decide +kernel) rfl
theorem x103_14 : WP d 103 14 [l0, l1, l2, l3] (.ref a :: st) h Q ↔ gF (hRd h a) 10 3 (fun v => WP d 103 15 [l0, l1, l2, l3] (v :: st) h Q) := wp_getfield (show (lcode 103)[14]? = some (.getfield 643) by decide +kernel)
theorem x103_15 : WP d 103 15 [l0, l1, l2, l3] (.ref a :: st) h Q ↔ gF (hRd h a) 7 2 (fun v => WP d 103 16 [l0, l1, l2, l3] (v :: st) h Q) := wp_getfield (show (lcode 103)[15]? = some (.getfield 450) by decide +kernel)
theorem x103_16 : WP d 103 16 [l0, l1, l2, some (vI x)] st h Q ↔ WP d 103 17 [l0, l1, l2, some (vI x)] (vI x :: st) h Q := wp_iload (show (lcode 103)[16]? = some (.iload 3) by decide +kernel) rfl
theorem x103_17 : WP d 103 17 [l0, l1, l2, l3] (vI x :: .ref a :: st) h Q ↔ ldA (hRd h a) x (fun v => WP d 103 18 [l0, l1, l2, l3] (v :: st) h Q) := wp_iaload (show (lcode 103)[17]? = some (.iaload) by decide +kernel)
theorem x103_18 : WP d 103 18 [l0, some (vI x), l2, l3] st h Q ↔ WP d 103 19 [l0, some (vI x), l2, l3] (vI x :: st) h Q := wp_iload (show (lcode 103)[18]? = some (.iload 1) by decide +kernel) rfl
theorem x103_19 : WP d 103 19 [l0, l1, l2, l3] (vI y :: vI x :: st) h Q ↔ ((¬ wr x = wr y → WP d 103 21 [l0, l1, l2, l3] st h Q) ∧ (¬ (¬ wr x = wr y) → WP d 103 20 [l0, l1, l2, l3] st h Q)) := wp_icmp_ne (show (lcode 103)[19]? = some (.if_icmp .ne 21) by decide +kernel)
theorem x103_20 : WP d 103 20 [l0, l1, some (vI x), l3] st h Q ↔ (nl l1 ∧ WP d 103 21 [l0, l1, some (vI (x + 1)), l3] st h Q) := wp_iinc (show (lcode 103)[20]? = some (.iinc 2 1) by decide +kernel) rfl (Nat.le_of_ble_eq_true rfl)
theorem x103_21 : WP d 103 21 [l0, l1, l2, some (vI x)] st h Q ↔ (nl l2 ∧ WP d 103 22 [l0, l1, l2, some (vI (x + 1))] st h Q) := wp_iinc (show (lcode 103)[21]? = some (.iinc 3 1) by decide +kernel) rfl (Nat.le_of_ble_eq_true rfl)
theorem x103_22 : WP d 103 22 [l0, l1, l2, l3] st h Q ↔ WP d 103 4 [l0, l1, l2, l3] st h Q := wp_goto (show (lcode 103)[22]? = some (.goto 4) by decide +kernel)
theorem x103_23 : WP d 103 23 [l0, l1, some (vI x), l3] st h Q ↔ WP d 103 24 [l0, l1, some (vI x), l3] (vI x :: st) h Q := wp_iload (show (lcode 103)[23]? = some (.iload 2) by decide +kernel) rfl
theorem x103_24 : WP d 103 24 [l0, l1, l2, l3] [vI x] h Q ↔ Q (some (vI x)) h := wp_ireturn (show (lcode 103)[24]? = some (.ireturn) by decide +kernel)
-- 104: WakeOrder.drawMorning
theorem x104_0 : WP d 104 0 [l0, l1] st h Q ↔ WP d 104 1 [l0, l1] (vI 0 :: st) h Q := wp_iconst (show (lcode 104)[0]? = some (.iconst 0) by decide +kernel)
theorem x104_1 : WP d 104 1 [l0, l1] (vI x :: st) h Q ↔ (nl l0 ∧ WP d 104 2 [l0, some (vI x)] st h Q) := wp_istore (show (lcode 104)[1]? = some (.istore 1) by decide +kernel) (Nat.le_of_ble_eq_true rfl)
theorem x104_2 : WP d 104 2 [l0, l1] st h Q ↔ WPC d 104 3 [l0, l1] st h Q := wp_nop (show (lcode 104)[2]? = some (.nop) by decide +kernel)
theorem x104_3 : WP d 104 3 [l0, some (vI x)] st h Q ↔ WP d 104 4 [l0, some (vI x)] (vI x :: st) h Q := wp_iload (show (lcode 104)[3]? = some (.iload 1) by decide +kernel) rfl
theorem x104_4 : WP d 104 4 [l0, l1] st h Q ↔ WP d 104 5 [l0, l1] (vI 6 :: st) h Q := wp_iconst (show (lcode 104)[4]? = some (.iconst 6) by decide +kernel)
theorem x104_5 : WP d 104 5 [l0, l1] (vI y :: vI x :: st) h Q ↔ ((wr y ≤ wr x → WP d 104 23 [l0, l1] st h Q) ∧ (¬ (wr y ≤ wr x) → WP d 104 6 [l0, l1] st h Q)) := wp_icmp_ge (show (lcode 104)[5]? = some (.if_icmp .ge 23) by decide +kernel)
theorem x104_6 : WP d 104 6 [l0, some (vI x)] st h Q ↔ WP d 104 7 [l0, some (vI x)] (vI x :: st) h Q := wp_iload (show (lcode 104)[6]? = some (.iload 1) by decide +kernel) rfl
theorem x104_7 : WP d 104 7 [some (Value.ref a), l1] st h Q ↔ WP d 104 8 [some (Value.ref a), l1] (Value.ref a :: st) h Q := wp_aload (show (lcode 104)[7]? = some (.aload 0) by decide +kernel) rfl
theorem x104_8 : WP d 104 8 [l0, l1] (.ref a :: st) h Q ↔ gF (hRd h a) 10 2 (fun v => WP d 104 9 [l0, l1] (v :: st) h Q) := wp_getfield (show (lcode 104)[8]? = some (.getfield 642) by decide +kernel)
theorem x104_9 : WP d 104 9 [l0, l1] (.ref a :: st) h Q ↔ gF (hRd h a) 2 1 (fun v => WP d 104 10 [l0, l1] (v :: st) h Q) := wp_getfield (show (lcode 104)[9]? = some (.getfield 129) by decide +kernel)
theorem x104_10 : WP d 104 10 [l0, l1] (vI y :: vI x :: st) h Q ↔ ((wr y ≤ wr x → WP d 104 23 [l0, l1] st h Q) ∧ (¬ (wr y ≤ wr x) → WP d 104 11 [l0, l1] st h Q)) := wp_icmp_ge (show (lcode 104)[10]? = some (.if_icmp .ge 23) by decide +kernel)
theorem x104_11 : WP d 104 11 [some (Value.ref a), l1] st h Q ↔ WP d 104 12 [some (Value.ref a), l1] (Value.ref a :: st) h Q := wp_aload (show (lcode 104)[11]? = some (.aload 0) by decide +kernel) rfl
theorem x104_12 : WP d 104 12 [l0, l1] (.ref a :: st) h Q ↔ gF (hRd h a) 10 3 (fun v => WP d 104 13 [l0, l1] (v :: st) h Q) := wp_getfield (show (lcode 104)[12]? = some (.getfield 643) by decide +kernel)
theorem x104_13 : WP d 104 13 [l0, l1] (.ref a :: st) h Q ↔ gF (hRd h a) 7 1 (fun v => WP d 104 14 [l0, l1] (v :: st) h Q) := wp_getfield (show (lcode 104)[13]? = some (.getfield 449) by decide +kernel)
theorem x104_14 : WP d 104 14 [l0, some (vI x)] st h Q ↔ WP d 104 15 [l0, some (vI x)] (vI x :: st) h Q := wp_iload (show (lcode 104)[14]? = some (.iload 1) by decide +kernel) rfl
theorem x104_15 : WP d 104 15 [some (Value.ref a), l1] st h Q ↔ WP d 104 16 [some (Value.ref a), l1] (Value.ref a :: st) h Q := wp_aload (show (lcode 104)[15]? = some (.aload 0) by decide +kernel) rfl
theorem x104_16 : WP d 104 16 [some (Value.ref a), l1] st h Q ↔ WP d 104 17 [some (Value.ref a), l1] (Value.ref a :: st) h Q := wp_aload (show (lcode 104)[16]? = some (.aload 0) by decide +kernel) rfl
theorem x104_17 : WP d 104 17 [l0, l1] (.ref a :: st) h Q ↔ gF (hRd h a) 10 2 (fun v => WP d 104 18 [l0, l1] (v :: st) h Q) := wp_getfield (show (lcode 104)[17]? = some (.getfield 642) by decide +kernel)
theorem x104_18 : WP d 104 18 [l0, l1] (.ref a :: st) h Q ↔ gF (hRd h a) 2 0 (fun v => WP d 104 19 [l0, l1] (v :: st) h Q) := wp_getfield (show (lcode 104)[18]? = some (.getfield 128) by decide +kernel)
theorem x104_19 : WP d 104 19 [l0, l1] (v1 :: v :: st) h Q ↔ (sh st ∧ CALL d 105 [v, v1] h (fun v h => WP d 104 20 [l0, l1] (v.toList ++ st) h Q)) := wp_call (n := 2) (show (lcode 104)[19]? = some (.invokestatic 105) by decide +kernel) (by decide +kernel) (by simp)
theorem x104_20 : WP d 104 20 [l0, l1] (vI y :: vI x :: .ref a :: st) h Q ↔ stA (hRd h a) a x (vI y) (fun c => WP d 104 21 [l0, l1] st (hWr h a c) Q) := wp_iastore (show (lcode 104)[20]? = some (.iastore) by decide +kernel)
theorem x104_21 : WP d 104 21 [l0, some (vI x)] st h Q ↔ (nl l0 ∧ WP d 104 22 [l0, some (vI (x + 1))] st h Q) := wp_iinc (show (lcode 104)[21]? = some (.iinc 1 1) by decide +kernel) rfl (Nat.le_of_ble_eq_true rfl)
theorem x104_22 : WP d 104 22 [l0, l1] st h Q ↔ WP d 104 2 [l0, l1] st h Q := wp_goto (show (lcode 104)[22]? = some (.goto 2) by decide +kernel)
theorem x104_23 : WP d 104 23 [l0, l1] [] h Q ↔ Q none h := wp_return (show (lcode 104)[23]? = some (.return_) by decide +kernel)
-- 105: WakeOrder.drawBelow
theorem x105_0 : WP d 105 0 [some (Value.ref a), l1] st h Q ↔ WP d 105 1 [some (Value.ref a), l1] (Value.ref a :: st) h Q := wp_aload (show (lcode 105)[0]? = some (.aload 0) by decide +kernel) rfl
theorem x105_1 : WP d 105 1 [some (Value.ref a), l1] st h Q ↔ WP d 105 2 [some (Value.ref a), l1] (Value.ref a :: st) h Q := wp_aload (show (lcode 105)[1]? = some (.aload 0) by decide +kernel) rfl
theorem x105_2 : WP d 105 2 [l0, l1] (.ref a :: st) h Q ↔ gF (hRd h a) 10 9 (fun v => WP d 105 3 [l0, l1] (v :: st) h Q) := wp_getfield (show (lcode 105)[2]? = some (.getfield 649) by decide +kernel)
theorem x105_3 : WP d 105 3 [l0, l1] (vI x :: st) h Q ↔ WP d 105 4 [l0, l1] (vL (wr x) :: st) h Q := wp_i2l (show (lcode 105)[3]? = some (.i2l) by decide +kernel)
theorem x105_4 : WP d 105 4 [l0, l1] st h Q ↔ WP d 105 5 [l0, l1] (vL 1103515245 :: st) h Q := wp_lconst (show (lcode 105)[4]? = some (.jsr_w 1103515245) by decide +kernel)
theorem x105_5 : WP d 105 5 [l0, l1] (vL y :: vL x :: st) h Q ↔ WP d 105 6 [l0, l1] (vL (x * y) :: st) h Q := wp_lmul (show (lcode 105)[5]? = some (.lmul) by decide +kernel)
theorem x105_6 : WP d 105 6 [l0, l1] st h Q ↔ WP d 105 7 [l0, l1] (vL 12345 :: st) h Q := wp_lconst (show (lcode 105)[6]? = some (.jsr_w 12345) by decide +kernel)
theorem x105_7 : WP d 105 7 [l0, l1] (vL y :: vL x :: st) h Q ↔ WP d 105 8 [l0, l1] (vL (x + y) :: st) h Q := wp_ladd (show (lcode 105)[7]? = some (.ladd) by decide +kernel)
theorem x105_8 : WP d 105 8 [l0, l1] st h Q ↔ WP d 105 9 [l0, l1] (vL 2147483647 :: st) h Q := wp_lconst (show (lcode 105)[8]? = some (.jsr_w 2147483647) by decide +kernel)
theorem x105_9 : WP d 105 9 [l0, l1] (vL y :: vL x :: st) h Q ↔ WP d 105 10 [l0, l1] (vL (zland x y) :: st) h Q := wp_land (show (lcode 105)[9]? = some (.land) by decide +kernel)
theorem x105_10 : WP d 105 10 [l0, l1] (vL x :: st) h Q ↔ WP d 105 11 [l0, l1] (vI x :: st) h Q := wp_l2i (show (lcode 105)[10]? = some (.l2i) by decide +kernel)
theorem x105_11 : WP d 105 11 [l0, l1] (vI x :: .ref a :: st) h Q ↔ pF (hRd h a) 10 9 (vI x) (fun c => WP d 105 12 [l0, l1] st (hWr h a c) Q) := wp_putfield (show (lcode 105)[11]? = some (.putfield 649) by decide +kernel)
theorem x105_12 : WP d 105 12 [l0, some (vI x)] st h Q ↔ WP d 105 13 [l0, some (vI x)] (vI x :: st) h Q := wp_iload (show (lcode 105)[12]? = some (.iload 1) by decide +kernel) rfl
theorem x105_13 : WP d 105 13 [l0, l1] (vI x :: st) h Q ↔ ((wr x ≤ 0 → WP d 105 21 [l0, l1] st h Q) ∧ (¬ (wr x ≤ 0) → WP d 105 14 [l0, l1] st h Q)) := wp_if_le (show (lcode 105)[13]? = some (.ifCond .le 21) by decide +kernel)
theorem x105_14 : WP d 105 14 [some (Value.ref a), l1] st h Q ↔ WP d 105 15 [some (Value.ref a), l1] (Value.ref a :: st) h Q := wp_aload (show (lcode 105)[14]? = some (.aload 0) by decide +kernel) rfl
theorem x105_15 : WP d 105 15 [l0, l1] (.ref a :: st) h Q ↔ gF (hRd h a) 10 9 (fun v => WP d 105 16 [l0, l1] (v :: st) h Q) := wp_getfield (show (lcode 105)[15]? = some (.getfield 649) by decide +kernel)
theorem x105_16 : WP d 105 16 [l0, l1] st h Q ↔ WP d 105 17 [l0, l1] (vI 65536 :: st) h Q := wp_iconst (show (lcode 105)[16]? = some (.iconst 65536) by decide +kernel)
theorem x105_17 : WP d 105 17 [l0, l1] (vI y :: vI x :: st) h Q ↔ (¬ wr y = 0 ∧ WP d 105 18 [l0, l1] (vI (zdiv x y) :: st) h Q) := wp_idiv (show (lcode 105)[17]? = some (.idiv) by decide +kernel)
theorem x105_18 : WP d 105 18 [l0, some (vI x)] st h Q ↔ WP d 105 19 [l0, some (vI x)] (vI x :: st) h Q := wp_iload (show (lcode 105)[18]? = some (.iload 1) by decide +kernel) rfl
theorem x105_19 : WP d 105 19 [l0, l1] (vI y :: vI x :: st) h Q ↔ (¬ wr y = 0 ∧ WP d 105 20 [l0, l1] (vI (zrem x y) :: st) h Q) := wp_irem (show (lcode 105)[19]? = some (.irem) by decide +kernel)
theorem x105_20 : WP d 105 20 [l0, l1] st h Q ↔ WP d 105 22 [l0, l1] st h Q := wp_goto (show (lcode 105)[20]? = some (.goto 22) by decide +kernel)
theorem x105_21 : WP d 105 21 [l0, l1] st h Q ↔ WP d 105 22 [l0, l1] (vI 0 :: st) h Q := wp_iconst (show (lcode 105)[21]? = some (.iconst 0) by decide +kernel)
theorem x105_22 : WP d 105 22 [l0, l1] [vI x] h Q ↔ Q (some (vI x)) h := wp_ireturn (show (lcode 105)[22]? = some (.ireturn) by decide +kernel)
-- 106: WakeOrder.holds
theorem x106_0 : WP d 106 0 [l0, some (vI x)] st h Q ↔ WP d 106 1 [l0, some (vI x)] (vI x :: st) h Q := wp_iload (show (lcode 106)[0]? = some (.iload 1) by decide +kernel) rfl
theorem x106_1 : WP d 106 1 [l0, l1] (vI x :: st) h Q ↔ ((wr x < 0 → WP d 106 8 [l0, l1] st h Q) ∧ (¬ (wr x < 0) → WP d 106 2 [l0, l1] st h Q)) := wp_if_lt (show (lcode 106)[1]? = some (.ifCond .lt 8) by decide +kernel)
theorem x106_2 : WP d 106 2 [l0, some (vI x)] st h Q ↔ WP d 106 3 [l0, some (vI x)] (vI x :: st) h Q := wp_iload (show (lcode 106)[2]? = some (.iload 1) by decide +kernel) rfl
theorem x106_3 : WP d 106 3 [some (Value.ref a), l1] st h Q ↔ WP d 106 4 [some (Value.ref a), l1] (Value.ref a :: st) h Q := wp_aload (show (lcode 106)[3]? = some (.aload 0) by decide +kernel) rfl
theorem x106_4 : WP d 106 4 [l0, l1] (.ref a :: st) h Q ↔ aL (hRd h a) (fun v => WP d 106 5 [l0, l1] (v :: st) h Q) := wp_arraylength (show (lcode 106)[4]? = some (.arraylength) by decide +kernel)
theorem x106_5 : WP d 106 5 [l0, l1] (vI y :: vI x :: st) h Q ↔ ((wr y ≤ wr x → WP d 106 8 [l0, l1] st h Q) ∧ (¬ (wr y ≤ wr x) → WP d 106 6 [l0, l1] st h Q)) := wp_icmp_ge (show (lcode 106)[5]? = some (.if_icmp .ge 8) by decide +kernel)
theorem x106_6 : WP d 106 6 [l0, l1] st h Q ↔ WP d 106 7 [l0, l1] (vI 1 :: st) h Q := wp_iconst (show (lcode 106)[6]? = some (.iconst 1) by decide +kernel)
theorem x106_7 : WP d 106 7 [l0, l1] st h Q ↔ WP d 106 9 [l0, l1] st h Q := wp_goto (show (lcode 106)[7]? = some (.goto 9) by decide +kernel)
theorem x106_8 : WP d 106 8 [l0, l1] st h Q ↔ WP d 106 9 [l0, l1] (vI 0 :: st) h Q := wp_iconst (show (lcode 106)[8]? = some (.iconst 0) by decide +kernel)
theorem x106_9 : WP d 106 9 [l0, l1] [vI x] h Q ↔ ((Int32.ofInt x = 0 ∨ Int32.ofInt x = 1) ∧ Q (some (vI x)) h) := wp_areturn (show (lcode 106)[9]? = some (.areturn) by decide +kernel)
-- 107: WakeOrder.valueAt
theorem x107_0 : WP d 107 0 [l0, some (vI x)] st h Q ↔ WP d 107 1 [l0, some (vI x)] (vI x :: st) h Q := wp_iload (show (lcode 107)[0]? = some (.iload 1) by decide +kernel) rfl
theorem x107_1 : WP d 107 1 [l0, l1] (vI x :: st) h Q ↔ ((wr x < 0 → WP d 107 10 [l0, l1] st h Q) ∧ (¬ (wr x < 0) → WP d 107 2 [l0, l1] st h Q)) := wp_if_lt (show (lcode 107)[1]? = some (.ifCond .lt 10) by decide +kernel)
theorem x107_2 : WP d 107 2 [l0, some (vI x)] st h Q ↔ WP d 107 3 [l0, some (vI x)] (vI x :: st) h Q := wp_iload (show (lcode 107)[2]? = some (.iload 1) by decide +kernel) rfl
theorem x107_3 : WP d 107 3 [some (Value.ref a), l1] st h Q ↔ WP d 107 4 [some (Value.ref a), l1] (Value.ref a :: st) h Q := wp_aload (show (lcode 107)[3]? = some (.aload 0) by decide +kernel) rfl
theorem x107_4 : WP d 107 4 [l0, l1] (.ref a :: st) h Q ↔ aL (hRd h a) (fun v => WP d 107 5 [l0, l1] (v :: st) h Q) := wp_arraylength (show (lcode 107)[4]? = some (.arraylength) by decide +kernel)
theorem x107_5 : WP d 107 5 [l0, l1] (vI y :: vI x :: st) h Q ↔ ((wr y ≤ wr x → WP d 107 10 [l0, l1] st h Q) ∧ (¬ (wr y ≤ wr x) → WP d 107 6 [l0, l1] st h Q)) := wp_icmp_ge (show (lcode 107)[5]? = some (.if_icmp .ge 10) by decide +kernel)
theorem x107_6 : WP d 107 6 [some (Value.ref a), l1] st h Q ↔ WP d 107 7 [some (Value.ref a), l1] (Value.ref a :: st) h Q := wp_aload (show (lcode 107)[6]? = some (.aload 0) by decide +kernel) rfl
theorem x107_7 : WP d 107 7 [l0, some (vI x)] st h Q ↔ WP d 107 8 [l0, some (vI x)] (vI x :: st) h Q := wp_iload (show (lcode 107)[7]? = some (.iload 1) by decide +kernel) rfl
theorem x107_8 : WP d 107 8 [l0, l1] (vI x :: .ref a :: st) h Q ↔ ldA (hRd h a) x (fun v => WP d 107 9 [l0, l1] (v :: st) h Q) := wp_iaload (show (lcode 107)[8]? = some (.iaload) by decide +kernel)
theorem x107_9 : WP d 107 9 [l0, l1] st h Q ↔ WP d 107 11 [l0, l1] st h Q := wp_goto (show (lcode 107)[9]? = some (.goto 11) by decide +kernel)
theorem x107_10 : WP d 107 10 [l0, l1] st h Q ↔ WP d 107 11 [l0, l1] (vI (-1) :: st) h Q := wp_iconst (show (lcode 107)[10]? = some (.iconst (-1)) by decide +kernel)
theorem x107_11 : WP d 107 11 [l0, l1] [vI x] h Q ↔ Q (some (vI x)) h := wp_ireturn (show (lcode 107)[11]? = some (.ireturn) by decide +kernel)
-- 108: WakeOrder.laterOrNever
theorem x108_0 : WP d 108 0 [some (vI x), l1] st h Q ↔ WP d 108 1 [some (vI x), l1] (vI x :: st) h Q := wp_iload (show (lcode 108)[0]? = some (.iload 0) by decide +kernel) rfl
theorem x108_1 : WP d 108 1 [l0, l1] st h Q ↔ WP d 108 2 [l0, l1] (vI (-1) :: st) h Q := wp_iconst (show (lcode 108)[1]? = some (.iconst (-1)) by decide +kernel)
theorem x108_2 : WP d 108 2 [l0, l1] (vI y :: vI x :: st) h Q ↔ ((wr x = wr y → WP d 108 6 [l0, l1] st h Q) ∧ (¬ (wr x = wr y) → WP d 108 3 [l0, l1] st h Q)) := wp_icmp_eq (show (lcode 108)[2]? = some (.if_icmp .eq 6) by decide +kernel)
theorem x108_3 : WP d 108 3 [l0, some (vI x)] st h Q ↔ WP d 108 4 [l0, some (vI x)] (vI x :: st) h Q := wp_iload (show (lcode 108)[3]? = some (.iload 1) by decide +kernel) rfl
theorem x108_4 : WP d 108 4 [l0, l1] st h Q ↔ WP d 108 5 [l0, l1] (vI (-1) :: st) h Q := wp_iconst (show (lcode 108)[4]? = some (.iconst (-1)) by decide +kernel)
theorem x108_5 : WP d 108 5 [l0, l1] (vI y :: vI x :: st) h Q ↔ ((¬ wr x = wr y → WP d 108 8 [l0, l1] st h Q) ∧ (¬ (¬ wr x = wr y) → WP d 108 6 [l0, l1] st h Q)) := wp_icmp_ne (show (lcode 108)[5]? = some (.if_icmp .ne 8) by decide +kernel)
theorem x108_6 : WP d 108 6 [l0, l1] st h Q ↔ WP d 108 7 [l0, l1] (vI (-1) :: st) h Q := wp_iconst (show (lcode 108)[6]? = some (.iconst (-1)) by decide +kernel)
theorem x108_7 : WP d 108 7 [l0, l1] st h Q ↔ WP d 108 11 [l0, l1] st h Q := wp_goto (show (lcode 108)[7]? = some (.goto 11) by decide +kernel)
theorem x108_8 : WP d 108 8 [some (vI x), l1] st h Q ↔ WP d 108 9 [some (vI x), l1] (vI x :: st) h Q := wp_iload (show (lcode 108)[8]? = some (.iload 0) by decide +kernel) rfl
theorem x108_9 : WP d 108 9 [l0, some (vI x)] st h Q ↔ WP d 108 10 [l0, some (vI x)] (vI x :: st) h Q := wp_iload (show (lcode 108)[9]? = some (.iload 1) by decide +kernel) rfl
theorem x108_10 : WP d 108 10 [l0, l1] (vI y :: vI x :: st) h Q ↔ ((sd d ∧ sh st) ∧ WP d 108 11 [l0, l1] (vI (if wr x < wr y then y else x) :: st) h Q) := wp_max (show (lcode 108)[10]? = some (.invokeinterface 0 0) by decide +kernel)
theorem x108_11 : WP d 108 11 [l0, l1] [vI x] h Q ↔ Q (some (vI x)) h := wp_ireturn (show (lcode 108)[11]? = some (.ireturn) by decide +kernel)
-- 109: WakeOrderModel.<init>
theorem x109_0 : WP d 109 0 [some (Value.ref a)] st h Q ↔ WP d 109 1 [some (Value.ref a)] (Value.ref a :: st) h Q := wp_aload (show (lcode 109)[0]? = some (.aload 0) by decide +kernel) rfl
theorem x109_1 : WP d 109 1 [l0] (.ref a :: st) h Q ↔ ((sd d ∧ sh st) ∧ WP d 109 2 [l0] st h Q) := wp_pop (show (lcode 109)[1]? = some (.pop) by decide +kernel)
theorem x109_2 : WP d 109 2 [some (Value.ref a)] st h Q ↔ WP d 109 3 [some (Value.ref a)] (Value.ref a :: st) h Q := wp_aload (show (lcode 109)[2]? = some (.aload 0) by decide +kernel) rfl
theorem x109_3 : WP d 109 3 [l0] st h Q ↔ WP d 109 4 [l0] (vI 8 :: st) h Q := wp_iconst (show (lcode 109)[3]? = some (.iconst 8) by decide +kernel)
theorem x109_5 : WP d 109 5 [l0] (Value.ref b :: .ref a :: st) h Q ↔ pF (hRd h a) 11 3 (Value.ref b) (fun c => WP d 109 6 [l0] st (hWr h a c) Q) := wp_putstatic (show (lcode 109)[5]? = some (.putstatic 707) by decide +kernel)
theorem x109_6 : WP d 109 6 [some (Value.ref a)] st h Q ↔ WP d 109 7 [some (Value.ref a)] (Value.ref a :: st) h Q := wp_aload (show (lcode 109)[6]? = some (.aload 0) by decide +kernel) rfl
theorem x109_7 : WP d 109 7 [l0] st h Q ↔ WP d 109 8 [l0] (vI 8 :: st) h Q := wp_iconst (show (lcode 109)[7]? = some (.iconst 8) by decide +kernel)
theorem x109_9 : WP d 109 9 [l0] (Value.ref b :: .ref a :: st) h Q ↔ pF (hRd h a) 11 4 (Value.ref b) (fun c => WP d 109 10 [l0] st (hWr h a c) Q) := wp_putstatic (show (lcode 109)[9]? = some (.putstatic 708) by decide +kernel)
theorem x109_10 : WP d 109 10 [some (Value.ref a)] st h Q ↔ WP d 109 11 [some (Value.ref a)] (Value.ref a :: st) h Q := wp_aload (show (lcode 109)[10]? = some (.aload 0) by decide +kernel) rfl
theorem x109_11 : WP d 109 11 [l0] st h Q ↔ WP d 109 12 [l0] (vI 6 :: st) h Q := wp_iconst (show (lcode 109)[11]? = some (.iconst 6) by decide +kernel)
theorem x109_13 : WP d 109 13 [l0] (Value.ref b :: .ref a :: st) h Q ↔ pF (hRd h a) 11 5 (Value.ref b) (fun c => WP d 109 14 [l0] st (hWr h a c) Q) := wp_putstatic (show (lcode 109)[13]? = some (.putstatic 709) by decide +kernel)
theorem x109_14 : WP d 109 14 [some (Value.ref a)] st h Q ↔ WP d 109 15 [some (Value.ref a)] (Value.ref a :: st) h Q := wp_aload (show (lcode 109)[14]? = some (.aload 0) by decide +kernel) rfl
theorem x109_15 : WP d 109 15 [l0] st h Q ↔ WP d 109 16 [l0] (vI 24 :: st) h Q := wp_iconst (show (lcode 109)[15]? = some (.iconst 24) by decide +kernel)
theorem x109_17 : WP d 109 17 [l0] (Value.ref b :: .ref a :: st) h Q ↔ pF (hRd h a) 11 6 (Value.ref b) (fun c => WP d 109 18 [l0] st (hWr h a c) Q) := wp_putstatic (show (lcode 109)[17]? = some (.putstatic 710) by decide +kernel)
theorem x109_18 : WP d 109 18 [some (Value.ref a)] st h Q ↔ WP d 109 19 [some (Value.ref a)] (Value.ref a :: st) h Q := wp_aload (show (lcode 109)[18]? = some (.aload 0) by decide +kernel) rfl
theorem x109_19 : WP d 109 19 [l0] st h Q ↔ WP d 109 20 [l0] (vI 220 :: st) h Q := wp_iconst (show (lcode 109)[19]? = some (.iconst 220) by decide +kernel)
theorem x109_21 : WP d 109 21 [l0] (Value.ref b :: .ref a :: st) h Q ↔ pF (hRd h a) 11 8 (Value.ref b) (fun c => WP d 109 22 [l0] st (hWr h a c) Q) := wp_putstatic (show (lcode 109)[21]? = some (.putstatic 712) by decide +kernel)
theorem x109_22 : WP d 109 22 [some (Value.ref a)] st h Q ↔ WP d 109 23 [some (Value.ref a)] (Value.ref a :: st) h Q := wp_aload (show (lcode 109)[22]? = some (.aload 0) by decide +kernel) rfl
theorem x109_23 : WP d 109 23 [l0] st h Q ↔ WP d 109 24 [l0] (vI (-1) :: st) h Q := wp_iconst (show (lcode 109)[23]? = some (.iconst (-1)) by decide +kernel)
theorem x109_24 : WP d 109 24 [l0] (vI x :: .ref a :: st) h Q ↔ pF (hRd h a) 11 10 (vI x) (fun c => WP d 109 25 [l0] st (hWr h a c) Q) := wp_putfield (show (lcode 109)[24]? = some (.putfield 714) by decide +kernel)
theorem x109_25 : WP d 109 25 [some (Value.ref a)] st h Q ↔ WP d 109 26 [some (Value.ref a)] (Value.ref a :: st) h Q := wp_aload (show (lcode 109)[25]? = some (.aload 0) by decide +kernel) rfl
theorem x109_26 : WP d 109 26 [l0] st h Q ↔ WP d 109 27 [l0] (vI 1 :: st) h Q := wp_iconst (show (lcode 109)[26]? = some (.iconst 1) by decide +kernel)
theorem x109_28 : WP d 109 28 [l0] (Value.ref b :: .ref a :: st) h Q ↔ pF (hRd h a) 11 14 (Value.ref b) (fun c => WP d 109 29 [l0] st (hWr h a c) Q) := wp_putstatic (show (lcode 109)[28]? = some (.putstatic 718) by decide +kernel)
theorem x109_29 : WP d 109 29 [some (Value.ref a)] st h Q ↔ WP d 109 30 [some (Value.ref a)] (Value.ref a :: st) h Q := wp_aload (show (lcode 109)[29]? = some (.aload 0) by decide +kernel) rfl
theorem x109_30 : WP d 109 30 [l0] st h Q ↔ WP d 109 31 [l0] (vI 6 :: st) h Q := wp_iconst (show (lcode 109)[30]? = some (.iconst 6) by decide +kernel)
theorem x109_32 : WP d 109 32 [l0] (Value.ref b :: .ref a :: st) h Q ↔ pF (hRd h a) 11 16 (Value.ref b) (fun c => WP d 109 33 [l0] st (hWr h a c) Q) := wp_putstatic (show (lcode 109)[32]? = some (.putstatic 720) by decide +kernel)
theorem x109_33 : WP d 109 33 [some (Value.ref a)] st h Q ↔ WP d 109 34 [some (Value.ref a)] (Value.ref a :: st) h Q := wp_aload (show (lcode 109)[33]? = some (.aload 0) by decide +kernel) rfl
theorem x109_34 : WP d 109 34 [l0] st h Q ↔ WP d 109 35 [l0] (vI 8 :: st) h Q := wp_iconst (show (lcode 109)[34]? = some (.iconst 8) by decide +kernel)
theorem x109_36 : WP d 109 36 [l0] (Value.ref b :: .ref a :: st) h Q ↔ pF (hRd h a) 11 18 (Value.ref b) (fun c => WP d 109 37 [l0] st (hWr h a c) Q) := wp_putstatic (show (lcode 109)[36]? = some (.putstatic 722) by decide +kernel)
theorem x109_37 : WP d 109 37 [some (Value.ref a)] st h Q ↔ WP d 109 38 [some (Value.ref a)] (Value.ref a :: st) h Q := wp_aload (show (lcode 109)[37]? = some (.aload 0) by decide +kernel) rfl
theorem x109_38 : WP d 109 38 [l0] st h Q ↔ WP d 109 39 [l0] (vI 8 :: st) h Q := wp_iconst (show (lcode 109)[38]? = some (.iconst 8) by decide +kernel)
theorem x109_40 : WP d 109 40 [l0] (Value.ref b :: .ref a :: st) h Q ↔ pF (hRd h a) 11 19 (Value.ref b) (fun c => WP d 109 41 [l0] st (hWr h a c) Q) := wp_putstatic (show (lcode 109)[40]? = some (.putstatic 723) by decide +kernel)
theorem x109_41 : WP d 109 41 [some (Value.ref a)] st h Q ↔ WP d 109 42 [some (Value.ref a)] (Value.ref a :: st) h Q := wp_aload (show (lcode 109)[41]? = some (.aload 0) by decide +kernel) rfl
theorem x109_42 : WP d 109 42 [l0] st h Q ↔ WP d 109 43 [l0] (vI 8 :: st) h Q := wp_iconst (show (lcode 109)[42]? = some (.iconst 8) by decide +kernel)
theorem x109_44 : WP d 109 44 [l0] (Value.ref b :: .ref a :: st) h Q ↔ pF (hRd h a) 11 20 (Value.ref b) (fun c => WP d 109 45 [l0] st (hWr h a c) Q) := wp_putstatic (show (lcode 109)[44]? = some (.putstatic 724) by decide +kernel)
theorem x109_45 : WP d 109 45 [some (Value.ref a)] st h Q ↔ WP d 109 46 [some (Value.ref a)] (Value.ref a :: st) h Q := wp_aload (show (lcode 109)[45]? = some (.aload 0) by decide +kernel) rfl
theorem x109_46 : WP d 109 46 [l0] st h Q ↔ WP d 109 47 [l0] (vI 6 :: st) h Q := wp_iconst (show (lcode 109)[46]? = some (.iconst 6) by decide +kernel)
theorem x109_48 : WP d 109 48 [l0] (Value.ref b :: .ref a :: st) h Q ↔ pF (hRd h a) 11 21 (Value.ref b) (fun c => WP d 109 49 [l0] st (hWr h a c) Q) := wp_putstatic (show (lcode 109)[48]? = some (.putstatic 725) by decide +kernel)
theorem x109_49 : WP d 109 49 [some (Value.ref a)] st h Q ↔ WP d 109 50 [some (Value.ref a)] (Value.ref a :: st) h Q := wp_aload (show (lcode 109)[49]? = some (.aload 0) by decide +kernel) rfl
theorem x109_50 : WP d 109 50 [l0] st h Q ↔ WP d 109 51 [l0] (vI 6 :: st) h Q := wp_iconst (show (lcode 109)[50]? = some (.iconst 6) by decide +kernel)
theorem x109_52 : WP d 109 52 [l0] (Value.ref b :: .ref a :: st) h Q ↔ pF (hRd h a) 11 22 (Value.ref b) (fun c => WP d 109 53 [l0] st (hWr h a c) Q) := wp_putstatic (show (lcode 109)[52]? = some (.putstatic 726) by decide +kernel)
theorem x109_53 : WP d 109 53 [some (Value.ref a)] st h Q ↔ WP d 109 54 [some (Value.ref a)] (Value.ref a :: st) h Q := wp_aload (show (lcode 109)[53]? = some (.aload 0) by decide +kernel) rfl
theorem x109_54 : WP d 109 54 [l0] st h Q ↔ WP d 109 55 [l0] (vI 8 :: st) h Q := wp_iconst (show (lcode 109)[54]? = some (.iconst 8) by decide +kernel)
theorem x109_56 : WP d 109 56 [l0] (Value.ref b :: .ref a :: st) h Q ↔ pF (hRd h a) 11 23 (Value.ref b) (fun c => WP d 109 57 [l0] st (hWr h a c) Q) := wp_putstatic (show (lcode 109)[56]? = some (.putstatic 727) by decide +kernel)
theorem x109_57 : WP d 109 57 [some (Value.ref a)] st h Q ↔ WP d 109 58 [some (Value.ref a)] (Value.ref a :: st) h Q := wp_aload (show (lcode 109)[57]? = some (.aload 0) by decide +kernel) rfl
theorem x109_58 : WP d 109 58 [l0] st h Q ↔ WP d 109 59 [l0] (vI 480 :: st) h Q := wp_iconst (show (lcode 109)[58]? = some (.iconst 480) by decide +kernel)
theorem x109_60 : WP d 109 60 [l0] (Value.ref b :: .ref a :: st) h Q ↔ pF (hRd h a) 11 25 (Value.ref b) (fun c => WP d 109 61 [l0] st (hWr h a c) Q) := wp_putstatic (show (lcode 109)[60]? = some (.putstatic 729) by decide +kernel)
theorem x109_61 : WP d 109 61 [some (Value.ref a)] st h Q ↔ WP d 109 62 [some (Value.ref a)] (Value.ref a :: st) h Q := wp_aload (show (lcode 109)[61]? = some (.aload 0) by decide +kernel) rfl
theorem x109_62 : WP d 109 62 [l0] st h Q ↔ WP d 109 63 [l0] (vI 24 :: st) h Q := wp_iconst (show (lcode 109)[62]? = some (.iconst 24) by decide +kernel)
theorem x109_64 : WP d 109 64 [l0] (Value.ref b :: .ref a :: st) h Q ↔ pF (hRd h a) 11 26 (Value.ref b) (fun c => WP d 109 65 [l0] st (hWr h a c) Q) := wp_putstatic (show (lcode 109)[64]? = some (.putstatic 730) by decide +kernel)
theorem x109_65 : WP d 109 65 [some (Value.ref a)] st h Q ↔ WP d 109 66 [some (Value.ref a)] (Value.ref a :: st) h Q := wp_aload (show (lcode 109)[65]? = some (.aload 0) by decide +kernel) rfl
theorem x109_66 : WP d 109 66 [l0] st h Q ↔ WP d 109 67 [l0] (vI 6 :: st) h Q := wp_iconst (show (lcode 109)[66]? = some (.iconst 6) by decide +kernel)
theorem x109_68 : WP d 109 68 [l0] (Value.ref b :: .ref a :: st) h Q ↔ pF (hRd h a) 11 27 (Value.ref b) (fun c => WP d 109 69 [l0] st (hWr h a c) Q) := wp_putstatic (show (lcode 109)[68]? = some (.putstatic 731) by decide +kernel)
theorem x109_69 : WP d 109 69 [some (Value.ref a)] st h Q ↔ WP d 109 70 [some (Value.ref a)] (Value.ref a :: st) h Q := wp_aload (show (lcode 109)[69]? = some (.aload 0) by decide +kernel) rfl
theorem x109_70 : WP d 109 70 [l0] st h Q ↔ WP d 109 71 [l0] (vI 6 :: st) h Q := wp_iconst (show (lcode 109)[70]? = some (.iconst 6) by decide +kernel)
theorem x109_72 : WP d 109 72 [l0] (Value.ref b :: .ref a :: st) h Q ↔ pF (hRd h a) 11 30 (Value.ref b) (fun c => WP d 109 73 [l0] st (hWr h a c) Q) := wp_putstatic (show (lcode 109)[72]? = some (.putstatic 734) by decide +kernel)
theorem x109_73 : WP d 109 73 [some (Value.ref a)] st h Q ↔ WP d 109 74 [some (Value.ref a)] (Value.ref a :: st) h Q := wp_aload (show (lcode 109)[73]? = some (.aload 0) by decide +kernel) rfl
theorem x109_74 : WP d 109 74 [l0] st h Q ↔ WP d 109 75 [l0] (vI 6 :: st) h Q := wp_iconst (show (lcode 109)[74]? = some (.iconst 6) by decide +kernel)
theorem x109_76 : WP d 109 76 [l0] (Value.ref b :: .ref a :: st) h Q ↔ pF (hRd h a) 11 31 (Value.ref b) (fun c => WP d 109 77 [l0] st (hWr h a c) Q) := wp_putstatic (show (lcode 109)[76]? = some (.putstatic 735) by decide +kernel)
theorem x109_77 : WP d 109 77 [some (Value.ref a)] st h Q ↔ WP d 109 78 [some (Value.ref a)] (Value.ref a :: st) h Q := wp_aload (show (lcode 109)[77]? = some (.aload 0) by decide +kernel) rfl
theorem x109_78 : WP d 109 78 [l0] st h Q ↔ WP d 109 79 [l0] (vI 6 :: st) h Q := wp_iconst (show (lcode 109)[78]? = some (.iconst 6) by decide +kernel)
theorem x109_80 : WP d 109 80 [l0] (Value.ref b :: .ref a :: st) h Q ↔ pF (hRd h a) 11 33 (Value.ref b) (fun c => WP d 109 81 [l0] st (hWr h a c) Q) := wp_putstatic (show (lcode 109)[80]? = some (.putstatic 737) by decide +kernel)
theorem x109_81 : WP d 109 81 [some (Value.ref a)] st h Q ↔ WP d 109 82 [some (Value.ref a)] (Value.ref a :: st) h Q := wp_aload (show (lcode 109)[81]? = some (.aload 0) by decide +kernel) rfl
theorem x109_82 : WP d 109 82 [l0] st h Q ↔ WP d 109 83 [l0] (vI 36 :: st) h Q := wp_iconst (show (lcode 109)[82]? = some (.iconst 36) by decide +kernel)
theorem x109_84 : WP d 109 84 [l0] (Value.ref b :: .ref a :: st) h Q ↔ pF (hRd h a) 11 34 (Value.ref b) (fun c => WP d 109 85 [l0] st (hWr h a c) Q) := wp_putstatic (show (lcode 109)[84]? = some (.putstatic 738) by decide +kernel)
theorem x109_85 : WP d 109 85 [some (Value.ref a)] st h Q ↔ WP d 109 86 [some (Value.ref a)] (Value.ref a :: st) h Q := wp_aload (show (lcode 109)[85]? = some (.aload 0) by decide +kernel) rfl
theorem x109_86 : WP d 109 86 [l0] st h Q ↔ WP d 109 87 [l0] (vI 15 :: st) h Q := wp_iconst (show (lcode 109)[86]? = some (.iconst 15) by decide +kernel)
theorem x109_88 : WP d 109 88 [l0] (Value.ref b :: .ref a :: st) h Q ↔ pF (hRd h a) 11 36 (Value.ref b) (fun c => WP d 109 89 [l0] st (hWr h a c) Q) := wp_putstatic (show (lcode 109)[88]? = some (.putstatic 740) by decide +kernel)
theorem x109_89 : WP d 109 89 [some (Value.ref a)] st h Q ↔ WP d 109 90 [some (Value.ref a)] (Value.ref a :: st) h Q := wp_aload (show (lcode 109)[89]? = some (.aload 0) by decide +kernel) rfl
theorem x109_90 : WP d 109 90 [l0] st h Q ↔ WP d 109 91 [l0] (vI 15 :: st) h Q := wp_iconst (show (lcode 109)[90]? = some (.iconst 15) by decide +kernel)
theorem x109_92 : WP d 109 92 [l0] (Value.ref b :: .ref a :: st) h Q ↔ pF (hRd h a) 11 37 (Value.ref b) (fun c => WP d 109 93 [l0] st (hWr h a c) Q) := wp_putstatic (show (lcode 109)[92]? = some (.putstatic 741) by decide +kernel)
theorem x109_93 : WP d 109 93 [some (Value.ref a)] st h Q ↔ WP d 109 94 [some (Value.ref a)] (Value.ref a :: st) h Q := wp_aload (show (lcode 109)[93]? = some (.aload 0) by decide +kernel) rfl
theorem x109_94 : WP d 109 94 [l0] st h Q ↔ WP d 109 95 [l0] (vI 50 :: st) h Q := wp_iconst (show (lcode 109)[94]? = some (.iconst 50) by decide +kernel)
theorem x109_96 : WP d 109 96 [l0] (Value.ref b :: .ref a :: st) h Q ↔ pF (hRd h a) 11 38 (Value.ref b) (fun c => WP d 109 97 [l0] st (hWr h a c) Q) := wp_putstatic (show (lcode 109)[96]? = some (.putstatic 742) by decide +kernel)
theorem x109_97 : WP d 109 97 [some (Value.ref a)] st h Q ↔ WP d 109 98 [some (Value.ref a)] (Value.ref a :: st) h Q := wp_aload (show (lcode 109)[97]? = some (.aload 0) by decide +kernel) rfl
theorem x109_98 : WP d 109 98 [l0] st h Q ↔ WP d 109 99 [l0] (vI 2 :: st) h Q := wp_iconst (show (lcode 109)[98]? = some (.iconst 2) by decide +kernel)
theorem x109_100 : WP d 109 100 [l0] (Value.ref b :: .ref a :: st) h Q ↔ pF (hRd h a) 11 39 (Value.ref b) (fun c => WP d 109 101 [l0] st (hWr h a c) Q) := wp_putstatic (show (lcode 109)[100]? = some (.putstatic 743) by decide +kernel)
theorem x109_101 : WP d 109 101 [some (Value.ref a)] st h Q ↔ WP d 109 102 [some (Value.ref a)] (Value.ref a :: st) h Q := wp_aload (show (lcode 109)[101]? = some (.aload 0) by decide +kernel) rfl
theorem x109_102 : WP d 109 102 [l0] st h Q ↔ WP d 109 103 [l0] (vI 0 :: st) h Q := wp_iconst (show (lcode 109)[102]? = some (.iconst 0) by decide +kernel)
theorem x109_103 : WP d 109 103 [l0] (vI x :: .ref a :: st) h Q ↔ pF (hRd h a) 11 0 (vI x) (fun c => WP d 109 104 [l0] st (hWr h a c) Q) := wp_putfield (show (lcode 109)[103]? = some (.putfield 704) by decide +kernel)
theorem x109_104 : WP d 109 104 [l0] [] h Q ↔ Q none h := wp_return (show (lcode 109)[104]? = some (.return_) by decide +kernel)
-- 110: WakeOrderModel.in
theorem x110_0 : WP d 110 0 [some (vL x), l1, l2, l3, l4, l5] st h Q ↔ WP d 110 1 [some (vL x), l1, l2, l3, l4, l5] (vL x :: st) h Q := wp_lload (show (lcode 110)[0]? = some (.lload 0) by decide +kernel) rfl
theorem x110_1 : WP d 110 1 [l0, l1, some (vL x), l3, l4, l5] st h Q ↔ WP d 110 2 [l0, l1, some (vL x), l3, l4, l5] (vL x :: st) h Q := wp_lload (show (lcode 110)[1]? = some (.lload 2) by decide +kernel) rfl
theorem x110_2 : WP d 110 2 [l0, l1, l2, l3, l4, l5] (vL y :: vL x :: st) h Q ↔ WP d 110 3 [l0, l1, l2, l3, l4, l5] (vI (zlcmp x y) :: st) h Q := wp_lcmp (show (lcode 110)[2]? = some (.lcmp) by decide +kernel)
theorem x110_3 : WP d 110 3 [l0, l1, l2, l3, l4, l5] (vI x :: st) h Q ↔ ((wr x < 0 → WP d 110 10 [l0, l1, l2, l3, l4, l5] st h Q) ∧ (¬ (wr x < 0) → WP d 110 4 [l0, l1, l2, l3, l4, l5] st h Q)) := wp_if_lt (show (lcode 110)[3]? = some (.ifCond .lt 10) by decide +kernel)
theorem x110_4 : WP d 110 4 [some (vL x), l1, l2, l3, l4, l5] st h Q ↔ WP d 110 5 [some (vL x), l1, l2, l3, l4, l5] (vL x :: st) h Q := wp_lload (show (lcode 110)[4]? = some (.lload 0) by decide +kernel) rfl
theorem x110_5 : WP d 110 5 [l0, l1, l2, l3, some (vL x), l5] st h Q ↔ WP d 110 6 [l0, l1, l2, l3, some (vL x), l5] (vL x :: st) h Q := wp_lload (show (lcode 110)[5]? = some (.lload 4) by decide +kernel) rfl
theorem x110_6 : WP d 110 6 [l0, l1, l2, l3, l4, l5] (vL y :: vL x :: st) h Q ↔ WP d 110 7 [l0, l1, l2, l3, l4, l5] (vI (zlcmp x y) :: st) h Q := wp_lcmp (show (lcode 110)[6]? = some (.lcmp) by decide +kernel)
theorem x110_7 : WP d 110 7 [l0, l1, l2, l3, l4, l5] (vI x :: st) h Q ↔ ((0 < wr x → WP d 110 10 [l0, l1, l2, l3, l4, l5] st h Q) ∧ (¬ (0 < wr x) → WP d 110 8 [l0, l1, l2, l3, l4, l5] st h Q)) := wp_if_gt (show (lcode 110)[7]? = some (.ifCond .gt 10) by decide +kernel)
theorem x110_8 : WP d 110 8 [l0, l1, l2, l3, l4, l5] st h Q ↔ WP d 110 9 [l0, l1, l2, l3, l4, l5] (vI 1 :: st) h Q := wp_iconst (show (lcode 110)[8]? = some (.iconst 1) by decide +kernel)
theorem x110_9 : WP d 110 9 [l0, l1, l2, l3, l4, l5] st h Q ↔ WP d 110 11 [l0, l1, l2, l3, l4, l5] st h Q := wp_goto (show (lcode 110)[9]? = some (.goto 11) by decide +kernel)
theorem x110_10 : WP d 110 10 [l0, l1, l2, l3, l4, l5] st h Q ↔ WP d 110 11 [l0, l1, l2, l3, l4, l5] (vI 0 :: st) h Q := wp_iconst (show (lcode 110)[10]? = some (.iconst 0) by decide +kernel)
theorem x110_11 : WP d 110 11 [l0, l1, l2, l3, l4, l5] [vI x] h Q ↔ ((Int32.ofInt x = 0 ∨ Int32.ofInt x = 1) ∧ Q (some (vI x)) h) := wp_areturn (show (lcode 110)[11]? = some (.areturn) by decide +kernel)
-- 111: WakeOrderModel.has
theorem x111_0 : WP d 111 0 [some (vI x), l1] st h Q ↔ WP d 111 1 [some (vI x), l1] (vI x :: st) h Q := wp_iload (show (lcode 111)[0]? = some (.iload 0) by decide +kernel) rfl
theorem x111_1 : WP d 111 1 [l0, some (vI x)] st h Q ↔ WP d 111 2 [l0, some (vI x)] (vI x :: st) h Q := wp_iload (show (lcode 111)[1]? = some (.iload 1) by decide +kernel) rfl
theorem x111_2 : WP d 111 2 [l0, l1] (vI y :: vI x :: st) h Q ↔ WP d 111 3 [l0, l1] (vI (zshr x y) :: st) h Q := wp_ishr (show (lcode 111)[2]? = some (.ishr) by decide +kernel)
theorem x111_3 : WP d 111 3 [l0, l1] st h Q ↔ WP d 111 4 [l0, l1] (vI 1 :: st) h Q := wp_iconst (show (lcode 111)[3]? = some (.iconst 1) by decide +kernel)
theorem x111_4 : WP d 111 4 [l0, l1] (vI y :: vI x :: st) h Q ↔ WP d 111 5 [l0, l1] (vI (zand x y) :: st) h Q := wp_iand (show (lcode 111)[4]? = some (.iand) by decide +kernel)
theorem x111_5 : WP d 111 5 [l0, l1] st h Q ↔ WP d 111 6 [l0, l1] (vI 1 :: st) h Q := wp_iconst (show (lcode 111)[5]? = some (.iconst 1) by decide +kernel)
theorem x111_6 : WP d 111 6 [l0, l1] (vI y :: vI x :: st) h Q ↔ ((¬ wr x = wr y → WP d 111 9 [l0, l1] st h Q) ∧ (¬ (¬ wr x = wr y) → WP d 111 7 [l0, l1] st h Q)) := wp_icmp_ne (show (lcode 111)[6]? = some (.if_icmp .ne 9) by decide +kernel)
theorem x111_7 : WP d 111 7 [l0, l1] st h Q ↔ WP d 111 8 [l0, l1] (vI 1 :: st) h Q := wp_iconst (show (lcode 111)[7]? = some (.iconst 1) by decide +kernel)
theorem x111_8 : WP d 111 8 [l0, l1] st h Q ↔ WP d 111 10 [l0, l1] st h Q := wp_goto (show (lcode 111)[8]? = some (.goto 10) by decide +kernel)
theorem x111_9 : WP d 111 9 [l0, l1] st h Q ↔ WP d 111 10 [l0, l1] (vI 0 :: st) h Q := wp_iconst (show (lcode 111)[9]? = some (.iconst 0) by decide +kernel)
theorem x111_10 : WP d 111 10 [l0, l1] [vI x] h Q ↔ ((Int32.ofInt x = 0 ∨ Int32.ofInt x = 1) ∧ Q (some (vI x)) h) := wp_areturn (show (lcode 111)[10]? = some (.areturn) by decide +kernel)
-- 112: WakeOrderModel.bits
theorem x112_0 : WP d 112 0 [l0, l1, l2] st h Q ↔ WP d 112 1 [l0, l1, l2] (vI 0 :: st) h Q := wp_iconst (show (lcode 112)[0]? = some (.iconst 0) by decide +kernel)
theorem x112_1 : WP d 112 1 [l0, l1, l2] (vI x :: st) h Q ↔ (nl l0 ∧ WP d 112 2 [l0, some (vI x), l2] st h Q) := wp_istore (show (lcode 112)[1]? = some (.istore 1) by decide +kernel) (Nat.le_of_ble_eq_true rfl)
theorem x112_2 : WP d 112 2 [l0, l1, l2] st h Q ↔ WP d 112 3 [l0, l1, l2] (vI 0 :: st) h Q := wp_iconst (show (lcode 112)[2]? = some (.iconst 0) by decide +kernel)
theorem x112_3 : WP d 112 3 [l0, l1, l2] (vI x :: st) h Q ↔ (nl l1 ∧ WP d 112 4 [l0, l1, some (vI x)] st h Q) := wp_istore (show (lcode 112)[3]? = some (.istore 2) by decide +kernel) (Nat.le_of_ble_eq_true rfl)
theorem x112_4 : WP d 112 4 [l0, l1, l2] st h Q ↔ WPC d 112 5 [l0, l1, l2] st h Q := wp_nop (show (lcode 112)[4]? = some (.nop) by decide +kernel)
theorem x112_5 : WP d 112 5 [l0, l1, some (vI x)] st h Q ↔ WP d 112 6 [l0, l1, some (vI x)] (vI x :: st) h Q := wp_iload (show (lcode 112)[5]? = some (.iload 2) by decide +kernel) rfl
theorem x112_6 : WP d 112 6 [l0, l1, l2] st h Q ↔ WP d 112 7 [l0, l1, l2] (vI 8 :: st) h Q := wp_iconst (show (lcode 112)[6]? = some (.iconst 8) by decide +kernel)
theorem x112_7 : WP d 112 7 [l0, l1, l2] (vI y :: vI x :: st) h Q ↔ ((wr y ≤ wr x → WP d 112 18 [l0, l1, l2] st h Q) ∧ (¬ (wr y ≤ wr x) → WP d 112 8 [l0, l1, l2] st h Q)) := wp_icmp_ge (show (lcode 112)[7]? = some (.if_icmp .ge 18) by decide +kernel)
theorem x112_8 : WP d 112 8 [l0, some (vI x), l2] st h Q ↔ WP d 112 9 [l0, some (vI x), l2] (vI x :: st) h Q := wp_iload (show (lcode 112)[8]? = some (.iload 1) by decide +kernel) rfl
theorem x112_9 : WP d 112 9 [some (vI x), l1, l2] st h Q ↔ WP d 112 10 [some (vI x), l1, l2] (vI x :: st) h Q := wp_iload (show (lcode 112)[9]? = some (.iload 0) by decide +kernel) rfl
theorem x112_10 : WP d 112 10 [l0, l1, some (vI x)] st h Q ↔ WP d 112 11 [l0, l1, some (vI x)] (vI x :: st) h Q := wp_iload (show (lcode 112)[10]? = some (.iload 2) by decide +kernel) rfl
theorem x112_11 : WP d 112 11 [l0, l1, l2] (vI y :: vI x :: st) h Q ↔ WP d 112 12 [l0, l1, l2] (vI (zshr x y) :: st) h Q := wp_ishr (show (lcode 112)[11]? = some (.ishr) by decide +kernel)
theorem x112_12 : WP d 112 12 [l0, l1, l2] st h Q ↔ WP d 112 13 [l0, l1, l2] (vI 1 :: st) h Q := wp_iconst (show (lcode 112)[12]? = some (.iconst 1) by decide +kernel)
theorem x112_13 : WP d 112 13 [l0, l1, l2] (vI y :: vI x :: st) h Q ↔ WP d 112 14 [l0, l1, l2] (vI (zand x y) :: st) h Q := wp_iand (show (lcode 112)[13]? = some (.iand) by decide +kernel)
theorem x112_14 : WP d 112 14 [l0, l1, l2] (vI y :: vI x :: st) h Q ↔ WP d 112 15 [l0, l1, l2] (vI (x + y) :: st) h Q := wp_iadd (show (lcode 112)[14]? = some (.iadd) by decide +kernel)
theorem x112_15 : WP d 112 15 [l0, l1, l2] (vI x :: st) h Q ↔ (nl l0 ∧ WP d 112 16 [l0, some (vI x), l2] st h Q) := wp_istore (show (lcode 112)[15]? = some (.istore 1) by decide +kernel) (Nat.le_of_ble_eq_true rfl)
theorem x112_16 : WP d 112 16 [l0, l1, some (vI x)] st h Q ↔ (nl l1 ∧ WP d 112 17 [l0, l1, some (vI (x + 1))] st h Q) := wp_iinc (show (lcode 112)[16]? = some (.iinc 2 1) by decide +kernel) rfl (Nat.le_of_ble_eq_true rfl)
theorem x112_17 : WP d 112 17 [l0, l1, l2] st h Q ↔ WP d 112 4 [l0, l1, l2] st h Q := wp_goto (show (lcode 112)[17]? = some (.goto 4) by decide +kernel)
theorem x112_18 : WP d 112 18 [l0, some (vI x), l2] st h Q ↔ WP d 112 19 [l0, some (vI x), l2] (vI x :: st) h Q := wp_iload (show (lcode 112)[18]? = some (.iload 1) by decide +kernel) rfl
theorem x112_19 : WP d 112 19 [l0, l1, l2] [vI x] h Q ↔ Q (some (vI x)) h := wp_ireturn (show (lcode 112)[19]? = some (.ireturn) by decide +kernel)
-- 113: WakeOrderModel.isPerson
theorem x113_0 : WP d 113 0 [l0, some (vI x)] st h Q ↔ WP d 113 1 [l0, some (vI x)] (vI x :: st) h Q := wp_iload (show (lcode 113)[0]? = some (.iload 1) by decide +kernel) rfl
theorem x113_1 : WP d 113 1 [l0, l1] (vI x :: st) h Q ↔ WP d 113 2 [l0, l1] (vL (wr x) :: st) h Q := wp_i2l (show (lcode 113)[1]? = some (.i2l) by decide +kernel)
theorem x113_2 : WP d 113 2 [l0, l1] st h Q ↔ WP d 113 3 [l0, l1] (vL 0 :: st) h Q := wp_lconst (show (lcode 113)[2]? = some (.jsr_w 0) by decide +kernel)
theorem x113_3 : WP d 113 3 [some (Value.ref a), l1] st h Q ↔ WP d 113 4 [some (Value.ref a), l1] (Value.ref a :: st) h Q := wp_aload (show (lcode 113)[3]? = some (.aload 0) by decide +kernel) rfl
theorem x113_4 : WP d 113 4 [l0, l1] (.ref a :: st) h Q ↔ gF (hRd h a) 11 1 (fun v => WP d 113 5 [l0, l1] (v :: st) h Q) := wp_getfield (show (lcode 113)[4]? = some (.getfield 705) by decide +kernel)
theorem x113_5 : WP d 113 5 [l0, l1] st h Q ↔ WP d 113 6 [l0, l1] (vI 1 :: st) h Q := wp_iconst (show (lcode 113)[5]? = some (.iconst 1) by decide +kernel)
theorem x113_6 : WP d 113 6 [l0, l1] (vI y :: vI x :: st) h Q ↔ WP d 113 7 [l0, l1] (vI (x - y) :: st) h Q := wp_isub (show (lcode 113)[6]? = some (.isub) by decide +kernel)
theorem x113_7 : WP d 113 7 [l0, l1] (vI x :: st) h Q ↔ WP d 113 8 [l0, l1] (vL (wr x) :: st) h Q := wp_i2l (show (lcode 113)[7]? = some (.i2l) by decide +kernel)
theorem x113_8 : WP d 113 8 [l0, l1] (v2 :: v1 :: v :: st) h Q ↔ (sh st ∧ CALL d 110 [v, v1, v2] h (fun v h => WP d 113 9 [l0, l1] (v.toList ++ st) h Q)) := wp_call (n := 3) (show (lcode 113)[8]? = some (.invokestatic 110) by decide +kernel) (by decide +kernel) (by simp)
theorem x113_9 : WP d 113 9 [l0, l1] [vI x] h Q ↔ ((Int32.ofInt x = 0 ∨ Int32.ofInt x = 1) ∧ Q (some (vI x)) h) := wp_areturn (show (lcode 113)[9]? = some (.areturn) by decide +kernel)
-- 114: WakeOrderModel.isJob
theorem x114_0 : WP d 114 0 [l0, some (vI x)] st h Q ↔ WP d 114 1 [l0, some (vI x)] (vI x :: st) h Q := wp_iload (show (lcode 114)[0]? = some (.iload 1) by decide +kernel) rfl
theorem x114_1 : WP d 114 1 [l0, l1] (vI x :: st) h Q ↔ WP d 114 2 [l0, l1] (vL (wr x) :: st) h Q := wp_i2l (show (lcode 114)[1]? = some (.i2l) by decide +kernel)
theorem x114_2 : WP d 114 2 [l0, l1] st h Q ↔ WP d 114 3 [l0, l1] (vL 0 :: st) h Q := wp_lconst (show (lcode 114)[2]? = some (.jsr_w 0) by decide +kernel)
theorem x114_3 : WP d 114 3 [some (Value.ref a), l1] st h Q ↔ WP d 114 4 [some (Value.ref a), l1] (Value.ref a :: st) h Q := wp_aload (show (lcode 114)[3]? = some (.aload 0) by decide +kernel) rfl
theorem x114_4 : WP d 114 4 [l0, l1] (.ref a :: st) h Q ↔ gF (hRd h a) 11 2 (fun v => WP d 114 5 [l0, l1] (v :: st) h Q) := wp_getfield (show (lcode 114)[4]? = some (.getfield 706) by decide +kernel)
theorem x114_5 : WP d 114 5 [l0, l1] st h Q ↔ WP d 114 6 [l0, l1] (vI 1 :: st) h Q := wp_iconst (show (lcode 114)[5]? = some (.iconst 1) by decide +kernel)
theorem x114_6 : WP d 114 6 [l0, l1] (vI y :: vI x :: st) h Q ↔ WP d 114 7 [l0, l1] (vI (x - y) :: st) h Q := wp_isub (show (lcode 114)[6]? = some (.isub) by decide +kernel)
theorem x114_7 : WP d 114 7 [l0, l1] (vI x :: st) h Q ↔ WP d 114 8 [l0, l1] (vL (wr x) :: st) h Q := wp_i2l (show (lcode 114)[7]? = some (.i2l) by decide +kernel)
theorem x114_8 : WP d 114 8 [l0, l1] (v2 :: v1 :: v :: st) h Q ↔ (sh st ∧ CALL d 110 [v, v1, v2] h (fun v h => WP d 114 9 [l0, l1] (v.toList ++ st) h Q)) := wp_call (n := 3) (show (lcode 114)[8]? = some (.invokestatic 110) by decide +kernel) (by decide +kernel) (by simp)
theorem x114_9 : WP d 114 9 [l0, l1] [vI x] h Q ↔ ((Int32.ofInt x = 0 ∨ Int32.ofInt x = 1) ∧ Q (some (vI x)) h) := wp_areturn (show (lcode 114)[9]? = some (.areturn) by decide +kernel)
-- 115: WakeOrderModel.feed
theorem x115_0 : WP d 115 0 [l0, some (vI x)] st h Q ↔ WP d 115 1 [l0, some (vI x)] (vI x :: st) h Q := wp_iload (show (lcode 115)[0]? = some (.iload 1) by decide +kernel) rfl
theorem x115_1 : WP d 115 1 [l0, l1] (vI x :: st) h Q ↔ WP d 115 2 [l0, l1] (vL (wr x) :: st) h Q := wp_i2l (show (lcode 115)[1]? = some (.i2l) by decide +kernel)
theorem x115_2 : WP d 115 2 [l0, l1] st h Q ↔ WP d 115 3 [l0, l1] (vL 0 :: st) h Q := wp_lconst (show (lcode 115)[2]? = some (.jsr_w 0) by decide +kernel)
theorem x115_3 : WP d 115 3 [l0, l1] st h Q ↔ WP d 115 4 [l0, l1] (vL 255 :: st) h Q := wp_lconst (show (lcode 115)[3]? = some (.jsr_w 255) by decide +kernel)
theorem x115_4 : WP d 115 4 [l0, l1] (v2 :: v1 :: v :: st) h Q ↔ (sh st ∧ CALL d 110 [v, v1, v2] h (fun v h => WP d 115 5 [l0, l1] (v.toList ++ st) h Q)) := wp_call (n := 3) (show (lcode 115)[4]? = some (.invokestatic 110) by decide +kernel) (by decide +kernel) (by simp)
theorem x115_5 : WP d 115 5 [l0, l1] (vI x :: st) h Q ↔ ((¬ wr x = 0 → WP d 115 8 [l0, l1] st h Q) ∧ (¬ (¬ wr x = 0) → WP d 115 6 [l0, l1] st h Q)) := wp_if_ne (show (lcode 115)[5]? = some (.ifCond .ne 8) by decide +kernel)
theorem x115_6 : WP d 115 6 [l0, l1] st h Q ↔ WP d 115 7 [l0, l1] (vI (-1000000002) :: st) h Q := wp_iconst (show (lcode 115)[6]? = some (.iconst (-1000000002)) by decide +kernel)
theorem x115_7 : WP d 115 7 [l0, l1] [vI x] h Q ↔ Q (some (vI x)) h := wp_ireturn (show (lcode 115)[7]? = some (.ireturn) by decide +kernel)
theorem x115_8 : WP d 115 8 [some (Value.ref a), l1] st h Q ↔ WP d 115 9 [some (Value.ref a), l1] (Value.ref a :: st) h Q := wp_aload (show (lcode 115)[8]? = some (.aload 0) by decide +kernel) rfl
theorem x115_9 : WP d 115 9 [l0, l1] (.ref a :: st) h Q ↔ gF (hRd h a) 11 9 (fun v => WP d 115 10 [l0, l1] (v :: st) h Q) := wp_getfield (show (lcode 115)[9]? = some (.getfield 713) by decide +kernel)
theorem x115_10 : WP d 115 10 [l0, l1] st h Q ↔ WP d 115 11 [l0, l1] (vI 220 :: st) h Q := wp_iconst (show (lcode 115)[10]? = some (.iconst 220) by decide +kernel)
theorem x115_11 : WP d 115 11 [l0, l1] (vI y :: vI x :: st) h Q ↔ ((¬ wr x = wr y → WP d 115 14 [l0, l1] st h Q) ∧ (¬ (¬ wr x = wr y) → WP d 115 12 [l0, l1] st h Q)) := wp_icmp_ne (show (lcode 115)[11]? = some (.if_icmp .ne 14) by decide +kernel)
theorem x115_12 : WP d 115 12 [l0, l1] st h Q ↔ WP d 115 13 [l0, l1] (vI (-1000000004) :: st) h Q := wp_iconst (show (lcode 115)[12]? = some (.iconst (-1000000004)) by decide +kernel)
theorem x115_13 : WP d 115 13 [l0, l1] [vI x] h Q ↔ Q (some (vI x)) h := wp_ireturn (show (lcode 115)[13]? = some (.ireturn) by decide +kernel)
theorem x115_14 : WP d 115 14 [some (Value.ref a), l1] st h Q ↔ WP d 115 15 [some (Value.ref a), l1] (Value.ref a :: st) h Q := wp_aload (show (lcode 115)[14]? = some (.aload 0) by decide +kernel) rfl
theorem x115_15 : WP d 115 15 [l0, l1] (.ref a :: st) h Q ↔ gF (hRd h a) 11 8 (fun v => WP d 115 16 [l0, l1] (v :: st) h Q) := wp_getfield (show (lcode 115)[15]? = some (.getfield 712) by decide +kernel)
theorem x115_16 : WP d 115 16 [some (Value.ref a), l1] st h Q ↔ WP d 115 17 [some (Value.ref a), l1] (Value.ref a :: st) h Q := wp_aload (show (lcode 115)[16]? = some (.aload 0) by decide +kernel) rfl
theorem x115_17 : WP d 115 17 [l0, l1] (.ref a :: st) h Q ↔ gF (hRd h a) 11 9 (fun v => WP d 115 18 [l0, l1] (v :: st) h Q) := wp_getfield (show (lcode 115)[17]? = some (.getfield 713) by decide +kernel)
theorem x115_18 : WP d 115 18 [l0, some (vI x)] st h Q ↔ WP d 115 19 [l0, some (vI x)] (vI x :: st) h Q := wp_iload (show (lcode 115)[18]? = some (.iload 1) by decide +kernel) rfl
theorem x115_19 : WP d 115 19 [l0, l1] (vI y :: vI x :: .ref a :: st) h Q ↔ stA (hRd h a) a x (vI y) (fun c => WP d 115 20 [l0, l1] st (hWr h a c) Q) := wp_iastore (show (lcode 115)[19]? = some (.iastore) by decide +kernel)
theorem x115_20 : WP d 115 20 [some (Value.ref a), l1] st h Q ↔ WP d 115 21 [some (Value.ref a), l1] (Value.ref a :: st) h Q := wp_aload (show (lcode 115)[20]? = some (.aload 0) by decide +kernel) rfl
theorem x115_21 : WP d 115 21 [l0, l1] (v :: st) h Q ↔ (c1 v ∧ WP d 115 22 [l0, l1] (v :: v :: st) h Q) := wp_dup (show (lcode 115)[21]? = some (.dup) by decide +kernel)
theorem x115_22 : WP d 115 22 [l0, l1] (.ref a :: st) h Q ↔ gF (hRd h a) 11 9 (fun v => WP d 115 23 [l0, l1] (v :: st) h Q) := wp_getfield (show (lcode 115)[22]? = some (.getfield 713) by decide +kernel)
theorem x115_23 : WP d 115 23 [l0, l1] st h Q ↔ WP d 115 24 [l0, l1] (vI 1 :: st) h Q := wp_iconst (show (lcode 115)[23]? = some (.iconst 1) by decide +kernel)
theorem x115_24 : WP d 115 24 [l0, l1] (vI y :: vI x :: st) h Q ↔ WP d 115 25 [l0, l1] (vI (x + y) :: st) h Q := wp_iadd (show (lcode 115)[24]? = some (.iadd) by decide +kernel)
theorem x115_25 : WP d 115 25 [l0, l1] (vI x :: .ref a :: st) h Q ↔ pF (hRd h a) 11 9 (vI x) (fun c => WP d 115 26 [l0, l1] st (hWr h a c) Q) := wp_putfield (show (lcode 115)[25]? = some (.putfield 713) by decide +kernel)
theorem x115_26 : WP d 115 26 [some (Value.ref a), l1] st h Q ↔ WP d 115 27 [some (Value.ref a), l1] (Value.ref a :: st) h Q := wp_aload (show (lcode 115)[26]? = some (.aload 0) by decide +kernel) rfl
theorem x115_27 : WP d 115 27 [l0, l1] (.ref a :: st) h Q ↔ gF (hRd h a) 11 9 (fun v => WP d 115 28 [l0, l1] (v :: st) h Q) := wp_getfield (show (lcode 115)[27]? = some (.getfield 713) by decide +kernel)
theorem x115_28 : WP d 115 28 [l0, l1] [vI x] h Q ↔ Q (some (vI x)) h := wp_ireturn (show (lcode 115)[28]? = some (.ireturn) by decide +kernel)
end
