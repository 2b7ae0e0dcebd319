-- the objects' cells, by their fields, and one rule a field
section
variable {x : Int} {F : Value → Prop} {G : LCell → Prop}
def oBook (p0 : Nat) (p1 : Nat) (p2 : Int) : LCell := some (.inl (0, [.ref p0, .ref p1, vI p2]))
theorem gf0_0 {p0 : Nat} {p1 : Nat} {p2 : Int} : gF (oBook p0 p1 p2) 0 0 F = F (.ref p0) := propext ⟨fun q => q.2, fun q => ⟨rfl, q⟩⟩
theorem gf0_1 {p0 : Nat} {p1 : Nat} {p2 : Int} : gF (oBook p0 p1 p2) 0 1 F = F (.ref p1) := propext ⟨fun q => q.2, fun q => ⟨rfl, q⟩⟩
theorem gf0_2 {p0 : Nat} {p1 : Nat} {p2 : Int} : gF (oBook p0 p1 p2) 0 2 F = F (vI p2) := propext ⟨fun q => q.2, fun q => ⟨rfl, q⟩⟩
theorem pf0_2 {p0 : Nat} {p1 : Nat} {p2 : Int} : pF (oBook p0 p1 p2) 0 2 (vI x) G = G (oBook p0 p1 x) := propext ⟨fun q => q.2, fun q => ⟨rfl, q⟩⟩
def oCap (p0 : Nat) (p1 : Nat) (p2 : Nat) (p3 : Nat) (p4 : Nat) : LCell := some (.inl (1, [.ref p0, .ref p1, .ref p2, .ref p3, .ref p4]))
theorem gf1_0 {p0 : Nat} {p1 : Nat} {p2 : Nat} {p3 : Nat} {p4 : Nat} : gF (oCap p0 p1 p2 p3 p4) 1 0 F = F (.ref p0) := propext ⟨fun q => q.2, fun q => ⟨rfl, q⟩⟩
theorem gf1_1 {p0 : Nat} {p1 : Nat} {p2 : Nat} {p3 : Nat} {p4 : Nat} : gF (oCap p0 p1 p2 p3 p4) 1 1 F = F (.ref p1) := propext ⟨fun q => q.2, fun q => ⟨rfl, q⟩⟩
theorem gf1_2 {p0 : Nat} {p1 : Nat} {p2 : Nat} {p3 : Nat} {p4 : Nat} : gF (oCap p0 p1 p2 p3 p4) 1 2 F = F (.ref p2) := propext ⟨fun q => q.2, fun q => ⟨rfl, q⟩⟩
theorem gf1_3 {p0 : Nat} {p1 : Nat} {p2 : Nat} {p3 : Nat} {p4 : Nat} : gF (oCap p0 p1 p2 p3 p4) 1 3 F = F (.ref p3) := propext ⟨fun q => q.2, fun q => ⟨rfl, q⟩⟩
theorem gf1_4 {p0 : Nat} {p1 : Nat} {p2 : Nat} {p3 : Nat} {p4 : Nat} : gF (oCap p0 p1 p2 p3 p4) 1 4 F = F (.ref p4) := propext ⟨fun q => q.2, fun q => ⟨rfl, q⟩⟩
def oCity (p0 : Int) (p1 : Int) (p2 : Int) (p3 : Nat) (p4 : Nat) (p5 : Nat) (p6 : Nat) (p7 : Nat) : LCell := some (.inl (2, [vI p0, vI p1, vI p2, .ref p3, .ref p4, .ref p5, .ref p6, .ref p7]))
theorem gf2_0 {p0 : Int} {p1 : Int} {p2 : Int} {p3 : Nat} {p4 : Nat} {p5 : Nat} {p6 : Nat} {p7 : Nat} : gF (oCity p0 p1 p2 p3 p4 p5 p6 p7) 2 0 F = F (vI p0) := propext ⟨fun q => q.2, fun q => ⟨rfl, q⟩⟩
theorem pf2_0 {p0 : Int} {p1 : Int} {p2 : Int} {p3 : Nat} {p4 : Nat} {p5 : Nat} {p6 : Nat} {p7 : Nat} : pF (oCity p0 p1 p2 p3 p4 p5 p6 p7) 2 0 (vI x) G = G (oCity x p1 p2 p3 p4 p5 p6 p7) := propext ⟨fun q => q.2, fun q => ⟨rfl, q⟩⟩
theorem gf2_1 {p0 : Int} {p1 : Int} {p2 : Int} {p3 : Nat} {p4 : Nat} {p5 : Nat} {p6 : Nat} {p7 : Nat} : gF (oCity p0 p1 p2 p3 p4 p5 p6 p7) 2 1 F = F (vI p1) := propext ⟨fun q => q.2, fun q => ⟨rfl, q⟩⟩
theorem pf2_1 {p0 : Int} {p1 : Int} {p2 : Int} {p3 : Nat} {p4 : Nat} {p5 : Nat} {p6 : Nat} {p7 : Nat} : pF (oCity p0 p1 p2 p3 p4 p5 p6 p7) 2 1 (vI x) G = G (oCity p0 x p2 p3 p4 p5 p6 p7) := propext ⟨fun q => q.2, fun q => ⟨rfl, q⟩⟩
theorem gf2_2 {p0 : Int} {p1 : Int} {p2 : Int} {p3 : Nat} {p4 : Nat} {p5 : Nat} {p6 : Nat} {p7 : Nat} : gF (oCity p0 p1 p2 p3 p4 p5 p6 p7) 2 2 F = F (vI p2) := propext ⟨fun q => q.2, fun q => ⟨rfl, q⟩⟩
theorem pf2_2 {p0 : Int} {p1 : Int} {p2 : Int} {p3 : Nat} {p4 : Nat} {p5 : Nat} {p6 : Nat} {p7 : Nat} : pF (oCity p0 p1 p2 p3 p4 p5 p6 p7) 2 2 (vI x) G = G (oCity p0 p1 x p3 p4 p5 p6 p7) := propext ⟨fun q => q.2, fun q => ⟨rfl, q⟩⟩
theorem gf2_3 {p0 : Int} {p1 : Int} {p2 : Int} {p3 : Nat} {p4 : Nat} {p5 : Nat} {p6 : Nat} {p7 : Nat} : gF (oCity p0 p1 p2 p3 p4 p5 p6 p7) 2 3 F = F (.ref p3) := propext ⟨fun q => q.2, fun q => ⟨rfl, q⟩⟩
theorem gf2_4 {p0 : Int} {p1 : Int} {p2 : Int} {p3 : Nat} {p4 : Nat} {p5 : Nat} {p6 : Nat} {p7 : Nat} : gF (oCity p0 p1 p2 p3 p4 p5 p6 p7) 2 4 F = F (.ref p4) := propext ⟨fun q => q.2, fun q => ⟨rfl, q⟩⟩
theorem gf2_5 {p0 : Int} {p1 : Int} {p2 : Int} {p3 : Nat} {p4 : Nat} {p5 : Nat} {p6 : Nat} {p7 : Nat} : gF (oCity p0 p1 p2 p3 p4 p5 p6 p7) 2 5 F = F (.ref p5) := propext ⟨fun q => q.2, fun q => ⟨rfl, q⟩⟩
theorem gf2_6 {p0 : Int} {p1 : Int} {p2 : Int} {p3 : Nat} {p4 : Nat} {p5 : Nat} {p6 : Nat} {p7 : Nat} : gF (oCity p0 p1 p2 p3 p4 p5 p6 p7) 2 6 F = F (.ref p6) := propext ⟨fun q => q.2, fun q => ⟨rfl, q⟩⟩
theorem gf2_7 {p0 : Int} {p1 : Int} {p2 : Int} {p3 : Nat} {p4 : Nat} {p5 : Nat} {p6 : Nat} {p7 : Nat} : gF (oCity p0 p1 p2 p3 p4 p5 p6 p7) 2 7 F = F (.ref p7) := propext ⟨fun q => q.2, fun q => ⟨rfl, q⟩⟩
def oHist (p0 : Nat) (p1 : Int) (p2 : Int) : LCell := some (.inl (3, [.ref p0, vI p1, vI p2]))
theorem gf3_0 {p0 : Nat} {p1 : Int} {p2 : Int} : gF (oHist p0 p1 p2) 3 0 F = F (.ref p0) := propext ⟨fun q => q.2, fun q => ⟨rfl, q⟩⟩
theorem gf3_1 {p0 : Nat} {p1 : Int} {p2 : Int} : gF (oHist p0 p1 p2) 3 1 F = F (vI p1) := propext ⟨fun q => q.2, fun q => ⟨rfl, q⟩⟩
theorem pf3_1 {p0 : Nat} {p1 : Int} {p2 : Int} : pF (oHist p0 p1 p2) 3 1 (vI x) G = G (oHist p0 x p2) := propext ⟨fun q => q.2, fun q => ⟨rfl, q⟩⟩
theorem gf3_2 {p0 : Nat} {p1 : Int} {p2 : Int} : gF (oHist p0 p1 p2) 3 2 F = F (vI p2) := propext ⟨fun q => q.2, fun q => ⟨rfl, q⟩⟩
theorem pf3_2 {p0 : Nat} {p1 : Int} {p2 : Int} : pF (oHist p0 p1 p2) 3 2 (vI x) G = G (oHist p0 p1 x) := propext ⟨fun q => q.2, fun q => ⟨rfl, q⟩⟩
def oImg (p0 : Nat) (p1 : Nat) (p2 : Nat) : LCell := some (.inl (4, [.ref p0, .ref p1, .ref p2]))
theorem gf4_0 {p0 : Nat} {p1 : Nat} {p2 : Nat} : gF (oImg p0 p1 p2) 4 0 F = F (.ref p0) := propext ⟨fun q => q.2, fun q => ⟨rfl, q⟩⟩
theorem gf4_1 {p0 : Nat} {p1 : Nat} {p2 : Nat} : gF (oImg p0 p1 p2) 4 1 F = F (.ref p1) := propext ⟨fun q => q.2, fun q => ⟨rfl, q⟩⟩
theorem gf4_2 {p0 : Nat} {p1 : Nat} {p2 : Nat} : gF (oImg p0 p1 p2) 4 2 F = F (.ref p2) := propext ⟨fun q => q.2, fun q => ⟨rfl, q⟩⟩
def oRead (p0 : Nat) (p1 : Nat) (p2 : Int) (p3 : Int) (p4 : Int) (p5 : Int) (p6 : Int) : LCell := some (.inl (5, [.ref p0, .ref p1, vI p2, vI p3, vI p4, vI p5, vI p6]))
theorem gf5_0 {p0 : Nat} {p1 : Nat} {p2 : Int} {p3 : Int} {p4 : Int} {p5 : Int} {p6 : Int} : gF (oRead p0 p1 p2 p3 p4 p5 p6) 5 0 F = F (.ref p0) := propext ⟨fun q => q.2, fun q => ⟨rfl, q⟩⟩
theorem gf5_1 {p0 : Nat} {p1 : Nat} {p2 : Int} {p3 : Int} {p4 : Int} {p5 : Int} {p6 : Int} : gF (oRead p0 p1 p2 p3 p4 p5 p6) 5 1 F = F (.ref p1) := propext ⟨fun q => q.2, fun q => ⟨rfl, q⟩⟩
theorem gf5_2 {p0 : Nat} {p1 : Nat} {p2 : Int} {p3 : Int} {p4 : Int} {p5 : Int} {p6 : Int} : gF (oRead p0 p1 p2 p3 p4 p5 p6) 5 2 F = F (vI p2) := propext ⟨fun q => q.2, fun q => ⟨rfl, q⟩⟩
theorem pf5_2 {p0 : Nat} {p1 : Nat} {p2 : Int} {p3 : Int} {p4 : Int} {p5 : Int} {p6 : Int} : pF (oRead p0 p1 p2 p3 p4 p5 p6) 5 2 (vI x) G = G (oRead p0 p1 x p3 p4 p5 p6) := propext ⟨fun q => q.2, fun q => ⟨rfl, q⟩⟩
theorem gf5_3 {p0 : Nat} {p1 : Nat} {p2 : Int} {p3 : Int} {p4 : Int} {p5 : Int} {p6 : Int} : gF (oRead p0 p1 p2 p3 p4 p5 p6) 5 3 F = F (vI p3) := propext ⟨fun q => q.2, fun q => ⟨rfl, q⟩⟩
theorem pf5_3 {p0 : Nat} {p1 : Nat} {p2 : Int} {p3 : Int} {p4 : Int} {p5 : Int} {p6 : Int} : pF (oRead p0 p1 p2 p3 p4 p5 p6) 5 3 (vI x) G = G (oRead p0 p1 p2 x p4 p5 p6) := propext ⟨fun q => q.2, fun q => ⟨rfl, q⟩⟩
theorem gf5_4 {p0 : Nat} {p1 : Nat} {p2 : Int} {p3 : Int} {p4 : Int} {p5 : Int} {p6 : Int} : gF (oRead p0 p1 p2 p3 p4 p5 p6) 5 4 F = F (vI p4) := propext ⟨fun q => q.2, fun q => ⟨rfl, q⟩⟩
theorem pf5_4 {p0 : Nat} {p1 : Nat} {p2 : Int} {p3 : Int} {p4 : Int} {p5 : Int} {p6 : Int} : pF (oRead p0 p1 p2 p3 p4 p5 p6) 5 4 (vI x) G = G (oRead p0 p1 p2 p3 x p5 p6) := propext ⟨fun q => q.2, fun q => ⟨rfl, q⟩⟩
theorem gf5_5 {p0 : Nat} {p1 : Nat} {p2 : Int} {p3 : Int} {p4 : Int} {p5 : Int} {p6 : Int} : gF (oRead p0 p1 p2 p3 p4 p5 p6) 5 5 F = F (vI p5) := propext ⟨fun q => q.2, fun q => ⟨rfl, q⟩⟩
theorem pf5_5 {p0 : Nat} {p1 : Nat} {p2 : Int} {p3 : Int} {p4 : Int} {p5 : Int} {p6 : Int} : pF (oRead p0 p1 p2 p3 p4 p5 p6) 5 5 (vI x) G = G (oRead p0 p1 p2 p3 p4 x p6) := propext ⟨fun q => q.2, fun q => ⟨rfl, q⟩⟩
theorem gf5_6 {p0 : Nat} {p1 : Nat} {p2 : Int} {p3 : Int} {p4 : Int} {p5 : Int} {p6 : Int} : gF (oRead p0 p1 p2 p3 p4 p5 p6) 5 6 F = F (vI p6) := propext ⟨fun q => q.2, fun q => ⟨rfl, q⟩⟩
theorem pf5_6 {p0 : Nat} {p1 : Nat} {p2 : Int} {p3 : Int} {p4 : Int} {p5 : Int} {p6 : Int} : pF (oRead p0 p1 p2 p3 p4 p5 p6) 5 6 (vI x) G = G (oRead p0 p1 p2 p3 p4 p5 x) := propext ⟨fun q => q.2, fun q => ⟨rfl, q⟩⟩
def oRow (p0 : Nat) (p1 : Int) : LCell := some (.inl (6, [.ref p0, vI p1]))
theorem gf6_0 {p0 : Nat} {p1 : Int} : gF (oRow p0 p1) 6 0 F = F (.ref p0) := propext ⟨fun q => q.2, fun q => ⟨rfl, q⟩⟩
theorem gf6_1 {p0 : Nat} {p1 : Int} : gF (oRow p0 p1) 6 1 F = F (vI p1) := propext ⟨fun q => q.2, fun q => ⟨rfl, q⟩⟩
theorem pf6_1 {p0 : Nat} {p1 : Int} : pF (oRow p0 p1) 6 1 (vI x) G = G (oRow p0 x) := propext ⟨fun q => q.2, fun q => ⟨rfl, q⟩⟩
def oState (p0 : Nat) (p1 : Nat) (p2 : Nat) (p3 : Int) (p4 : Int) : LCell := some (.inl (7, [.ref p0, .ref p1, .ref p2, vI p3, vI p4]))
theorem gf7_0 {p0 : Nat} {p1 : Nat} {p2 : Nat} {p3 : Int} {p4 : Int} : gF (oState p0 p1 p2 p3 p4) 7 0 F = F (.ref p0) := propext ⟨fun q => q.2, fun q => ⟨rfl, q⟩⟩
theorem gf7_1 {p0 : Nat} {p1 : Nat} {p2 : Nat} {p3 : Int} {p4 : Int} : gF (oState p0 p1 p2 p3 p4) 7 1 F = F (.ref p1) := propext ⟨fun q => q.2, fun q => ⟨rfl, q⟩⟩
theorem gf7_2 {p0 : Nat} {p1 : Nat} {p2 : Nat} {p3 : Int} {p4 : Int} : gF (oState p0 p1 p2 p3 p4) 7 2 F = F (.ref p2) := propext ⟨fun q => q.2, fun q => ⟨rfl, q⟩⟩
theorem gf7_3 {p0 : Nat} {p1 : Nat} {p2 : Nat} {p3 : Int} {p4 : Int} : gF (oState p0 p1 p2 p3 p4) 7 3 F = F (vI p3) := propext ⟨fun q => q.2, fun q => ⟨rfl, q⟩⟩
theorem pf7_3 {p0 : Nat} {p1 : Nat} {p2 : Nat} {p3 : Int} {p4 : Int} : pF (oState p0 p1 p2 p3 p4) 7 3 (vI x) G = G (oState p0 p1 p2 x p4) := propext ⟨fun q => q.2, fun q => ⟨rfl, q⟩⟩
theorem gf7_4 {p0 : Nat} {p1 : Nat} {p2 : Nat} {p3 : Int} {p4 : Int} : gF (oState p0 p1 p2 p3 p4) 7 4 F = F (vI p4) := propext ⟨fun q => q.2, fun q => ⟨rfl, q⟩⟩
theorem pf7_4 {p0 : Nat} {p1 : Nat} {p2 : Nat} {p3 : Int} {p4 : Int} : pF (oState p0 p1 p2 p3 p4) 7 4 (vI x) G = G (oState p0 p1 p2 p3 x) := propext ⟨fun q => q.2, fun q => ⟨rfl, q⟩⟩
def oTri (p0 : Nat) (p1 : Nat) (p2 : Int) (p3 : Int) (p4 : Int) : LCell := some (.inl (8, [.ref p0, .ref p1, vI p2, vI p3, vI p4]))
theorem gf8_0 {p0 : Nat} {p1 : Nat} {p2 : Int} {p3 : Int} {p4 : Int} : gF (oTri p0 p1 p2 p3 p4) 8 0 F = F (.ref p0) := propext ⟨fun q => q.2, fun q => ⟨rfl, q⟩⟩
theorem gf8_1 {p0 : Nat} {p1 : Nat} {p2 : Int} {p3 : Int} {p4 : Int} : gF (oTri p0 p1 p2 p3 p4) 8 1 F = F (.ref p1) := propext ⟨fun q => q.2, fun q => ⟨rfl, q⟩⟩
theorem gf8_2 {p0 : Nat} {p1 : Nat} {p2 : Int} {p3 : Int} {p4 : Int} : gF (oTri p0 p1 p2 p3 p4) 8 2 F = F (vI p2) := propext ⟨fun q => q.2, fun q => ⟨rfl, q⟩⟩
theorem pf8_2 {p0 : Nat} {p1 : Nat} {p2 : Int} {p3 : Int} {p4 : Int} : pF (oTri p0 p1 p2 p3 p4) 8 2 (vI x) G = G (oTri p0 p1 x p3 p4) := propext ⟨fun q => q.2, fun q => ⟨rfl, q⟩⟩
theorem gf8_3 {p0 : Nat} {p1 : Nat} {p2 : Int} {p3 : Int} {p4 : Int} : gF (oTri p0 p1 p2 p3 p4) 8 3 F = F (vI p3) := propext ⟨fun q => q.2, fun q => ⟨rfl, q⟩⟩
theorem pf8_3 {p0 : Nat} {p1 : Nat} {p2 : Int} {p3 : Int} {p4 : Int} : pF (oTri p0 p1 p2 p3 p4) 8 3 (vI x) G = G (oTri p0 p1 p2 x p4) := propext ⟨fun q => q.2, fun q => ⟨rfl, q⟩⟩
theorem gf8_4 {p0 : Nat} {p1 : Nat} {p2 : Int} {p3 : Int} {p4 : Int} : gF (oTri p0 p1 p2 p3 p4) 8 4 F = F (vI p4) := propext ⟨fun q => q.2, fun q => ⟨rfl, q⟩⟩
theorem pf8_4 {p0 : Nat} {p1 : Nat} {p2 : Int} {p3 : Int} {p4 : Int} : pF (oTri p0 p1 p2 p3 p4) 8 4 (vI x) G = G (oTri p0 p1 p2 p3 x) := propext ⟨fun q => q.2, fun q => ⟨rfl, q⟩⟩
def oWin (p0 : Nat) (p1 : Nat) (p2 : Int) (p3 : Nat) (p4 : Int) (p5 : Nat) (p6 : Nat) : LCell := some (.inl (9, [.ref p0, .ref p1, vI p2, .ref p3, vI p4, .ref p5, .ref p6]))
theorem gf9_0 {p0 : Nat} {p1 : Nat} {p2 : Int} {p3 : Nat} {p4 : Int} {p5 : Nat} {p6 : Nat} : gF (oWin p0 p1 p2 p3 p4 p5 p6) 9 0 F = F (.ref p0) := propext ⟨fun q => q.2, fun q => ⟨rfl, q⟩⟩
theorem gf9_1 {p0 : Nat} {p1 : Nat} {p2 : Int} {p3 : Nat} {p4 : Int} {p5 : Nat} {p6 : Nat} : gF (oWin p0 p1 p2 p3 p4 p5 p6) 9 1 F = F (.ref p1) := propext ⟨fun q => q.2, fun q => ⟨rfl, q⟩⟩
theorem gf9_2 {p0 : Nat} {p1 : Nat} {p2 : Int} {p3 : Nat} {p4 : Int} {p5 : Nat} {p6 : Nat} : gF (oWin p0 p1 p2 p3 p4 p5 p6) 9 2 F = F (vI p2) := propext ⟨fun q => q.2, fun q => ⟨rfl, q⟩⟩
theorem pf9_2 {p0 : Nat} {p1 : Nat} {p2 : Int} {p3 : Nat} {p4 : Int} {p5 : Nat} {p6 : Nat} : pF (oWin p0 p1 p2 p3 p4 p5 p6) 9 2 (vI x) G = G (oWin p0 p1 x p3 p4 p5 p6) := propext ⟨fun q => q.2, fun q => ⟨rfl, q⟩⟩
theorem gf9_3 {p0 : Nat} {p1 : Nat} {p2 : Int} {p3 : Nat} {p4 : Int} {p5 : Nat} {p6 : Nat} : gF (oWin p0 p1 p2 p3 p4 p5 p6) 9 3 F = F (.ref p3) := propext ⟨fun q => q.2, fun q => ⟨rfl, q⟩⟩
theorem gf9_4 {p0 : Nat} {p1 : Nat} {p2 : Int} {p3 : Nat} {p4 : Int} {p5 : Nat} {p6 : Nat} : gF (oWin p0 p1 p2 p3 p4 p5 p6) 9 4 F = F (vI p4) := propext ⟨fun q => q.2, fun q => ⟨rfl, q⟩⟩
theorem pf9_4 {p0 : Nat} {p1 : Nat} {p2 : Int} {p3 : Nat} {p4 : Int} {p5 : Nat} {p6 : Nat} : pF (oWin p0 p1 p2 p3 p4 p5 p6) 9 4 (vI x) G = G (oWin p0 p1 p2 p3 x p5 p6) := propext ⟨fun q => q.2, fun q => ⟨rfl, q⟩⟩
theorem gf9_5 {p0 : Nat} {p1 : Nat} {p2 : Int} {p3 : Nat} {p4 : Int} {p5 : Nat} {p6 : Nat} : gF (oWin p0 p1 p2 p3 p4 p5 p6) 9 5 F = F (.ref p5) := propext ⟨fun q => q.2, fun q => ⟨rfl, q⟩⟩
theorem gf9_6 {p0 : Nat} {p1 : Nat} {p2 : Int} {p3 : Nat} {p4 : Int} {p5 : Nat} {p6 : Nat} : gF (oWin p0 p1 p2 p3 p4 p5 p6) 9 6 F = F (.ref p6) := propext ⟨fun q => q.2, fun q => ⟨rfl, q⟩⟩
def oWake (p0 : Nat) (p1 : Nat) (p2 : Nat) (p3 : Nat) (p4 : Nat) (p5 : Nat) (p6 : Nat) (p7 : Nat) (p8 : Nat) (p9 : Int) : LCell := some (.inl (10, [.ref p0, .ref p1, .ref p2, .ref p3, .ref p4, .ref p5, .ref p6, .ref p7, .ref p8, vI p9]))
theorem gf10_0 {p0 : Nat} {p1 : Nat} {p2 : Nat} {p3 : Nat} {p4 : Nat} {p5 : Nat} {p6 : Nat} {p7 : Nat} {p8 : Nat} {p9 : Int} : gF (oWake p0 p1 p2 p3 p4 p5 p6 p7 p8 p9) 10 0 F = F (.ref p0) := propext ⟨fun q => q.2, fun q => ⟨rfl, q⟩⟩
theorem gf10_1 {p0 : Nat} {p1 : Nat} {p2 : Nat} {p3 : Nat} {p4 : Nat} {p5 : Nat} {p6 : Nat} {p7 : Nat} {p8 : Nat} {p9 : Int} : gF (oWake p0 p1 p2 p3 p4 p5 p6 p7 p8 p9) 10 1 F = F (.ref p1) := propext ⟨fun q => q.2, fun q => ⟨rfl, q⟩⟩
theorem gf10_2 {p0 : Nat} {p1 : Nat} {p2 : Nat} {p3 : Nat} {p4 : Nat} {p5 : Nat} {p6 : Nat} {p7 : Nat} {p8 : Nat} {p9 : Int} : gF (oWake p0 p1 p2 p3 p4 p5 p6 p7 p8 p9) 10 2 F = F (.ref p2) := propext ⟨fun q => q.2, fun q => ⟨rfl, q⟩⟩
theorem gf10_3 {p0 : Nat} {p1 : Nat} {p2 : Nat} {p3 : Nat} {p4 : Nat} {p5 : Nat} {p6 : Nat} {p7 : Nat} {p8 : Nat} {p9 : Int} : gF (oWake p0 p1 p2 p3 p4 p5 p6 p7 p8 p9) 10 3 F = F (.ref p3) := propext ⟨fun q => q.2, fun q => ⟨rfl, q⟩⟩
theorem gf10_4 {p0 : Nat} {p1 : Nat} {p2 : Nat} {p3 : Nat} {p4 : Nat} {p5 : Nat} {p6 : Nat} {p7 : Nat} {p8 : Nat} {p9 : Int} : gF (oWake p0 p1 p2 p3 p4 p5 p6 p7 p8 p9) 10 4 F = F (.ref p4) := propext ⟨fun q => q.2, fun q => ⟨rfl, q⟩⟩
theorem gf10_5 {p0 : Nat} {p1 : Nat} {p2 : Nat} {p3 : Nat} {p4 : Nat} {p5 : Nat} {p6 : Nat} {p7 : Nat} {p8 : Nat} {p9 : Int} : gF (oWake p0 p1 p2 p3 p4 p5 p6 p7 p8 p9) 10 5 F = F (.ref p5) := propext ⟨fun q => q.2, fun q => ⟨rfl, q⟩⟩
theorem gf10_6 {p0 : Nat} {p1 : Nat} {p2 : Nat} {p3 : Nat} {p4 : Nat} {p5 : Nat} {p6 : Nat} {p7 : Nat} {p8 : Nat} {p9 : Int} : gF (oWake p0 p1 p2 p3 p4 p5 p6 p7 p8 p9) 10 6 F = F (.ref p6) := propext ⟨fun q => q.2, fun q => ⟨rfl, q⟩⟩
theorem gf10_7 {p0 : Nat} {p1 : Nat} {p2 : Nat} {p3 : Nat} {p4 : Nat} {p5 : Nat} {p6 : Nat} {p7 : Nat} {p8 : Nat} {p9 : Int} : gF (oWake p0 p1 p2 p3 p4 p5 p6 p7 p8 p9) 10 7 F = F (.ref p7) := propext ⟨fun q => q.2, fun q => ⟨rfl, q⟩⟩
theorem gf10_8 {p0 : Nat} {p1 : Nat} {p2 : Nat} {p3 : Nat} {p4 : Nat} {p5 : Nat} {p6 : Nat} {p7 : Nat} {p8 : Nat} {p9 : Int} : gF (oWake p0 p1 p2 p3 p4 p5 p6 p7 p8 p9) 10 8 F = F (.ref p8) := propext ⟨fun q => q.2, fun q => ⟨rfl, q⟩⟩
theorem gf10_9 {p0 : Nat} {p1 : Nat} {p2 : Nat} {p3 : Nat} {p4 : Nat} {p5 : Nat} {p6 : Nat} {p7 : Nat} {p8 : Nat} {p9 : Int} : gF (oWake p0 p1 p2 p3 p4 p5 p6 p7 p8 p9) 10 9 F = F (vI p9) := propext ⟨fun q => q.2, fun q => ⟨rfl, q⟩⟩
theorem pf10_9 {p0 : Nat} {p1 : Nat} {p2 : Nat} {p3 : Nat} {p4 : Nat} {p5 : Nat} {p6 : Nat} {p7 : Nat} {p8 : Nat} {p9 : Int} : pF (oWake p0 p1 p2 p3 p4 p5 p6 p7 p8 p9) 10 9 (vI x) G = G (oWake p0 p1 p2 p3 p4 p5 p6 p7 p8 x) := propext ⟨fun q => q.2, fun q => ⟨rfl, q⟩⟩
def oM (z : Nat → Int) : LCell := some (.inl (11, [vI (z 0), vI (z 1), vI (z 2), .ref 157, .ref 158, .ref 159, .ref 160, vI (z 7), .ref 161, vI (z 9), vI (z 10), vI (z 11), vI (z 12), vI (z 13), .ref 162, vI (z 15), .ref 163, vI (z 17), .ref 164, .ref 165, .ref 166, .ref 167, .ref 168, .ref 169, vI (z 24), .ref 170, .ref 171, .ref 172, vI (z 28), vI (z 29), .ref 173, .ref 174, vI (z 32), .ref 175, .ref 176, vI (z 35), .ref 177, .ref 178, .ref 179, .ref 180]))
theorem gf11_0 {z : Nat → Int} : gF (oM z) 11 0 F = F (vI (z 0)) := propext ⟨fun q => q.2, fun q => ⟨rfl, q⟩⟩
theorem pf11_0 {z : Nat → Int} : pF (oM z) 11 0 (vI x) G = G (oM (uN z 0 x)) := propext ⟨fun q => q.2, fun q => ⟨rfl, q⟩⟩
theorem gf11_1 {z : Nat → Int} : gF (oM z) 11 1 F = F (vI (z 1)) := propext ⟨fun q => q.2, fun q => ⟨rfl, q⟩⟩
theorem pf11_1 {z : Nat → Int} : pF (oM z) 11 1 (vI x) G = G (oM (uN z 1 x)) := propext ⟨fun q => q.2, fun q => ⟨rfl, q⟩⟩
theorem gf11_2 {z : Nat → Int} : gF (oM z) 11 2 F = F (vI (z 2)) := propext ⟨fun q => q.2, fun q => ⟨rfl, q⟩⟩
theorem pf11_2 {z : Nat → Int} : pF (oM z) 11 2 (vI x) G = G (oM (uN z 2 x)) := propext ⟨fun q => q.2, fun q => ⟨rfl, q⟩⟩
theorem gf11_3 {z : Nat → Int} : gF (oM z) 11 3 F = F (.ref 157) := propext ⟨fun q => q.2, fun q => ⟨rfl, q⟩⟩
theorem gf11_4 {z : Nat → Int} : gF (oM z) 11 4 F = F (.ref 158) := propext ⟨fun q => q.2, fun q => ⟨rfl, q⟩⟩
theorem gf11_5 {z : Nat → Int} : gF (oM z) 11 5 F = F (.ref 159) := propext ⟨fun q => q.2, fun q => ⟨rfl, q⟩⟩
theorem gf11_6 {z : Nat → Int} : gF (oM z) 11 6 F = F (.ref 160) := propext ⟨fun q => q.2, fun q => ⟨rfl, q⟩⟩
theorem gf11_7 {z : Nat → Int} : gF (oM z) 11 7 F = F (vI (z 7)) := propext ⟨fun q => q.2, fun q => ⟨rfl, q⟩⟩
theorem pf11_7 {z : Nat → Int} : pF (oM z) 11 7 (vI x) G = G (oM (uN z 7 x)) := propext ⟨fun q => q.2, fun q => ⟨rfl, q⟩⟩
theorem gf11_8 {z : Nat → Int} : gF (oM z) 11 8 F = F (.ref 161) := propext ⟨fun q => q.2, fun q => ⟨rfl, q⟩⟩
theorem gf11_9 {z : Nat → Int} : gF (oM z) 11 9 F = F (vI (z 9)) := propext ⟨fun q => q.2, fun q => ⟨rfl, q⟩⟩
theorem pf11_9 {z : Nat → Int} : pF (oM z) 11 9 (vI x) G = G (oM (uN z 9 x)) := propext ⟨fun q => q.2, fun q => ⟨rfl, q⟩⟩
theorem gf11_10 {z : Nat → Int} : gF (oM z) 11 10 F = F (vI (z 10)) := propext ⟨fun q => q.2, fun q => ⟨rfl, q⟩⟩
theorem pf11_10 {z : Nat → Int} : pF (oM z) 11 10 (vI x) G = G (oM (uN z 10 x)) := propext ⟨fun q => q.2, fun q => ⟨rfl, q⟩⟩
theorem gf11_11 {z : Nat → Int} : gF (oM z) 11 11 F = F (vI (z 11)) := propext ⟨fun q => q.2, fun q => ⟨rfl, q⟩⟩
theorem pf11_11 {z : Nat → Int} : pF (oM z) 11 11 (vI x) G = G (oM (uN z 11 x)) := propext ⟨fun q => q.2, fun q => ⟨rfl, q⟩⟩
theorem gf11_12 {z : Nat → Int} : gF (oM z) 11 12 F = F (vI (z 12)) := propext ⟨fun q => q.2, fun q => ⟨rfl, q⟩⟩
theorem pf11_12 {z : Nat → Int} : pF (oM z) 11 12 (vI x) G = G (oM (uN z 12 x)) := propext ⟨fun q => q.2, fun q => ⟨rfl, q⟩⟩
theorem gf11_13 {z : Nat → Int} : gF (oM z) 11 13 F = F (vI (z 13)) := propext ⟨fun q => q.2, fun q => ⟨rfl, q⟩⟩
theorem pf11_13 {z : Nat → Int} : pF (oM z) 11 13 (vI x) G = G (oM (uN z 13 x)) := propext ⟨fun q => q.2, fun q => ⟨rfl, q⟩⟩
theorem gf11_14 {z : Nat → Int} : gF (oM z) 11 14 F = F (.ref 162) := propext ⟨fun q => q.2, fun q => ⟨rfl, q⟩⟩
theorem gf11_15 {z : Nat → Int} : gF (oM z) 11 15 F = F (vI (z 15)) := propext ⟨fun q => q.2, fun q => ⟨rfl, q⟩⟩
theorem pf11_15 {z : Nat → Int} : pF (oM z) 11 15 (vI x) G = G (oM (uN z 15 x)) := propext ⟨fun q => q.2, fun q => ⟨rfl, q⟩⟩
theorem gf11_16 {z : Nat → Int} : gF (oM z) 11 16 F = F (.ref 163) := propext ⟨fun q => q.2, fun q => ⟨rfl, q⟩⟩
theorem gf11_17 {z : Nat → Int} : gF (oM z) 11 17 F = F (vI (z 17)) := propext ⟨fun q => q.2, fun q => ⟨rfl, q⟩⟩
theorem pf11_17 {z : Nat → Int} : pF (oM z) 11 17 (vI x) G = G (oM (uN z 17 x)) := propext ⟨fun q => q.2, fun q => ⟨rfl, q⟩⟩
theorem gf11_18 {z : Nat → Int} : gF (oM z) 11 18 F = F (.ref 164) := propext ⟨fun q => q.2, fun q => ⟨rfl, q⟩⟩
theorem gf11_19 {z : Nat → Int} : gF (oM z) 11 19 F = F (.ref 165) := propext ⟨fun q => q.2, fun q => ⟨rfl, q⟩⟩
theorem gf11_20 {z : Nat → Int} : gF (oM z) 11 20 F = F (.ref 166) := propext ⟨fun q => q.2, fun q => ⟨rfl, q⟩⟩
theorem gf11_21 {z : Nat → Int} : gF (oM z) 11 21 F = F (.ref 167) := propext ⟨fun q => q.2, fun q => ⟨rfl, q⟩⟩
theorem gf11_22 {z : Nat → Int} : gF (oM z) 11 22 F = F (.ref 168) := propext ⟨fun q => q.2, fun q => ⟨rfl, q⟩⟩
theorem gf11_23 {z : Nat → Int} : gF (oM z) 11 23 F = F (.ref 169) := propext ⟨fun q => q.2, fun q => ⟨rfl, q⟩⟩
theorem gf11_24 {z : Nat → Int} : gF (oM z) 11 24 F = F (vI (z 24)) := propext ⟨fun q => q.2, fun q => ⟨rfl, q⟩⟩
theorem pf11_24 {z : Nat → Int} : pF (oM z) 11 24 (vI x) G = G (oM (uN z 24 x)) := propext ⟨fun q => q.2, fun q => ⟨rfl, q⟩⟩
theorem gf11_25 {z : Nat → Int} : gF (oM z) 11 25 F = F (.ref 170) := propext ⟨fun q => q.2, fun q => ⟨rfl, q⟩⟩
theorem gf11_26 {z : Nat → Int} : gF (oM z) 11 26 F = F (.ref 171) := propext ⟨fun q => q.2, fun q => ⟨rfl, q⟩⟩
theorem gf11_27 {z : Nat → Int} : gF (oM z) 11 27 F = F (.ref 172) := propext ⟨fun q => q.2, fun q => ⟨rfl, q⟩⟩
theorem gf11_28 {z : Nat → Int} : gF (oM z) 11 28 F = F (vI (z 28)) := propext ⟨fun q => q.2, fun q => ⟨rfl, q⟩⟩
theorem pf11_28 {z : Nat → Int} : pF (oM z) 11 28 (vI x) G = G (oM (uN z 28 x)) := propext ⟨fun q => q.2, fun q => ⟨rfl, q⟩⟩
theorem gf11_29 {z : Nat → Int} : gF (oM z) 11 29 F = F (vI (z 29)) := propext ⟨fun q => q.2, fun q => ⟨rfl, q⟩⟩
theorem pf11_29 {z : Nat → Int} : pF (oM z) 11 29 (vI x) G = G (oM (uN z 29 x)) := propext ⟨fun q => q.2, fun q => ⟨rfl, q⟩⟩
theorem gf11_30 {z : Nat → Int} : gF (oM z) 11 30 F = F (.ref 173) := propext ⟨fun q => q.2, fun q => ⟨rfl, q⟩⟩
theorem gf11_31 {z : Nat → Int} : gF (oM z) 11 31 F = F (.ref 174) := propext ⟨fun q => q.2, fun q => ⟨rfl, q⟩⟩
theorem gf11_32 {z : Nat → Int} : gF (oM z) 11 32 F = F (vI (z 32)) := propext ⟨fun q => q.2, fun q => ⟨rfl, q⟩⟩
theorem pf11_32 {z : Nat → Int} : pF (oM z) 11 32 (vI x) G = G (oM (uN z 32 x)) := propext ⟨fun q => q.2, fun q => ⟨rfl, q⟩⟩
theorem gf11_33 {z : Nat → Int} : gF (oM z) 11 33 F = F (.ref 175) := propext ⟨fun q => q.2, fun q => ⟨rfl, q⟩⟩
theorem gf11_34 {z : Nat → Int} : gF (oM z) 11 34 F = F (.ref 176) := propext ⟨fun q => q.2, fun q => ⟨rfl, q⟩⟩
theorem gf11_35 {z : Nat → Int} : gF (oM z) 11 35 F = F (vI (z 35)) := propext ⟨fun q => q.2, fun q => ⟨rfl, q⟩⟩
theorem pf11_35 {z : Nat → Int} : pF (oM z) 11 35 (vI x) G = G (oM (uN z 35 x)) := propext ⟨fun q => q.2, fun q => ⟨rfl, q⟩⟩
theorem gf11_36 {z : Nat → Int} : gF (oM z) 11 36 F = F (.ref 177) := propext ⟨fun q => q.2, fun q => ⟨rfl, q⟩⟩
theorem gf11_37 {z : Nat → Int} : gF (oM z) 11 37 F = F (.ref 178) := propext ⟨fun q => q.2, fun q => ⟨rfl, q⟩⟩
theorem gf11_38 {z : Nat → Int} : gF (oM z) 11 38 F = F (.ref 179) := propext ⟨fun q => q.2, fun q => ⟨rfl, q⟩⟩
theorem gf11_39 {z : Nat → Int} : gF (oM z) 11 39 F = F (.ref 180) := propext ⟨fun q => q.2, fun q => ⟨rfl, q⟩⟩
end
-- one rule a method: what a call of it comes to
section
variable {d : Nat} {h : LHeap} {Q : Option Value → LHeap → Prop} {y0 y1 y2 y3 y4 : Int} {a0 a1 a2 a3 a4 : Nat} {fs : List Value}
theorem cl1 (hd : 0 < d) (hr : hRd h a0 = some (.inl (0, fs))) (kk : WP (d - 1) 1 0 [some (.ref a0), some (vI y1), some (vI y2)] [] h Q) : CALL d 1 [.ref a0, vI y1, vI y2] h Q := call_virt hd rfl hr (by decide +kernel) kk
theorem cl2 (hd : 0 < d) (hr : hRd h a0 = some (.inl (0, fs))) (kk : WP (d - 1) 2 0 [some (.ref a0), some (.ref a1), none] [] h Q) : CALL d 2 [.ref a0, .ref a1] h Q := call_virt hd rfl hr (by decide +kernel) kk
theorem cl4 (hd : 0 < d) (hr : hRd h a0 = some (.inl (1, fs))) (kk : WP (d - 1) 4 0 [some (.ref a0)] [] h Q) : CALL d 4 [.ref a0] h Q := call_virt hd rfl hr (by decide +kernel) kk
theorem cl5 (hd : 0 < d) (hr : hRd h a0 = some (.inl (1, fs))) (kk : WP (d - 1) 5 0 [some (.ref a0), some (.ref a1), some (vI y2), none, none, none] [] h Q) : CALL d 5 [.ref a0, .ref a1, vI y2] h Q := call_virt hd rfl hr (by decide +kernel) kk
theorem cl6 (hd : 0 < d) (hr : hRd h a0 = some (.inl (1, fs))) (kk : WP (d - 1) 6 0 [some (.ref a0), some (.ref a1), some (vI y2), none, none, none, none] [] h Q) : CALL d 6 [.ref a0, .ref a1, vI y2] h Q := call_virt hd rfl hr (by decide +kernel) kk
theorem cl7 (hd : 0 < d) (hr : hRd h a0 = some (.inl (1, fs))) (kk : WP (d - 1) 7 0 [some (.ref a0), some (vI y1), none, none] [] h Q) : CALL d 7 [.ref a0, vI y1] h Q := call_virt hd rfl hr (by decide +kernel) kk
theorem cl8 (hd : 0 < d) (hr : hRd h a0 = some (.inl (1, fs))) (kk : WP (d - 1) 8 0 [some (.ref a0), none, none, none, none] [] h Q) : CALL d 8 [.ref a0] h Q := call_virt hd rfl hr (by decide +kernel) kk
theorem cl9 (hd : 0 < d) (hr : hRd h a0 = some (.inl (1, fs))) (kk : WP (d - 1) 9 0 [some (.ref a0), some (vI y1)] [] h Q) : CALL d 9 [.ref a0, vI y1] h Q := call_virt hd rfl hr (by decide +kernel) kk
theorem cl10 (hd : 0 < d) (hr : hRd h a0 = some (.inl (1, fs))) (kk : WP (d - 1) 10 0 [some (.ref a0), some (vI y1)] [] h Q) : CALL d 10 [.ref a0, vI y1] h Q := call_virt hd rfl hr (by decide +kernel) kk
theorem cl11 (hd : 0 < d) (hr : hRd h a0 = some (.inl (1, fs))) (kk : WP (d - 1) 11 0 [some (.ref a0), some (.ref a1), none, none, none] [] h Q) : CALL d 11 [.ref a0, .ref a1] h Q := call_virt hd rfl hr (by decide +kernel) kk
theorem cl12 (hd : 0 < d) (hr : hRd h a0 = some (.inl (1, fs))) (kk : WP (d - 1) 12 0 [some (.ref a0), none, none] [] h Q) : CALL d 12 [.ref a0] h Q := call_virt hd rfl hr (by decide +kernel) kk
theorem cl13 (hd : 0 < d) (hr : hRd h a0 = some (.inl (1, fs))) (kk : WP (d - 1) 13 0 [some (.ref a0), some (vI y1), some (vI y2), none, none] [] h Q) : CALL d 13 [.ref a0, vI y1, vI y2] h Q := call_virt hd rfl hr (by decide +kernel) kk
theorem cl14 (hd : 0 < d) (hr : hRd h a0 = some (.inl (1, fs))) (kk : WP (d - 1) 14 0 [some (.ref a0), some (vI y1), some (vI y2), none] [] h Q) : CALL d 14 [.ref a0, vI y1, vI y2] h Q := call_virt hd rfl hr (by decide +kernel) kk
theorem cl15 (hd : 0 < d) (hr : hRd h a0 = some (.inl (1, fs))) (kk : WP (d - 1) 15 0 [some (.ref a0), some (.ref a1), some (vI y2), none, none, none] [] h Q) : CALL d 15 [.ref a0, .ref a1, vI y2] h Q := call_virt hd rfl hr (by decide +kernel) kk
theorem cl17 (hd : 0 < d) (hr : hRd h a0 = some (.inl (2, fs))) (kk : WP (d - 1) 17 0 [some (.ref a0)] [] h Q) : CALL d 17 [.ref a0] h Q := call_virt hd rfl hr (by decide +kernel) kk
theorem cl18 (hd : 0 < d) (hr : hRd h a0 = some (.inl (2, fs))) (kk : WP (d - 1) 18 0 [some (.ref a0), some (.ref a1)] [] h Q) : CALL d 18 [.ref a0, .ref a1] h Q := call_virt hd rfl hr (by decide +kernel) kk
theorem cl19 (hd : 0 < d) (hr : hRd h a0 = some (.inl (2, fs))) (kk : WP (d - 1) 19 0 [some (.ref a0), some (vI y1)] [] h Q) : CALL d 19 [.ref a0, vI y1] h Q := call_virt hd rfl hr (by decide +kernel) kk
theorem cl20 (hd : 0 < d) (hr : hRd h a0 = some (.inl (2, fs))) (kk : WP (d - 1) 20 0 [some (.ref a0), some (vI y1), some (vI y2), some (vI y3)] [] h Q) : CALL d 20 [.ref a0, vI y1, vI y2, vI y3] h Q := call_virt hd rfl hr (by decide +kernel) kk
theorem cl22 (hd : 0 < d) (hr : hRd h a0 = some (.inl (3, fs))) (kk : WP (d - 1) 22 0 [some (.ref a0), some (.ref a1), none] [] h Q) : CALL d 22 [.ref a0, .ref a1] h Q := call_virt hd rfl hr (by decide +kernel) kk
theorem cl23 (hd : 0 < d) (hr : hRd h a0 = some (.inl (3, fs))) (kk : WP (d - 1) 23 0 [some (.ref a0), some (.ref a1), none] [] h Q) : CALL d 23 [.ref a0, .ref a1] h Q := call_virt hd rfl hr (by decide +kernel) kk
theorem cl24 (hd : 0 < d) (hr : hRd h a0 = some (.inl (3, fs))) (kk : WP (d - 1) 24 0 [some (.ref a0)] [] h Q) : CALL d 24 [.ref a0] h Q := call_virt hd rfl hr (by decide +kernel) kk
theorem cl26 (hd : 0 < d) (hr : hRd h a0 = some (.inl (4, fs))) (kk : WP (d - 1) 26 0 [some (.ref a0), some (vI y1), some (.ref a2), some (vI y3), none] [] h Q) : CALL d 26 [.ref a0, vI y1, .ref a2, vI y3] h Q := call_virt hd rfl hr (by decide +kernel) kk
theorem cl27 (hd : 0 < d) (hr : hRd h a0 = some (.inl (4, fs))) (kk : WP (d - 1) 27 0 [some (.ref a0), some (vI y1), some (.ref a2), none] [] h Q) : CALL d 27 [.ref a0, vI y1, .ref a2] h Q := call_virt hd rfl hr (by decide +kernel) kk
theorem cl28 (hd : 0 < d) (hr : hRd h a0 = some (.inl (4, fs))) (kk : WP (d - 1) 28 0 [some (.ref a0), none] [] h Q) : CALL d 28 [.ref a0] h Q := call_virt hd rfl hr (by decide +kernel) kk
theorem cl30 (hd : 0 < d) (hr : hRd h a0 = some (.inl (5, fs))) (kk : WP (d - 1) 30 0 [some (.ref a0), some (vI y1)] [] h Q) : CALL d 30 [.ref a0, vI y1] h Q := call_virt hd rfl hr (by decide +kernel) kk
theorem cl31 (hd : 0 < d) (hr : hRd h a0 = some (.inl (5, fs))) (kk : WP (d - 1) 31 0 [some (.ref a0), none] [] h Q) : CALL d 31 [.ref a0] h Q := call_virt hd rfl hr (by decide +kernel) kk
theorem cl32 (hd : 0 < d) (hr : hRd h a0 = some (.inl (5, fs))) (kk : WP (d - 1) 32 0 [some (.ref a0), none, none] [] h Q) : CALL d 32 [.ref a0] h Q := call_virt hd rfl hr (by decide +kernel) kk
theorem cl33 (hd : 0 < d) (hr : hRd h a0 = some (.inl (5, fs))) (kk : WP (d - 1) 33 0 [some (.ref a0), some (vI y1), none] [] h Q) : CALL d 33 [.ref a0, vI y1] h Q := call_virt hd rfl hr (by decide +kernel) kk
theorem cl34 (hd : 0 < d) (hr : hRd h a0 = some (.inl (5, fs))) (kk : WP (d - 1) 34 0 [some (.ref a0), some (vI y1), none] [] h Q) : CALL d 34 [.ref a0, vI y1] h Q := call_virt hd rfl hr (by decide +kernel) kk
theorem cl35 (hd : 0 < d) (hr : hRd h a0 = some (.inl (5, fs))) (kk : WP (d - 1) 35 0 [some (.ref a0), some (vI y1), none, none, none] [] h Q) : CALL d 35 [.ref a0, vI y1] h Q := call_virt hd rfl hr (by decide +kernel) kk
theorem cl36 (hd : 0 < d) (hr : hRd h a0 = some (.inl (5, fs))) (kk : WP (d - 1) 36 0 [some (.ref a0), none, none] [] h Q) : CALL d 36 [.ref a0] h Q := call_virt hd rfl hr (by decide +kernel) kk
theorem cl37 (hd : 0 < d) (hr : hRd h a0 = some (.inl (5, fs))) (kk : WP (d - 1) 37 0 [some (.ref a0)] [] h Q) : CALL d 37 [.ref a0] h Q := call_virt hd rfl hr (by decide +kernel) kk
theorem cl38 (hd : 0 < d) (hr : hRd h a0 = some (.inl (5, fs))) (kk : WP (d - 1) 38 0 [some (.ref a0)] [] h Q) : CALL d 38 [.ref a0] h Q := call_virt hd rfl hr (by decide +kernel) kk
theorem cl39 (hd : 0 < d) (hr : hRd h a0 = some (.inl (5, fs))) (kk : WP (d - 1) 39 0 [some (.ref a0), none] [] h Q) : CALL d 39 [.ref a0] h Q := call_virt hd rfl hr (by decide +kernel) kk
theorem cl40 (hd : 0 < d) (hr : hRd h a0 = some (.inl (5, fs))) (kk : WP (d - 1) 40 0 [some (.ref a0), some (vI y1), some (vI y2), none] [] h Q) : CALL d 40 [.ref a0, vI y1, vI y2] h Q := call_virt hd rfl hr (by decide +kernel) kk
theorem cl41 (hd : 0 < d) (hr : hRd h a0 = some (.inl (5, fs))) (kk : WP (d - 1) 41 0 [some (.ref a0)] [] h Q) : CALL d 41 [.ref a0] h Q := call_virt hd rfl hr (by decide +kernel) kk
theorem cl42 (hd : 0 < d) (hr : hRd h a0 = some (.inl (5, fs))) (kk : WP (d - 1) 42 0 [some (.ref a0), some (vI y1), some (vI y2)] [] h Q) : CALL d 42 [.ref a0, vI y1, vI y2] h Q := call_virt hd rfl hr (by decide +kernel) kk
theorem cl44 (hd : 0 < d) (hr : hRd h a0 = some (.inl (6, fs))) (kk : WP (d - 1) 44 0 [some (.ref a0), some (vI y1)] [] h Q) : CALL d 44 [.ref a0, vI y1] h Q := call_virt hd rfl hr (by decide +kernel) kk
theorem cl45 (hd : 0 < d) (hr : hRd h a0 = some (.inl (6, fs))) (kk : WP (d - 1) 45 0 [some (.ref a0), some (vI y1), none] [] h Q) : CALL d 45 [.ref a0, vI y1] h Q := call_virt hd rfl hr (by decide +kernel) kk
theorem cl46 (hd : 0 < d) (hr : hRd h a0 = some (.inl (6, fs))) (kk : WP (d - 1) 46 0 [some (.ref a0), none, none] [] h Q) : CALL d 46 [.ref a0] h Q := call_virt hd rfl hr (by decide +kernel) kk
theorem cl47 (hd : 0 < d) (hr : hRd h a0 = some (.inl (6, fs))) (kk : WP (d - 1) 47 0 [some (.ref a0), some (.ref a1)] [] h Q) : CALL d 47 [.ref a0, .ref a1] h Q := call_virt hd rfl hr (by decide +kernel) kk
theorem cl48 (hd : 0 < d) (hr : hRd h a0 = some (.inl (6, fs))) (kk : WP (d - 1) 48 0 [some (.ref a0), some (vI y1), none] [] h Q) : CALL d 48 [.ref a0, vI y1] h Q := call_virt hd rfl hr (by decide +kernel) kk
theorem cl49 (hd : 0 < d) (hr : hRd h a0 = some (.inl (6, fs))) (kk : WP (d - 1) 49 0 [some (.ref a0), some (vI y1), none, none] [] h Q) : CALL d 49 [.ref a0, vI y1] h Q := call_virt hd rfl hr (by decide +kernel) kk
theorem cl50 (hd : 0 < d) (hr : hRd h a0 = some (.inl (6, fs))) (kk : WP (d - 1) 50 0 [some (.ref a0), some (vI y1), some (vI y2), none] [] h Q) : CALL d 50 [.ref a0, vI y1, vI y2] h Q := call_virt hd rfl hr (by decide +kernel) kk
theorem cl51 (hd : 0 < d) (hr : hRd h a0 = some (.inl (6, fs))) (kk : WP (d - 1) 51 0 [some (.ref a0), some (.ref a1), none, none] [] h Q) : CALL d 51 [.ref a0, .ref a1] h Q := call_virt hd rfl hr (by decide +kernel) kk
theorem cl52 (hd : 0 < d) (hr : hRd h a0 = some (.inl (6, fs))) (kk : WP (d - 1) 52 0 [some (.ref a0), none, none, none, none] [] h Q) : CALL d 52 [.ref a0] h Q := call_virt hd rfl hr (by decide +kernel) kk
theorem cl53 (hd : 0 < d) (hr : hRd h a0 = some (.inl (6, fs))) (kk : WP (d - 1) 53 0 [some (.ref a0), some (vI y1), some (vI y2), none] [] h Q) : CALL d 53 [.ref a0, vI y1, vI y2] h Q := call_virt hd rfl hr (by decide +kernel) kk
theorem cl55 (hd : 0 < d) (hr : hRd h a0 = some (.inl (7, fs))) (kk : WP (d - 1) 55 0 [some (.ref a0), some (.ref a1)] [] h Q) : CALL d 55 [.ref a0, .ref a1] h Q := call_virt hd rfl hr (by decide +kernel) kk
theorem cl56 (hd : 0 < d) (hr : hRd h a0 = some (.inl (7, fs))) (kk : WP (d - 1) 56 0 [some (.ref a0), some (.ref a1)] [] h Q) : CALL d 56 [.ref a0, .ref a1] h Q := call_virt hd rfl hr (by decide +kernel) kk
theorem cl58 (hd : 0 < d) (hr : hRd h a0 = some (.inl (8, fs))) (kk : WP (d - 1) 58 0 [some (.ref a0), some (.ref a1), some (vI y2), some (vI y3), none, none, none] [] h Q) : CALL d 58 [.ref a0, .ref a1, vI y2, vI y3] h Q := call_virt hd rfl hr (by decide +kernel) kk
theorem cl59 (hd : 0 < d) (hr : hRd h a0 = some (.inl (8, fs))) (kk : WP (d - 1) 59 0 [some (.ref a0), some (.ref a1), some (vI y2), some (vI y3)] [] h Q) : CALL d 59 [.ref a0, .ref a1, vI y2, vI y3] h Q := call_virt hd rfl hr (by decide +kernel) kk
theorem cl60 (hd : 0 < d) (hr : hRd h a0 = some (.inl (8, fs))) (kk : WP (d - 1) 60 0 [some (.ref a0), some (.ref a1), some (vI y2), none, none, none] [] h Q) : CALL d 60 [.ref a0, .ref a1, vI y2] h Q := call_virt hd rfl hr (by decide +kernel) kk
theorem cl61 (hd : 0 < d) (hr : hRd h a0 = some (.inl (8, fs))) (kk : WP (d - 1) 61 0 [some (.ref a0), some (.ref a1), none, none, none, none] [] h Q) : CALL d 61 [.ref a0, .ref a1] h Q := call_virt hd rfl hr (by decide +kernel) kk
theorem cl62 (hd : 0 < d) (hr : hRd h a0 = some (.inl (8, fs))) (kk : WP (d - 1) 62 0 [some (.ref a0), some (.ref a1), some (vI y2), none] [] h Q) : CALL d 62 [.ref a0, .ref a1, vI y2] h Q := call_virt hd rfl hr (by decide +kernel) kk
theorem cl64 (hd : 0 < d) (hr : hRd h a0 = some (.inl (9, fs))) (kk : WP (d - 1) 64 0 [some (.ref a0), some (vI y1), some (vI y2)] [] h Q) : CALL d 64 [.ref a0, vI y1, vI y2] h Q := call_virt hd rfl hr (by decide +kernel) kk
theorem cl65 (hd : 0 < d) (hr : hRd h a0 = some (.inl (9, fs))) (kk : WP (d - 1) 65 0 [some (.ref a0), some (.ref a1), none] [] h Q) : CALL d 65 [.ref a0, .ref a1] h Q := call_virt hd rfl hr (by decide +kernel) kk
theorem cl66 (hd : 0 < d) (hr : hRd h a0 = some (.inl (9, fs))) (kk : WP (d - 1) 66 0 [some (.ref a0), some (.ref a1), none] [] h Q) : CALL d 66 [.ref a0, .ref a1] h Q := call_virt hd rfl hr (by decide +kernel) kk
theorem cl67 (hd : 0 < d) (hr : hRd h a0 = some (.inl (9, fs))) (kk : WP (d - 1) 67 0 [some (.ref a0), some (.ref a1), none, none, none] [] h Q) : CALL d 67 [.ref a0, .ref a1] h Q := call_virt hd rfl hr (by decide +kernel) kk
theorem cl68 (hd : 0 < d) (hr : hRd h a0 = some (.inl (9, fs))) (kk : WP (d - 1) 68 0 [some (.ref a0), some (vI y1)] [] h Q) : CALL d 68 [.ref a0, vI y1] h Q := call_virt hd rfl hr (by decide +kernel) kk
theorem cl69 (hd : 0 < d) (hr : hRd h a0 = some (.inl (9, fs))) (kk : WP (d - 1) 69 0 [some (.ref a0), some (vI y1), none, none, none, none, none, none] [] h Q) : CALL d 69 [.ref a0, vI y1] h Q := call_virt hd rfl hr (by decide +kernel) kk
theorem cl71 (hd : 0 < d) (hr : hRd h a0 = some (.inl (10, fs))) (kk : WP (d - 1) 71 0 [some (.ref a0), some (vI y1)] [] h Q) : CALL d 71 [.ref a0, vI y1] h Q := call_virt hd rfl hr (by decide +kernel) kk
theorem cl72 (hd : 0 < d) (hr : hRd h a0 = some (.inl (10, fs))) (kk : WP (d - 1) 72 0 [some (.ref a0)] [] h Q) : CALL d 72 [.ref a0] h Q := call_virt hd rfl hr (by decide +kernel) kk
theorem cl73 (hd : 0 < d) (hr : hRd h a0 = some (.inl (10, fs))) (kk : WP (d - 1) 73 0 [some (.ref a0)] [] h Q) : CALL d 73 [.ref a0] h Q := call_virt hd rfl hr (by decide +kernel) kk
theorem cl74 (hd : 0 < d) (hr : hRd h a0 = some (.inl (10, fs))) (kk : WP (d - 1) 74 0 [some (.ref a0), some (vI y1)] [] h Q) : CALL d 74 [.ref a0, vI y1] h Q := call_virt hd rfl hr (by decide +kernel) kk
theorem cl75 (hd : 0 < d) (hr : hRd h a0 = some (.inl (10, fs))) (kk : WP (d - 1) 75 0 [some (.ref a0), some (vI y1), some (vI y2)] [] h Q) : CALL d 75 [.ref a0, vI y1, vI y2] h Q := call_virt hd rfl hr (by decide +kernel) kk
theorem cl76 (hd : 0 < d) (hr : hRd h a0 = some (.inl (10, fs))) (kk : WP (d - 1) 76 0 [some (.ref a0), some (vI y1), some (vI y2)] [] h Q) : CALL d 76 [.ref a0, vI y1, vI y2] h Q := call_virt hd rfl hr (by decide +kernel) kk
theorem cl77 (hd : 0 < d) (hr : hRd h a0 = some (.inl (10, fs))) (kk : WP (d - 1) 77 0 [some (.ref a0), some (vI y1)] [] h Q) : CALL d 77 [.ref a0, vI y1] h Q := call_virt hd rfl hr (by decide +kernel) kk
theorem cl78 (hd : 0 < d) (hr : hRd h a0 = some (.inl (10, fs))) (kk : WP (d - 1) 78 0 [some (.ref a0), some (vI y1), some (vI y2), none] [] h Q) : CALL d 78 [.ref a0, vI y1, vI y2] h Q := call_virt hd rfl hr (by decide +kernel) kk
theorem cl79 (hd : 0 < d) (hr : hRd h a0 = some (.inl (10, fs))) (kk : WP (d - 1) 79 0 [some (.ref a0), some (vI y1), some (vI y2), none] [] h Q) : CALL d 79 [.ref a0, vI y1, vI y2] h Q := call_virt hd rfl hr (by decide +kernel) kk
theorem cl80 (hd : 0 < d) (hr : hRd h a0 = some (.inl (10, fs))) (kk : WP (d - 1) 80 0 [some (.ref a0), some (vI y1), some (vI y2), none] [] h Q) : CALL d 80 [.ref a0, vI y1, vI y2] h Q := call_virt hd rfl hr (by decide +kernel) kk
theorem cl81 (hd : 0 < d) (hr : hRd h a0 = some (.inl (10, fs))) (kk : WP (d - 1) 81 0 [some (.ref a0), some (vI y1)] [] h Q) : CALL d 81 [.ref a0, vI y1] h Q := call_virt hd rfl hr (by decide +kernel) kk
theorem cl82 (hd : 0 < d) (hr : hRd h a0 = some (.inl (10, fs))) (kk : WP (d - 1) 82 0 [some (.ref a0), some (vI y1), some (vI y2), none] [] h Q) : CALL d 82 [.ref a0, vI y1, vI y2] h Q := call_virt hd rfl hr (by decide +kernel) kk
theorem cl83 (hd : 0 < d) (hr : hRd h a0 = some (.inl (10, fs))) (kk : WP (d - 1) 83 0 [some (.ref a0), some (vI y1), none] [] h Q) : CALL d 83 [.ref a0, vI y1] h Q := call_virt hd rfl hr (by decide +kernel) kk
theorem cl84 (hd : 0 < d) (hr : hRd h a0 = some (.inl (10, fs))) (kk : WP (d - 1) 84 0 [some (.ref a0)] [] h Q) : CALL d 84 [.ref a0] h Q := call_virt hd rfl hr (by decide +kernel) kk
theorem cl85 (hd : 0 < d) (hr : hRd h a0 = some (.inl (10, fs))) (kk : WP (d - 1) 85 0 [some (.ref a0), some (vI y1), some (vI y2), some (vI y3)] [] h Q) : CALL d 85 [.ref a0, vI y1, vI y2, vI y3] h Q := call_virt hd rfl hr (by decide +kernel) kk
theorem cl86 (hd : 0 < d) (hr : hRd h a0 = some (.inl (10, fs))) (kk : WP (d - 1) 86 0 [some (.ref a0), some (vI y1), some (vI y2)] [] h Q) : CALL d 86 [.ref a0, vI y1, vI y2] h Q := call_virt hd rfl hr (by decide +kernel) kk
theorem cl87 (hd : 0 < d) (hr : hRd h a0 = some (.inl (10, fs))) (kk : WP (d - 1) 87 0 [some (.ref a0), some (vI y1), none] [] h Q) : CALL d 87 [.ref a0, vI y1] h Q := call_virt hd rfl hr (by decide +kernel) kk
theorem cl88 (hd : 0 < d) (hr : hRd h a0 = some (.inl (10, fs))) (kk : WP (d - 1) 88 0 [some (.ref a0), some (vI y1), none] [] h Q) : CALL d 88 [.ref a0, vI y1] h Q := call_virt hd rfl hr (by decide +kernel) kk
theorem cl89 (hd : 0 < d) (hr : hRd h a0 = some (.inl (10, fs))) (kk : WP (d - 1) 89 0 [some (.ref a0), some (vI y1), some (vI y2), none, none, none] [] h Q) : CALL d 89 [.ref a0, vI y1, vI y2] h Q := call_virt hd rfl hr (by decide +kernel) kk
theorem cl90 (hd : 0 < d) (hr : hRd h a0 = some (.inl (10, fs))) (kk : WP (d - 1) 90 0 [some (.ref a0), some (vI y1), some (vI y2)] [] h Q) : CALL d 90 [.ref a0, vI y1, vI y2] h Q := call_virt hd rfl hr (by decide +kernel) kk
theorem cl91 (hd : 0 < d) (hr : hRd h a0 = some (.inl (10, fs))) (kk : WP (d - 1) 91 0 [some (.ref a0), some (vI y1)] [] h Q) : CALL d 91 [.ref a0, vI y1] h Q := call_virt hd rfl hr (by decide +kernel) kk
theorem cl92 (hd : 0 < d) (hr : hRd h a0 = some (.inl (10, fs))) (kk : WP (d - 1) 92 0 [some (.ref a0)] [] h Q) : CALL d 92 [.ref a0] h Q := call_virt hd rfl hr (by decide +kernel) kk
theorem cl93 (hd : 0 < d) (hr : hRd h a0 = some (.inl (10, fs))) (kk : WP (d - 1) 93 0 [some (.ref a0), some (vI y1), some (vI y2)] [] h Q) : CALL d 93 [.ref a0, vI y1, vI y2] h Q := call_virt hd rfl hr (by decide +kernel) kk
theorem cl94 (hd : 0 < d) (hr : hRd h a0 = some (.inl (10, fs))) (kk : WP (d - 1) 94 0 [some (.ref a0), none] [] h Q) : CALL d 94 [.ref a0] h Q := call_virt hd rfl hr (by decide +kernel) kk
theorem cl95 (hd : 0 < d) (hr : hRd h a0 = some (.inl (10, fs))) (kk : WP (d - 1) 95 0 [some (.ref a0)] [] h Q) : CALL d 95 [.ref a0] h Q := call_virt hd rfl hr (by decide +kernel) kk
theorem cl96 (hd : 0 < d) (hr : hRd h a0 = some (.inl (10, fs))) (kk : WP (d - 1) 96 0 [some (.ref a0), some (vI y1), none] [] h Q) : CALL d 96 [.ref a0, vI y1] h Q := call_virt hd rfl hr (by decide +kernel) kk
theorem cl97 (hd : 0 < d) (hr : hRd h a0 = some (.inl (10, fs))) (kk : WP (d - 1) 97 0 [some (.ref a0), some (vI y1)] [] h Q) : CALL d 97 [.ref a0, vI y1] h Q := call_virt hd rfl hr (by decide +kernel) kk
theorem cl98 (hd : 0 < d) (hr : hRd h a0 = some (.inl (10, fs))) (kk : WP (d - 1) 98 0 [some (.ref a0), some (vI y1)] [] h Q) : CALL d 98 [.ref a0, vI y1] h Q := call_virt hd rfl hr (by decide +kernel) kk
theorem cl99 (hd : 0 < d) (hr : hRd h a0 = some (.inl (10, fs))) (kk : WP (d - 1) 99 0 [some (.ref a0), some (vI y1)] [] h Q) : CALL d 99 [.ref a0, vI y1] h Q := call_virt hd rfl hr (by decide +kernel) kk
theorem cl100 (hd : 0 < d) (hr : hRd h a0 = some (.inl (10, fs))) (kk : WP (d - 1) 100 0 [some (.ref a0), some (vI y1)] [] h Q) : CALL d 100 [.ref a0, vI y1] h Q := call_virt hd rfl hr (by decide +kernel) kk
theorem cl101 (hd : 0 < d) (kk : WP (d - 1) 101 0 [some (vI y0)] [] h Q) : CALL d 101 [vI y0] h Q := call_static hd rfl (by decide +kernel) kk
theorem cl102 (hd : 0 < d) (hr : hRd h a0 = some (.inl (10, fs))) (kk : WP (d - 1) 102 0 [some (.ref a0)] [] h Q) : CALL d 102 [.ref a0] h Q := call_virt hd rfl hr (by decide +kernel) kk
theorem cl103 (hd : 0 < d) (hr : hRd h a0 = some (.inl (10, fs))) (kk : WP (d - 1) 103 0 [some (.ref a0), some (vI y1), none, none] [] h Q) : CALL d 103 [.ref a0, vI y1] h Q := call_virt hd rfl hr (by decide +kernel) kk
theorem cl104 (hd : 0 < d) (hr : hRd h a0 = some (.inl (10, fs))) (kk : WP (d - 1) 104 0 [some (.ref a0), none] [] h Q) : CALL d 104 [.ref a0] h Q := call_virt hd rfl hr (by decide +kernel) kk
theorem cl105 (hd : 0 < d) (hr : hRd h a0 = some (.inl (10, fs))) (kk : WP (d - 1) 105 0 [some (.ref a0), some (vI y1)] [] h Q) : CALL d 105 [.ref a0, vI y1] h Q := call_virt hd rfl hr (by decide +kernel) kk
theorem cl106 (hd : 0 < d) (kk : WP (d - 1) 106 0 [some (.ref a0), some (vI y1)] [] h Q) : CALL d 106 [.ref a0, vI y1] h Q := call_static hd rfl (by decide +kernel) kk
theorem cl107 (hd : 0 < d) (kk : WP (d - 1) 107 0 [some (.ref a0), some (vI y1)] [] h Q) : CALL d 107 [.ref a0, vI y1] h Q := call_static hd rfl (by decide +kernel) kk
theorem cl108 (hd : 0 < d) (kk : WP (d - 1) 108 0 [some (vI y0), some (vI y1)] [] h Q) : CALL d 108 [vI y0, vI y1] h Q := call_static hd rfl (by decide +kernel) kk
theorem cl110 (hd : 0 < d) (kk : WP (d - 1) 110 0 [some (vL y0), none, some (vL y1), none, some (vL y2), none] [] h Q) : CALL d 110 [vL y0, vL y1, vL y2] h Q := call_static hd rfl (by decide +kernel) kk
theorem cl111 (hd : 0 < d) (kk : WP (d - 1) 111 0 [some (vI y0), some (vI y1)] [] h Q) : CALL d 111 [vI y0, vI y1] h Q := call_static hd rfl (by decide +kernel) kk
theorem cl112 (hd : 0 < d) (kk : WP (d - 1) 112 0 [some (vI y0), none, none] [] h Q) : CALL d 112 [vI y0] h Q := call_static hd rfl (by decide +kernel) kk
theorem cl113 (hd : 0 < d) (hr : hRd h a0 = some (.inl (11, fs))) (kk : WP (d - 1) 113 0 [some (.ref a0), some (vI y1)] [] h Q) : CALL d 113 [.ref a0, vI y1] h Q := call_virt hd rfl hr (by decide +kernel) kk
theorem cl114 (hd : 0 < d) (hr : hRd h a0 = some (.inl (11, fs))) (kk : WP (d - 1) 114 0 [some (.ref a0), some (vI y1)] [] h Q) : CALL d 114 [.ref a0, vI y1] h Q := call_virt hd rfl hr (by decide +kernel) kk
theorem cl115 (hd : 0 < d) (hr : hRd h a0 = some (.inl (11, fs))) (kk : WP (d - 1) 115 0 [some (.ref a0), some (vI y1)] [] h Q) : CALL d 115 [.ref a0, vI y1] h Q := call_virt hd rfl hr (by decide +kernel) kk
theorem cl116 (hd : 0 < d) (hr : hRd h a0 = some (.inl (11, fs))) (kk : WP (d - 1) 116 0 [some (.ref a0)] [] h Q) : CALL d 116 [.ref a0] h Q := call_virt hd rfl hr (by decide +kernel) kk
theorem cl117 (hd : 0 < d) (hr : hRd h a0 = some (.inl (11, fs))) (kk : WP (d - 1) 117 0 [some (.ref a0), some (vI y1), some (vI y2)] [] h Q) : CALL d 117 [.ref a0, vI y1, vI y2] h Q := call_virt hd rfl hr (by decide +kernel) kk
theorem cl118 (hd : 0 < d) (hr : hRd h a0 = some (.inl (11, fs))) (kk : WP (d - 1) 118 0 [some (.ref a0), some (vI y1), some (vI y2), none] [] h Q) : CALL d 118 [.ref a0, vI y1, vI y2] h Q := call_virt hd rfl hr (by decide +kernel) kk
theorem cl119 (hd : 0 < d) (hr : hRd h a0 = some (.inl (11, fs))) (kk : WP (d - 1) 119 0 [some (.ref a0), some (.ref a1), some (vI y2), some (vI y3), some (vI y4), none] [] h Q) : CALL d 119 [.ref a0, .ref a1, vI y2, vI y3, vI y4] h Q := call_virt hd rfl hr (by decide +kernel) kk
theorem cl120 (hd : 0 < d) (hr : hRd h a0 = some (.inl (11, fs))) (kk : WP (d - 1) 120 0 [some (.ref a0), none] [] h Q) : CALL d 120 [.ref a0] h Q := call_virt hd rfl hr (by decide +kernel) kk
theorem cl121 (hd : 0 < d) (hr : hRd h a0 = some (.inl (11, fs))) (kk : WP (d - 1) 121 0 [some (.ref a0), none, none] [] h Q) : CALL d 121 [.ref a0] h Q := call_virt hd rfl hr (by decide +kernel) kk
theorem cl122 (hd : 0 < d) (hr : hRd h a0 = some (.inl (11, fs))) (kk : WP (d - 1) 122 0 [some (.ref a0), none, none] [] h Q) : CALL d 122 [.ref a0] h Q := call_virt hd rfl hr (by decide +kernel) kk
theorem cl123 (hd : 0 < d) (hr : hRd h a0 = some (.inl (11, fs))) (kk : WP (d - 1) 123 0 [some (.ref a0), none, none, none, none] [] h Q) : CALL d 123 [.ref a0] h Q := call_virt hd rfl hr (by decide +kernel) kk
theorem cl124 (hd : 0 < d) (hr : hRd h a0 = some (.inl (11, fs))) (kk : WP (d - 1) 124 0 [some (.ref a0), none] [] h Q) : CALL d 124 [.ref a0] h Q := call_virt hd rfl hr (by decide +kernel) kk
theorem cl125 (hd : 0 < d) (hr : hRd h a0 = some (.inl (11, fs))) (kk : WP (d - 1) 125 0 [some (.ref a0), none] [] h Q) : CALL d 125 [.ref a0] h Q := call_virt hd rfl hr (by decide +kernel) kk
theorem cl126 (hd : 0 < d) (hr : hRd h a0 = some (.inl (11, fs))) (kk : WP (d - 1) 126 0 [some (.ref a0)] [] h Q) : CALL d 126 [.ref a0] h Q := call_virt hd rfl hr (by decide +kernel) kk
theorem cl127 (hd : 0 < d) (hr : hRd h a0 = some (.inl (11, fs))) (kk : WP (d - 1) 127 0 [some (.ref a0), some (vI y1)] [] h Q) : CALL d 127 [.ref a0, vI y1] h Q := call_virt hd rfl hr (by decide +kernel) kk
theorem cl128 (hd : 0 < d) (kk : WP (d - 1) 128 0 [some (vI y0), some (vI y1)] [] h Q) : CALL d 128 [vI y0, vI y1] h Q := call_static hd rfl (by decide +kernel) kk
theorem cl129 (hd : 0 < d) (hr : hRd h a0 = some (.inl (11, fs))) (kk : WP (d - 1) 129 0 [some (.ref a0), none, none, none, none, none, none, none] [] h Q) : CALL d 129 [.ref a0] h Q := call_virt hd rfl hr (by decide +kernel) kk
theorem cl130 (hd : 0 < d) (hr : hRd h a0 = some (.inl (11, fs))) (kk : WP (d - 1) 130 0 [some (.ref a0), none, none, none, none] [] h Q) : CALL d 130 [.ref a0] h Q := call_virt hd rfl hr (by decide +kernel) kk
theorem cl131 (hd : 0 < d) (hr : hRd h a0 = some (.inl (11, fs))) (kk : WP (d - 1) 131 0 [some (.ref a0), none, none] [] h Q) : CALL d 131 [.ref a0] h Q := call_virt hd rfl hr (by decide +kernel) kk
theorem cl132 (hd : 0 < d) (hr : hRd h a0 = some (.inl (11, fs))) (kk : WP (d - 1) 132 0 [some (.ref a0), none, none] [] h Q) : CALL d 132 [.ref a0] h Q := call_virt hd rfl hr (by decide +kernel) kk
theorem cl133 (hd : 0 < d) (hr : hRd h a0 = some (.inl (11, fs))) (kk : WP (d - 1) 133 0 [some (.ref a0), none, none] [] h Q) : CALL d 133 [.ref a0] h Q := call_virt hd rfl hr (by decide +kernel) kk
theorem cl134 (hd : 0 < d) (hr : hRd h a0 = some (.inl (11, fs))) (kk : WP (d - 1) 134 0 [some (.ref a0), some (vI y1)] [] h Q) : CALL d 134 [.ref a0, vI y1] h Q := call_virt hd rfl hr (by decide +kernel) kk
theorem cl135 (hd : 0 < d) (hr : hRd h a0 = some (.inl (11, fs))) (kk : WP (d - 1) 135 0 [some (.ref a0), some (vI y1), none, none] [] h Q) : CALL d 135 [.ref a0, vI y1] h Q := call_virt hd rfl hr (by decide +kernel) kk
theorem cl136 (hd : 0 < d) (hr : hRd h a0 = some (.inl (11, fs))) (kk : WP (d - 1) 136 0 [some (.ref a0), some (vI y1), none, none] [] h Q) : CALL d 136 [.ref a0, vI y1] h Q := call_virt hd rfl hr (by decide +kernel) kk
theorem cl137 (hd : 0 < d) (hr : hRd h a0 = some (.inl (11, fs))) (kk : WP (d - 1) 137 0 [some (.ref a0), some (vI y1), some (vI y2)] [] h Q) : CALL d 137 [.ref a0, vI y1, vI y2] h Q := call_virt hd rfl hr (by decide +kernel) kk
theorem cl138 (hd : 0 < d) (hr : hRd h a0 = some (.inl (11, fs))) (kk : WP (d - 1) 138 0 [some (.ref a0), some (vI y1), some (vI y2)] [] h Q) : CALL d 138 [.ref a0, vI y1, vI y2] h Q := call_virt hd rfl hr (by decide +kernel) kk
theorem cl139 (hd : 0 < d) (hr : hRd h a0 = some (.inl (11, fs))) (kk : WP (d - 1) 139 0 [some (.ref a0), some (vI y1)] [] h Q) : CALL d 139 [.ref a0, vI y1] h Q := call_virt hd rfl hr (by decide +kernel) kk
theorem cl140 (hd : 0 < d) (hr : hRd h a0 = some (.inl (11, fs))) (kk : WP (d - 1) 140 0 [some (.ref a0), none] [] h Q) : CALL d 140 [.ref a0] h Q := call_virt hd rfl hr (by decide +kernel) kk
theorem cl141 (hd : 0 < d) (hr : hRd h a0 = some (.inl (11, fs))) (kk : WP (d - 1) 141 0 [some (.ref a0), some (vI y1), none] [] h Q) : CALL d 141 [.ref a0, vI y1] h Q := call_virt hd rfl hr (by decide +kernel) kk
theorem cl142 (hd : 0 < d) (hr : hRd h a0 = some (.inl (11, fs))) (kk : WP (d - 1) 142 0 [some (.ref a0), some (vI y1), some (vI y2), none] [] h Q) : CALL d 142 [.ref a0, vI y1, vI y2] h Q := call_virt hd rfl hr (by decide +kernel) kk
theorem cl143 (hd : 0 < d) (hr : hRd h a0 = some (.inl (11, fs))) (kk : WP (d - 1) 143 0 [some (.ref a0), some (vI y1), some (vI y2), none] [] h Q) : CALL d 143 [.ref a0, vI y1, vI y2] h Q := call_virt hd rfl hr (by decide +kernel) kk
theorem cl144 (hd : 0 < d) (hr : hRd h a0 = some (.inl (11, fs))) (kk : WP (d - 1) 144 0 [some (.ref a0), some (vI y1), some (vI y2), none] [] h Q) : CALL d 144 [.ref a0, vI y1, vI y2] h Q := call_virt hd rfl hr (by decide +kernel) kk
theorem cl145 (hd : 0 < d) (hr : hRd h a0 = some (.inl (11, fs))) (kk : WP (d - 1) 145 0 [some (.ref a0), some (vI y1), some (vI y2), none] [] h Q) : CALL d 145 [.ref a0, vI y1, vI y2] h Q := call_virt hd rfl hr (by decide +kernel) kk
theorem cl146 (hd : 0 < d) (hr : hRd h a0 = some (.inl (11, fs))) (kk : WP (d - 1) 146 0 [some (.ref a0), some (vI y1)] [] h Q) : CALL d 146 [.ref a0, vI y1] h Q := call_virt hd rfl hr (by decide +kernel) kk
theorem cl147 (hd : 0 < d) (hr : hRd h a0 = some (.inl (11, fs))) (kk : WP (d - 1) 147 0 [some (.ref a0), some (vI y1)] [] h Q) : CALL d 147 [.ref a0, vI y1] h Q := call_virt hd rfl hr (by decide +kernel) kk
theorem cl148 (hd : 0 < d) (hr : hRd h a0 = some (.inl (11, fs))) (kk : WP (d - 1) 148 0 [some (.ref a0), some (vI y1), some (vI y2), none] [] h Q) : CALL d 148 [.ref a0, vI y1, vI y2] h Q := call_virt hd rfl hr (by decide +kernel) kk
theorem cl149 (hd : 0 < d) (hr : hRd h a0 = some (.inl (11, fs))) (kk : WP (d - 1) 149 0 [some (.ref a0), some (vI y1)] [] h Q) : CALL d 149 [.ref a0, vI y1] h Q := call_virt hd rfl hr (by decide +kernel) kk
theorem cl150 (hd : 0 < d) (hr : hRd h a0 = some (.inl (11, fs))) (kk : WP (d - 1) 150 0 [some (.ref a0), some (vI y1), none, none] [] h Q) : CALL d 150 [.ref a0, vI y1] h Q := call_virt hd rfl hr (by decide +kernel) kk
theorem cl151 (hd : 0 < d) (hr : hRd h a0 = some (.inl (11, fs))) (kk : WP (d - 1) 151 0 [some (.ref a0), none] [] h Q) : CALL d 151 [.ref a0] h Q := call_virt hd rfl hr (by decide +kernel) kk
theorem cl152 (hd : 0 < d) (hr : hRd h a0 = some (.inl (11, fs))) (kk : WP (d - 1) 152 0 [some (.ref a0), none] [] h Q) : CALL d 152 [.ref a0] h Q := call_virt hd rfl hr (by decide +kernel) kk
theorem cl153 (hd : 0 < d) (hr : hRd h a0 = some (.inl (11, fs))) (kk : WP (d - 1) 153 0 [some (.ref a0), none] [] h Q) : CALL d 153 [.ref a0] h Q := call_virt hd rfl hr (by decide +kernel) kk
theorem cl154 (hd : 0 < d) (hr : hRd h a0 = some (.inl (11, fs))) (kk : WP (d - 1) 154 0 [some (.ref a0), none, none] [] h Q) : CALL d 154 [.ref a0] h Q := call_virt hd rfl hr (by decide +kernel) kk
theorem cl155 (hd : 0 < d) (hr : hRd h a0 = some (.inl (11, fs))) (kk : WP (d - 1) 155 0 [some (.ref a0), some (vI y1), some (vI y2), none] [] h Q) : CALL d 155 [.ref a0, vI y1, vI y2] h Q := call_virt hd rfl hr (by decide +kernel) kk
theorem cl156 (hd : 0 < d) (hr : hRd h a0 = some (.inl (11, fs))) (kk : WP (d - 1) 156 0 [some (.ref a0), none, none, none, none, none] [] h Q) : CALL d 156 [.ref a0] h Q := call_virt hd rfl hr (by decide +kernel) kk
theorem cl157 (hd : 0 < d) (hr : hRd h a0 = some (.inl (11, fs))) (kk : WP (d - 1) 157 0 [some (.ref a0), some (vI y1), none, none] [] h Q) : CALL d 157 [.ref a0, vI y1] h Q := call_virt hd rfl hr (by decide +kernel) kk
theorem cl158 (hd : 0 < d) (hr : hRd h a0 = some (.inl (11, fs))) (kk : WP (d - 1) 158 0 [some (.ref a0), none, none] [] h Q) : CALL d 158 [.ref a0] h Q := call_virt hd rfl hr (by decide +kernel) kk
theorem cl159 (hd : 0 < d) (hr : hRd h a0 = some (.inl (11, fs))) (kk : WP (d - 1) 159 0 [some (.ref a0), some (vI y1), some (vI y2), none, none] [] h Q) : CALL d 159 [.ref a0, vI y1, vI y2] h Q := call_virt hd rfl hr (by decide +kernel) kk
theorem cl160 (hd : 0 < d) (hr : hRd h a0 = some (.inl (11, fs))) (kk : WP (d - 1) 160 0 [some (.ref a0), some (vI y1), some (vI y2), none, none, none] [] h Q) : CALL d 160 [.ref a0, vI y1, vI y2] h Q := call_virt hd rfl hr (by decide +kernel) kk
theorem cl161 (hd : 0 < d) (hr : hRd h a0 = some (.inl (11, fs))) (kk : WP (d - 1) 161 0 [some (.ref a0), some (vI y1), some (vI y2), some (vI y3)] [] h Q) : CALL d 161 [.ref a0, vI y1, vI y2, vI y3] h Q := call_virt hd rfl hr (by decide +kernel) kk
theorem cl162 (hd : 0 < d) (hr : hRd h a0 = some (.inl (11, fs))) (kk : WP (d - 1) 162 0 [some (.ref a0), some (vI y1), none, none, none] [] h Q) : CALL d 162 [.ref a0, vI y1] h Q := call_virt hd rfl hr (by decide +kernel) kk
theorem cl163 (hd : 0 < d) (hr : hRd h a0 = some (.inl (11, fs))) (kk : WP (d - 1) 163 0 [some (.ref a0), some (vI y1), some (vI y2), none, none, none, none, none, none] [] h Q) : CALL d 163 [.ref a0, vI y1, vI y2] h Q := call_virt hd rfl hr (by decide +kernel) kk
theorem cl164 (hd : 0 < d) (hr : hRd h a0 = some (.inl (11, fs))) (kk : WP (d - 1) 164 0 [some (.ref a0), some (vI y1)] [] h Q) : CALL d 164 [.ref a0, vI y1] h Q := call_virt hd rfl hr (by decide +kernel) kk
theorem cl165 (hd : 0 < d) (hr : hRd h a0 = some (.inl (11, fs))) (kk : WP (d - 1) 165 0 [some (.ref a0), some (vI y1), none, none] [] h Q) : CALL d 165 [.ref a0, vI y1] h Q := call_virt hd rfl hr (by decide +kernel) kk
theorem cl166 (hd : 0 < d) (hr : hRd h a0 = some (.inl (11, fs))) (kk : WP (d - 1) 166 0 [some (.ref a0), some (vI y1), none, none, none] [] h Q) : CALL d 166 [.ref a0, vI y1] h Q := call_virt hd rfl hr (by decide +kernel) kk
theorem cl167 (hd : 0 < d) (hr : hRd h a0 = some (.inl (11, fs))) (kk : WP (d - 1) 167 0 [some (.ref a0), some (vI y1), some (vI y2), none, none, none] [] h Q) : CALL d 167 [.ref a0, vI y1, vI y2] h Q := call_virt hd rfl hr (by decide +kernel) kk
theorem cl168 (hd : 0 < d) (hr : hRd h a0 = some (.inl (11, fs))) (kk : WP (d - 1) 168 0 [some (.ref a0), some (vI y1), some (vI y2)] [] h Q) : CALL d 168 [.ref a0, vI y1, vI y2] h Q := call_virt hd rfl hr (by decide +kernel) kk
theorem cl169 (hd : 0 < d) (hr : hRd h a0 = some (.inl (11, fs))) (kk : WP (d - 1) 169 0 [some (.ref a0), none, none] [] h Q) : CALL d 169 [.ref a0] h Q := call_virt hd rfl hr (by decide +kernel) kk
theorem cl170 (hd : 0 < d) (hr : hRd h a0 = some (.inl (11, fs))) (kk : WP (d - 1) 170 0 [some (.ref a0), none, none] [] h Q) : CALL d 170 [.ref a0] h Q := call_virt hd rfl hr (by decide +kernel) kk
theorem cl171 (hd : 0 < d) (hr : hRd h a0 = some (.inl (11, fs))) (kk : WP (d - 1) 171 0 [some (.ref a0), none] [] h Q) : CALL d 171 [.ref a0] h Q := call_virt hd rfl hr (by decide +kernel) kk
theorem cl172 (hd : 0 < d) (hr : hRd h a0 = some (.inl (11, fs))) (kk : WP (d - 1) 172 0 [some (.ref a0), some (vI y1)] [] h Q) : CALL d 172 [.ref a0, vI y1] h Q := call_virt hd rfl hr (by decide +kernel) kk
theorem cl173 (hd : 0 < d) (hr : hRd h a0 = some (.inl (11, fs))) (kk : WP (d - 1) 173 0 [some (.ref a0), none, none, none, none, none, none] [] h Q) : CALL d 173 [.ref a0] h Q := call_virt hd rfl hr (by decide +kernel) kk
theorem cl174 (hd : 0 < d) (hr : hRd h a0 = some (.inl (11, fs))) (kk : WP (d - 1) 174 0 [some (.ref a0), some (vI y1), some (vI y2)] [] h Q) : CALL d 174 [.ref a0, vI y1, vI y2] h Q := call_virt hd rfl hr (by decide +kernel) kk
theorem cl175 (hd : 0 < d) (hr : hRd h a0 = some (.inl (11, fs))) (kk : WP (d - 1) 175 0 [some (.ref a0), none] [] h Q) : CALL d 175 [.ref a0] h Q := call_virt hd rfl hr (by decide +kernel) kk
theorem cl176 (hd : 0 < d) (hr : hRd h a0 = some (.inl (11, fs))) (kk : WP (d - 1) 176 0 [some (.ref a0), none, none] [] h Q) : CALL d 176 [.ref a0] h Q := call_virt hd rfl hr (by decide +kernel) kk
theorem cl177 (hd : 0 < d) (hr : hRd h a0 = some (.inl (11, fs))) (kk : WP (d - 1) 177 0 [some (.ref a0), some (vI y1), none] [] h Q) : CALL d 177 [.ref a0, vI y1] h Q := call_virt hd rfl hr (by decide +kernel) kk
theorem cl178 (hd : 0 < d) (hr : hRd h a0 = some (.inl (11, fs))) (kk : WP (d - 1) 178 0 [some (.ref a0), some (vI y1), none] [] h Q) : CALL d 178 [.ref a0, vI y1] h Q := call_virt hd rfl hr (by decide +kernel) kk
theorem cl179 (hd : 0 < d) (hr : hRd h a0 = some (.inl (11, fs))) (kk : WP (d - 1) 179 0 [some (.ref a0), some (vI y1), none] [] h Q) : CALL d 179 [.ref a0, vI y1] h Q := call_virt hd rfl hr (by decide +kernel) kk
theorem cl180 (hd : 0 < d) (kk : WP (d - 1) 180 0 [some (vI y0)] [] h Q) : CALL d 180 [vI y0] h Q := call_static hd rfl (by decide +kernel) kk
theorem cl183 (hd : 0 < d) (kk : WP (d - 1) 183 0 [some (.ref a0), some (vI y1), none, none] [] h Q) : CALL d 183 [.ref a0, vI y1] h Q := call_static hd rfl (by decide +kernel) kk
end
