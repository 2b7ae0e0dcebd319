-- THE START: both constructors, run
def hA : LHeap := hNew (1, 0, fun _ => none) (clsN 10) (some (.inl (10, clsDef 10)))
def hN11 (h : LHeap) : LHeap := hNew h (clsN 11) (some (.inl (11, clsDef 11)))
def zer : Int → Int := fun _ => 0
def ckS (b : Nat) (h : LHeap) : Bool := decide (h.2.2 b = oState (b + 1) (b + 3) (b + 4) 0 0) && decide (h.2.2 (b + 1) = oRow (b + 2) 0) && decide (h.2.2 (b + 2) = cA 6 zer) && decide (h.2.2 (b + 3) = cA 6 zer) && decide (h.2.2 (b + 4) = cA 8 zer)
def ckA (l : List (Nat × Nat)) (h : LHeap) : Bool := l.all (fun q => decide (h.2.2 q.1 = cA q.2 zer))
/-- arrays of zeros -/
def arrs : List (Nat × Nat) := [(3, 220), (5, 6), (6, 6), (7, 8), (8, 8), (9, 8), (12, 6), (13, 6), (14, 8), (15, 8), (16, 8), (22, 6), (23, 8), (24, 6), (129, 2), (143, 6), (145, 6), (147, 6), (148, 6), (150, 6), (151, 6), (152, 36), (154, 15), (155, 15), (157, 8), (158, 8), (159, 6), (160, 24), (161, 220), (162, 1), (163, 6), (164, 8), (165, 8), (166, 8), (167, 6), (168, 6), (169, 8), (170, 480), (171, 24), (172, 6), (173, 6), (174, 6), (175, 6), (176, 36), (177, 15), (178, 15), (179, 50)]
def zM : Nat → Int := fun i => if i = 10 then -1 else 0
def objs : List (Nat × LCell) := [(1, tWake 0), (2, oRead 3 4 0 0 (-1) 0 0), (4, oCity 0 0 0 5 6 7 8 9), (10, oCap 11 17 22 23 24), (11, oCity 0 0 0 12 13 14 15 16), (25, oHist 26 0 0), (26, cS 20 histR), (127, oImg 128 129 130), (128, cS 2 imgR), (130, cB 2 zer), (141, oTri 142 144 0 0 0), (142, oRow 143 0), (144, oRow 145 0), (146, oWin 147 148 0 149 0 151 152), (149, oRow 150 0), (153, oBook 154 155 0), (156, oM zM), (180, cB 2 zer)]
def ckO (h : LHeap) : Bool := objs.all (fun q => decide (h.2.2 q.1 = q.2))
def ckAll (h : LHeap) : Bool := decide (h.1 = 181) && decide (h.2.1 = 2129) && ckO h && ckA arrs h && ckS 17 h && ckS 131 h && ckS 136 h && (List.range 20).all (fun j => ckS (27 + 5 * j) h)
def ckRun : Bool := match runF 3000 9 70 0 (entL 70 [.ref 1]) [] hA with
  | some (none, h) => decide (h.1 = 156) && (match runF 3000 9 109 0 (entL 109 [.ref 156]) [] (hN11 h) with
    | some (none, h2) => ckAll h2
    | _ => false)
  | _ => false
set_option maxRecDepth 100000 in
theorem ckRun_ok : ckRun = true := by decide +kernel
