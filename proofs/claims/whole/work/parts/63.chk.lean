-- ORDERS, one behind the other: all of them; sets of who is dismissed
def chk : Nat → List Int → Bool
  | 0, _ => false
  | n + 1, L => decide L.Nodup && (match nxtL L with
    | none => true
    | some L1 => chk n L1)
set_option maxRecDepth 100000 in
theorem chk_tab : ∀ s : Nat, s < 64 → chk 720 (lineL (s : Int) P6) = true := by decide +kernel
