def px_end (o : Option px_V ⊕ Nat) : Bool := match o with
  | .inl (some (.inl (.inl n))) => decide (n = 1)
  | _ => false
noncomputable def px_good (o : Option (List px_F)) : Bool := match o with
  | some ls => ls.all (fun q => px_end q.2.1 && Nat.ble q.2.2.2.1 7302232)
  | none => false
def px_full : Int × Int := (-2147483648, 2147483647)
set_option maxRecDepth 1000000 in
set_option maxHeartbeats 0 in
theorem px_run : px_good (px_x px_pg 20000 12 pm_0 0 [(0, .inr (.inr (some 0)))] [] px_h0 [px_full, px_full, px_full, px_full, px_full, px_full, (0, 31), (0, 6)]) = true := by decide +kernel
