def er_ok (o : Option ev_R) : Bool := match o with
  | some (2, _, _, [.inl (1, 1)], _, k, n) => Nat.ble k 600002 && Nat.ble n 7302232
  | _ => false
set_option maxRecDepth 100000 in
theorem er_t1 : er_ok (ev_run et_PR et_df [.inr (.inl 3), .inl (0, 6), ev_top] et_hi 30000 14 et_136 100000 0 [(0, .inr (.inr 2))] [] [] 0 0) = true := by decide +kernel
