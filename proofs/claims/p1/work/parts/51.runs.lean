/-! ===== the runs ===== -/
def er_ok (o : Option ev_R) : Bool := match o with
  | some (2, _, _, [.inl r], _, k, n) => decide (r.1 = 1) && decide (r.2 = 1) && Nat.ble k 600002 && Nat.ble n 7302232
  | _ => false
def er_h : ev_H := [.inr (10, [.inr (.inr 5), .inl (0, 0), .inl (7, 7), .inr (.inr 6), .inr (.inr 7), .inr (.inr 9), .inr (.inr 15), .inr (.inr 17), .inr (.inr 31), .inr (.inr 40), .inr (.inr 49), .inr (.inr 57), .inr (.inr 63), .inr (.inr 65), .inr (.inr 68)]), .inl (0, 80, []), .inl (0, 80, []), .inr (9, [.inr (.inr 8), .inl (0, 0)]), .inl (0, 32, []), .inr (1, [.inr (.inr 10), .inr (.inr 11), .inr (.inr 12), .inr (.inr 13), .inr (.inr 14), .inl (0, 0)]), .inl (0, 1920, []), .inl (0, 1920, []), .inl (0, 1920, []), .inl (0, 1920, []), .inl (0, 12, []), .inr (6, [.inr (.inr 9), .inr (.inr 16), .inl (0, 0), .inl (0, 0), .inl ((-1), (-1)), .inl (0, 0)]), .inl (0, 0, []), .inr (7, [.inr (.inr 18), .inr (.inr 19), .inr (.inr 20), .inr (.inr 21), .inr (.inr 22), .inr (.inr 23), .inr (.inr 24), .inr (.inr 25), .inr (.inr 26), .inr (.inr 27), .inr (.inr 28), .inr (.inr 29), .inr (.inr 30), .inl (0, 0), .inl (0, 0), .inl (0, 0), .inl (0, 0), .inl (0, 0), .inl (0, 0), .inl (0, 0)]), .inl (0, 2200, []), .inl (0, 2200, []), .inl (0, 2200, []), .inl (0, 2200, []), .inl (0, 2200, []), .inl (0, 2200, []), .inl (0, 4404, []), .inl (0, 4404, []), .inl (0, 4404, []), .inl (0, 2200, []), .inl (0, 24, []), .inl (0, 24, []), .inl (0, 24, []), .inr (8, [.inr (.inr 17), .inr (.inr 32), .inr (.inr 33), .inr (.inr 34), .inr (.inr 35), .inr (.inr 36), .inr (.inr 37), .inr (.inr 38), .inr (.inr 39), .inl (0, 0), .inl (0, 0), .inl (0, 0)]), .inl (0, 10, []), .inl (0, 10, []), .inl (0, 10, []), .inl (0, 10, [(9, ((-1), (-1))), (8, ((-1), (-1))), (7, ((-1), (-1))), (6, ((-1), (-1))), (5, ((-1), (-1))), (4, ((-1), (-1))), (3, ((-1), (-1))), (2, ((-1), (-1))), (1, ((-1), (-1))), (0, ((-1), (-1)))]), .inl (0, 10, []), .inl (0, 240, []), .inl (0, 10, []), .inl (0, 240, []), .inr (8, [.inr (.inr 17), .inr (.inr 41), .inr (.inr 42), .inr (.inr 43), .inr (.inr 44), .inr (.inr 45), .inr (.inr 46), .inr (.inr 47), .inr (.inr 48), .inl (0, 0), .inl (0, 0), .inl (0, 0)]), .inl (0, 10, []), .inl (0, 10, []), .inl (0, 10, []), .inl (0, 10, [(9, ((-1), (-1))), (8, ((-1), (-1))), (7, ((-1), (-1))), (6, ((-1), (-1))), (5, ((-1), (-1))), (4, ((-1), (-1))), (3, ((-1), (-1))), (2, ((-1), (-1))), (1, ((-1), (-1))), (0, ((-1), (-1)))]), .inl (0, 10, []), .inl (0, 240, []), .inl (0, 10, []), .inl (0, 240, []), .inr (2, [.inr (.inr 17), .inr (.inr 9), .inr (.inr 31), .inr (.inr 50), .inr (.inr 51), .inr (.inr 52), .inr (.inr 53), .inr (.inr 54), .inr (.inr 55), .inr (.inr 56), .inl (0, 0), .inl (0, 0), .inl (0, 0), .inl (0, 0), .inl (0, 0), .inl (0, 0), .inl (0, 0), .inl (0, 0)]), .inl (0, 160, []), .inl (2, 160, []), .inl (0, 160, []), .inl (0, 9, []), .inl (0, 9, []), .inl (0, 9, []), .inl (0, 216, []), .inr (4, [.inr (.inr 9), .inr (.inr 58), .inr (.inr 59), .inr (.inr 60), .inr (.inr 61), .inr (.inr 62), .inl (0, 0), .inl (0, 0), .inl (0, 0), .inl (0, 0), .inl (0, 0), .inl (0, 0), .inl (0, 0), .inl (0, 0), .inl (0, 0)]), .inl (0, 16384, []), .inl (0, 4096, []), .inl (0, 4096, []), .inl (0, 1024, []), .inl (0, 1024, []), .inr (5, [.inr (.inr 64), .inl (0, 0), .inl (0, 0)]), .inl (0, 6072, []), .inr (3, [.inr (.inr 66), .inr (.inr 67), .inl (0, 0)]), .inl (0, 12, []), .inl (0, 12, []), .inr (0, [.inr (.inr 17), .inr (.inr 31), .inr (.inr 69), .inr (.inr 70)]), .inl (0, 3, []), .inl (0, 24, []), .inr (11, [.inr (.inr 72), .inr (.inr 73), .inl (0, 0), .inr (.inr 74), .inl (0, 0), .inl (0, 0), .inr (.inr 1), .inl (0, 0), .inl (0, 0), .inl (0, 0), .inl (0, 0), .inr (.inr 75), .inr (.inr 76), .inr (.inr 77), .inr (.inr 78), .inr (.inr 79), .inl (0, 0), .inl (0, 0), .inl (0, 0), .inl (0, 0), .inr (.inr 80), .inr (.inr 81), .inr (.inr 82), .inr (.inr 83), .inr (.inr 84), .inr (.inr 85), .inl (0, 0), .inl (0, 0), .inl (0, 0), .inr (.inr 86), .inl (0, 0), .inr (.inr 1), .inl (0, 0), .inr (.inr 87), .inr (.inr 88), .inl (0, 0), .inl (0, 0), .inl (0, 0), .inr (.inr 89), .inl (0, 0), .inr (.inr 90), .inl (0, 0), .inr (.inr 91), .inl (0, 0), .inl (0, 0), .inr (.inr 92), .inl (0, 0), .inr (.inr 93), .inr (.inr 94), .inr (.inr 95), .inl (0, 0), .inr (.inr 96), .inr (.inr 97), .inr (.inr 98), .inr (.inr 99), .inr (.inr 100), .inr (.inr 101), .inr (.inr 102), .inr (.inr 103), .inr (.inr 104), .inr (.inr 105), .inr (.inr 106), .inr (.inr 107), .inl (0, 0), .inr (.inr 108), .inr (.inr 109), .inr (.inr 110), .inl (0, 0), .inl (0, 0), .inl (0, 0), .inl (0, 0), .inl (0, 0), .inl (0, 0), .inr (.inr 111), .inr (.inr 112), .inl (0, 0)]), .inl (0, 1042, [(1041, (7, 7))]), .inl (1, 80, []), .inl (3, 40, []), .inl (0, 1800, []), .inl (0, 1800, []), .inl (0, 1800, []), .inl (0, 1800, []), .inl (0, 1800, []), .inl (0, 7800, []), .inl (0, 7800, []), .inl (0, 7800, []), .inl (0, 4800, []), .inl (0, 4800, []), .inl (0, 4800, []), .inl (0, 240, []), .inl (0, 76, []), .inl (0, 76, []), .inl (0, 24, []), .inl (0, 1800, []), .inl (0, 4800, []), .inl (0, 264, []), .inl (0, 264, []), .inl (0, 11, []), .inl (0, 25008, []), .inl (0, 1042, []), .inl (0, 76, []), .inl (0, 24, []), .inl (1, 12, []), .inl (0, 3, []), .inl (0, 10, []), .inl (1, 76, []), .inl (0, 2600, []), .inl (0, 2600, []), .inl (0, 2600, []), .inl (0, 2600, []), .inl (0, 2600, []), .inl (0, 4200, []), .inl (0, 4200, []), .inl (0, 4200, []), .inl (0, 12, []), .inl (0, 12, []), .inl (3, 1, [])]
def er_l : ev_L := [(3, .inr (.inr 113)), (2, .inr (.inr 71)), (1, .inr (.inr 4)), (0, .inr (.inr 2))]
def er_eC (a b : ev_C) : Bool := match a, b with
  | .inl x, .inl y => Nat.beq x.1 y.1 && Nat.beq x.2.1 y.2.1 && decide (x.2.2 = y.2.2)
  | .inr x, .inr y => Nat.beq x.1 y.1 && decide (x.2 = y.2)
  | _, _ => false
theorem er_eC_ok {a b : ev_C} (h : er_eC a b = true) : a = b := by
  unfold er_eC at h
  split at h
  · rename_i x y
    simp only [Bool.and_eq_true, decide_eq_true_eq] at h
    rw [show x = y from Prod.ext (Nat.eq_of_beq_eq_true h.1.1) (Prod.ext (Nat.eq_of_beq_eq_true h.1.2) h.2)]
  · rename_i x y
    simp only [Bool.and_eq_true, decide_eq_true_eq] at h
    rw [show x = y from Prod.ext (Nat.eq_of_beq_eq_true h.1) h.2]
  · cases h
def er_eH (a b : ev_H) : Bool := match a, b with
  | [], [] => true
  | x :: a, y :: b => er_eC x y && er_eH a b
  | _, _ => false
theorem er_eH_ok : ∀ {a b : ev_H}, er_eH a b = true → a = b
  | [], [], _ => rfl
  | x :: a, y :: b, h => by
    unfold er_eH at h
    rw [Bool.and_eq_true] at h
    rw [er_eC_ok h.1, er_eH_ok h.2]
  | [], _ :: _, h => by cases h
  | _ :: _, [], h => by cases h
def er_eq (a b : ev_R) : Bool := Nat.beq a.1 b.1 && Nat.beq a.2.1 b.2.1 && decide (a.2.2.1 = b.2.2.1) && decide (a.2.2.2.1 = b.2.2.2.1) && er_eH a.2.2.2.2.1 b.2.2.2.2.1 && Nat.beq a.2.2.2.2.2.1 b.2.2.2.2.2.1 && Nat.beq a.2.2.2.2.2.2 b.2.2.2.2.2.2
theorem er_eq_ok {a b : ev_R} (h : er_eq a b = true) : a = b := by
  unfold er_eq at h
  simp only [Bool.and_eq_true, decide_eq_true_eq] at h
  obtain ⟨⟨⟨⟨⟨⟨h1, h2⟩, h3⟩, h4⟩, h5⟩, h6⟩, h7⟩ := h
  exact Prod.ext (Nat.eq_of_beq_eq_true h1) (Prod.ext (Nat.eq_of_beq_eq_true h2) (Prod.ext h3 (Prod.ext h4 (Prod.ext (er_eH_ok h5) (Prod.ext (Nat.eq_of_beq_eq_true h6) (Nat.eq_of_beq_eq_true h7))))))
def er_is (o : Option ev_R) (b : ev_R) : Bool := match o with
  | some a => er_eq a b
  | none => false
theorem er_is_ok {o : Option ev_R} {b : ev_R} (h : er_is o b = true) : o = some b := by
  unfold er_is at h
  split at h
  · rw [er_eq_ok h]
  · cases h
theorem er_s0 : ev_run et_PR et_df [] ev_hl 3000 20 et_136 20 0 [(0, .inr (.inr 2))] [] [] 0 0 = some (4, 20, er_l, [], er_h, 110, 178703) := er_is_ok (by decide +kernel)
theorem er_s1 : ev_run et_PR et_df [ev_top] ev_hl 3000 20 et_136 20 0 [(0, .inr (.inr 2))] [] [] 0 0 = some (4, 20, er_l, [], er_h, 110, 178703) := er_is_ok (by decide +kernel)
theorem er_s2 : ev_run et_PR et_df [ev_top, ev_top] ev_hl 3000 20 et_136 20 0 [(0, .inr (.inr 2))] [] [] 0 0 = some (4, 20, er_l, [], er_h, 110, 178703) := er_is_ok (by decide +kernel)
theorem er_s3 : ev_run et_PR et_df [ev_top, ev_top, ev_top] ev_hl 3000 20 et_136 20 0 [(0, .inr (.inr 2))] [] [] 0 0 = some (4, 20, er_l, [], er_h, 110, 178703) := er_is_ok (by decide +kernel)
theorem er_e0 : er_ok (ev_run et_PR et_df [] ev_hl 300 20 et_136 100000 20 er_l [] er_h 110 178703) = true := by decide +kernel
theorem er_e1 : er_ok (ev_run et_PR et_df [ev_top] ev_hl 300 20 et_136 100000 20 er_l [] er_h 110 178703) = true := by decide +kernel
theorem er_e2 : er_ok (ev_run et_PR et_df [ev_top, ev_top] ev_hl 300 20 et_136 100000 20 er_l [] er_h 110 178703) = true := by decide +kernel
noncomputable def er_run (k : Nat) (a b : Int × Int) : Option ev_R := ev_run et_PR et_df [.inr (.inl k), .inl a, .inl b] ev_hl 30000 20 et_136 100000 20 er_l [] er_h 110 178703
