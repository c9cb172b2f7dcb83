def mkC (q : Nat → Nat) (cI cZ : ClassId) : m_MK := fun j r => match j with
  | 0 => .inr (9, [.ref (q 1), .ref (q 2), .ref (q 3), .ref (q 4), .ref (q 5), .ref (q 6), .ref (q 7), .ref (q 8), .ref (q 9), .ref (q 10), .ref (q 11)])
  | 1 => .inr (8, [.ref (q 12), .int (r 1)])
  | 2 => .inr (1, [.int (r 0), .int (r 1), .int (r 2), .int (r 3), .int (r 4), .int (r 5), .ref (q 13), .ref (q 14), .ref (q 15), .ref (q 16), .ref (q 17), .ref (q 18), .ref (q 19)])
  | 3 => .inr (4, [.ref (q 1), .ref (q 2), .ref (q 20)])
  | 4 => .inr (1, [.int (r 0), .int (r 1), .int (r 2), .int (r 3), .int (r 4), .int (r 5), .ref (q 21), .ref (q 22), .ref (q 23), .ref (q 24), .ref (q 25), .ref (q 26), .ref (q 27)])
  | 5 => .inr (3, [.ref (q 28), .ref (q 29)])
  | 6 => .inr (3, [.ref (q 30), .ref (q 31)])
  | 7 => .inr (5, [.ref (q 4)])
  | 8 => .inr (2, [.ref (q 4), .ref (q 7), .ref (q 32), .ref (q 33), .ref (q 34), .ref (q 35), .ref (q 36), .ref (q 37), .ref (q 38), .int (r 9), .int (r 10), .int (r 11), .ref (q 39), .ref (q 40), .ref (q 41), .ref (q 42)])
  | 9 => .inr (0, [.ref (q 43), .ref (q 44), .ref (q 45), .int (r 3)])
  | 10 => .inr (6, [.ref (q 46), .ref (q 47), .int (r 2)])
  | 11 => .inr (7, [.ref (q 48), .ref (q 49), .int (r 2)])
  | 12 => .inl (cI, 200, .inl r)
  | 13 => .inl (cI, 6, .inl r)
  | 14 => .inl (cI, 6, .inl r)
  | 15 => .inl (cI, 6, .inl r)
  | 16 => .inl (cI, 6, .inl r)
  | 17 => .inl (cI, 6, .inl r)
  | 18 => .inl (cI, 3, .inl r)
  | 19 => .inl (cI, 3, .inl r)
  | 20 => .inl (cI, 5, .inl r)
  | 21 => .inl (cI, 6, .inl r)
  | 22 => .inl (cI, 6, .inl r)
  | 23 => .inl (cI, 6, .inl r)
  | 24 => .inl (cI, 6, .inl r)
  | 25 => .inl (cI, 6, .inl r)
  | 26 => .inl (cI, 3, .inl r)
  | 27 => .inl (cI, 3, .inl r)
  | 28 => .inl (cI, 6, .inl r)
  | 29 => .inl (cI, 6, .inl r)
  | 30 => .inl (cI, 6, .inl r)
  | 31 => .inl (cI, 6, .inl r)
  | 32 => .inl (cI, 6, .inl r)
  | 33 => .inl (cI, 6, .inl r)
  | 34 => .inl (cI, 6, .inl r)
  | 35 => .inl (cI, 6, .inl r)
  | 36 => .inl (cI, 6, .inl r)
  | 37 => .inl (cI, 6, .inl r)
  | 38 => .inl (cI, 6, .inl r)
  | 39 => .inl (cI, 15, .inl r)
  | 40 => .inl (cI, 15, .inl r)
  | 41 => .inl (cI, 15, .inl r)
  | 42 => .inl (cI, 15, .inl r)
  | 43 => .inl (cI, 8, .inl r)
  | 44 => .inl (cZ, 8, .inl r)
  | 45 => .inl (cI, 8, .inl r)
  | 46 => .inl (cI, 8, .inl r)
  | 47 => .inl (cI, 8, .inl r)
  | 48 => .inl (cI, 12, .inl r)
  | _ => .inl (cI, 12, .inl r)
theorem oC_0 (q : Nat → Nat) (cI cZ : ClassId) (r : Nat → Int32) : m_O (mkC q cI cZ) 50 0 r RX9 := ⟨by decide, 9, _, _, rfl, rfl, rfl⟩
theorem vC_0_0 (q : Nat → Nat) (cI cZ : ClassId) (r : Nat → Int32) : m_V (mkC q cI cZ) 50 0 r 9 0 (.ref (q 1)) := ⟨by decide, _, rfl, rfl⟩
theorem vC_0_1 (q : Nat → Nat) (cI cZ : ClassId) (r : Nat → Int32) : m_V (mkC q cI cZ) 50 0 r 9 1 (.ref (q 2)) := ⟨by decide, _, rfl, rfl⟩
theorem vC_0_2 (q : Nat → Nat) (cI cZ : ClassId) (r : Nat → Int32) : m_V (mkC q cI cZ) 50 0 r 9 2 (.ref (q 3)) := ⟨by decide, _, rfl, rfl⟩
theorem vC_0_3 (q : Nat → Nat) (cI cZ : ClassId) (r : Nat → Int32) : m_V (mkC q cI cZ) 50 0 r 9 3 (.ref (q 4)) := ⟨by decide, _, rfl, rfl⟩
theorem vC_0_4 (q : Nat → Nat) (cI cZ : ClassId) (r : Nat → Int32) : m_V (mkC q cI cZ) 50 0 r 9 4 (.ref (q 5)) := ⟨by decide, _, rfl, rfl⟩
theorem vC_0_5 (q : Nat → Nat) (cI cZ : ClassId) (r : Nat → Int32) : m_V (mkC q cI cZ) 50 0 r 9 5 (.ref (q 6)) := ⟨by decide, _, rfl, rfl⟩
theorem vC_0_6 (q : Nat → Nat) (cI cZ : ClassId) (r : Nat → Int32) : m_V (mkC q cI cZ) 50 0 r 9 6 (.ref (q 7)) := ⟨by decide, _, rfl, rfl⟩
theorem vC_0_7 (q : Nat → Nat) (cI cZ : ClassId) (r : Nat → Int32) : m_V (mkC q cI cZ) 50 0 r 9 7 (.ref (q 8)) := ⟨by decide, _, rfl, rfl⟩
theorem vC_0_8 (q : Nat → Nat) (cI cZ : ClassId) (r : Nat → Int32) : m_V (mkC q cI cZ) 50 0 r 9 8 (.ref (q 9)) := ⟨by decide, _, rfl, rfl⟩
theorem vC_0_9 (q : Nat → Nat) (cI cZ : ClassId) (r : Nat → Int32) : m_V (mkC q cI cZ) 50 0 r 9 9 (.ref (q 10)) := ⟨by decide, _, rfl, rfl⟩
theorem vC_0_10 (q : Nat → Nat) (cI cZ : ClassId) (r : Nat → Int32) : m_V (mkC q cI cZ) 50 0 r 9 10 (.ref (q 11)) := ⟨by decide, _, rfl, rfl⟩
theorem oC_1 (q : Nat → Nat) (cI cZ : ClassId) (r : Nat → Int32) : m_O (mkC q cI cZ) 50 1 r RX8 := ⟨by decide, 8, _, _, rfl, rfl, rfl⟩
theorem vC_1_0 (q : Nat → Nat) (cI cZ : ClassId) (r : Nat → Int32) : m_V (mkC q cI cZ) 50 1 r 8 0 (.ref (q 12)) := ⟨by decide, _, rfl, rfl⟩
theorem vC_1_1 (q : Nat → Nat) (cI cZ : ClassId) (r : Nat → Int32) : m_V (mkC q cI cZ) 50 1 r 8 1 (.int (r 1)) := ⟨by decide, _, rfl, rfl⟩
theorem pC_1_1 (q : Nat → Nat) (cI cZ : ClassId) : m_VP (mkC q cI cZ) 50 1 8 1 := ⟨by decide, fun r => ⟨_, rfl, Nat.le_of_ble_eq_true rfl, fun x => rfl⟩⟩
theorem oC_2 (q : Nat → Nat) (cI cZ : ClassId) (r : Nat → Int32) : m_O (mkC q cI cZ) 50 2 r RX1 := ⟨by decide, 1, _, _, rfl, rfl, rfl⟩
theorem vC_2_0 (q : Nat → Nat) (cI cZ : ClassId) (r : Nat → Int32) : m_V (mkC q cI cZ) 50 2 r 1 0 (.int (r 0)) := ⟨by decide, _, rfl, rfl⟩
theorem pC_2_0 (q : Nat → Nat) (cI cZ : ClassId) : m_VP (mkC q cI cZ) 50 2 1 0 := ⟨by decide, fun r => ⟨_, rfl, Nat.le_of_ble_eq_true rfl, fun x => rfl⟩⟩
theorem vC_2_1 (q : Nat → Nat) (cI cZ : ClassId) (r : Nat → Int32) : m_V (mkC q cI cZ) 50 2 r 1 1 (.int (r 1)) := ⟨by decide, _, rfl, rfl⟩
theorem pC_2_1 (q : Nat → Nat) (cI cZ : ClassId) : m_VP (mkC q cI cZ) 50 2 1 1 := ⟨by decide, fun r => ⟨_, rfl, Nat.le_of_ble_eq_true rfl, fun x => rfl⟩⟩
theorem vC_2_2 (q : Nat → Nat) (cI cZ : ClassId) (r : Nat → Int32) : m_V (mkC q cI cZ) 50 2 r 1 2 (.int (r 2)) := ⟨by decide, _, rfl, rfl⟩
theorem pC_2_2 (q : Nat → Nat) (cI cZ : ClassId) : m_VP (mkC q cI cZ) 50 2 1 2 := ⟨by decide, fun r => ⟨_, rfl, Nat.le_of_ble_eq_true rfl, fun x => rfl⟩⟩
theorem vC_2_3 (q : Nat → Nat) (cI cZ : ClassId) (r : Nat → Int32) : m_V (mkC q cI cZ) 50 2 r 1 3 (.int (r 3)) := ⟨by decide, _, rfl, rfl⟩
theorem pC_2_3 (q : Nat → Nat) (cI cZ : ClassId) : m_VP (mkC q cI cZ) 50 2 1 3 := ⟨by decide, fun r => ⟨_, rfl, Nat.le_of_ble_eq_true rfl, fun x => rfl⟩⟩
theorem vC_2_4 (q : Nat → Nat) (cI cZ : ClassId) (r : Nat → Int32) : m_V (mkC q cI cZ) 50 2 r 1 4 (.int (r 4)) := ⟨by decide, _, rfl, rfl⟩
theorem pC_2_4 (q : Nat → Nat) (cI cZ : ClassId) : m_VP (mkC q cI cZ) 50 2 1 4 := ⟨by decide, fun r => ⟨_, rfl, Nat.le_of_ble_eq_true rfl, fun x => rfl⟩⟩
theorem vC_2_5 (q : Nat → Nat) (cI cZ : ClassId) (r : Nat → Int32) : m_V (mkC q cI cZ) 50 2 r 1 5 (.int (r 5)) := ⟨by decide, _, rfl, rfl⟩
theorem pC_2_5 (q : Nat → Nat) (cI cZ : ClassId) : m_VP (mkC q cI cZ) 50 2 1 5 := ⟨by decide, fun r => ⟨_, rfl, Nat.le_of_ble_eq_true rfl, fun x => rfl⟩⟩
theorem vC_2_6 (q : Nat → Nat) (cI cZ : ClassId) (r : Nat → Int32) : m_V (mkC q cI cZ) 50 2 r 1 6 (.ref (q 13)) := ⟨by decide, _, rfl, rfl⟩
theorem vC_2_7 (q : Nat → Nat) (cI cZ : ClassId) (r : Nat → Int32) : m_V (mkC q cI cZ) 50 2 r 1 7 (.ref (q 14)) := ⟨by decide, _, rfl, rfl⟩
theorem vC_2_8 (q : Nat → Nat) (cI cZ : ClassId) (r : Nat → Int32) : m_V (mkC q cI cZ) 50 2 r 1 8 (.ref (q 15)) := ⟨by decide, _, rfl, rfl⟩
theorem vC_2_9 (q : Nat → Nat) (cI cZ : ClassId) (r : Nat → Int32) : m_V (mkC q cI cZ) 50 2 r 1 9 (.ref (q 16)) := ⟨by decide, _, rfl, rfl⟩
theorem vC_2_10 (q : Nat → Nat) (cI cZ : ClassId) (r : Nat → Int32) : m_V (mkC q cI cZ) 50 2 r 1 10 (.ref (q 17)) := ⟨by decide, _, rfl, rfl⟩
theorem vC_2_11 (q : Nat → Nat) (cI cZ : ClassId) (r : Nat → Int32) : m_V (mkC q cI cZ) 50 2 r 1 11 (.ref (q 18)) := ⟨by decide, _, rfl, rfl⟩
theorem vC_2_12 (q : Nat → Nat) (cI cZ : ClassId) (r : Nat → Int32) : m_V (mkC q cI cZ) 50 2 r 1 12 (.ref (q 19)) := ⟨by decide, _, rfl, rfl⟩
theorem oC_3 (q : Nat → Nat) (cI cZ : ClassId) (r : Nat → Int32) : m_O (mkC q cI cZ) 50 3 r RX4 := ⟨by decide, 4, _, _, rfl, rfl, rfl⟩
theorem vC_3_0 (q : Nat → Nat) (cI cZ : ClassId) (r : Nat → Int32) : m_V (mkC q cI cZ) 50 3 r 4 0 (.ref (q 1)) := ⟨by decide, _, rfl, rfl⟩
theorem vC_3_1 (q : Nat → Nat) (cI cZ : ClassId) (r : Nat → Int32) : m_V (mkC q cI cZ) 50 3 r 4 1 (.ref (q 2)) := ⟨by decide, _, rfl, rfl⟩
theorem vC_3_2 (q : Nat → Nat) (cI cZ : ClassId) (r : Nat → Int32) : m_V (mkC q cI cZ) 50 3 r 4 2 (.ref (q 20)) := ⟨by decide, _, rfl, rfl⟩
theorem oC_4 (q : Nat → Nat) (cI cZ : ClassId) (r : Nat → Int32) : m_O (mkC q cI cZ) 50 4 r RX1 := ⟨by decide, 1, _, _, rfl, rfl, rfl⟩
theorem vC_4_0 (q : Nat → Nat) (cI cZ : ClassId) (r : Nat → Int32) : m_V (mkC q cI cZ) 50 4 r 1 0 (.int (r 0)) := ⟨by decide, _, rfl, rfl⟩
theorem pC_4_0 (q : Nat → Nat) (cI cZ : ClassId) : m_VP (mkC q cI cZ) 50 4 1 0 := ⟨by decide, fun r => ⟨_, rfl, Nat.le_of_ble_eq_true rfl, fun x => rfl⟩⟩
theorem vC_4_1 (q : Nat → Nat) (cI cZ : ClassId) (r : Nat → Int32) : m_V (mkC q cI cZ) 50 4 r 1 1 (.int (r 1)) := ⟨by decide, _, rfl, rfl⟩
theorem pC_4_1 (q : Nat → Nat) (cI cZ : ClassId) : m_VP (mkC q cI cZ) 50 4 1 1 := ⟨by decide, fun r => ⟨_, rfl, Nat.le_of_ble_eq_true rfl, fun x => rfl⟩⟩
theorem vC_4_2 (q : Nat → Nat) (cI cZ : ClassId) (r : Nat → Int32) : m_V (mkC q cI cZ) 50 4 r 1 2 (.int (r 2)) := ⟨by decide, _, rfl, rfl⟩
theorem pC_4_2 (q : Nat → Nat) (cI cZ : ClassId) : m_VP (mkC q cI cZ) 50 4 1 2 := ⟨by decide, fun r => ⟨_, rfl, Nat.le_of_ble_eq_true rfl, fun x => rfl⟩⟩
theorem vC_4_3 (q : Nat → Nat) (cI cZ : ClassId) (r : Nat → Int32) : m_V (mkC q cI cZ) 50 4 r 1 3 (.int (r 3)) := ⟨by decide, _, rfl, rfl⟩
theorem pC_4_3 (q : Nat → Nat) (cI cZ : ClassId) : m_VP (mkC q cI cZ) 50 4 1 3 := ⟨by decide, fun r => ⟨_, rfl, Nat.le_of_ble_eq_true rfl, fun x => rfl⟩⟩
theorem vC_4_4 (q : Nat → Nat) (cI cZ : ClassId) (r : Nat → Int32) : m_V (mkC q cI cZ) 50 4 r 1 4 (.int (r 4)) := ⟨by decide, _, rfl, rfl⟩
theorem pC_4_4 (q : Nat → Nat) (cI cZ : ClassId) : m_VP (mkC q cI cZ) 50 4 1 4 := ⟨by decide, fun r => ⟨_, rfl, Nat.le_of_ble_eq_true rfl, fun x => rfl⟩⟩
theorem vC_4_5 (q : Nat → Nat) (cI cZ : ClassId) (r : Nat → Int32) : m_V (mkC q cI cZ) 50 4 r 1 5 (.int (r 5)) := ⟨by decide, _, rfl, rfl⟩
theorem pC_4_5 (q : Nat → Nat) (cI cZ : ClassId) : m_VP (mkC q cI cZ) 50 4 1 5 := ⟨by decide, fun r => ⟨_, rfl, Nat.le_of_ble_eq_true rfl, fun x => rfl⟩⟩
theorem vC_4_6 (q : Nat → Nat) (cI cZ : ClassId) (r : Nat → Int32) : m_V (mkC q cI cZ) 50 4 r 1 6 (.ref (q 21)) := ⟨by decide, _, rfl, rfl⟩
theorem vC_4_7 (q : Nat → Nat) (cI cZ : ClassId) (r : Nat → Int32) : m_V (mkC q cI cZ) 50 4 r 1 7 (.ref (q 22)) := ⟨by decide, _, rfl, rfl⟩
theorem vC_4_8 (q : Nat → Nat) (cI cZ : ClassId) (r : Nat → Int32) : m_V (mkC q cI cZ) 50 4 r 1 8 (.ref (q 23)) := ⟨by decide, _, rfl, rfl⟩
theorem vC_4_9 (q : Nat → Nat) (cI cZ : ClassId) (r : Nat → Int32) : m_V (mkC q cI cZ) 50 4 r 1 9 (.ref (q 24)) := ⟨by decide, _, rfl, rfl⟩
theorem vC_4_10 (q : Nat → Nat) (cI cZ : ClassId) (r : Nat → Int32) : m_V (mkC q cI cZ) 50 4 r 1 10 (.ref (q 25)) := ⟨by decide, _, rfl, rfl⟩
theorem vC_4_11 (q : Nat → Nat) (cI cZ : ClassId) (r : Nat → Int32) : m_V (mkC q cI cZ) 50 4 r 1 11 (.ref (q 26)) := ⟨by decide, _, rfl, rfl⟩
theorem vC_4_12 (q : Nat → Nat) (cI cZ : ClassId) (r : Nat → Int32) : m_V (mkC q cI cZ) 50 4 r 1 12 (.ref (q 27)) := ⟨by decide, _, rfl, rfl⟩
theorem oC_5 (q : Nat → Nat) (cI cZ : ClassId) (r : Nat → Int32) : m_O (mkC q cI cZ) 50 5 r RX3 := ⟨by decide, 3, _, _, rfl, rfl, rfl⟩
theorem vC_5_0 (q : Nat → Nat) (cI cZ : ClassId) (r : Nat → Int32) : m_V (mkC q cI cZ) 50 5 r 3 0 (.ref (q 28)) := ⟨by decide, _, rfl, rfl⟩
theorem vC_5_1 (q : Nat → Nat) (cI cZ : ClassId) (r : Nat → Int32) : m_V (mkC q cI cZ) 50 5 r 3 1 (.ref (q 29)) := ⟨by decide, _, rfl, rfl⟩
theorem oC_6 (q : Nat → Nat) (cI cZ : ClassId) (r : Nat → Int32) : m_O (mkC q cI cZ) 50 6 r RX3 := ⟨by decide, 3, _, _, rfl, rfl, rfl⟩
theorem vC_6_0 (q : Nat → Nat) (cI cZ : ClassId) (r : Nat → Int32) : m_V (mkC q cI cZ) 50 6 r 3 0 (.ref (q 30)) := ⟨by decide, _, rfl, rfl⟩
theorem vC_6_1 (q : Nat → Nat) (cI cZ : ClassId) (r : Nat → Int32) : m_V (mkC q cI cZ) 50 6 r 3 1 (.ref (q 31)) := ⟨by decide, _, rfl, rfl⟩
theorem oC_7 (q : Nat → Nat) (cI cZ : ClassId) (r : Nat → Int32) : m_O (mkC q cI cZ) 50 7 r RX5 := ⟨by decide, 5, _, _, rfl, rfl, rfl⟩
theorem vC_7_0 (q : Nat → Nat) (cI cZ : ClassId) (r : Nat → Int32) : m_V (mkC q cI cZ) 50 7 r 5 0 (.ref (q 4)) := ⟨by decide, _, rfl, rfl⟩
theorem oC_8 (q : Nat → Nat) (cI cZ : ClassId) (r : Nat → Int32) : m_O (mkC q cI cZ) 50 8 r RX2 := ⟨by decide, 2, _, _, rfl, rfl, rfl⟩
theorem vC_8_0 (q : Nat → Nat) (cI cZ : ClassId) (r : Nat → Int32) : m_V (mkC q cI cZ) 50 8 r 2 0 (.ref (q 4)) := ⟨by decide, _, rfl, rfl⟩
theorem vC_8_1 (q : Nat → Nat) (cI cZ : ClassId) (r : Nat → Int32) : m_V (mkC q cI cZ) 50 8 r 2 1 (.ref (q 7)) := ⟨by decide, _, rfl, rfl⟩
theorem vC_8_2 (q : Nat → Nat) (cI cZ : ClassId) (r : Nat → Int32) : m_V (mkC q cI cZ) 50 8 r 2 2 (.ref (q 32)) := ⟨by decide, _, rfl, rfl⟩
theorem vC_8_3 (q : Nat → Nat) (cI cZ : ClassId) (r : Nat → Int32) : m_V (mkC q cI cZ) 50 8 r 2 3 (.ref (q 33)) := ⟨by decide, _, rfl, rfl⟩
theorem vC_8_4 (q : Nat → Nat) (cI cZ : ClassId) (r : Nat → Int32) : m_V (mkC q cI cZ) 50 8 r 2 4 (.ref (q 34)) := ⟨by decide, _, rfl, rfl⟩
theorem vC_8_5 (q : Nat → Nat) (cI cZ : ClassId) (r : Nat → Int32) : m_V (mkC q cI cZ) 50 8 r 2 5 (.ref (q 35)) := ⟨by decide, _, rfl, rfl⟩
theorem vC_8_6 (q : Nat → Nat) (cI cZ : ClassId) (r : Nat → Int32) : m_V (mkC q cI cZ) 50 8 r 2 6 (.ref (q 36)) := ⟨by decide, _, rfl, rfl⟩
theorem vC_8_7 (q : Nat → Nat) (cI cZ : ClassId) (r : Nat → Int32) : m_V (mkC q cI cZ) 50 8 r 2 7 (.ref (q 37)) := ⟨by decide, _, rfl, rfl⟩
theorem vC_8_8 (q : Nat → Nat) (cI cZ : ClassId) (r : Nat → Int32) : m_V (mkC q cI cZ) 50 8 r 2 8 (.ref (q 38)) := ⟨by decide, _, rfl, rfl⟩
theorem vC_8_9 (q : Nat → Nat) (cI cZ : ClassId) (r : Nat → Int32) : m_V (mkC q cI cZ) 50 8 r 2 9 (.int (r 9)) := ⟨by decide, _, rfl, rfl⟩
theorem pC_8_9 (q : Nat → Nat) (cI cZ : ClassId) : m_VP (mkC q cI cZ) 50 8 2 9 := ⟨by decide, fun r => ⟨_, rfl, Nat.le_of_ble_eq_true rfl, fun x => rfl⟩⟩
theorem vC_8_10 (q : Nat → Nat) (cI cZ : ClassId) (r : Nat → Int32) : m_V (mkC q cI cZ) 50 8 r 2 10 (.int (r 10)) := ⟨by decide, _, rfl, rfl⟩
theorem pC_8_10 (q : Nat → Nat) (cI cZ : ClassId) : m_VP (mkC q cI cZ) 50 8 2 10 := ⟨by decide, fun r => ⟨_, rfl, Nat.le_of_ble_eq_true rfl, fun x => rfl⟩⟩
theorem vC_8_11 (q : Nat → Nat) (cI cZ : ClassId) (r : Nat → Int32) : m_V (mkC q cI cZ) 50 8 r 2 11 (.int (r 11)) := ⟨by decide, _, rfl, rfl⟩
theorem pC_8_11 (q : Nat → Nat) (cI cZ : ClassId) : m_VP (mkC q cI cZ) 50 8 2 11 := ⟨by decide, fun r => ⟨_, rfl, Nat.le_of_ble_eq_true rfl, fun x => rfl⟩⟩
theorem vC_8_12 (q : Nat → Nat) (cI cZ : ClassId) (r : Nat → Int32) : m_V (mkC q cI cZ) 50 8 r 2 12 (.ref (q 39)) := ⟨by decide, _, rfl, rfl⟩
theorem vC_8_13 (q : Nat → Nat) (cI cZ : ClassId) (r : Nat → Int32) : m_V (mkC q cI cZ) 50 8 r 2 13 (.ref (q 40)) := ⟨by decide, _, rfl, rfl⟩
theorem vC_8_14 (q : Nat → Nat) (cI cZ : ClassId) (r : Nat → Int32) : m_V (mkC q cI cZ) 50 8 r 2 14 (.ref (q 41)) := ⟨by decide, _, rfl, rfl⟩
theorem vC_8_15 (q : Nat → Nat) (cI cZ : ClassId) (r : Nat → Int32) : m_V (mkC q cI cZ) 50 8 r 2 15 (.ref (q 42)) := ⟨by decide, _, rfl, rfl⟩
theorem oC_9 (q : Nat → Nat) (cI cZ : ClassId) (r : Nat → Int32) : m_O (mkC q cI cZ) 50 9 r RX0 := ⟨by decide, 0, _, _, rfl, rfl, rfl⟩
theorem vC_9_0 (q : Nat → Nat) (cI cZ : ClassId) (r : Nat → Int32) : m_V (mkC q cI cZ) 50 9 r 0 0 (.ref (q 43)) := ⟨by decide, _, rfl, rfl⟩
theorem vC_9_1 (q : Nat → Nat) (cI cZ : ClassId) (r : Nat → Int32) : m_V (mkC q cI cZ) 50 9 r 0 1 (.ref (q 44)) := ⟨by decide, _, rfl, rfl⟩
theorem vC_9_2 (q : Nat → Nat) (cI cZ : ClassId) (r : Nat → Int32) : m_V (mkC q cI cZ) 50 9 r 0 2 (.ref (q 45)) := ⟨by decide, _, rfl, rfl⟩
theorem vC_9_3 (q : Nat → Nat) (cI cZ : ClassId) (r : Nat → Int32) : m_V (mkC q cI cZ) 50 9 r 0 3 (.int (r 3)) := ⟨by decide, _, rfl, rfl⟩
theorem pC_9_3 (q : Nat → Nat) (cI cZ : ClassId) : m_VP (mkC q cI cZ) 50 9 0 3 := ⟨by decide, fun r => ⟨_, rfl, Nat.le_of_ble_eq_true rfl, fun x => rfl⟩⟩
theorem oC_10 (q : Nat → Nat) (cI cZ : ClassId) (r : Nat → Int32) : m_O (mkC q cI cZ) 50 10 r RX6 := ⟨by decide, 6, _, _, rfl, rfl, rfl⟩
theorem vC_10_0 (q : Nat → Nat) (cI cZ : ClassId) (r : Nat → Int32) : m_V (mkC q cI cZ) 50 10 r 6 0 (.ref (q 46)) := ⟨by decide, _, rfl, rfl⟩
theorem vC_10_1 (q : Nat → Nat) (cI cZ : ClassId) (r : Nat → Int32) : m_V (mkC q cI cZ) 50 10 r 6 1 (.ref (q 47)) := ⟨by decide, _, rfl, rfl⟩
theorem vC_10_2 (q : Nat → Nat) (cI cZ : ClassId) (r : Nat → Int32) : m_V (mkC q cI cZ) 50 10 r 6 2 (.int (r 2)) := ⟨by decide, _, rfl, rfl⟩
theorem pC_10_2 (q : Nat → Nat) (cI cZ : ClassId) : m_VP (mkC q cI cZ) 50 10 6 2 := ⟨by decide, fun r => ⟨_, rfl, Nat.le_of_ble_eq_true rfl, fun x => rfl⟩⟩
theorem oC_11 (q : Nat → Nat) (cI cZ : ClassId) (r : Nat → Int32) : m_O (mkC q cI cZ) 50 11 r RX7 := ⟨by decide, 7, _, _, rfl, rfl, rfl⟩
theorem vC_11_0 (q : Nat → Nat) (cI cZ : ClassId) (r : Nat → Int32) : m_V (mkC q cI cZ) 50 11 r 7 0 (.ref (q 48)) := ⟨by decide, _, rfl, rfl⟩
theorem vC_11_1 (q : Nat → Nat) (cI cZ : ClassId) (r : Nat → Int32) : m_V (mkC q cI cZ) 50 11 r 7 1 (.ref (q 49)) := ⟨by decide, _, rfl, rfl⟩
theorem vC_11_2 (q : Nat → Nat) (cI cZ : ClassId) (r : Nat → Int32) : m_V (mkC q cI cZ) 50 11 r 7 2 (.int (r 2)) := ⟨by decide, _, rfl, rfl⟩
theorem pC_11_2 (q : Nat → Nat) (cI cZ : ClassId) : m_VP (mkC q cI cZ) 50 11 7 2 := ⟨by decide, fun r => ⟨_, rfl, Nat.le_of_ble_eq_true rfl, fun x => rfl⟩⟩
theorem aC_12 (q : Nat → Nat) (cI cZ : ClassId) : m_AI (mkC q cI cZ) 50 12 200 cI := ⟨by decide, fun _ => rfl⟩
theorem aC_13 (q : Nat → Nat) (cI cZ : ClassId) : m_AI (mkC q cI cZ) 50 13 6 cI := ⟨by decide, fun _ => rfl⟩
theorem aC_14 (q : Nat → Nat) (cI cZ : ClassId) : m_AI (mkC q cI cZ) 50 14 6 cI := ⟨by decide, fun _ => rfl⟩
theorem aC_15 (q : Nat → Nat) (cI cZ : ClassId) : m_AI (mkC q cI cZ) 50 15 6 cI := ⟨by decide, fun _ => rfl⟩
theorem aC_16 (q : Nat → Nat) (cI cZ : ClassId) : m_AI (mkC q cI cZ) 50 16 6 cI := ⟨by decide, fun _ => rfl⟩
theorem aC_17 (q : Nat → Nat) (cI cZ : ClassId) : m_AI (mkC q cI cZ) 50 17 6 cI := ⟨by decide, fun _ => rfl⟩
theorem aC_18 (q : Nat → Nat) (cI cZ : ClassId) : m_AI (mkC q cI cZ) 50 18 3 cI := ⟨by decide, fun _ => rfl⟩
theorem aC_19 (q : Nat → Nat) (cI cZ : ClassId) : m_AI (mkC q cI cZ) 50 19 3 cI := ⟨by decide, fun _ => rfl⟩
theorem aC_20 (q : Nat → Nat) (cI cZ : ClassId) : m_AI (mkC q cI cZ) 50 20 5 cI := ⟨by decide, fun _ => rfl⟩
theorem aC_21 (q : Nat → Nat) (cI cZ : ClassId) : m_AI (mkC q cI cZ) 50 21 6 cI := ⟨by decide, fun _ => rfl⟩
theorem aC_22 (q : Nat → Nat) (cI cZ : ClassId) : m_AI (mkC q cI cZ) 50 22 6 cI := ⟨by decide, fun _ => rfl⟩
theorem aC_23 (q : Nat → Nat) (cI cZ : ClassId) : m_AI (mkC q cI cZ) 50 23 6 cI := ⟨by decide, fun _ => rfl⟩
theorem aC_24 (q : Nat → Nat) (cI cZ : ClassId) : m_AI (mkC q cI cZ) 50 24 6 cI := ⟨by decide, fun _ => rfl⟩
theorem aC_25 (q : Nat → Nat) (cI cZ : ClassId) : m_AI (mkC q cI cZ) 50 25 6 cI := ⟨by decide, fun _ => rfl⟩
theorem aC_26 (q : Nat → Nat) (cI cZ : ClassId) : m_AI (mkC q cI cZ) 50 26 3 cI := ⟨by decide, fun _ => rfl⟩
theorem aC_27 (q : Nat → Nat) (cI cZ : ClassId) : m_AI (mkC q cI cZ) 50 27 3 cI := ⟨by decide, fun _ => rfl⟩
theorem aC_28 (q : Nat → Nat) (cI cZ : ClassId) : m_AI (mkC q cI cZ) 50 28 6 cI := ⟨by decide, fun _ => rfl⟩
theorem aC_29 (q : Nat → Nat) (cI cZ : ClassId) : m_AI (mkC q cI cZ) 50 29 6 cI := ⟨by decide, fun _ => rfl⟩
theorem aC_30 (q : Nat → Nat) (cI cZ : ClassId) : m_AI (mkC q cI cZ) 50 30 6 cI := ⟨by decide, fun _ => rfl⟩
theorem aC_31 (q : Nat → Nat) (cI cZ : ClassId) : m_AI (mkC q cI cZ) 50 31 6 cI := ⟨by decide, fun _ => rfl⟩
theorem aC_32 (q : Nat → Nat) (cI cZ : ClassId) : m_AI (mkC q cI cZ) 50 32 6 cI := ⟨by decide, fun _ => rfl⟩
theorem aC_33 (q : Nat → Nat) (cI cZ : ClassId) : m_AI (mkC q cI cZ) 50 33 6 cI := ⟨by decide, fun _ => rfl⟩
theorem aC_34 (q : Nat → Nat) (cI cZ : ClassId) : m_AI (mkC q cI cZ) 50 34 6 cI := ⟨by decide, fun _ => rfl⟩
theorem aC_35 (q : Nat → Nat) (cI cZ : ClassId) : m_AI (mkC q cI cZ) 50 35 6 cI := ⟨by decide, fun _ => rfl⟩
theorem aC_36 (q : Nat → Nat) (cI cZ : ClassId) : m_AI (mkC q cI cZ) 50 36 6 cI := ⟨by decide, fun _ => rfl⟩
theorem aC_37 (q : Nat → Nat) (cI cZ : ClassId) : m_AI (mkC q cI cZ) 50 37 6 cI := ⟨by decide, fun _ => rfl⟩
theorem aC_38 (q : Nat → Nat) (cI cZ : ClassId) : m_AI (mkC q cI cZ) 50 38 6 cI := ⟨by decide, fun _ => rfl⟩
theorem aC_39 (q : Nat → Nat) (cI cZ : ClassId) : m_AI (mkC q cI cZ) 50 39 15 cI := ⟨by decide, fun _ => rfl⟩
theorem aC_40 (q : Nat → Nat) (cI cZ : ClassId) : m_AI (mkC q cI cZ) 50 40 15 cI := ⟨by decide, fun _ => rfl⟩
theorem aC_41 (q : Nat → Nat) (cI cZ : ClassId) : m_AI (mkC q cI cZ) 50 41 15 cI := ⟨by decide, fun _ => rfl⟩
theorem aC_42 (q : Nat → Nat) (cI cZ : ClassId) : m_AI (mkC q cI cZ) 50 42 15 cI := ⟨by decide, fun _ => rfl⟩
theorem aC_43 (q : Nat → Nat) (cI cZ : ClassId) : m_AI (mkC q cI cZ) 50 43 8 cI := ⟨by decide, fun _ => rfl⟩
theorem aC_44 (q : Nat → Nat) (cI cZ : ClassId) : m_AI (mkC q cI cZ) 50 44 8 cZ := ⟨by decide, fun _ => rfl⟩
theorem aC_45 (q : Nat → Nat) (cI cZ : ClassId) : m_AI (mkC q cI cZ) 50 45 8 cI := ⟨by decide, fun _ => rfl⟩
theorem aC_46 (q : Nat → Nat) (cI cZ : ClassId) : m_AI (mkC q cI cZ) 50 46 8 cI := ⟨by decide, fun _ => rfl⟩
theorem aC_47 (q : Nat → Nat) (cI cZ : ClassId) : m_AI (mkC q cI cZ) 50 47 8 cI := ⟨by decide, fun _ => rfl⟩
theorem aC_48 (q : Nat → Nat) (cI cZ : ClassId) : m_AI (mkC q cI cZ) 50 48 12 cI := ⟨by decide, fun _ => rfl⟩
theorem aC_49 (q : Nat → Nat) (cI cZ : ClassId) : m_AI (mkC q cI cZ) 50 49 12 cI := ⟨by decide, fun _ => rfl⟩
def mkM (q : Nat → Nat) (cI cZ : ClassId) : m_MK := fun j r => match j with
  | 0 => .inr (10, [.int (r 0), .ref (q 1), .ref (q 2), .ref (q 3), .ref (q 4), .ref (q 5), .ref (q 6), .ref (q 7), .ref (q 8), .ref (q 9), .ref (q 10), .ref (q 11), .ref (q 12), .ref (q 13), .int (r 14), .ref (q 14), .int (r 16), .int (r 17), .ref (q 15), .ref (q 16), .int (r 20), .ref (q 17), .ref (q 18), .ref (q 19), .ref (q 20), .ref (q 21), .ref (q 22), .ref (q 23), .int (r 28), .ref (q 24), .ref (q 25), .ref (q 26), .ref (q 27), .ref (q 28)])
  | 1 => .inl (cI, 200, .inl r)
  | 2 => .inl (cI, 2, .inl r)
  | 3 => .inl (cI, 12, .inl r)
  | 4 => .inl (cI, 12, .inl r)
  | 5 => .inl (cI, 12, .inl r)
  | 6 => .inl (cI, 12, .inl r)
  | 7 => .inl (cI, 12, .inl r)
  | 8 => .inl (cI, 2, .inl r)
  | 9 => .inl (cI, 6, .inl r)
  | 10 => .inl (cI, 6, .inl r)
  | 11 => .inl (cI, 8, .inl r)
  | 12 => .inl (cI, 12, .inl r)
  | 13 => .inl (cI, 96, .inl r)
  | 14 => .inl (cI, 24, .inl r)
  | 15 => .inl (cI, 8, .inl r)
  | 16 => .inl (cI, 8, .inl r)
  | 17 => .inl (cI, 5, .inl r)
  | 18 => .inl (cI, 726, .inl r)
  | 19 => .inl (cI, 6, .inl r)
  | 20 => .inl (cI, 6, .inl r)
  | 21 => .inl (cI, 6, .inl r)
  | 22 => .inl (cI, 6, .inl r)
  | 23 => .inl (cI, 6, .inl r)
  | 24 => .inl (cI, 15, .inl r)
  | 25 => .inl (cI, 15, .inl r)
  | 26 => .inl (cI, 15, .inl r)
  | 27 => .inl (cI, 15, .inl r)
  | _ => .inl (cI, 12, .inl r)
theorem oM_0 (q : Nat → Nat) (cI cZ : ClassId) (r : Nat → Int32) : m_O (mkM q cI cZ) 29 0 r RX10 := ⟨by decide, 10, _, _, rfl, rfl, rfl⟩
theorem vM_0_0 (q : Nat → Nat) (cI cZ : ClassId) (r : Nat → Int32) : m_V (mkM q cI cZ) 29 0 r 10 0 (.int (r 0)) := ⟨by decide, _, rfl, rfl⟩
theorem pM_0_0 (q : Nat → Nat) (cI cZ : ClassId) : m_VP (mkM q cI cZ) 29 0 10 0 := ⟨by decide, fun r => ⟨_, rfl, Nat.le_of_ble_eq_true rfl, fun x => rfl⟩⟩
theorem vM_0_1 (q : Nat → Nat) (cI cZ : ClassId) (r : Nat → Int32) : m_V (mkM q cI cZ) 29 0 r 10 1 (.ref (q 1)) := ⟨by decide, _, rfl, rfl⟩
theorem vM_0_2 (q : Nat → Nat) (cI cZ : ClassId) (r : Nat → Int32) : m_V (mkM q cI cZ) 29 0 r 10 2 (.ref (q 2)) := ⟨by decide, _, rfl, rfl⟩
theorem vM_0_3 (q : Nat → Nat) (cI cZ : ClassId) (r : Nat → Int32) : m_V (mkM q cI cZ) 29 0 r 10 3 (.ref (q 3)) := ⟨by decide, _, rfl, rfl⟩
theorem vM_0_4 (q : Nat → Nat) (cI cZ : ClassId) (r : Nat → Int32) : m_V (mkM q cI cZ) 29 0 r 10 4 (.ref (q 4)) := ⟨by decide, _, rfl, rfl⟩
theorem vM_0_5 (q : Nat → Nat) (cI cZ : ClassId) (r : Nat → Int32) : m_V (mkM q cI cZ) 29 0 r 10 5 (.ref (q 5)) := ⟨by decide, _, rfl, rfl⟩
theorem vM_0_6 (q : Nat → Nat) (cI cZ : ClassId) (r : Nat → Int32) : m_V (mkM q cI cZ) 29 0 r 10 6 (.ref (q 6)) := ⟨by decide, _, rfl, rfl⟩
theorem vM_0_7 (q : Nat → Nat) (cI cZ : ClassId) (r : Nat → Int32) : m_V (mkM q cI cZ) 29 0 r 10 7 (.ref (q 7)) := ⟨by decide, _, rfl, rfl⟩
theorem vM_0_8 (q : Nat → Nat) (cI cZ : ClassId) (r : Nat → Int32) : m_V (mkM q cI cZ) 29 0 r 10 8 (.ref (q 8)) := ⟨by decide, _, rfl, rfl⟩
theorem vM_0_9 (q : Nat → Nat) (cI cZ : ClassId) (r : Nat → Int32) : m_V (mkM q cI cZ) 29 0 r 10 9 (.ref (q 9)) := ⟨by decide, _, rfl, rfl⟩
theorem vM_0_10 (q : Nat → Nat) (cI cZ : ClassId) (r : Nat → Int32) : m_V (mkM q cI cZ) 29 0 r 10 10 (.ref (q 10)) := ⟨by decide, _, rfl, rfl⟩
theorem vM_0_11 (q : Nat → Nat) (cI cZ : ClassId) (r : Nat → Int32) : m_V (mkM q cI cZ) 29 0 r 10 11 (.ref (q 11)) := ⟨by decide, _, rfl, rfl⟩
theorem vM_0_12 (q : Nat → Nat) (cI cZ : ClassId) (r : Nat → Int32) : m_V (mkM q cI cZ) 29 0 r 10 12 (.ref (q 12)) := ⟨by decide, _, rfl, rfl⟩
theorem vM_0_13 (q : Nat → Nat) (cI cZ : ClassId) (r : Nat → Int32) : m_V (mkM q cI cZ) 29 0 r 10 13 (.ref (q 13)) := ⟨by decide, _, rfl, rfl⟩
theorem vM_0_14 (q : Nat → Nat) (cI cZ : ClassId) (r : Nat → Int32) : m_V (mkM q cI cZ) 29 0 r 10 14 (.int (r 14)) := ⟨by decide, _, rfl, rfl⟩
theorem pM_0_14 (q : Nat → Nat) (cI cZ : ClassId) : m_VP (mkM q cI cZ) 29 0 10 14 := ⟨by decide, fun r => ⟨_, rfl, Nat.le_of_ble_eq_true rfl, fun x => rfl⟩⟩
theorem vM_0_15 (q : Nat → Nat) (cI cZ : ClassId) (r : Nat → Int32) : m_V (mkM q cI cZ) 29 0 r 10 15 (.ref (q 14)) := ⟨by decide, _, rfl, rfl⟩
theorem vM_0_16 (q : Nat → Nat) (cI cZ : ClassId) (r : Nat → Int32) : m_V (mkM q cI cZ) 29 0 r 10 16 (.int (r 16)) := ⟨by decide, _, rfl, rfl⟩
theorem pM_0_16 (q : Nat → Nat) (cI cZ : ClassId) : m_VP (mkM q cI cZ) 29 0 10 16 := ⟨by decide, fun r => ⟨_, rfl, Nat.le_of_ble_eq_true rfl, fun x => rfl⟩⟩
theorem vM_0_17 (q : Nat → Nat) (cI cZ : ClassId) (r : Nat → Int32) : m_V (mkM q cI cZ) 29 0 r 10 17 (.int (r 17)) := ⟨by decide, _, rfl, rfl⟩
theorem pM_0_17 (q : Nat → Nat) (cI cZ : ClassId) : m_VP (mkM q cI cZ) 29 0 10 17 := ⟨by decide, fun r => ⟨_, rfl, Nat.le_of_ble_eq_true rfl, fun x => rfl⟩⟩
theorem vM_0_18 (q : Nat → Nat) (cI cZ : ClassId) (r : Nat → Int32) : m_V (mkM q cI cZ) 29 0 r 10 18 (.ref (q 15)) := ⟨by decide, _, rfl, rfl⟩
theorem vM_0_19 (q : Nat → Nat) (cI cZ : ClassId) (r : Nat → Int32) : m_V (mkM q cI cZ) 29 0 r 10 19 (.ref (q 16)) := ⟨by decide, _, rfl, rfl⟩
theorem vM_0_20 (q : Nat → Nat) (cI cZ : ClassId) (r : Nat → Int32) : m_V (mkM q cI cZ) 29 0 r 10 20 (.int (r 20)) := ⟨by decide, _, rfl, rfl⟩
theorem pM_0_20 (q : Nat → Nat) (cI cZ : ClassId) : m_VP (mkM q cI cZ) 29 0 10 20 := ⟨by decide, fun r => ⟨_, rfl, Nat.le_of_ble_eq_true rfl, fun x => rfl⟩⟩
theorem vM_0_21 (q : Nat → Nat) (cI cZ : ClassId) (r : Nat → Int32) : m_V (mkM q cI cZ) 29 0 r 10 21 (.ref (q 17)) := ⟨by decide, _, rfl, rfl⟩
theorem vM_0_22 (q : Nat → Nat) (cI cZ : ClassId) (r : Nat → Int32) : m_V (mkM q cI cZ) 29 0 r 10 22 (.ref (q 18)) := ⟨by decide, _, rfl, rfl⟩
theorem vM_0_23 (q : Nat → Nat) (cI cZ : ClassId) (r : Nat → Int32) : m_V (mkM q cI cZ) 29 0 r 10 23 (.ref (q 19)) := ⟨by decide, _, rfl, rfl⟩
theorem vM_0_24 (q : Nat → Nat) (cI cZ : ClassId) (r : Nat → Int32) : m_V (mkM q cI cZ) 29 0 r 10 24 (.ref (q 20)) := ⟨by decide, _, rfl, rfl⟩
theorem vM_0_25 (q : Nat → Nat) (cI cZ : ClassId) (r : Nat → Int32) : m_V (mkM q cI cZ) 29 0 r 10 25 (.ref (q 21)) := ⟨by decide, _, rfl, rfl⟩
theorem vM_0_26 (q : Nat → Nat) (cI cZ : ClassId) (r : Nat → Int32) : m_V (mkM q cI cZ) 29 0 r 10 26 (.ref (q 22)) := ⟨by decide, _, rfl, rfl⟩
theorem vM_0_27 (q : Nat → Nat) (cI cZ : ClassId) (r : Nat → Int32) : m_V (mkM q cI cZ) 29 0 r 10 27 (.ref (q 23)) := ⟨by decide, _, rfl, rfl⟩
theorem vM_0_28 (q : Nat → Nat) (cI cZ : ClassId) (r : Nat → Int32) : m_V (mkM q cI cZ) 29 0 r 10 28 (.int (r 28)) := ⟨by decide, _, rfl, rfl⟩
theorem pM_0_28 (q : Nat → Nat) (cI cZ : ClassId) : m_VP (mkM q cI cZ) 29 0 10 28 := ⟨by decide, fun r => ⟨_, rfl, Nat.le_of_ble_eq_true rfl, fun x => rfl⟩⟩
theorem vM_0_29 (q : Nat → Nat) (cI cZ : ClassId) (r : Nat → Int32) : m_V (mkM q cI cZ) 29 0 r 10 29 (.ref (q 24)) := ⟨by decide, _, rfl, rfl⟩
theorem vM_0_30 (q : Nat → Nat) (cI cZ : ClassId) (r : Nat → Int32) : m_V (mkM q cI cZ) 29 0 r 10 30 (.ref (q 25)) := ⟨by decide, _, rfl, rfl⟩
theorem vM_0_31 (q : Nat → Nat) (cI cZ : ClassId) (r : Nat → Int32) : m_V (mkM q cI cZ) 29 0 r 10 31 (.ref (q 26)) := ⟨by decide, _, rfl, rfl⟩
theorem vM_0_32 (q : Nat → Nat) (cI cZ : ClassId) (r : Nat → Int32) : m_V (mkM q cI cZ) 29 0 r 10 32 (.ref (q 27)) := ⟨by decide, _, rfl, rfl⟩
theorem vM_0_33 (q : Nat → Nat) (cI cZ : ClassId) (r : Nat → Int32) : m_V (mkM q cI cZ) 29 0 r 10 33 (.ref (q 28)) := ⟨by decide, _, rfl, rfl⟩
theorem aM_1 (q : Nat → Nat) (cI cZ : ClassId) : m_AI (mkM q cI cZ) 29 1 200 cI := ⟨by decide, fun _ => rfl⟩
theorem aM_2 (q : Nat → Nat) (cI cZ : ClassId) : m_AI (mkM q cI cZ) 29 2 2 cI := ⟨by decide, fun _ => rfl⟩
theorem aM_3 (q : Nat → Nat) (cI cZ : ClassId) : m_AI (mkM q cI cZ) 29 3 12 cI := ⟨by decide, fun _ => rfl⟩
theorem aM_4 (q : Nat → Nat) (cI cZ : ClassId) : m_AI (mkM q cI cZ) 29 4 12 cI := ⟨by decide, fun _ => rfl⟩
theorem aM_5 (q : Nat → Nat) (cI cZ : ClassId) : m_AI (mkM q cI cZ) 29 5 12 cI := ⟨by decide, fun _ => rfl⟩
theorem aM_6 (q : Nat → Nat) (cI cZ : ClassId) : m_AI (mkM q cI cZ) 29 6 12 cI := ⟨by decide, fun _ => rfl⟩
theorem aM_7 (q : Nat → Nat) (cI cZ : ClassId) : m_AI (mkM q cI cZ) 29 7 12 cI := ⟨by decide, fun _ => rfl⟩
theorem aM_8 (q : Nat → Nat) (cI cZ : ClassId) : m_AI (mkM q cI cZ) 29 8 2 cI := ⟨by decide, fun _ => rfl⟩
theorem aM_9 (q : Nat → Nat) (cI cZ : ClassId) : m_AI (mkM q cI cZ) 29 9 6 cI := ⟨by decide, fun _ => rfl⟩
theorem aM_10 (q : Nat → Nat) (cI cZ : ClassId) : m_AI (mkM q cI cZ) 29 10 6 cI := ⟨by decide, fun _ => rfl⟩
theorem aM_11 (q : Nat → Nat) (cI cZ : ClassId) : m_AI (mkM q cI cZ) 29 11 8 cI := ⟨by decide, fun _ => rfl⟩
theorem aM_12 (q : Nat → Nat) (cI cZ : ClassId) : m_AI (mkM q cI cZ) 29 12 12 cI := ⟨by decide, fun _ => rfl⟩
theorem aM_13 (q : Nat → Nat) (cI cZ : ClassId) : m_AI (mkM q cI cZ) 29 13 96 cI := ⟨by decide, fun _ => rfl⟩
theorem aM_14 (q : Nat → Nat) (cI cZ : ClassId) : m_AI (mkM q cI cZ) 29 14 24 cI := ⟨by decide, fun _ => rfl⟩
theorem aM_15 (q : Nat → Nat) (cI cZ : ClassId) : m_AI (mkM q cI cZ) 29 15 8 cI := ⟨by decide, fun _ => rfl⟩
theorem aM_16 (q : Nat → Nat) (cI cZ : ClassId) : m_AI (mkM q cI cZ) 29 16 8 cI := ⟨by decide, fun _ => rfl⟩
theorem aM_17 (q : Nat → Nat) (cI cZ : ClassId) : m_AI (mkM q cI cZ) 29 17 5 cI := ⟨by decide, fun _ => rfl⟩
theorem aM_18 (q : Nat → Nat) (cI cZ : ClassId) : m_AI (mkM q cI cZ) 29 18 726 cI := ⟨by decide, fun _ => rfl⟩
theorem aM_19 (q : Nat → Nat) (cI cZ : ClassId) : m_AI (mkM q cI cZ) 29 19 6 cI := ⟨by decide, fun _ => rfl⟩
theorem aM_20 (q : Nat → Nat) (cI cZ : ClassId) : m_AI (mkM q cI cZ) 29 20 6 cI := ⟨by decide, fun _ => rfl⟩
theorem aM_21 (q : Nat → Nat) (cI cZ : ClassId) : m_AI (mkM q cI cZ) 29 21 6 cI := ⟨by decide, fun _ => rfl⟩
theorem aM_22 (q : Nat → Nat) (cI cZ : ClassId) : m_AI (mkM q cI cZ) 29 22 6 cI := ⟨by decide, fun _ => rfl⟩
theorem aM_23 (q : Nat → Nat) (cI cZ : ClassId) : m_AI (mkM q cI cZ) 29 23 6 cI := ⟨by decide, fun _ => rfl⟩
theorem aM_24 (q : Nat → Nat) (cI cZ : ClassId) : m_AI (mkM q cI cZ) 29 24 15 cI := ⟨by decide, fun _ => rfl⟩
theorem aM_25 (q : Nat → Nat) (cI cZ : ClassId) : m_AI (mkM q cI cZ) 29 25 15 cI := ⟨by decide, fun _ => rfl⟩
theorem aM_26 (q : Nat → Nat) (cI cZ : ClassId) : m_AI (mkM q cI cZ) 29 26 15 cI := ⟨by decide, fun _ => rfl⟩
theorem aM_27 (q : Nat → Nat) (cI cZ : ClassId) : m_AI (mkM q cI cZ) 29 27 15 cI := ⟨by decide, fun _ => rfl⟩
theorem aM_28 (q : Nat → Nat) (cI cZ : ClassId) : m_AI (mkM q cI cZ) 29 28 12 cI := ⟨by decide, fun _ => rfl⟩
def m_pL (k : Nat) : Nat := 2 * k + 18
def m_pD (k : Nat) : Nat := 2 * k + 19
theorem vC_pk_0 {q : Nat → Nat} {cI cZ : ClassId} {pk : Nat} (h : pk = 5 ∨ pk = 6) (r : Nat → Int32) : m_V (mkC q cI cZ) 50 pk r 3 0 (.ref (q (m_pL pk))) := by
  rcases h with rfl | rfl
  · exact ⟨by decide, _, rfl, rfl⟩
  · exact ⟨by decide, _, rfl, rfl⟩
theorem aC_pkL {q : Nat → Nat} {cI cZ : ClassId} {pk : Nat} (h : pk = 5 ∨ pk = 6) : m_AI (mkC q cI cZ) 50 (m_pL pk) 6 cI := by
  rcases h with rfl | rfl
  · exact ⟨by decide, fun _ => rfl⟩
  · exact ⟨by decide, fun _ => rfl⟩
theorem vC_pk_1 {q : Nat → Nat} {cI cZ : ClassId} {pk : Nat} (h : pk = 5 ∨ pk = 6) (r : Nat → Int32) : m_V (mkC q cI cZ) 50 pk r 3 1 (.ref (q (m_pD pk))) := by
  rcases h with rfl | rfl
  · exact ⟨by decide, _, rfl, rfl⟩
  · exact ⟨by decide, _, rfl, rfl⟩
theorem aC_pkD {q : Nat → Nat} {cI cZ : ClassId} {pk : Nat} (h : pk = 5 ∨ pk = 6) : m_AI (mkC q cI cZ) 50 (m_pD pk) 6 cI := by
  rcases h with rfl | rfl
  · exact ⟨by decide, fun _ => rfl⟩
  · exact ⟨by decide, fun _ => rfl⟩
theorem fl_8_15 : m_FL RX8 15 8 1 := ⟨RX8, TX8, 2, rfl, by decide, inX8, (m_t1 33 rfl rfl)⟩
theorem fl_8_9 : m_FL RX8 9 8 0 := ⟨RX8, TX8, 2, rfl, by decide, inX8, (m_t1 32 rfl rfl)⟩
theorem fp_8_15 : m_FP RX8 15 8 1 := ⟨RX8, TX8, 2, tyX8, rfl, by decide, inX8, (m_t1 33 rfl rfl), tyX8_ok, nmX8, rfl, rfl⟩
theorem fp_1_33 : m_FP RX1 33 1 0 := ⟨RX1, TX1, 13, tyX1, rfl, by decide, inX1, (m_t1 48 rfl rfl), tyX1_ok, nmX1, rfl, rfl⟩
theorem fp_1_37 : m_FP RX1 37 1 1 := ⟨RX1, TX1, 13, tyX1, rfl, by decide, inX1, (m_t1 52 rfl rfl), tyX1_ok, nmX1, rfl, rfl⟩
theorem fp_1_40 : m_FP RX1 40 1 2 := ⟨RX1, TX1, 13, tyX1, rfl, by decide, inX1, (m_t1 55 rfl rfl), tyX1_ok, nmX1, rfl, rfl⟩
theorem fp_1_43 : m_FP RX1 43 1 3 := ⟨RX1, TX1, 13, tyX1, rfl, by decide, inX1, (m_t1 60 rfl rfl), tyX1_ok, nmX1, rfl, rfl⟩
theorem fp_1_46 : m_FP RX1 46 1 4 := ⟨RX1, TX1, 13, tyX1, rfl, by decide, inX1, (m_t1 64 rfl rfl), tyX1_ok, nmX1, rfl, rfl⟩
theorem fp_1_49 : m_FP RX1 49 1 5 := ⟨RX1, TX1, 13, tyX1, rfl, by decide, inX1, (m_t1 67 rfl rfl), tyX1_ok, nmX1, rfl, rfl⟩
theorem fl_4_15 : m_FL RX4 15 4 0 := ⟨RX4, TX4, 3, rfl, by decide, inX4, (m_t1 128 rfl rfl)⟩
theorem cv_4_38 : m_CV RX4 38 RX8 yX8_letterAt cX8_letterAt 2 (some .int) 1 := m_cv (m_t2 121 rfl rfl) (m_t2 122 rfl rfl) (m_t2 123 rfl rfl) (m_t1 2 rfl rfl) (m_t2 124 rfl rfl) (by decide +kernel)
theorem cn_X9_isWithin : m_CN yX9_isWithin cX9_isWithin 3 (some .boolean) 3 := m_cn (m_t2 138 rfl rfl) (m_t1 1 rfl rfl) (m_t2 137 rfl rfl) (by decide +kernel)
theorem fl_4_9 : m_FL RX4 9 4 2 := ⟨RX4, TX4, 3, rfl, by decide, inX4, (m_t1 130 rfl rfl)⟩
theorem cv_4_52 : m_CV RX4 52 RX4 yX4_figureAt cX4_figureAt 3 (some .int) 1 := m_cv (m_t2 132 rfl rfl) (m_t2 133 rfl rfl) (m_t2 134 rfl rfl) (m_t1 4 rfl rfl) (m_t2 135 rfl rfl) (by decide +kernel)
theorem fl_4_19 : m_FL RX4 19 4 1 := ⟨RX4, TX4, 3, rfl, by decide, inX4, (m_t1 129 rfl rfl)⟩
theorem fl_4_75 : m_FL RX4 75 1 0 := ⟨RX1, TX1, 13, rfl, by decide, inX1, (m_t1 51 rfl rfl)⟩
theorem fl_4_78 : m_FL RX4 78 1 6 := ⟨RX1, TX1, 13, rfl, by decide, inX1, (m_t1 73 rfl rfl)⟩
theorem fl_4_81 : m_FL RX4 81 1 7 := ⟨RX1, TX1, 13, rfl, by decide, inX1, (m_t1 78 rfl rfl)⟩
theorem fl_4_84 : m_FL RX4 84 1 8 := ⟨RX1, TX1, 13, rfl, by decide, inX1, (m_t1 83 rfl rfl)⟩
theorem fl_4_87 : m_FL RX4 87 1 9 := ⟨RX1, TX1, 13, rfl, by decide, inX1, (m_t1 86 rfl rfl)⟩
theorem fl_4_90 : m_FL RX4 90 1 10 := ⟨RX1, TX1, 13, rfl, by decide, inX1, (m_t1 90 rfl rfl)⟩
theorem fp_4_75 : m_FP RX4 75 1 0 := ⟨RX1, TX1, 13, tyX1, rfl, by decide, inX1, (m_t1 51 rfl rfl), tyX1_ok, nmX1, rfl, rfl⟩
theorem fl_4_93 : m_FL RX4 93 1 1 := ⟨RX1, TX1, 13, rfl, by decide, inX1, (m_t1 53 rfl rfl)⟩
theorem fl_4_96 : m_FL RX4 96 1 11 := ⟨RX1, TX1, 13, rfl, by decide, inX1, (m_t1 92 rfl rfl)⟩
theorem fl_4_99 : m_FL RX4 99 1 12 := ⟨RX1, TX1, 13, rfl, by decide, inX1, (m_t1 94 rfl rfl)⟩
theorem fp_4_93 : m_FP RX4 93 1 1 := ⟨RX1, TX1, 13, tyX1, rfl, by decide, inX1, (m_t1 53 rfl rfl), tyX1_ok, nmX1, rfl, rfl⟩
theorem fp_4_102 : m_FP RX4 102 1 2 := ⟨RX1, TX1, 13, tyX1, rfl, by decide, inX1, (m_t1 58 rfl rfl), tyX1_ok, nmX1, rfl, rfl⟩
theorem fp_4_105 : m_FP RX4 105 1 3 := ⟨RX1, TX1, 13, tyX1, rfl, by decide, inX1, (m_t1 62 rfl rfl), tyX1_ok, nmX1, rfl, rfl⟩
theorem fp_4_108 : m_FP RX4 108 1 4 := ⟨RX1, TX1, 13, tyX1, rfl, by decide, inX1, (m_t1 65 rfl rfl), tyX1_ok, nmX1, rfl, rfl⟩
theorem fp_4_111 : m_FP RX4 111 1 5 := ⟨RX1, TX1, 13, tyX1, rfl, by decide, inX1, (m_t1 68 rfl rfl), tyX1_ok, nmX1, rfl, rfl⟩
theorem cv_4_59 : m_CV RX4 59 RX4 yX4_takeBoat cX4_takeBoat 2 (some .boolean) 0 := m_cv (m_t2 143 rfl rfl) (m_t2 144 rfl rfl) (m_t2 145 rfl rfl) (m_t1 4 rfl rfl) (m_t2 146 rfl rfl) (by decide +kernel)
theorem cv_4_69 : m_CV RX4 69 RX4 yX4_takeHeld cX4_takeHeld 1 (some .boolean) 0 := m_cv (m_t2 155 rfl rfl) (m_t2 156 rfl rfl) (m_t2 157 rfl rfl) (m_t1 4 rfl rfl) (m_t2 158 rfl rfl) (by decide +kernel)
theorem cv_4_72 : m_CV RX4 72 RX4 yX4_takeLine cX4_takeLine 1 (some .boolean) 0 := m_cv (m_t2 159 rfl rfl) (m_t2 160 rfl rfl) (m_t2 161 rfl rfl) (m_t1 4 rfl rfl) (m_t2 162 rfl rfl) (by decide +kernel)
theorem cv_4_63 : m_CV RX4 63 RX4 yX4_takeNarrow cX4_takeNarrow 2 (some .boolean) 0 := m_cv (m_t2 147 rfl rfl) (m_t2 148 rfl rfl) (m_t2 149 rfl rfl) (m_t1 4 rfl rfl) (m_t2 150 rfl rfl) (by decide +kernel)
theorem cv_4_66 : m_CV RX4 66 RX4 yX4_takeYield cX4_takeYield 1 (some .boolean) 0 := m_cv (m_t2 151 rfl rfl) (m_t2 152 rfl rfl) (m_t2 153 rfl rfl) (m_t1 4 rfl rfl) (m_t2 154 rfl rfl) (by decide +kernel)
theorem cv_4_48 : m_CV RX4 48 RX4 yX4_takeItem cX4_takeItem 2 (some .boolean) 1 := m_cv (m_t2 139 rfl rfl) (m_t2 140 rfl rfl) (m_t2 141 rfl rfl) (m_t1 4 rfl rfl) (m_t2 142 rfl rfl) (by decide +kernel)
theorem cv_4_44 : m_CV RX4 44 RX4 yX4_readNumber cX4_readNumber 8 (some .int) 3 := m_cv (m_t2 128 rfl rfl) (m_t2 129 rfl rfl) (m_t2 130 rfl rfl) (m_t1 4 rfl rfl) (m_t2 131 rfl rfl) (by decide +kernel)
theorem cs_4_41 : m_CS RX4 41 yX4_numbersOf cX4_numbersOf 1 (some .int) 1 := m_cs (m_t2 125 rfl rfl) (m_t2 126 rfl rfl) (m_t1 4 rfl rfl) (m_t2 127 rfl rfl) (by decide +kernel)
theorem fl_4_28 : m_FL RX4 28 8 1 := ⟨RX8, TX8, 2, rfl, by decide, inX8, (m_t1 34 rfl rfl)⟩
theorem cv_4_34 : m_CV RX4 34 RX4 yX4_readItem cX4_readItem 6 (some .int) 1 := m_cv (m_t2 117 rfl rfl) (m_t2 118 rfl rfl) (m_t2 119 rfl rfl) (m_t1 4 rfl rfl) (m_t2 120 rfl rfl) (by decide +kernel)
theorem cv_4_23 : m_CV RX4 23 RX1 yX1_clear cX1_clear 1 none 0 := m_cv (m_t2 113 rfl rfl) (m_t2 114 rfl rfl) (m_t2 115 rfl rfl) (m_t1 3 rfl rfl) (m_t2 116 rfl rfl) (by decide +kernel)
theorem fl_1_33 : m_FL RX1 33 1 0 := ⟨RX1, TX1, 13, rfl, by decide, inX1, (m_t1 48 rfl rfl)⟩
theorem fl_1_37 : m_FL RX1 37 1 1 := ⟨RX1, TX1, 13, rfl, by decide, inX1, (m_t1 52 rfl rfl)⟩
theorem fl_1_40 : m_FL RX1 40 1 2 := ⟨RX1, TX1, 13, rfl, by decide, inX1, (m_t1 55 rfl rfl)⟩
theorem fl_1_43 : m_FL RX1 43 1 3 := ⟨RX1, TX1, 13, rfl, by decide, inX1, (m_t1 60 rfl rfl)⟩
theorem fl_1_46 : m_FL RX1 46 1 4 := ⟨RX1, TX1, 13, rfl, by decide, inX1, (m_t1 64 rfl rfl)⟩
theorem fl_1_49 : m_FL RX1 49 1 5 := ⟨RX1, TX1, 13, rfl, by decide, inX1, (m_t1 67 rfl rfl)⟩
theorem fl_1_9 : m_FL RX1 9 1 6 := ⟨RX1, TX1, 13, rfl, by decide, inX1, (m_t1 70 rfl rfl)⟩
theorem cc_1_52 : m_CC RX1 52 := ⟨(m_t2 167 rfl rfl), (m_t2 169 rfl rfl), (m_t2 168 rfl rfl), (m_t1 15 rfl rfl)⟩
theorem fl_1_15 : m_FL RX1 15 1 7 := ⟨RX1, TX1, 13, rfl, by decide, inX1, (m_t1 74 rfl rfl)⟩
theorem fl_1_18 : m_FL RX1 18 1 8 := ⟨RX1, TX1, 13, rfl, by decide, inX1, (m_t1 79 rfl rfl)⟩
theorem fl_1_21 : m_FL RX1 21 1 9 := ⟨RX1, TX1, 13, rfl, by decide, inX1, (m_t1 84 rfl rfl)⟩
theorem fl_1_24 : m_FL RX1 24 1 10 := ⟨RX1, TX1, 13, rfl, by decide, inX1, (m_t1 87 rfl rfl)⟩
theorem fl_1_27 : m_FL RX1 27 1 11 := ⟨RX1, TX1, 13, rfl, by decide, inX1, (m_t1 91 rfl rfl)⟩
theorem fl_1_30 : m_FL RX1 30 1 12 := ⟨RX1, TX1, 13, rfl, by decide, inX1, (m_t1 93 rfl rfl)⟩
theorem fl_3_9 : m_FL RX3 9 3 0 := ⟨RX3, TX3, 2, rfl, by decide, inX3, (m_t1 144 rfl rfl)⟩
theorem fl_3_18 : m_FL RX3 18 1 9 := ⟨RX1, TX1, 13, rfl, by decide, inX1, (m_t1 85 rfl rfl)⟩
theorem fl_3_15 : m_FL RX3 15 3 1 := ⟨RX3, TX3, 2, rfl, by decide, inX3, (m_t1 150 rfl rfl)⟩
theorem fl_6_18 : m_FL RX6 18 6 2 := ⟨RX6, TX6, 3, rfl, by decide, inX6, (m_t2 26 rfl rfl)⟩
theorem fp_6_18 : m_FP RX6 18 6 2 := ⟨RX6, TX6, 3, tyX6, rfl, by decide, inX6, (m_t2 26 rfl rfl), tyX6_ok, nmX6, rfl, rfl⟩
theorem fl_9_28 : m_FL RX9 28 9 2 := ⟨RX9, TX9, 11, rfl, by decide, inX9, (m_t2 184 rfl rfl)⟩
theorem cv_9_114 : m_CV RX9 114 RX4 yX4_firstFault cX4_firstFault 4 (some .int) 0 := m_cv (m_t2 109 rfl rfl) (m_t2 110 rfl rfl) (m_t2 111 rfl rfl) (m_t1 4 rfl rfl) (m_t2 112 rfl rfl) (by decide +kernel)
theorem fl_9_19 : m_FL RX9 19 9 1 := ⟨RX9, TX9, 11, rfl, by decide, inX9, (m_t2 183 rfl rfl)⟩
theorem fl_9_117 : m_FL RX9 117 1 0 := ⟨RX1, TX1, 13, rfl, by decide, inX1, (m_t1 50 rfl rfl)⟩
theorem fl_9_32 : m_FL RX9 32 9 3 := ⟨RX9, TX9, 11, rfl, by decide, inX9, (m_t2 185 rfl rfl)⟩
theorem cv_9_254 : m_CV RX9 254 RX1 yX1_copy cX1_copy 2 none 1 := m_cv (m_t2 163 rfl rfl) (m_t2 164 rfl rfl) (m_t2 165 rfl rfl) (m_t1 3 rfl rfl) (m_t2 166 rfl rfl) (by decide +kernel)
theorem fl_9_38 : m_FL RX9 38 9 4 := ⟨RX9, TX9, 11, rfl, by decide, inX9, (m_t2 186 rfl rfl)⟩
theorem cv_9_256 : m_CV RX9 256 RX3 yX3_begin cX3_begin 3 none 1 := m_cv (m_t2 170 rfl rfl) (m_t2 171 rfl rfl) (m_t2 172 rfl rfl) (m_t1 5 rfl rfl) (m_t2 173 rfl rfl) (by decide +kernel)
theorem fl_9_66 : m_FL RX9 66 9 8 := ⟨RX9, TX9, 11, rfl, by decide, inX9, (m_t2 190 rfl rfl)⟩
theorem fp_9_184 : m_FP RX9 184 0 3 := ⟨RX0, TX0, 4, tyX0, rfl, by decide, inX0, (m_t2 5 rfl rfl), tyX0_ok, nmX0, rfl, rfl⟩
theorem fl_9_73 : m_FL RX9 73 9 9 := ⟨RX9, TX9, 11, rfl, by decide, inX9, (m_t2 191 rfl rfl)⟩
theorem cv_9_234 : m_CV RX9 234 RX6 yX6_empty cX6_empty 2 (some .int) 0 := m_cv (m_t2 174 rfl rfl) (m_t2 175 rfl rfl) (m_t2 176 rfl rfl) (m_t1 9 rfl rfl) (m_t2 177 rfl rfl) (by decide +kernel)
theorem fl_9_80 : m_FL RX9 80 9 10 := ⟨RX9, TX9, 11, rfl, by decide, inX9, (m_t2 192 rfl rfl)⟩
theorem fp_9_247 : m_FP RX9 247 7 2 := ⟨RX7, TX7, 3, tyX7, rfl, by decide, inX7, (m_t2 44 rfl rfl), tyX7_ok, nmX7, rfl, rfl⟩
theorem cs_9_107 : m_CS RX9 107 yX9_isWithin cX9_isWithin 3 (some .boolean) 3 := m_cs (m_t2 221 rfl rfl) (m_t2 137 rfl rfl) (m_t1 1 rfl rfl) (m_t2 138 rfl rfl) (by decide +kernel)
theorem fl_9_10 : m_FL RX9 10 9 0 := ⟨RX9, TX9, 11, rfl, by decide, inX9, (m_t2 182 rfl rfl)⟩
theorem cv_9_96 : m_CV RX9 96 RX8 yX8_add cX8_add 2 (some .boolean) 1 := m_cv (m_t2 101 rfl rfl) (m_t2 102 rfl rfl) (m_t2 103 rfl rfl) (m_t1 2 rfl rfl) (m_t2 104 rfl rfl) (by decide +kernel)
theorem fl_9_111 : m_FL RX9 111 8 1 := ⟨RX8, TX8, 2, rfl, by decide, inX8, (m_t1 35 rfl rfl)⟩
theorem cv_9_104 : m_CV RX9 104 RX8 yX8_empty cX8_empty 2 (some .int) 0 := m_cv (m_t2 178 rfl rfl) (m_t2 179 rfl rfl) (m_t2 180 rfl rfl) (m_t1 2 rfl rfl) (m_t2 181 rfl rfl) (by decide +kernel)
theorem cv_9_100 : m_CV RX9 100 RX9 yX9_layText cX9_layText 1 (some .boolean) 0 := m_cv (m_t2 105 rfl rfl) (m_t2 107 rfl rfl) (m_ts 0 rfl rfl) (m_t1 1 rfl rfl) (m_t2 108 rfl rfl) (by decide +kernel)
theorem cv_9_120 : m_CV RX9 120 RX9 yX9_isBoat cX9_isBoat 2 (some .boolean) 1 := m_cv (m_t2 238 rfl rfl) (m_t3 0 rfl rfl) (m_ts 1 rfl rfl) (m_t1 1 rfl rfl) (m_t3 1 rfl rfl) (by decide +kernel)
theorem fl_9_123 : m_FL RX9 123 1 6 := ⟨RX1, TX1, 13, rfl, by decide, inX1, (m_t1 72 rfl rfl)⟩
theorem fl_9_127 : m_FL RX9 127 1 7 := ⟨RX1, TX1, 13, rfl, by decide, inX1, (m_t1 77 rfl rfl)⟩
theorem fl_9_130 : m_FL RX9 130 1 8 := ⟨RX1, TX1, 13, rfl, by decide, inX1, (m_t1 82 rfl rfl)⟩
theorem fl_9_133 : m_FL RX9 133 3 0 := ⟨RX3, TX3, 2, rfl, by decide, inX3, (m_t1 148 rfl rfl)⟩
theorem fl_9_136 : m_FL RX9 136 1 10 := ⟨RX1, TX1, 13, rfl, by decide, inX1, (m_t1 89 rfl rfl)⟩
theorem fl_9_139 : m_FL RX9 139 3 1 := ⟨RX3, TX3, 2, rfl, by decide, inX3, (m_t1 154 rfl rfl)⟩
theorem fl_2_15 : m_FL RX2 15 2 3 := ⟨RX2, TX2, 16, rfl, by decide, inX2, (m_t1 179 rfl rfl)⟩
theorem fl_2_45 : m_FL RX2 45 2 0 := ⟨RX2, TX2, 16, rfl, by decide, inX2, (m_t1 176 rfl rfl)⟩
theorem fl_2_95 : m_FL RX2 95 1 7 := ⟨RX1, TX1, 13, rfl, by decide, inX1, (m_t1 75 rfl rfl)⟩
theorem fl_2_78 : m_FL RX2 78 1 0 := ⟨RX1, TX1, 13, rfl, by decide, inX1, (m_t1 49 rfl rfl)⟩
theorem fl_2_21 : m_FL RX2 21 2 5 := ⟨RX2, TX2, 16, rfl, by decide, inX2, (m_t1 182 rfl rfl)⟩
theorem cv_2_91 : m_CV RX2 91 RX2 yX2_isAtEnd cX2_isAtEnd 2 (some .boolean) 1 := m_cv (m_t3 17 rfl rfl) (m_t3 18 rfl rfl) (m_t3 19 rfl rfl) (m_t1 7 rfl rfl) (m_t3 20 rfl rfl) (by decide +kernel)
theorem fl_2_57 : m_FL RX2 57 2 10 := ⟨RX2, TX2, 16, rfl, by decide, inX2, (m_t1 191 rfl rfl)⟩
theorem fp_2_57 : m_FP RX2 57 2 10 := ⟨RX2, TX2, 16, tyX2, rfl, by decide, inX2, (m_t1 191 rfl rfl), tyX2_ok, nmX2, rfl, rfl⟩
theorem cv_2_68 : m_CV RX2 68 RX2 yX2_arrive cX2_arrive 3 none 1 := m_cv (m_t3 21 rfl rfl) (m_t3 22 rfl rfl) (m_t3 23 rfl rfl) (m_t1 7 rfl rfl) (m_t3 24 rfl rfl) (by decide +kernel)
theorem fl_2_83 : m_FL RX2 83 1 6 := ⟨RX1, TX1, 13, rfl, by decide, inX1, (m_t1 71 rfl rfl)⟩
theorem fl_2_18 : m_FL RX2 18 2 4 := ⟨RX2, TX2, 16, rfl, by decide, inX2, (m_t1 181 rfl rfl)⟩
theorem fl_2_86 : m_FL RX2 86 3 1 := ⟨RX3, TX3, 2, rfl, by decide, inX3, (m_t1 152 rfl rfl)⟩
theorem fl_2_24 : m_FL RX2 24 2 6 := ⟨RX2, TX2, 16, rfl, by decide, inX2, (m_t1 184 rfl rfl)⟩
theorem fl_2_27 : m_FL RX2 27 2 7 := ⟨RX2, TX2, 16, rfl, by decide, inX2, (m_t1 186 rfl rfl)⟩
theorem fl_2_30 : m_FL RX2 30 2 8 := ⟨RX2, TX2, 16, rfl, by decide, inX2, (m_t1 188 rfl rfl)⟩
theorem fp_2_75 : m_FP RX2 75 2 11 := ⟨RX2, TX2, 16, tyX2, rfl, by decide, inX2, (m_t1 192 rfl rfl), tyX2_ok, nmX2, rfl, rfl⟩
theorem fp_2_72 : m_FP RX2 72 2 9 := ⟨RX2, TX2, 16, tyX2, rfl, by decide, inX2, (m_t1 190 rfl rfl), tyX2_ok, nmX2, rfl, rfl⟩
theorem fl_2_9 : m_FL RX2 9 2 2 := ⟨RX2, TX2, 16, rfl, by decide, inX2, (m_t1 178 rfl rfl)⟩
theorem fl_2_98 : m_FL RX2 98 1 8 := ⟨RX1, TX1, 13, rfl, by decide, inX1, (m_t1 81 rfl rfl)⟩
theorem cm_2_107 : m_CM RX2 107 Lib.Math.max.name Lib.Math.max.code := ⟨(m_t3 32 rfl rfl), (m_t3 33 rfl rfl), (m_t1 17 rfl rfl), (m_t3 34 rfl rfl)⟩
theorem cm_2_101 : m_CM RX2 101 Lib.Math.min.name Lib.Math.min.code := ⟨(m_t3 29 rfl rfl), (m_t3 30 rfl rfl), (m_t1 17 rfl rfl), (m_t3 31 rfl rfl)⟩
theorem fl_5_28 : m_FL RX5 28 3 0 := ⟨RX3, TX3, 2, rfl, by decide, inX3, (m_t1 146 rfl rfl)⟩
theorem fl_5_9 : m_FL RX5 9 5 0 := ⟨RX5, TX5, 1, rfl, by decide, inX5, (m_t1 166 rfl rfl)⟩
theorem fl_5_33 : m_FL RX5 33 1 8 := ⟨RX1, TX1, 13, rfl, by decide, inX1, (m_t1 80 rfl rfl)⟩
theorem fl_5_36 : m_FL RX5 36 1 2 := ⟨RX1, TX1, 13, rfl, by decide, inX1, (m_t1 56 rfl rfl)⟩
theorem fl_5_40 : m_FL RX5 40 1 7 := ⟨RX1, TX1, 13, rfl, by decide, inX1, (m_t1 76 rfl rfl)⟩
theorem fl_5_15 : m_FL RX5 15 1 10 := ⟨RX1, TX1, 13, rfl, by decide, inX1, (m_t1 88 rfl rfl)⟩
theorem cv_5_21 : m_CV RX5 21 RX5 yX5_weight cX5_weight 4 (some .int) 3 := m_cv (m_t3 51 rfl rfl) (m_t3 52 rfl rfl) (m_t3 53 rfl rfl) (m_t1 6 rfl rfl) (m_t3 54 rfl rfl) (by decide +kernel)
theorem cv_5_25 : m_CV RX5 25 RX5 yX5_byCustom cX5_byCustom 6 (some .int) 3 := m_cv (m_t3 55 rfl rfl) (m_t3 56 rfl rfl) (m_t3 57 rfl rfl) (m_t1 6 rfl rfl) (m_t3 58 rfl rfl) (by decide +kernel)
theorem fl_2_72 : m_FL RX2 72 2 9 := ⟨RX2, TX2, 16, rfl, by decide, inX2, (m_t1 190 rfl rfl)⟩
theorem fl_2_75 : m_FL RX2 75 2 11 := ⟨RX2, TX2, 16, rfl, by decide, inX2, (m_t1 192 rfl rfl)⟩
theorem fl_2_33 : m_FL RX2 33 2 12 := ⟨RX2, TX2, 16, rfl, by decide, inX2, (m_t1 194 rfl rfl)⟩
theorem fl_2_36 : m_FL RX2 36 2 13 := ⟨RX2, TX2, 16, rfl, by decide, inX2, (m_t1 196 rfl rfl)⟩
theorem fl_2_39 : m_FL RX2 39 2 14 := ⟨RX2, TX2, 16, rfl, by decide, inX2, (m_t1 198 rfl rfl)⟩
theorem fl_2_42 : m_FL RX2 42 2 15 := ⟨RX2, TX2, 16, rfl, by decide, inX2, (m_t1 200 rfl rfl)⟩
theorem cv_2_140 : m_CV RX2 140 RX2 yX2_noteMeeting cX2_noteMeeting 5 none 4 := m_cv (m_t3 68 rfl rfl) (m_t3 69 rfl rfl) (m_t3 70 rfl rfl) (m_t1 7 rfl rfl) (m_t3 71 rfl rfl) (by decide +kernel)
theorem cv_2_130 : m_CV RX2 130 RX2 yX2_makeStand cX2_makeStand 3 none 2 := m_cv (m_t3 64 rfl rfl) (m_t3 65 rfl rfl) (m_t3 66 rfl rfl) (m_t1 7 rfl rfl) (m_t3 67 rfl rfl) (by decide +kernel)
theorem fl_2_134 : m_FL RX2 134 1 2 := ⟨RX1, TX1, 13, rfl, by decide, inX1, (m_t1 57 rfl rfl)⟩
theorem fl_2_137 : m_FL RX2 137 3 0 := ⟨RX3, TX3, 2, rfl, by decide, inX3, (m_t1 149 rfl rfl)⟩
theorem fl_2_49 : m_FL RX2 49 2 1 := ⟨RX2, TX2, 16, rfl, by decide, inX2, (m_t1 177 rfl rfl)⟩
theorem cv_2_118 : m_CV RX2 118 RX5 yX5_yielder cX5_yielder 10 (some .int) 4 := m_cv (m_t3 47 rfl rfl) (m_t3 48 rfl rfl) (m_t3 49 rfl rfl) (m_t1 6 rfl rfl) (m_t3 50 rfl rfl) (by decide +kernel)
theorem cv_2_127 : m_CV RX2 127 RX1 yX1_isNarrow cX1_isNarrow 3 (some .boolean) 1 := m_cv (m_t3 59 rfl rfl) (m_t3 60 rfl rfl) (m_t3 61 rfl rfl) (m_t1 3 rfl rfl) (m_t3 62 rfl rfl) (by decide +kernel)
theorem fl_2_124 : m_FL RX2 124 1 3 := ⟨RX1, TX1, 13, rfl, by decide, inX1, (m_t1 61 rfl rfl)⟩
theorem cv_2_110 : m_CV RX2 110 RX2 yX2_doMeet cX2_doMeet 5 (some .boolean) 2 := m_cv (m_t3 39 rfl rfl) (m_t3 40 rfl rfl) (m_t3 41 rfl rfl) (m_t1 7 rfl rfl) (m_t3 42 rfl rfl) (by decide +kernel)
theorem cv_2_114 : m_CV RX2 114 RX2 yX2_meet cX2_meet 8 none 5 := m_cv (m_t3 43 rfl rfl) (m_t3 44 rfl rfl) (m_t3 45 rfl rfl) (m_t1 7 rfl rfl) (m_t3 46 rfl rfl) (by decide +kernel)
theorem cv_2_61 : m_CV RX2 61 RX2 yX2_goOn cX2_goOn 2 none 0 := m_cv (m_t3 25 rfl rfl) (m_t3 26 rfl rfl) (m_t3 27 rfl rfl) (m_t1 7 rfl rfl) (m_t3 28 rfl rfl) (by decide +kernel)
theorem cv_2_64 : m_CV RX2 64 RX2 yX2_meetAll cX2_meetAll 6 none 3 := m_cv (m_t3 35 rfl rfl) (m_t3 36 rfl rfl) (m_t3 37 rfl rfl) (m_t1 7 rfl rfl) (m_t3 38 rfl rfl) (by decide +kernel)
theorem cv_2_53 : m_CV RX2 53 RX2 yX2_begin cX2_begin 3 none 1 := m_cv (m_t3 13 rfl rfl) (m_t3 14 rfl rfl) (m_t3 15 rfl rfl) (m_t1 7 rfl rfl) (m_t3 16 rfl rfl) (by decide +kernel)
theorem cs_9_142 : m_CS RX9 142 yX9_isRule cX9_isRule 1 (some .boolean) 1 := m_cs (m_t3 6 rfl rfl) (m_t3 7 rfl rfl) (m_t1 1 rfl rfl) (m_t3 8 rfl rfl) (by decide +kernel)
theorem fl_9_59 : m_FL RX9 59 9 7 := ⟨RX9, TX9, 11, rfl, by decide, inX9, (m_t2 189 rfl rfl)⟩
theorem cv_9_145 : m_CV RX9 145 RX2 yX2_run cX2_run 5 (some .int) 3 := m_cv (m_t3 9 rfl rfl) (m_t3 10 rfl rfl) (m_t3 11 rfl rfl) (m_t1 7 rfl rfl) (m_t3 12 rfl rfl) (by decide +kernel)
theorem fl_9_149 : m_FL RX9 149 2 3 := ⟨RX2, TX2, 16, rfl, by decide, inX2, (m_t1 180 rfl rfl)⟩
theorem fl_9_152 : m_FL RX9 152 2 5 := ⟨RX2, TX2, 16, rfl, by decide, inX2, (m_t1 183 rfl rfl)⟩
theorem fl_9_155 : m_FL RX9 155 2 6 := ⟨RX2, TX2, 16, rfl, by decide, inX2, (m_t1 185 rfl rfl)⟩
theorem fl_9_158 : m_FL RX9 158 2 7 := ⟨RX2, TX2, 16, rfl, by decide, inX2, (m_t1 187 rfl rfl)⟩
theorem fl_9_161 : m_FL RX9 161 2 11 := ⟨RX2, TX2, 16, rfl, by decide, inX2, (m_t1 193 rfl rfl)⟩
theorem fl_9_164 : m_FL RX9 164 2 12 := ⟨RX2, TX2, 16, rfl, by decide, inX2, (m_t1 195 rfl rfl)⟩
theorem fl_9_167 : m_FL RX9 167 2 13 := ⟨RX2, TX2, 16, rfl, by decide, inX2, (m_t1 197 rfl rfl)⟩
theorem fl_9_170 : m_FL RX9 170 2 14 := ⟨RX2, TX2, 16, rfl, by decide, inX2, (m_t1 199 rfl rfl)⟩
theorem fl_9_173 : m_FL RX9 173 2 15 := ⟨RX2, TX2, 16, rfl, by decide, inX2, (m_t1 201 rfl rfl)⟩
theorem fp_0_22 : m_FP RX0 22 0 3 := ⟨RX0, TX0, 4, tyX0, rfl, by decide, inX0, (m_t2 4 rfl rfl), tyX0_ok, nmX0, rfl, rfl⟩
theorem fl_0_9 : m_FL RX0 9 0 0 := ⟨RX0, TX0, 4, rfl, by decide, inX0, (m_t2 1 rfl rfl)⟩
theorem fl_0_15 : m_FL RX0 15 0 1 := ⟨RX0, TX0, 4, rfl, by decide, inX0, (m_t2 2 rfl rfl)⟩
theorem fl_0_19 : m_FL RX0 19 0 2 := ⟨RX0, TX0, 4, rfl, by decide, inX0, (m_t2 3 rfl rfl)⟩
theorem fl_0_22 : m_FL RX0 22 0 3 := ⟨RX0, TX0, 4, rfl, by decide, inX0, (m_t2 4 rfl rfl)⟩
theorem cv_0_26 : m_CV RX0 26 RX0 yX0_dropOldest cX0_dropOldest 2 none 0 := m_cv (m_t3 100 rfl rfl) (m_t3 101 rfl rfl) (m_t3 102 rfl rfl) (m_t1 8 rfl rfl) (m_t3 103 rfl rfl) (by decide +kernel)
theorem cv_9_176 : m_CV RX9 176 RX0 yX0_note cX0_note 4 none 3 := m_cv (m_t3 96 rfl rfl) (m_t3 97 rfl rfl) (m_t3 98 rfl rfl) (m_t1 8 rfl rfl) (m_t3 99 rfl rfl) (by decide +kernel)
theorem fl_0_34 : m_FL RX0 34 3 1 := ⟨RX3, TX3, 2, rfl, by decide, inX3, (m_t1 153 rfl rfl)⟩
theorem fl_0_29 : m_FL RX0 29 3 0 := ⟨RX3, TX3, 2, rfl, by decide, inX3, (m_t1 147 rfl rfl)⟩
theorem cv_9_180 : m_CV RX9 180 RX0 yX0_takeBack cX0_takeBack 2 (some .boolean) 1 := m_cv (m_t3 112 rfl rfl) (m_t3 113 rfl rfl) (m_t3 114 rfl rfl) (m_t1 8 rfl rfl) (m_t3 115 rfl rfl) (by decide +kernel)
theorem fl_9_184 : m_FL RX9 184 0 3 := ⟨RX0, TX0, 4, rfl, by decide, inX0, (m_t2 5 rfl rfl)⟩
theorem cv_9_187 : m_CV RX9 187 RX9 yX9_areTwo cX9_areTwo 3 (some .boolean) 2 := m_cv (m_t3 120 rfl rfl) (m_t3 122 rfl rfl) (m_ts 2 rfl rfl) (m_t1 1 rfl rfl) (m_t3 123 rfl rfl) (by decide +kernel)
theorem fl_9_50 : m_FL RX9 50 9 6 := ⟨RX9, TX9, 11, rfl, by decide, inX9, (m_t2 188 rfl rfl)⟩
theorem cv_9_191 : m_CV RX9 191 RX5 yX5_yielder cX5_yielder 10 (some .int) 4 := m_cv (m_t3 124 rfl rfl) (m_t3 48 rfl rfl) (m_t3 49 rfl rfl) (m_t1 6 rfl rfl) (m_t3 50 rfl rfl) (by decide +kernel)
theorem cv_9_195 : m_CV RX9 195 RX9 yX9_leastRule cX9_leastRule 5 (some .int) 0 := m_cv (m_t3 129 rfl rfl) (m_t3 131 rfl rfl) (m_ts 3 rfl rfl) (m_t1 1 rfl rfl) (m_t3 132 rfl rfl) (by decide +kernel)
theorem cc_3_23 : m_CC RX3 23 := ⟨(m_t3 145 rfl rfl), (m_t2 169 rfl rfl), (m_t2 168 rfl rfl), (m_t1 15 rfl rfl)⟩
theorem fl_9_42 : m_FL RX9 42 9 5 := ⟨RX9, TX9, 11, rfl, by decide, inX9, (m_t2 187 rfl rfl)⟩
theorem cv_9_198 : m_CV RX9 198 RX3 yX3_copy cX3_copy 2 none 1 := m_cv (m_t3 141 rfl rfl) (m_t3 142 rfl rfl) (m_t3 143 rfl rfl) (m_t1 5 rfl rfl) (m_t3 144 rfl rfl) (by decide +kernel)
theorem cv_9_202 : m_CV RX9 202 RX9 yX9_standExchanged cX9_standExchanged 4 (some .int) 3 := m_cv (m_t3 150 rfl rfl) (m_t3 152 rfl rfl) (m_ts 4 rfl rfl) (m_t1 1 rfl rfl) (m_t3 153 rfl rfl) (by decide +kernel)
theorem fl_9_259 : m_FL RX9 259 1 4 := ⟨RX1, TX1, 13, rfl, by decide, inX1, (m_t1 66 rfl rfl)⟩
theorem cm_9_223 : m_CM RX9 223 Lib.Math.max.name Lib.Math.max.code := ⟨(m_t3 162 rfl rfl), (m_t3 33 rfl rfl), (m_t1 17 rfl rfl), (m_t3 34 rfl rfl)⟩
theorem cv_9_206 : m_CV RX9 206 RX9 yX9_minutesToSink cX9_minutesToSink 4 (some .int) 1 := m_cv (m_t3 158 rfl rfl) (m_t3 160 rfl rfl) (m_ts 5 rfl rfl) (m_t1 1 rfl rfl) (m_t3 161 rfl rfl) (by decide +kernel)
theorem fl_9_210 : m_FL RX9 210 1 5 := ⟨RX1, TX1, 13, rfl, by decide, inX1, (m_t1 69 rfl rfl)⟩
theorem cs_9_216 : m_CS RX9 216 yX9_power cX9_power 4 (some .int) 2 := m_cs (m_t3 170 rfl rfl) (m_t3 171 rfl rfl) (m_t1 1 rfl rfl) (m_t3 172 rfl rfl) (by decide +kernel)
theorem cm_9_262 : m_CM RX9 262 Lib.Math.min.name Lib.Math.min.code := ⟨(m_t3 176 rfl rfl), (m_t3 30 rfl rfl), (m_t1 17 rfl rfl), (m_t3 31 rfl rfl)⟩
theorem cs_9_213 : m_CS RX9 213 yX9_waysToSinkLess cX9_waysToSinkLess 6 (some .int) 3 := m_cs (m_t3 167 rfl rfl) (m_t3 168 rfl rfl) (m_t1 1 rfl rfl) (m_t3 169 rfl rfl) (by decide +kernel)
theorem cs_9_220 : m_CS RX9 220 yX9_commonDivisor cX9_commonDivisor 6 (some .int) 2 := m_cs (m_t3 173 rfl rfl) (m_t3 174 rfl rfl) (m_t1 1 rfl rfl) (m_t3 175 rfl rfl) (by decide +kernel)
theorem fl_9_272 : m_FL RX9 272 1 3 := ⟨RX1, TX1, 13, rfl, by decide, inX1, (m_t1 63 rfl rfl)⟩
theorem fl_9_269 : m_FL RX9 269 1 2 := ⟨RX1, TX1, 13, rfl, by decide, inX1, (m_t1 59 rfl rfl)⟩
theorem cv_9_265 : m_CV RX9 265 RX9 yX9_standChoosing cX9_standChoosing 4 (some .int) 3 := m_cv (m_t3 185 rfl rfl) (m_t3 187 rfl rfl) (m_ts 7 rfl rfl) (m_t1 1 rfl rfl) (m_t3 188 rfl rfl) (by decide +kernel)
theorem cv_9_228 : m_CV RX9 228 RX9 yX9_isRest cX9_isRest 6 (some .boolean) 3 := m_cv (m_t3 181 rfl rfl) (m_t3 183 rfl rfl) (m_ts 6 rfl rfl) (m_t1 1 rfl rfl) (m_t3 184 rfl rfl) (by decide +kernel)
theorem fl_6_9 : m_FL RX6 9 6 0 := ⟨RX6, TX6, 3, rfl, by decide, inX6, (m_t2 22 rfl rfl)⟩
theorem fl_6_15 : m_FL RX6 15 6 1 := ⟨RX6, TX6, 3, rfl, by decide, inX6, (m_t2 24 rfl rfl)⟩
theorem cv_9_231 : m_CV RX9 231 RX6 yX6_add cX6_add 3 (some .boolean) 2 := m_cv (m_t3 193 rfl rfl) (m_t3 194 rfl rfl) (m_t3 195 rfl rfl) (m_t1 9 rfl rfl) (m_t3 196 rfl rfl) (by decide +kernel)
theorem fl_9_233 : m_FL RX9 233 6 2 := ⟨RX6, TX6, 3, rfl, by decide, inX6, (m_t2 27 rfl rfl)⟩
theorem fl_9_275 : m_FL RX9 275 6 0 := ⟨RX6, TX6, 3, rfl, by decide, inX6, (m_t2 23 rfl rfl)⟩
theorem fl_9_277 : m_FL RX9 277 6 1 := ⟨RX6, TX6, 3, rfl, by decide, inX6, (m_t2 25 rfl rfl)⟩
theorem cv_9_235 : m_CV RX9 235 RX9 yX9_fitsSightings cX9_fitsSightings 4 (some .boolean) 1 := m_cv (m_t3 205 rfl rfl) (m_t3 207 rfl rfl) (m_ts 8 rfl rfl) (m_t1 1 rfl rfl) (m_t3 208 rfl rfl) (by decide +kernel)
theorem fl_9_238 : m_FL RX9 238 2 8 := ⟨RX2, TX2, 16, rfl, by decide, inX2, (m_t1 189 rfl rfl)⟩
theorem cv_9_241 : m_CV RX9 241 RX3 yX3_draw cX3_draw 6 none 1 := m_cv (m_t3 221 rfl rfl) (m_t3 222 rfl rfl) (m_t3 223 rfl rfl) (m_t1 5 rfl rfl) (m_t3 224 rfl rfl) (by decide +kernel)
theorem fl_7_18 : m_FL RX7 18 7 2 := ⟨RX7, TX7, 3, rfl, by decide, inX7, (m_t2 43 rfl rfl)⟩
theorem fl_7_22 : m_FL RX7 22 3 0 := ⟨RX3, TX3, 2, rfl, by decide, inX3, (m_t1 145 rfl rfl)⟩
theorem fl_7_9 : m_FL RX7 9 7 0 := ⟨RX7, TX7, 3, rfl, by decide, inX7, (m_t2 41 rfl rfl)⟩
theorem cc_7_25 : m_CC RX7 25 := ⟨(m_t3 236 rfl rfl), (m_t2 169 rfl rfl), (m_t2 168 rfl rfl), (m_t1 15 rfl rfl)⟩
theorem fl_7_31 : m_FL RX7 31 3 1 := ⟨RX3, TX3, 2, rfl, by decide, inX3, (m_t1 151 rfl rfl)⟩
theorem fl_7_15 : m_FL RX7 15 7 1 := ⟨RX7, TX7, 3, rfl, by decide, inX7, (m_t2 42 rfl rfl)⟩
theorem fp_7_18 : m_FP RX7 18 7 2 := ⟨RX7, TX7, 3, tyX7, rfl, by decide, inX7, (m_t2 43 rfl rfl), tyX7_ok, nmX7, rfl, rfl⟩
theorem cv_9_245 : m_CV RX9 245 RX7 yX7_add cX7_add 2 (some .boolean) 1 := m_cv (m_t3 232 rfl rfl) (m_t3 233 rfl rfl) (m_t3 234 rfl rfl) (m_t1 10 rfl rfl) (m_t3 235 rfl rfl) (by decide +kernel)
theorem fl_9_247 : m_FL RX9 247 7 2 := ⟨RX7, TX7, 3, rfl, by decide, inX7, (m_t2 44 rfl rfl)⟩
theorem cv_9_248 : m_CV RX9 248 RX7 yX7_takeLast cX7_takeLast 2 (some .boolean) 1 := m_cv (m_t4 1 rfl rfl) (m_t4 2 rfl rfl) (m_t4 3 rfl rfl) (m_t1 10 rfl rfl) (m_t4 4 rfl rfl) (by decide +kernel)
theorem fl_9_251 : m_FL RX9 251 1 1 := ⟨RX1, TX1, 13, rfl, by decide, inX1, (m_t1 54 rfl rfl)⟩
theorem fl_10_13 : m_FL RX10 13 10 2 := ⟨RX10, TX10, 34, rfl, by decide, inX10, (m_t4 29 rfl rfl)⟩
theorem fl_10_31 : m_FL RX10 31 10 8 := ⟨RX10, TX10, 34, rfl, by decide, inX10, (m_t4 35 rfl rfl)⟩
theorem fl_10_40 : m_FL RX10 40 10 11 := ⟨RX10, TX10, 34, rfl, by decide, inX10, (m_t4 38 rfl rfl)⟩
theorem fl_10_16 : m_FL RX10 16 10 3 := ⟨RX10, TX10, 34, rfl, by decide, inX10, (m_t4 30 rfl rfl)⟩
theorem fl_10_19 : m_FL RX10 19 10 4 := ⟨RX10, TX10, 34, rfl, by decide, inX10, (m_t4 31 rfl rfl)⟩
theorem fl_10_22 : m_FL RX10 22 10 5 := ⟨RX10, TX10, 34, rfl, by decide, inX10, (m_t4 32 rfl rfl)⟩
theorem fl_10_25 : m_FL RX10 25 10 6 := ⟨RX10, TX10, 34, rfl, by decide, inX10, (m_t4 33 rfl rfl)⟩
theorem fl_10_28 : m_FL RX10 28 10 7 := ⟨RX10, TX10, 34, rfl, by decide, inX10, (m_t4 34 rfl rfl)⟩
theorem fp_10_154 : m_FP RX10 154 10 14 := ⟨RX10, TX10, 34, tyX10, rfl, by decide, inX10, (m_t4 41 rfl rfl), tyX10_ok, nmX10, rfl, rfl⟩
theorem fp_10_157 : m_FP RX10 157 10 16 := ⟨RX10, TX10, 34, tyX10, rfl, by decide, inX10, (m_t4 43 rfl rfl), tyX10_ok, nmX10, rfl, rfl⟩
theorem fp_10_160 : m_FP RX10 160 10 17 := ⟨RX10, TX10, 34, tyX10, rfl, by decide, inX10, (m_t4 44 rfl rfl), tyX10_ok, nmX10, rfl, rfl⟩
theorem fl_10_43 : m_FL RX10 43 10 12 := ⟨RX10, TX10, 34, rfl, by decide, inX10, (m_t4 39 rfl rfl)⟩
theorem cs_10_109 : m_CS RX10 109 yX10_in cX10_in 6 (some .boolean) 3 := m_cs (m_t4 136 rfl rfl) (m_t4 137 rfl rfl) (m_t1 16 rfl rfl) (m_t4 138 rfl rfl) (by decide +kernel)
theorem fl_10_113 : m_FL RX10 113 10 0 := ⟨RX10, TX10, 34, rfl, by decide, inX10, (m_t4 27 rfl rfl)⟩
theorem fl_10_7 : m_FL RX10 7 10 1 := ⟨RX10, TX10, 34, rfl, by decide, inX10, (m_t4 28 rfl rfl)⟩
theorem fp_10_113 : m_FP RX10 113 10 0 := ⟨RX10, TX10, 34, tyX10, rfl, by decide, inX10, (m_t4 27 rfl rfl), tyX10_ok, nmX10, rfl, rfl⟩
theorem fl_10_58 : m_FL RX10 58 10 21 := ⟨RX10, TX10, 34, rfl, by decide, inX10, (m_t4 48 rfl rfl)⟩
theorem fl_10_117 : m_FL RX10 117 10 20 := ⟨RX10, TX10, 34, rfl, by decide, inX10, (m_t4 47 rfl rfl)⟩
theorem fp_10_117 : m_FP RX10 117 10 20 := ⟨RX10, TX10, 34, tyX10, rfl, by decide, inX10, (m_t4 47 rfl rfl), tyX10_ok, nmX10, rfl, rfl⟩
theorem cv_10_120 : m_CV RX10 120 RX10 yX10_letterAt cX10_letterAt 2 (some .int) 1 := m_cv (m_t4 155 rfl rfl) (m_t4 157 rfl rfl) (m_ts 14 rfl rfl) (m_t1 16 rfl rfl) (m_t4 158 rfl rfl) (by decide +kernel)
theorem cv_10_98 : m_CV RX10 98 RX10 yX10_addBoat cX10_addBoat 8 none 6 := m_cv (m_t4 19 rfl rfl) (m_t4 21 rfl rfl) (m_ts 10 rfl rfl) (m_t1 16 rfl rfl) (m_t4 22 rfl rfl) (by decide +kernel)
theorem cv_10_130 : m_CV RX10 130 RX10 yX10_figures cX10_figures 5 (some .boolean) 1 := m_cv (m_t4 163 rfl rfl) (m_t4 165 rfl rfl) (m_ts 16 rfl rfl) (m_t1 16 rfl rfl) (m_t4 166 rfl rfl) (by decide +kernel)
theorem fl_10_34 : m_FL RX10 34 10 9 := ⟨RX10, TX10, 34, rfl, by decide, inX10, (m_t4 36 rfl rfl)⟩
theorem fl_10_37 : m_FL RX10 37 10 10 := ⟨RX10, TX10, 34, rfl, by decide, inX10, (m_t4 37 rfl rfl)⟩
theorem cv_10_136 : m_CV RX10 136 RX10 yX10_boatItem cX10_boatItem 2 (some .boolean) 0 := m_cv (m_t4 159 rfl rfl) (m_t4 161 rfl rfl) (m_ts 15 rfl rfl) (m_t1 16 rfl rfl) (m_t4 162 rfl rfl) (by decide +kernel)
theorem cv_10_143 : m_CV RX10 143 RX10 yX10_setLaw cX10_setLaw 4 (some .boolean) 3 := m_cv (m_t4 175 rfl rfl) (m_t4 177 rfl rfl) (m_ts 18 rfl rfl) (m_t1 16 rfl rfl) (m_t4 178 rfl rfl) (by decide +kernel)
theorem cv_10_140 : m_CV RX10 140 RX10 yX10_narrowItem cX10_narrowItem 1 (some .boolean) 0 := m_cv (m_t4 171 rfl rfl) (m_t4 173 rfl rfl) (m_ts 17 rfl rfl) (m_t1 16 rfl rfl) (m_t4 174 rfl rfl) (by decide +kernel)
theorem cv_10_147 : m_CV RX10 147 RX10 yX10_item cX10_item 2 (some .boolean) 0 := m_cv (m_t4 151 rfl rfl) (m_t4 153 rfl rfl) (m_ts 13 rfl rfl) (m_t1 16 rfl rfl) (m_t4 154 rfl rfl) (by decide +kernel)
theorem cv_10_94 : m_CV RX10 94 RX10 yX10_noCut cX10_noCut 2 none 1 := m_cv (m_t4 15 rfl rfl) (m_t4 17 rfl rfl) (m_ts 9 rfl rfl) (m_t1 16 rfl rfl) (m_t4 18 rfl rfl) (by decide +kernel)
theorem cv_10_150 : m_CV RX10 150 RX10 yX10_readAll cX10_readAll 2 (some .int) 0 := m_cv (m_t4 147 rfl rfl) (m_t4 149 rfl rfl) (m_ts 12 rfl rfl) (m_t1 16 rfl rfl) (m_t4 150 rfl rfl) (by decide +kernel)
theorem cv_10_102 : m_CV RX10 102 RX10 yX10_begin cX10_begin 2 none 0 := m_cv (m_t4 23 rfl rfl) (m_t4 25 rfl rfl) (m_ts 11 rfl rfl) (m_t1 16 rfl rfl) (m_t4 26 rfl rfl) (by decide +kernel)
theorem cv_10_163 : m_CV RX10 163 RX10 yX10_isBoat cX10_isBoat 2 (some .boolean) 1 := m_cv (m_t4 187 rfl rfl) (m_t4 189 rfl rfl) (m_ts 19 rfl rfl) (m_t1 16 rfl rfl) (m_t4 190 rfl rfl) (by decide +kernel)
theorem fl_10_61 : m_FL RX10 61 10 22 := ⟨RX10, TX10, 34, rfl, by decide, inX10, (m_t4 49 rfl rfl)⟩
theorem fl_10_67 : m_FL RX10 67 10 24 := ⟨RX10, TX10, 34, rfl, by decide, inX10, (m_t4 51 rfl rfl)⟩
theorem cv_10_168 : m_CV RX10 168 RX10 yX10_byCustom cX10_byCustom 3 (some .int) 2 := m_cv (m_t4 228 rfl rfl) (m_t4 230 rfl rfl) (m_ts 27 rfl rfl) (m_t1 16 rfl rfl) (m_t4 231 rfl rfl) (by decide +kernel)
theorem cv_10_172 : m_CV RX10 172 RX10 yX10_byLoad cX10_byLoad 3 (some .int) 2 := m_cv (m_t4 232 rfl rfl) (m_t4 234 rfl rfl) (m_ts 28 rfl rfl) (m_t1 16 rfl rfl) (m_t4 235 rfl rfl) (by decide +kernel)
theorem cv_10_175 : m_CV RX10 175 RX10 yX10_loss cX10_loss 2 (some .int) 1 := m_cv (m_t4 236 rfl rfl) (m_t4 238 rfl rfl) (m_ts 29 rfl rfl) (m_t1 16 rfl rfl) (m_t4 239 rfl rfl) (by decide +kernel)
theorem cv_10_178 : m_CV RX10 178 RX10 yX10_byRule cX10_byRule 4 (some .int) 3 := m_cv (m_t4 224 rfl rfl) (m_t4 226 rfl rfl) (m_ts 26 rfl rfl) (m_t1 16 rfl rfl) (m_t4 227 rfl rfl) (by decide +kernel)
theorem fl_10_64 : m_FL RX10 64 10 23 := ⟨RX10, TX10, 34, rfl, by decide, inX10, (m_t4 50 rfl rfl)⟩
theorem fl_10_70 : m_FL RX10 70 10 25 := ⟨RX10, TX10, 34, rfl, by decide, inX10, (m_t4 52 rfl rfl)⟩
theorem fl_10_76 : m_FL RX10 76 10 27 := ⟨RX10, TX10, 34, rfl, by decide, inX10, (m_t4 54 rfl rfl)⟩
theorem cv_10_182 : m_CV RX10 182 RX10 yX10_endOf cX10_endOf 2 (some .int) 1 := m_cv (m_t4 204 rfl rfl) (m_t4 206 rfl rfl) (m_ts 21 rfl rfl) (m_t1 16 rfl rfl) (m_t4 207 rfl rfl) (by decide +kernel)
theorem fl_10_195 : m_FL RX10 195 10 28 := ⟨RX10, TX10, 34, rfl, by decide, inX10, (m_t4 55 rfl rfl)⟩
theorem fp_10_195 : m_FP RX10 195 10 28 := ⟨RX10, TX10, 34, tyX10, rfl, by decide, inX10, (m_t4 55 rfl rfl), tyX10_ok, nmX10, rfl, rfl⟩
theorem fl_10_79 : m_FL RX10 79 10 29 := ⟨RX10, TX10, 34, rfl, by decide, inX10, (m_t4 56 rfl rfl)⟩
theorem fl_10_82 : m_FL RX10 82 10 30 := ⟨RX10, TX10, 34, rfl, by decide, inX10, (m_t4 57 rfl rfl)⟩
theorem fl_10_85 : m_FL RX10 85 10 31 := ⟨RX10, TX10, 34, rfl, by decide, inX10, (m_t4 58 rfl rfl)⟩
theorem fl_10_88 : m_FL RX10 88 10 32 := ⟨RX10, TX10, 34, rfl, by decide, inX10, (m_t4 59 rfl rfl)⟩
theorem fl_10_73 : m_FL RX10 73 10 26 := ⟨RX10, TX10, 34, rfl, by decide, inX10, (m_t4 53 rfl rfl)⟩
theorem cv_10_191 : m_CV RX10 191 RX10 yX10_standMore cX10_standMore 4 none 3 := m_cv (m_t5 4 rfl rfl) (m_t5 6 rfl rfl) (m_ts 31 rfl rfl) (m_t1 16 rfl rfl) (m_t5 7 rfl rfl) (by decide +kernel)
theorem cv_10_185 : m_CV RX10 185 RX10 yX10_yielder cX10_yielder 4 (some .int) 3 := m_cv (m_t4 220 rfl rfl) (m_t4 222 rfl rfl) (m_ts 25 rfl rfl) (m_t1 16 rfl rfl) (m_t4 223 rfl rfl) (by decide +kernel)
theorem cv_10_188 : m_CV RX10 188 RX10 yX10_isNarrow cX10_isNarrow 4 (some .boolean) 1 := m_cv (m_t5 0 rfl rfl) (m_t5 2 rfl rfl) (m_ts 30 rfl rfl) (m_t1 16 rfl rfl) (m_t5 3 rfl rfl) (by decide +kernel)
theorem cv_10_198 : m_CV RX10 198 RX10 yX10_doMeet cX10_doMeet 7 (some .boolean) 3 := m_cv (m_t4 212 rfl rfl) (m_t4 214 rfl rfl) (m_ts 23 rfl rfl) (m_t1 16 rfl rfl) (m_t4 215 rfl rfl) (by decide +kernel)
theorem cv_10_201 : m_CV RX10 201 RX10 yX10_meet cX10_meet 10 none 4 := m_cv (m_t4 216 rfl rfl) (m_t4 218 rfl rfl) (m_ts 24 rfl rfl) (m_t1 16 rfl rfl) (m_t4 219 rfl rfl) (by decide +kernel)
theorem cv_10_205 : m_CV RX10 205 RX10 yX10_goMinute cX10_goMinute 7 none 2 := m_cv (m_t4 208 rfl rfl) (m_t4 210 rfl rfl) (m_ts 22 rfl rfl) (m_t1 16 rfl rfl) (m_t4 211 rfl rfl) (by decide +kernel)
theorem cs_10_209 : m_CS RX10 209 yX10_isRule cX10_isRule 1 (some .boolean) 1 := m_cs (m_t4 196 rfl rfl) (m_t4 197 rfl rfl) (m_t1 16 rfl rfl) (m_t4 198 rfl rfl) (by decide +kernel)
theorem cv_10_214 : m_CV RX10 214 RX10 yX10_goDay cX10_goDay 4 (some .int) 1 := m_cv (m_t4 200 rfl rfl) (m_t4 202 rfl rfl) (m_ts 20 rfl rfl) (m_t1 16 rfl rfl) (m_t4 203 rfl rfl) (by decide +kernel)
theorem fl_10_154 : m_FL RX10 154 10 14 := ⟨RX10, TX10, 34, rfl, by decide, inX10, (m_t4 41 rfl rfl)⟩
theorem fl_10_46 : m_FL RX10 46 10 13 := ⟨RX10, TX10, 34, rfl, by decide, inX10, (m_t4 40 rfl rfl)⟩
theorem cv_10_219 : m_CV RX10 219 RX10 yX10_note cX10_note 2 none 0 := m_cv (m_t5 33 rfl rfl) (m_t5 35 rfl rfl) (m_ts 32 rfl rfl) (m_t1 16 rfl rfl) (m_t5 36 rfl rfl) (by decide +kernel)
theorem cv_10_224 : m_CV RX10 224 RX10 yX10_areTwo cX10_areTwo 3 (some .boolean) 2 := m_cv (m_t5 50 rfl rfl) (m_t5 52 rfl rfl) (m_ts 33 rfl rfl) (m_t1 16 rfl rfl) (m_t5 53 rfl rfl) (by decide +kernel)
theorem cv_10_228 : m_CV RX10 228 RX10 yX10_best cX10_best 6 (some .int) 1 := m_cv (m_t5 62 rfl rfl) (m_t5 55 rfl rfl) (m_t5 56 rfl rfl) (m_t1 16 rfl rfl) (m_t5 57 rfl rfl) (by decide +kernel)
theorem cv_10_231 : m_CV RX10 231 RX10 yX10_change cX10_change 4 none 2 := m_cv (m_t5 71 rfl rfl) (m_t5 73 rfl rfl) (m_ts 34 rfl rfl) (m_t1 16 rfl rfl) (m_t5 74 rfl rfl) (by decide +kernel)
theorem cv_10_234 : m_CV RX10 234 RX10 yX10_sinksIn cX10_sinksIn 2 (some .int) 1 := m_cv (m_t5 79 rfl rfl) (m_t5 81 rfl rfl) (m_ts 35 rfl rfl) (m_t1 16 rfl rfl) (m_t5 82 rfl rfl) (by decide +kernel)
theorem cs_10_241 : m_CS RX10 241 yX10_common cX10_common 5 (some .int) 2 := m_cs (m_t5 89 rfl rfl) (m_t5 90 rfl rfl) (m_t1 16 rfl rfl) (m_t5 91 rfl rfl) (by decide +kernel)
theorem cv_10_244 : m_CV RX10 244 RX10 yX10_standsBy cX10_standsBy 4 (some .int) 3 := m_cv (m_t5 96 rfl rfl) (m_t5 98 rfl rfl) (m_ts 36 rfl rfl) (m_t1 16 rfl rfl) (m_t5 99 rfl rfl) (by decide +kernel)
theorem fl_10_160 : m_FL RX10 160 10 17 := ⟨RX10, TX10, 34, rfl, by decide, inX10, (m_t4 44 rfl rfl)⟩
theorem fl_10_52 : m_FL RX10 52 10 18 := ⟨RX10, TX10, 34, rfl, by decide, inX10, (m_t4 45 rfl rfl)⟩
theorem fl_10_55 : m_FL RX10 55 10 19 := ⟨RX10, TX10, 34, rfl, by decide, inX10, (m_t4 46 rfl rfl)⟩
theorem fl_10_91 : m_FL RX10 91 10 33 := ⟨RX10, TX10, 34, rfl, by decide, inX10, (m_t4 60 rfl rfl)⟩
theorem fl_10_157 : m_FL RX10 157 10 16 := ⟨RX10, TX10, 34, rfl, by decide, inX10, (m_t4 43 rfl rfl)⟩
theorem fl_10_49 : m_FL RX10 49 10 15 := ⟨RX10, TX10, 34, rfl, by decide, inX10, (m_t4 42 rfl rfl)⟩
