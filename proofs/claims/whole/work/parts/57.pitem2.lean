theorem tk_narrow {p w u : Nat} {c d : Mm} (hg : gR p c d) (hw : w ≤ 99) (hu : u ≤ 99) (e1 : c 20 0 = nI w) (e2 : d 17 0 = nI w) (f1 : c 20 1 = nI u) (f2 : d 17 1 = nI u) : tk p c d (X4_takeNarrow c) (if d 8 1 = (3 : Int32) then some ((0 : Int32), d) else if (60 : Int32) < d 17 1 then some ((0 : Int32), d) else if d 17 0 ≤ d 17 1 then
          m_gi ((3 : Int32) + (d 8 1)) 6 <|
          m_bnd (m_st d 9 (m_ix ((3 : Int32) + (d 8 1))) (d 17 0)) fun c3 =>
          m_gi ((3 : Int32) + (c3 8 1)) 6 <|
          m_bnd (m_st c3 10 (m_ix ((3 : Int32) + (c3 8 1))) (c3 17 1)) fun c4 =>
          m_bnd (m_st c4 8 1 ((c4 8 1) + (1 : Int32))) fun c5 =>
          some ((1 : Int32), c5)
        else
          some ((0 : Int32), d)) := by
  obtain ⟨es, ⟨b, b1, b2, b3, b4⟩, ⟨m, m1, m2, m3, m4⟩, l1⟩ := hg
  unfold X4_takeNarrow
  rw [m2, m3, e1, f1, e2, f2, q_bnd]
  by_cases g1 : m = 3
  · subst g1
    rw [if_pos (show (3 : Int32) ≤ nI 3 by decide), if_pos (show nI 3 = (3 : Int32) from rfl)]
    exact Or.inl ⟨_, _, rfl, rfl, frP.rf, frQ.rf⟩
  · rw [if_neg (show ¬ (3 : Int32) ≤ nI m from q_lez (n := 3) (by omega) (by omega)), if_neg (show ¬ nI m = (3 : Int32) from fun h => g1 ((q_eqX m 3 rfl rfl (by omega) (by omega)).mp h))]
    by_cases g2 : u < w
    · rw [if_pos ((q_ltX u w rfl rfl (by omega) (by omega)).mpr g2), if_neg (show ¬ nI w ≤ nI u from q_lez g2 (by omega)), ite_self]
      exact Or.inl ⟨_, _, rfl, rfl, frP.rf, frQ.rf⟩
    · rw [if_neg (fun h => g2 ((q_ltX u w rfl rfl (by omega) (by omega)).mp h)), if_pos ((q_leX w u rfl rfl (by omega) (by omega)).mpr (by omega))]
      by_cases g3 : u ≤ 60
      · rw [if_pos (show nI u ≤ (60 : Int32) from (q_leX u 60 rfl rfl (by omega) (by omega)).mpr g3), if_neg (show ¬ (60 : Int32) < nI u from fun h => absurd ((q_ltX 60 u rfl rfl (by omega) (by omega)).mp h) (by omega))]
        rw [show (3 : Int32) + nI m = nI (3 + m) from nI_add 3 m, q_gi (by omega) (by omega), q_gi (by omega) (by omega), q_ix (by omega), q_ix (by omega), q_bnd, q_bnd, q_gi (by omega) (by omega), q_bnd, q_str (b := 20) (by omega), f1, q_bnd, q_1, q_str (b := 8) (by omega), m3, show (3 : Int32) + nI m = nI (3 + m) from nI_add 3 m, q_gi (by omega) (by omega), q_ix (by omega), q_str (b := 17) (by omega), f2, q_bnd, q_str (b := 8) (by omega), q_str (b := 8) (by omega), m3, q_1, q_bnd]
        refine Or.inr ⟨_, _, rfl, rfl, fun a x1 x2 => by rw [q_str x1, q_str (by omega), q_str (by omega)], ?_, ?_⟩
        · refine ⟨fun j _ => by rw [q_str (by omega), q_str (by omega), q_str (by omega)], by rw [q_str (by omega), q_str (by omega), q_str (by omega)], by rw [q_str (by omega), q_str (by omega), q_str (by omega)], fun a x1 x2 x _ => by rw [q_str (by omega), q_str (by omega), q_str (by omega)], by rw [q_st, if_pos rfl, if_neg (by omega), q_str (by omega), q_str (by omega)], fun a x1 x2 x hx => ?_, fun x _ => by rw [q_str (by omega), q_str (by omega), q_str (by omega)], fun a x1 x2 => by rw [q_str (by omega), q_str (by omega), q_str (by omega)]⟩
          rw [q_str (by omega)]
          have : a = 9 ∨ a = 10 := by omega
          rcases this with rfl | rfl
          · rw [q_str (by omega), q_st, if_pos rfl, if_neg (by omega)]
          · rw [q_st, if_pos rfl, if_neg (by omega), q_str (by omega)]
        · refine ⟨by rw [q_str (by omega), q_str (by omega), q_str (by omega)]; exact es, ⟨b, b1, by rw [q_st, if_pos rfl, if_neg (by omega), q_str (by omega), q_str (by omega)]; exact b2, by rw [q_str (by omega), q_str (by omega), q_str (by omega)]; exact b3, fun i hi => ?_⟩, ⟨m + 1, by omega, by rw [q_st, if_pos rfl, if_pos rfl], by rw [q_st, if_pos rfl, if_pos rfl], fun j hj => ?_⟩, ?_⟩
          · have hc : ∀ a, a ≠ 2 → a ≠ 18 → a ≠ 19 → m_st (m_st (m_st c 18 m (nI w)) 19 m (nI u)) 2 1 (nI (m + 1)) a = c a := fun a x1 x2 x3 => by rw [q_str x1, q_str x3, q_str x2]
            have hd : ∀ a, a ≠ 8 → a ≠ 9 → a ≠ 10 → m_st (m_st (m_st d 9 (3 + m) (nI w)) 10 (3 + m) (nI u)) 8 1 (nI (m + 1)) a = d a := fun a x1 x2 x3 => by rw [q_str x1, q_str x3, q_str x2]
            rw [hc 13 (by omega) (by omega) (by omega), hc 14 (by omega) (by omega) (by omega), hc 15 (by omega) (by omega) (by omega), hc 16 (by omega) (by omega) (by omega), hc 17 (by omega) (by omega) (by omega), hd 3 (by omega) (by omega) (by omega), hd 4 (by omega) (by omega) (by omega), hd 5 (by omega) (by omega) (by omega), hd 6 (by omega) (by omega) (by omega), hd 7 (by omega) (by omega) (by omega)]
            exact b4 i hi
          · have z1 : m_st (m_st (m_st c 18 m (nI w)) 19 m (nI u)) 2 1 (nI (m + 1)) 18 j = if j = m then nI w else c 18 j := by simp [q_st]
            have z2 : m_st (m_st (m_st c 18 m (nI w)) 19 m (nI u)) 2 1 (nI (m + 1)) 19 j = if j = m then nI u else c 19 j := by simp [q_st]
            have z3 : m_st (m_st (m_st d 9 (3 + m) (nI w)) 10 (3 + m) (nI u)) 8 1 (nI (m + 1)) 9 (3 + j) = if j = m then nI w else d 9 (3 + j) := by simp [q_st]
            have z4 : m_st (m_st (m_st d 9 (3 + m) (nI w)) 10 (3 + m) (nI u)) 8 1 (nI (m + 1)) 10 (3 + j) = if j = m then nI u else d 10 (3 + j) := by simp [q_st]
            rw [z1, z2, z3, z4]
            by_cases hjm : j = m
            · rw [if_pos hjm, if_pos hjm, if_pos hjm, if_pos hjm]; exact ⟨rfl, rfl⟩
            · rw [if_neg hjm, if_neg hjm, if_neg hjm, if_neg hjm]; exact m4 j (by omega)
          · have hc : ∀ x, x ≠ 1 → m_st (m_st (m_st c 18 m (nI w)) 19 m (nI u)) 2 1 (nI (m + 1)) 2 x = c 2 x := fun x hx => by rw [q_st, if_pos rfl, if_neg hx, q_str (by omega), q_str (by omega)]
            have hd : m_st (m_st (m_st d 9 (3 + m) (nI w)) 10 (3 + m) (nI u)) 8 1 (nI (m + 1)) 11 = d 11 := by rw [q_str (by omega), q_str (by omega), q_str (by omega)]
            rw [hc 2 (by omega), hc 3 (by omega), hc 4 (by omega), hc 5 (by omega), hd]
            exact l1
      · rw [if_neg (show ¬ nI u ≤ (60 : Int32) from fun h => g3 ((q_leX u 60 rfl rfl (by omega) (by omega)).mp h)), if_pos (show (60 : Int32) < nI u from (q_ltX 60 u rfl rfl (by omega) (by omega)).mpr (by omega))]
        exact Or.inl ⟨_, _, rfl, rfl, frP.rf, frQ.rf⟩
theorem tk_boat {p : Nat} {c d : Mm} (hg : gR p c d) (hx : ∀ x, x < 5 → ∃ w, w ≤ 99 ∧ c 20 x = nI w ∧ d 17 x = nI w) : tk p c d (X4_takeBoat c) (if (6 : Int32) ≤ d 2 1 then X10_boatItem_j82 d else if (60 : Int32) < d 17 0 then X10_boatItem_j82 d else if (1 : Int32) < d 17 1 then X10_boatItem_j82 d else
          m_cal (X10_in (Int32.toInt64 (d 17 2)) (1 : Int64) (3 : Int64) d) fun r4 c5 =>
          if r4 = (0 : Int32) then
            X10_boatItem_j82 c5
          else
            if (9 : Int32) < (c5 17 3) then
              X10_boatItem_j82 c5
            else
              if (3 : Int32) < (c5 17 4) then
                X10_boatItem_j82 c5
              else
                X10_boatItem_j83 (1 : Int32) c5) := by
  obtain ⟨w0, h0, c0, d0⟩ := hx 0 (by omega)
  obtain ⟨w1, h1, c1, d1⟩ := hx 1 (by omega)
  obtain ⟨w2, h2, c2, d2⟩ := hx 2 (by omega)
  obtain ⟨w3, h3, c3, d3⟩ := hx 3 (by omega)
  obtain ⟨w4, h4, c4, d4⟩ := hx 4 (by omega)
  obtain ⟨es, ⟨b, b1, b2, b3, b4⟩, ⟨m, m1, m2, m3, m4⟩, l1⟩ := hg
  have j82 : X10_boatItem_j82 d = some (0, d) := by
    unfold X10_boatItem_j82 X10_boatItem_j83
    rw [if_pos rfl, q_gb0]
  have fail : ∀ {x y : Option (Int32 × Mm)}, x = some (0, c) → y = some (0, d) → tk p c d x y := fun {x y} hx hy => Or.inl ⟨c, d, hx, hy, frP.rf, frQ.rf⟩
  have wA : ∀ {w k : Nat}, w ≤ 99 → k ≤ 99 → wn (nI w) (0 : Int32) (nI k) = if w ≤ k then 1 else 0 := by
    intro w k hw hk
    show wn (nI w) (nI 0) (nI k) = _
    rw [wnN (by omega) (by omega) (by omega)]
    by_cases g : w ≤ k
    · rw [if_pos ⟨by omega, g⟩, if_pos g]
    · rw [if_neg (fun h => g h.2), if_neg g]
  have hC : X4_takeBoat c = if 6 ≤ b then some (0, c) else if w0 ≤ 60 then (if w1 ≤ 1 then (if 1 ≤ w2 ∧ w2 ≤ 3 then (if w3 ≤ 9 then (if w4 ≤ 3 then some (1, m_st (m_st (m_st (m_st (m_st (m_st c 13 b (nI w0)) 14 b (nI w1)) 15 b (nI w2)) 16 b (nI w3)) 17 b (nI w4)) 2 0 (nI (b + 1))) else some (0, c)) else some (0, c)) else some (0, c)) else some (0, c)) else some (0, c) := by
    unfold X4_takeBoat
    rw [b2, q_bnd]
    by_cases g0 : 6 ≤ b
    · rw [if_pos g0, if_pos (show (6 : Int32) ≤ nI b from (q_leX 6 b rfl rfl (by omega) (by omega)).mpr g0)]
    · rw [if_neg g0, if_neg (show ¬ (6 : Int32) ≤ nI b from q_lez (n := 6) (by omega) (by omega)), c0, q_isW, q_cal, show wn (nI w0) 0 60 = wn (nI w0) 0 (nI 60) from rfl, wA h0 (by omega), c1, q_isW, q_cal, show wn (nI w1) 0 1 = wn (nI w1) 0 (nI 1) from rfl, wA h1 (by omega), c2, q_isW, q_cal, show wn (nI w2) 1 3 = wn (nI w2) (nI 1) (nI 3) from rfl, wnN (by omega) (by omega) (by omega), c3, q_isW, q_cal, show wn (nI w3) 0 9 = wn (nI w3) 0 (nI 9) from rfl, wA h3 (by omega), c4, q_isW, q_cal, show wn (nI w4) 0 3 = wn (nI w4) 0 (nI 3) from rfl, wA h4 (by omega)]
      by_cases g1 : w0 ≤ 60
      · rw [if_pos g1, if_pos g1, if_neg ne10]
        by_cases g2 : w1 ≤ 1
        · rw [if_pos g2, if_pos g2, if_neg ne10]
          by_cases g3 : 1 ≤ w2 ∧ w2 ≤ 3
          · rw [if_pos g3, if_pos g3, if_neg ne10]
            by_cases g4 : w3 ≤ 9
            · rw [if_pos g4, if_pos g4, if_neg ne10]
              by_cases g5 : w4 ≤ 3
              · rw [if_pos g5, if_pos g5, if_neg ne10]
                simp only [q_gi (show b < 6 by omega) (show 6 < 2147483648 by omega), q_ix (show b < 2147483648 by omega), q_bnd, q_1]
                simp only [q_str (b := 20) (a := 13) (by decide), q_str (b := 20) (a := 14) (by decide), q_str (b := 20) (a := 15) (by decide), q_str (b := 20) (a := 16) (by decide), c0, c1, c2, c3, c4]
              · rw [if_neg g5, if_neg g5, if_pos rfl]
            · rw [if_neg g4, if_neg g4, if_pos rfl]
          · rw [if_neg g3, if_neg g3, if_pos rfl]
        · rw [if_neg g2, if_neg g2, if_pos rfl]
      · rw [if_neg g1, if_neg g1, if_pos rfl]
  have hD : (if (6 : Int32) ≤ d 2 1 then X10_boatItem_j82 d else if (60 : Int32) < d 17 0 then X10_boatItem_j82 d else if (1 : Int32) < d 17 1 then X10_boatItem_j82 d else
          m_cal (X10_in (Int32.toInt64 (d 17 2)) (1 : Int64) (3 : Int64) d) fun r4 c5 =>
          if r4 = (0 : Int32) then
            X10_boatItem_j82 c5
          else
            if (9 : Int32) < (c5 17 3) then
              X10_boatItem_j82 c5
            else
              if (3 : Int32) < (c5 17 4) then
                X10_boatItem_j82 c5
              else
                X10_boatItem_j83 (1 : Int32) c5) = if 6 ≤ b then some (0, d) else if w0 ≤ 60 then (if w1 ≤ 1 then (if 1 ≤ w2 ∧ w2 ≤ 3 then (if w3 ≤ 9 then (if w4 ≤ 3 then X10_boatItem_j83 1 d else some (0, d)) else some (0, d)) else some (0, d)) else some (0, d)) else some (0, d) := by
    rw [b3, d0, d1, d2, q_inN (nI w2) 1 3 (by omega) (by omega), q_cal, d3, d4, j82, show wn (nI w2) (OfNat.ofNat 1) (OfNat.ofNat 3) = wn (nI w2) (nI 1) (nI 3) from rfl, wnN (by omega) (by omega) (by omega)]
    have k0 : (60 : Int32) < nI w0 ↔ 60 < w0 := q_ltX 60 w0 rfl rfl (by omega) (by omega)
    have k1 : (1 : Int32) < nI w1 ↔ 1 < w1 := q_ltX 1 w1 rfl rfl (by omega) (by omega)
    have k3 : (9 : Int32) < nI w3 ↔ 9 < w3 := q_ltX 9 w3 rfl rfl (by omega) (by omega)
    have k4 : (3 : Int32) < nI w4 ↔ 3 < w4 := q_ltX 3 w4 rfl rfl (by omega) (by omega)
    by_cases g0 : 6 ≤ b
    · rw [if_pos g0, if_pos (show (6 : Int32) ≤ nI b from (q_leX 6 b rfl rfl (by omega) (by omega)).mpr g0)]
    · rw [if_neg g0, if_neg (show ¬ (6 : Int32) ≤ nI b from q_lez (n := 6) (by omega) (by omega))]
      by_cases g1 : w0 ≤ 60
      · rw [if_pos g1, if_neg (fun h => absurd (k0.mp h) (by omega))]
        by_cases g2 : w1 ≤ 1
        · rw [if_pos g2, if_neg (fun h => absurd (k1.mp h) (by omega))]
          by_cases g3 : 1 ≤ w2 ∧ w2 ≤ 3
          · rw [if_pos g3, if_pos g3, if_neg ne10]
            by_cases g4 : w3 ≤ 9
            · rw [if_pos g4, if_neg (fun h => absurd (k3.mp h) (by omega))]
              by_cases g5 : w4 ≤ 3
              · rw [if_pos g5, if_neg (fun h => absurd (k4.mp h) (by omega))]
              · rw [if_neg g5, if_pos (k4.mpr (by omega))]
            · rw [if_neg g4, if_pos (k3.mpr (by omega))]
          · rw [if_neg g3, if_neg g3, if_pos rfl]
        · rw [if_neg g2, if_pos (k1.mpr (by omega))]
      · rw [if_neg g1, if_pos (k0.mpr (by omega))]
  rw [hC, hD]
  by_cases g0 : 6 ≤ b
  · rw [if_pos g0, if_pos g0]; exact fail rfl rfl
  rw [if_neg g0, if_neg g0]
  by_cases g1 : w0 ≤ 60
  · rw [if_pos g1, if_pos g1]
    by_cases g2 : w1 ≤ 1
    · rw [if_pos g2, if_pos g2]
      by_cases g3 : 1 ≤ w2 ∧ w2 ≤ 3
      · rw [if_pos g3, if_pos g3]
        by_cases g4 : w3 ≤ 9
        · rw [if_pos g4, if_pos g4]
          by_cases g5 : w4 ≤ 3
          · rw [if_pos g5, if_pos g5]
            have hj : X10_boatItem_j83 1 d = some (1, m_st (m_st (m_st (m_st (m_st (m_st d 3 (6 + b) (nI w0)) 4 (6 + b) (nI w1)) 5 (6 + b) (nI w2)) 6 (6 + b) (nI w3)) 7 (6 + b) (nI w4)) 2 1 (nI (b + 1))) := by
              unfold X10_boatItem_j83 X10_addBoat
              have g1' : ∀ {K : Option Mm}, m_gi (1 : Int32) 2 K = K := q_gi (n := 1) (by omega) (by omega)
              have x1' : m_ix (1 : Int32) = 1 := q_ix (n := 1) (by omega)
              have gb : ∀ {K : Option Mm}, m_gi (nI (6 + b)) 12 K = K := q_gi (by omega) (by omega)
              have xb : m_ix (nI (6 + b)) = 6 + b := q_ix (by omega)
              rw [if_neg ne10, g1', x1', b3, show (6 : Int32) * 1 + nI b = nI (6 + b) from nI_add 6 b, q_bnd]
              simp only [gb, xb, g1', q_bnd, q_cav, q_gb1]
              rw [d0, d1, d2, d3, d4, q_str (b := 2) (by omega), q_str (b := 2) (by omega), q_str (b := 2) (by omega), q_str (b := 2) (by omega), q_str (b := 2) (by omega), b3, q_1]
            rw [hj]
            refine Or.inr ⟨_, _, rfl, rfl, fun a x1 x2 => by rw [q_str x1, q_str (by omega), q_str (by omega), q_str (by omega), q_str (by omega), q_str (by omega)], ?_, ?_⟩
            · refine ⟨fun j _ => by simp [q_st], by funext x; simp [q_st], by simp [q_st], fun a x1 x2 x hx => ?_, by simp [q_st], fun a x1 x2 x _ => ?_, fun x _ => by simp [q_st], fun a x1 x2 => ?_⟩
              · have hne : ¬ x = 6 + b := by omega
                simp only [q_st, if_neg hne, if_neg (show ¬ a = 2 by omega)]
                have : a = 3 ∨ a = 4 ∨ a = 5 ∨ a = 6 ∨ a = 7 := by omega
                rcases this with rfl | rfl | rfl | rfl | rfl <;> simp
              · rw [q_str (by omega), q_str (by omega), q_str (by omega), q_str (by omega), q_str (by omega), q_str (by omega)]
              · rw [q_str (by omega), q_str (by omega), q_str (by omega), q_str (by omega), q_str (by omega), q_str (by omega)]
            · refine ⟨by simp [q_st]; exact es, ⟨b + 1, by omega, by simp [q_st], by simp [q_st], fun i hi => ?_⟩, ⟨m, m1, by simp [q_st]; exact m2, by simp [q_st]; exact m3, fun j hj => by simp [q_st]; exact m4 j hj⟩, by simp [q_st]; exact l1⟩
              by_cases hib : i = b
              · subst hib
                simp [q_st]
                exact ⟨⟨w0, by omega, g1, rfl⟩, ⟨w1, by omega, g2, rfl⟩, ⟨w2, g3.1, g3.2, rfl⟩, ⟨w3, by omega, g4, rfl⟩, ⟨w4, by omega, g5, rfl⟩⟩
              · have h6 : ¬ 6 + i = 6 + b := by omega
                simp [q_st, hib]
                exact b4 i (by omega)
          · rw [if_neg g5, if_neg g5]; exact fail rfl rfl
        · rw [if_neg g4, if_neg g4]; exact fail rfl rfl
      · rw [if_neg g3, if_neg g3]; exact fail rfl rfl
    · rw [if_neg g2, if_neg g2]; exact fail rfl rfl
  · rw [if_neg g1, if_neg g1]; exact fail rfl rfl
