/-! who gives way -/
theorem cust_both {pk nb : Nat} {c d : Mm} (h1 : cRel nb c d) (h2 : pRel pk nb c d) {i j : Nat} (hi : i < nb) (hj : j < nb) : ∃ y, X5_byCustom pk (nI i) (nI j) c = some (y, c) ∧ X10_byCustom (nI i) (nI j) d = some (y, d) ∧ (y = nI i ∨ y = nI j) := by
  obtain ⟨⟨b1, b2, b3, b4⟩, -, -, -, -, -, hb⟩ := h1
  obtain ⟨-, ⟨w1, -⟩, -, k1, -⟩ := hb i hi
  obtain ⟨-, ⟨w2, -⟩, -, k2, -⟩ := hb j hj
  obtain ⟨⟨l1, -⟩, -⟩ := h2 i hi
  obtain ⟨⟨l2, -⟩, -⟩ := h2 j hj
  have g1 : ∀ {k : Option (Int32 × Mm)}, m_gi (nI i) 6 k = k := q_gi (by omega) (by omega)
  have g2 : ∀ {k : Option (Int32 × Mm)}, m_gi (nI j) 6 k = k := q_gi (by omega) (by omega)
  have g3 : ∀ {k : Option (Int32 × Mm)}, m_gi (nI i) 12 k = k := q_gi (by omega) (by omega)
  have g4 : ∀ {k : Option (Int32 × Mm)}, m_gi (nI j) 12 k = k := q_gi (by omega) (by omega)
  have x1 : m_ix (nI i) = i := q_ix (by omega)
  have x2 : m_ix (nI j) = j := q_ix (by omega)
  have e10 : ¬ (1 : Int32) = 0 := by decide
  have e01 : ¬ (0 : Int32) = 1 := by decide
  simp only [X5_byCustom, X5_byCustom_j18, X5_byCustom_j40, X5_byCustom_j68, X5_byCustom_j86, X10_byCustom, X10_byCustom_j15, X10_byCustom_j30, X10_byCustom_j63, X10_byCustom_j77, g1, g2, g3, g4, x1, x2, k1, k2, l1, l2, w1]
  by_cases a1 : d 7 i = 1 <;> by_cases a2 : d 7 j = 1 <;> simp only [a1, a2, e10, e01, if_true, if_false]
  all_goals first
    | exact ⟨_, rfl, rfl, Or.inl rfl⟩
    | exact ⟨_, rfl, rfl, Or.inr rfl⟩
    | (by_cases a3 : d 12 i = 0 <;> by_cases a4 : d 12 j = 0 <;> simp only [a3, a4, e10, e01, if_true, if_false]
       all_goals first
         | exact ⟨_, rfl, rfl, Or.inl rfl⟩
         | exact ⟨_, rfl, rfl, Or.inr rfl⟩
         | (by_cases a5 : d 4 i = 1 <;> simp only [a5, e10, e01, if_true, if_false]
            · exact ⟨_, rfl, rfl, Or.inl rfl⟩
            · exact ⟨_, rfl, rfl, Or.inr rfl⟩))
theorem loss_inj {Y a b : Nat} (h : (Y + a) * (a + 1) = (Y + b) * (b + 1)) : a = b := by
  rcases Nat.lt_trichotomy a b with h1 | h1 | h1
  · have := Nat.mul_lt_mul'' (show Y + a < Y + b by omega) (show a + 1 < b + 1 by omega); omega
  · exact h1
  · have := Nat.mul_lt_mul'' (show Y + b < Y + a by omega) (show b + 1 < a + 1 by omega); omega
theorem q_loss {Y a : Nat} : (nI Y + nI a) * (nI a + 1) = nI ((Y + a) * (a + 1)) := by
  rw [nI_add, q_1, pk_mul]
theorem rule_both {pk nb : Nat} {c d : Mm} (h1 : cRel nb c d) (h2 : pRel pk nb c d) {i j r : Nat} (hi : i < nb) (hj : j < nb) (hr : r ≤ 3) : ∃ y, (m_cal (X5_weight pk (nI r) (nI i) c) fun r1 c2 => m_cal (X5_weight pk (nI r) (nI j) c2) fun r3 c4 => if r1 = r3 then m_cal (X5_byCustom pk (nI i) (nI j) c4) fun r5 c6 => some (r5, c6) else if r3 ≤ r1 then some (nI j, c4) else some (nI i, c4)) = some (y, c) ∧ X10_byRule (nI r) (nI i) (nI j) d = some (y, d) ∧ (y = nI i ∨ y = nI j) := by
  obtain ⟨y0, f1, f2, f3⟩ := cust_both h1 h2 hi hj
  obtain ⟨⟨b1, b2, b3, b4⟩, -, ⟨lw, Y, hY1, hY9, lY⟩, -, -, -, hb⟩ := h1
  obtain ⟨-, -, ⟨p1, -⟩, -⟩ := hb i hi
  obtain ⟨-, -, ⟨p2, -⟩, -⟩ := hb j hj
  obtain ⟨⟨l1, a, -, ha, la⟩, -⟩ := h2 i hi
  obtain ⟨⟨l2, b, -, hb', lb⟩, -⟩ := h2 j hj
  have g1 : ∀ {k : Option (Int32 × Mm)}, m_gi (nI i) 6 k = k := q_gi (by omega) (by omega)
  have g2 : ∀ {k : Option (Int32 × Mm)}, m_gi (nI j) 6 k = k := q_gi (by omega) (by omega)
  have g3 : ∀ {k : Option (Int32 × Mm)}, m_gi (nI i) 12 k = k := q_gi (by omega) (by omega)
  have g4 : ∀ {k : Option (Int32 × Mm)}, m_gi (nI j) 12 k = k := q_gi (by omega) (by omega)
  have x1 : m_ix (nI i) = i := q_ix (by omega)
  have x2 : m_ix (nI j) = j := q_ix (by omega)
  match r, hr with
  | 0, _ =>
    have e : nI 0 = (0 : Int32) ∧ ¬ (0 : Int32) = (1 : Int32) ∧ ¬ (0 : Int32) = (2 : Int32) ∧ ¬ (0 : Int32) = (3 : Int32) := by decide
    simp only [X5_weight, X10_byRule, e, if_true, if_false, q_cal, f1, f2]
    exact ⟨_, rfl, rfl, f3⟩
  | 1, _ =>
    have e : nI 1 = (1 : Int32) ∧ ¬ nI 1 = (0 : Int32) := by decide
    simp only [X5_weight, X10_byRule, X10_byLoad, e.1, e.2, if_true, if_false, g1, g2, g3, g4, x1, x2, l1, l2, q_cal, f1, f2, ne10]
    by_cases a1 : d 12 i = d 12 j
    · rw [if_pos a1, if_pos a1]; exact ⟨_, rfl, rfl, f3⟩
    · rw [if_neg a1, if_neg a1]
      by_cases a2 : d 12 j ≤ d 12 i
      · rw [if_pos a2, if_pos a2]; exact ⟨_, rfl, rfl, Or.inr rfl⟩
      · rw [if_neg a2, if_neg a2]; exact ⟨_, rfl, rfl, Or.inl rfl⟩
  | 2, _ =>
    have e : nI 2 = (2 : Int32) ∧ ¬ (2 : Int32) = (0 : Int32) ∧ ¬ (2 : Int32) = (1 : Int32) := by decide
    simp only [X5_weight, X10_byRule, e, if_true, if_false, g1, g2, g3, g4, x1, x2, p1, p2, q_cal, f1, f2]
    by_cases a1 : d 5 i = d 5 j
    · rw [if_pos a1, if_pos a1]; exact ⟨_, rfl, rfl, f3⟩
    · rw [if_neg a1, if_neg a1]
      by_cases a2 : d 5 j ≤ d 5 i
      · rw [if_pos a2, if_pos a2]; exact ⟨_, rfl, rfl, Or.inr rfl⟩
      · rw [if_neg a2, if_neg a2]; exact ⟨_, rfl, rfl, Or.inl rfl⟩
  | 3, _ =>
    have e : nI 3 = (3 : Int32) ∧ ¬ (3 : Int32) = (0 : Int32) ∧ ¬ (3 : Int32) = (1 : Int32) ∧ ¬ (3 : Int32) = (2 : Int32) := by decide
    simp only [X5_weight, X10_byRule, X10_byLoad, X10_loss, e, if_true, if_false, g1, g2, g3, g4, x1, x2, l1, l2, lw, lY, la, lb, q_loss, q_cal, f1, f2]
    have hA : (Y + a) * (a + 1) ≤ 18 * 10 := Nat.mul_le_mul (by omega) (by omega)
    have hB : (Y + b) * (b + 1) ≤ 18 * 10 := Nat.mul_le_mul (by omega) (by omega)
    by_cases a1 : a = b
    · subst a1
      simp only [if_true]
      exact ⟨_, rfl, rfl, f3⟩
    · rw [if_neg (fun h => a1 (loss_inj ((nI_eq (by omega) (by omega)).mp h))), if_neg (fun h => a1 (loss_inj ((nI_eq (by omega) (by omega)).mp h)))]
      by_cases a2 : nI ((Y + b) * (b + 1)) ≤ nI ((Y + a) * (a + 1))
      · rw [if_pos a2, if_pos a2]; exact ⟨_, rfl, rfl, Or.inr rfl⟩
      · rw [if_neg a2, if_neg a2]; exact ⟨_, rfl, rfl, Or.inl rfl⟩
theorem yield_both {pk nb : Nat} {c d : Mm} (h1 : cRel nb c d) (h2 : pRel pk nb c d) {i j r : Nat} (hi : i < nb) (hj : j < nb) (hr : r ≤ 3) : ∃ y, X5_yielder pk (nI r) (nI i) (nI j) c = some (y, c) ∧ X10_yielder (nI r) (nI i) (nI j) d = some (y, d) ∧ (y = -4 ∨ y = nI i ∨ y = nI j) := by
  obtain ⟨y0, f1, f2, f3⟩ := rule_both h1 h2 hi hj hr
  obtain ⟨⟨b1, b2, b3, b4⟩, -, -, -, -, -, hb⟩ := h1
  obtain ⟨-, -, -, k1, -⟩ := hb i hi
  obtain ⟨-, -, -, k2, -⟩ := hb j hj
  have g1 : ∀ {k : Option (Int32 × Mm)}, m_gi (nI i) 6 k = k := q_gi (by omega) (by omega)
  have g2 : ∀ {k : Option (Int32 × Mm)}, m_gi (nI j) 6 k = k := q_gi (by omega) (by omega)
  have g3 : ∀ {k : Option (Int32 × Mm)}, m_gi (nI i) 12 k = k := q_gi (by omega) (by omega)
  have g4 : ∀ {k : Option (Int32 × Mm)}, m_gi (nI j) 12 k = k := q_gi (by omega) (by omega)
  have x1 : m_ix (nI i) = i := q_ix (by omega)
  have x2 : m_ix (nI j) = j := q_ix (by omega)
  have e10 : ¬ (1 : Int32) = 0 := by decide
  have e01 : ¬ (0 : Int32) = 1 := by decide
  simp only [X5_yielder, X5_yielder_j18, X5_yielder_j39, X5_yielder_j54, X5_yielder_j64, X5_yielder_j94, X5_yielder_j117, X10_yielder, X10_yielder_j20, X10_yielder_j71, X10_yielder_j86, g1, g2, g3, g4, x1, x2, k1, k2]
  by_cases a1 : d 7 i = 2 <;> by_cases a2 : d 7 j = 2 <;> simp only [a1, a2, e10, e01, if_true, if_false]
  · exact ⟨_, rfl, rfl, Or.inl rfl⟩
  · rw [if_neg (fun e => a2 e.symm)]
    exact ⟨_, rfl, rfl, Or.inr (Or.inr rfl)⟩
  · exact ⟨_, rfl, rfl, Or.inr (Or.inl rfl)⟩
  · by_cases a3 : d 7 i = 3 <;> by_cases a4 : d 7 j = 3 <;> simp only [a3, a4, e10, e01, if_true, if_false]
    · rw [f1, f2]; exact ⟨_, rfl, rfl, Or.inr f3⟩
    · exact ⟨_, rfl, rfl, Or.inr (Or.inl rfl)⟩
    · exact ⟨_, rfl, rfl, Or.inr (Or.inr rfl)⟩
    · rw [f1, f2]; exact ⟨_, rfl, rfl, Or.inr f3⟩
theorem s_who (v1 v2 v3 : Int32) (c d : Mm) (h : Rel c d) : ∃ (r : Int32) (c1 d1 : Mm), X9_who v1 v2 v3 c = some (r, c1) ∧ X10_who v1 v2 v3 d = some (r, d1) ∧ Rel c1 d1 := by
  obtain ⟨ht, nb, h1, h2, h3, h4, h5⟩ := id h
  obtain ⟨⟨b1, b2, b3, b4⟩, -, -, -, -, -, hb⟩ := id h1
  unfold X9_who X10_who
  rw [q_isRule, q_cal, q_isRuleM, q_cal]
  rcases q_small (hi := 3) (n := 3) rfl v1 with h0 | ⟨h0, r, hr, rfl⟩
  · rw [if_pos h0, if_pos h0]; exact fin_ rfl rfl rfl h
  · rw [h0, if_neg ne10, if_neg ne10, q_two b3 b1, q_cal, q_twoM b4 b1, q_cal]
    rcases two_cases b1 b2 v2 v3 with h0 | ⟨h0, i, j, hi, hj, hij, rfl, rfl⟩
    · rw [if_pos h0, if_pos h0]; exact fin_ rfl rfl rfl h
    · obtain ⟨y, f1, f2, -⟩ := yield_both h1 h2 hi hj hr
      rw [h0, if_neg ne10, if_neg ne10, q_gi (by omega) (by omega), q_gi (by omega) (by omega), q_gi (by omega) (by omega), q_gi (by omega) (by omega), q_ix (by omega), q_ix (by omega), (hb i hi).2.1.1, (hb j hj).2.1.1, f1, f2]
      by_cases hw : d 4 i = d 4 j
      · rw [if_pos hw, if_pos hw]; exact fin_ rfl rfl rfl h
      · rw [if_neg hw, if_neg hw]; exact fin_ rfl rfl rfl h
