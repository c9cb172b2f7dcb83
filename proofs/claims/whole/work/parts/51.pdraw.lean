/-! drawn days -/
def drN (a i : Nat) : Nat := (7919 * a + 6151 * i + 1) * (7919 * a + 6151 * i + 1) % 65521
theorem q_draw {a i : Nat} (ha : a ≤ 9999) (hi : i ≤ 5) : Int64.toInt32 (((((7919 : Int64) * (Int32.toInt64 (nI a))) + ((6151 : Int64) * (Int32.toInt64 (nI i)))) + (1 : Int64)) * ((((7919 : Int64) * (Int32.toInt64 (nI a))) + ((6151 : Int64) * (Int32.toInt64 (nI i)))) + (1 : Int64)) - ((((7919 : Int64) * (Int32.toInt64 (nI a))) + ((6151 : Int64) * (Int32.toInt64 (nI i)))) + (1 : Int64)) * ((((7919 : Int64) * (Int32.toInt64 (nI a))) + ((6151 : Int64) * (Int32.toInt64 (nI i)))) + (1 : Int64)) / (65521 : Int64) * (65521 : Int64)) = nI (drN a i) := by
  have hx : (7919 : Int64) * (Int32.toInt64 (nI a)) + (6151 : Int64) * (Int32.toInt64 (nI i)) + (1 : Int64) = lN (7919 * a + 6151 * i + 1) := by
    rw [nI_l (by omega), nI_l (by omega), show (7919 : Int64) = lN 7919 from rfl, show (6151 : Int64) = lN 6151 from rfl, lN_mul, lN_mul, lN_add, lN_1]
  have hb : (7919 * a + 6151 * i + 1) * (7919 * a + 6151 * i + 1) ≤ 80000000 * 80000000 := Nat.mul_le_mul (by omega) (by omega)
  rw [hx, lN_mul, show (65521 : Int64) = lN 65521 from rfl, pk_lRem (by omega) (by omega) (by omega), lN_i]
  rfl
theorem drN_lt (a i : Nat) : drN a i < 65521 := Nat.mod_lt _ (by omega)
theorem q_drD {n : Nat} (h : n < 65521) : nI n - nI n / (31 : Int32) * (31 : Int32) = nI (n % 31) := by
  rw [show (31 : Int32) = nI 31 from rfl, pk_rem (by omega) (by omega) (by omega)]
theorem q_drL {n : Nat} (h : n < 65521) : nI n / (64 : Int32) - nI n / (64 : Int32) / (10 : Int32) * (10 : Int32) = nI (n / 64 % 10) := by
  rw [show (64 : Int32) = nI 64 from rfl, show (10 : Int32) = nI 10 from rfl, pk_div (by omega) (by omega) (by omega), pk_rem (by omega) (by omega) (by omega)]
theorem draw_C {a : Nat} {c : Mm} (ha : a ≤ 9999) : ∃ c', X3_draw (nI a) c = some c' ∧ (∀ b, b ≠ 30 → b ≠ 31 → c' b = c b) ∧ ∀ x, x < 6 → c' 30 x = nI (drN a x / 64 % 10) ∧ c' 31 x = nI (drN a x % 31) := by
  have key := q_for (ρ := Unit) (F := fun _ => X3_draw_b2 (nI a)) (k := fun _ c => some c) 6 (fun i c' => (∀ b, b ≠ 30 → b ≠ 31 → c' b = c b) ∧ ∀ x, x < i → c' 30 x = nI (drN a x / 64 % 10) ∧ c' 31 x = nI (drN a x % 31)) ?_ ?_ 6 0 c 1000 (by omega) (by omega) ⟨fun _ _ _ => rfl, fun x h => absurd h (by omega)⟩
  · obtain ⟨c', ⟨h1, h2⟩, h3⟩ := key
    exact ⟨c', h3 (), h1, h2⟩
  · rintro i c' hi ⟨h1, h2⟩
    refine ⟨m_st (m_st c' 31 i (nI (drN a i % 31))) 30 i (nI (drN a i / 64 % 10)), ⟨fun b g1 g2 => by rw [q_str g1, q_str g2]; exact h1 b g1 g2, fun x hx => ?_⟩, fun _ r => ?_⟩
    · by_cases hxi : x = i
      · subst hxi; simp [q_st]
      · simp [q_st, hxi]; exact h2 x (by omega)
    · show X3_draw_b2 (nI a) r (nI i) c' = _
      unfold X3_draw_b2
      rw [if_neg (show ¬ (6 : Int32) ≤ nI i from q_lez (n := 6) hi (by omega)), q_bnd, q_bnd, q_draw ha (by omega), q_drD (drN_lt a i), q_drL (drN_lt a i), q_gi (by omega) (by omega), q_bnd, q_gi (by omega) (by omega), q_bnd, q_bnd, q_ix (by omega), q_1]
  · rintro c' - _ r
    show X3_draw_b2 (nI a) r (nI 6) c' = _
    unfold X3_draw_b2
    rw [if_pos (by decide)]
theorem draw_D {a : Nat} {d : Mm} (v1 v3 : Int32) (ha : a ≤ 9999) : ∃ d', X10_day_j61 v1 (nI a) v3 d = X10_day_j137 v1 v3 d' ∧ (∀ b, b ≠ 12 → d' b = d b) ∧ (∀ x, x < 6 → d' 12 x = nI (drN a x / 64 % 10) ∧ d' 12 (6 + x) = nI (drN a x % 31)) ∧ ∀ x, 12 ≤ x → d' 12 x = d 12 x := by
  have key := q_for (ρ := Unit) (F := fun _ => X10_day_b64 v1 (nI a) v3) (k := fun _ => X10_day_j137 v1 v3) 6 (fun i d' => (∀ b, b ≠ 12 → d' b = d b) ∧ (∀ x, x < i → d' 12 x = nI (drN a x / 64 % 10) ∧ d' 12 (6 + x) = nI (drN a x % 31)) ∧ ∀ x, 12 ≤ x → d' 12 x = d 12 x) ?_ ?_ 6 0 d 1000 (by omega) (by omega) ⟨fun _ _ => rfl, fun x h => absurd h (by omega), fun _ _ => rfl⟩
  · obtain ⟨d', ⟨h1, h2, h2'⟩, h3⟩ := key
    exact ⟨d', h3 (), h1, h2, h2'⟩
  · rintro i d' hi ⟨h1, h2, h2'⟩
    refine ⟨m_st (m_st d' 12 i (nI (drN a i / 64 % 10))) 12 (6 + i) (nI (drN a i % 31)), ⟨fun b g1 => by rw [q_str g1, q_str g1]; exact h1 b g1, fun x hx => ?_, fun x hx => by rw [q_st, if_pos rfl, if_neg (by omega), q_st, if_pos rfl, if_neg (by omega)]; exact h2' x hx⟩, fun _ r => ?_⟩
    · rw [q_st, if_pos rfl, if_neg (by omega), q_st, if_pos rfl, q_st, if_pos rfl, q_st, if_pos rfl]
      by_cases hxi : x = i
      · subst hxi; rw [if_pos rfl, if_pos rfl]; exact ⟨rfl, rfl⟩
      · rw [if_neg hxi, if_neg (by omega), if_neg (by omega)]; exact h2 x (by omega)
    · show X10_day_b64 v1 (nI a) v3 r (nI i) d' = _
      unfold X10_day_b64
      rw [if_neg (show ¬ (6 : Int32) ≤ nI i from q_lez (n := 6) hi (by omega)), q_bnd, q_bnd, q_draw ha (by omega), q_drD (drN_lt a i), q_drL (drN_lt a i), q_gi (by omega) (by omega), q_bnd, q_6, q_gi (by omega) (by omega), q_bnd, q_bnd, q_ix (by omega), q_ix (by omega), q_1]
  · rintro d' - _ r
    show X10_day_b64 v1 (nI a) v3 r (nI 6) d' = _
    unfold X10_day_b64
    rw [if_pos (by decide)]
theorem save_D {d : Mm} (v1 v2 v3 : Int32) : ∃ d', m_lp1 (X10_day_b34 v1 v2 v3) 1000 (0 : Int32) d = X10_day_j61 v1 v2 v3 d' ∧ (∀ b, b ≠ 28 → d' b = d b) ∧ ∀ x, x < 12 → d' 28 x = d 12 x := by
  have key := q_for (ρ := Unit) (F := fun _ => X10_day_b34 v1 v2 v3) (k := fun _ => X10_day_j61 v1 v2 v3) 12 (fun i d' => (∀ b, b ≠ 28 → d' b = d b) ∧ ∀ x, x < i → d' 28 x = d 12 x) ?_ ?_ 12 0 d 1000 (by omega) (by omega) ⟨fun _ _ => rfl, fun x h => absurd h (by omega)⟩
  · obtain ⟨d', ⟨h1, h2⟩, h3⟩ := key
    exact ⟨d', h3 (), h1, h2⟩
  · rintro i d' hi ⟨h1, h2⟩
    refine ⟨m_st d' 28 i (d 12 i), ⟨fun b g1 => by rw [q_str g1]; exact h1 b g1, fun x hx => ?_⟩, fun _ r => ?_⟩
    · rw [q_st, if_pos rfl]
      by_cases hxi : x = i
      · rw [if_pos hxi, hxi]
      · rw [if_neg hxi]; exact h2 x (by omega)
    · show X10_day_b34 v1 v2 v3 r (nI i) d' = _
      unfold X10_day_b34
      rw [if_neg (show ¬ (12 : Int32) ≤ nI i from q_lez (n := 12) hi (by omega)), q_gi (by omega) (by omega), q_gi (by omega) (by omega), q_bnd, q_bnd, q_ix (by omega), q_1, h1 12 (by omega)]
  · rintro d' - _ r
    show X10_day_b34 v1 v2 v3 r (nI 12) d' = _
    unfold X10_day_b34
    rw [if_pos (by decide)]
theorem rest_D {d : Mm} (v3 v4 : Int32) : ∃ d', m_lp1 (X10_day_b147 v3 v4) 1000 (0 : Int32) d = X10_day_j174 v3 v4 d' ∧ (∀ b, b ≠ 12 → d' b = d b) ∧ (∀ x, x < 12 → d' 12 x = d 28 x) ∧ ∀ x, 12 ≤ x → d' 12 x = d 12 x := by
  have key := q_for (ρ := Unit) (F := fun _ => X10_day_b147 v3 v4) (k := fun _ => X10_day_j174 v3 v4) 12 (fun i d' => (∀ b, b ≠ 12 → d' b = d b) ∧ (∀ x, x < i → d' 12 x = d 28 x) ∧ ∀ x, 12 ≤ x → d' 12 x = d 12 x) ?_ ?_ 12 0 d 1000 (by omega) (by omega) ⟨fun _ _ => rfl, fun x h => absurd h (by omega), fun _ _ => rfl⟩
  · obtain ⟨d', ⟨h1, h2, h2'⟩, h3⟩ := key
    exact ⟨d', h3 (), h1, h2, h2'⟩
  · rintro i d' hi ⟨h1, h2, h2'⟩
    refine ⟨m_st d' 12 i (d 28 i), ⟨fun b g1 => by rw [q_str g1]; exact h1 b g1, fun x hx => ?_, fun x hx => ?_⟩, fun _ r => ?_⟩
    · rw [q_st, if_pos rfl]
      by_cases hxi : x = i
      · rw [if_pos hxi, hxi]
      · rw [if_neg hxi]; exact h2 x (by omega)
    · rw [q_st, if_pos rfl, if_neg (by omega)]; exact h2' x hx
    · show X10_day_b147 v3 v4 r (nI i) d' = _
      unfold X10_day_b147
      rw [if_neg (show ¬ (12 : Int32) ≤ nI i from q_lez (n := 12) hi (by omega)), q_gi (by omega) (by omega), q_gi (by omega) (by omega), q_bnd, q_bnd, q_ix (by omega), q_1, h1 28 (by omega)]
  · rintro d' - _ r
    show X10_day_b147 v3 v4 r (nI 12) d' = _
    unfold X10_day_b147
    rw [if_pos (by decide)]
theorem s_day (v1 v2 v3 : Int32) (c d : Mm) (h : Rel c d) : ∃ (r : Int32) (c1 d1 : Mm), X9_day v1 v2 v3 c = some (r, c1) ∧ X10_day v1 v2 v3 d = some (r, d1) ∧ Rel c1 d1 := by
  obtain ⟨ht, nb, h1, h2, h3, h4, h5⟩ := id h
  obtain ⟨⟨b1, b2, b3, b4⟩, -⟩ := id h1
  unfold X9_day X10_day
  rw [q_isRule, q_cal, q_isRuleM, q_cal]
  rcases q_small (hi := 3) (n := 3) rfl v1 with h0 | ⟨h0, r, hr, rfl⟩
  · rw [if_pos h0, if_pos h0]; exact fin_ rfl rfl rfl h
  rw [h0, if_neg ne10, if_neg ne10, q_isW, q_cal, q_inN v2 0 9999 (by omega) (by omega), q_cal]
  rcases q_small (hi := 9999) (n := 9999) rfl v2 with h0 | ⟨h0, a, ha, rfl⟩
  · rw [if_pos h0, if_pos h0]; exact fin_ rfl rfl rfl h
  rw [h0, if_neg ne10, if_neg ne10, q_isW, q_cal, q_inN v3 0 1 (by omega) (by omega), q_cal]
  rcases q_small (hi := 1) (n := 1) rfl v3 with h0 | ⟨h0, t, ht1, rfl⟩
  · rw [if_pos h0, if_pos h0]; exact fin_ rfl rfl rfl h
  obtain ⟨c1, p1, p2, p3⟩ := draw_C (c := c) ha
  obtain ⟨d1, q1, q2, q3⟩ := save_D (d := d) (nI r) (nI a) (nI t)
  obtain ⟨d2, q4, q5, q6, q6'⟩ := draw_D (d := d1) (nI r) (nI t) ha
  have hC : cRel nb c1 d2 := h1.fr (fun x hx => p2 x (by rintro rfl; revert hx; decide) (by rintro rfl; revert hx; decide)) (fun x hx => by rw [q5 x (by rintro rfl; revert hx; decide), q2 x (by rintro rfl; revert hx; decide)])
  have hP : pRel 6 nb c1 d2 := by
    intro x hx
    obtain ⟨z1, z2⟩ := p3 x (by omega)
    obtain ⟨z3, z4⟩ := q6 x (by omega)
    refine ⟨⟨(show c1 30 x = _ from z1).trans z3.symm, ?_⟩, (show c1 31 x = _ from z2).trans z4.symm, ?_⟩
    · rw [z3]; exact ⟨_, by omega, by omega, rfl⟩
    · rw [z4]; exact ⟨_, by omega, by omega, rfl⟩
  obtain ⟨S, d3, w1, w2, w3⟩ := day_both (pk := 6) (Or.inr rfl) hr hC hP
  obtain ⟨c3, w4, w5, -, w6⟩ := w3 120 (by omega)
  obtain ⟨⟨-, k, -, m1, m2, -⟩, w7⟩ := w6 rfl
  obtain ⟨d4, y1, y2, y3, y4⟩ := rest_D (d := d3) (nI t) S
  have hR : Rel c3 d4 := by
    refine h.fr (fun x g1 => by rw [w5 x (by omega) (by omega), p2 x (by omega) (by omega)]) (fun x g1 g2 => ?_) (fun j hj => by rw [y2 0 (by omega), w2.2 j (by omega), q5 0 (by omega), q2 0 (by omega)])
    by_cases hx : x = 12
    · subst hx
      funext z
      by_cases hz : z < 12
      · rw [y3 z hz, w2.1 28 (by omega) (by omega), q5 28 (by omega)]; exact q3 z hz
      · rw [y4 z (by omega), w2.1 12 (by omega) (by omega), q6' z (by omega), q2 12 (by omega)]
    · rw [y2 x hx, w2.1 x g1 (by omega), q5 x hx, q2 x (by omega)]
  rw [h0, if_neg ne10, if_neg ne10, p1, q_cav, show X2_run 6 (nI r) 120 c1 = some (S, c3) by rw [← w7]; exact w4, q_cal, q1, q4]
  unfold X10_day_j137
  rw [w1, q_cal, y1]
  unfold X10_day_j174
  by_cases ht0 : nI t = 0
  · rw [if_pos ht0, if_pos ht0]; exact fin_ rfl rfl rfl hR
  · rw [if_neg ht0, if_neg ht0]; exact fin_ rfl rfl (by rw [y2 0 (by omega), m1, m2]) hR
