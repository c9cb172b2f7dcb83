/-- arriving: the program -/
theorem arr_C {nb m : Nat} {c : Mm} (h6 : nb ≤ 6) (hm : m ≤ 120) (e4 : c 4 0 = nI nb) (e10 : c 8 10 = nI (cn (c 35) nb)) : ∃ c', X2_arrive (nI m) c = some c' ∧ (∀ a, a ≠ 8 → a ≠ 35 → c' a = c a) ∧ (∀ j, j ≠ 10 → c' 8 j = c 8 j) ∧ c' 8 10 = nI (cn (c' 35) nb) ∧ (∀ x, x < nb → c' 35 x = if c 35 x = -4 ∧ c 33 x = en (c 22 x) then nI m else c 35 x) ∧ ((∀ x, x < nb → c 35 x ≠ -4) → c' = c) := by
  have key := q_for (ρ := Unit) (F := fun _ => X2_arrive_b2 (nI m)) (k := fun _ c => some c) nb (fun i c' => (∀ a, a ≠ 8 → a ≠ 35 → c' a = c a) ∧ (∀ j, j ≠ 10 → c' 8 j = c 8 j) ∧ c' 8 10 = nI (cn (c' 35) nb) ∧ (∀ x, x < i → c' 35 x = if c 35 x = -4 ∧ c 33 x = en (c 22 x) then nI m else c 35 x) ∧ (∀ x, i ≤ x → c' 35 x = c 35 x) ∧ ((∀ x, x < nb → c 35 x ≠ -4) → c' = c)) ?_ ?_ nb 0 c 1000 (by omega) (by omega) ⟨fun _ _ _ => rfl, fun _ _ => rfl, e10, fun x h => absurd h (by omega), fun _ _ => rfl, fun _ => rfl⟩
  · obtain ⟨c', ⟨h1, h2, h3, h4, -, h5⟩, h7⟩ := key
    exact ⟨c', h7 (), h1, h2, h3, h4, h5⟩
  · rintro i c' hi ⟨h1, h2, h3, h4, h5, h7⟩
    have hle : ¬ nI nb ≤ nI i := fun h => absurd ((q_leX nb i rfl rfl (by omega) (by omega)).mp h) (by omega)
    have e35 : c' 35 i = c 35 i := h5 i (by omega)
    have step : ∀ r, X2_arrive_b2 (nI m) r (nI i) c' = r (nI (i + 1)) (if c 35 i = -4 ∧ c 33 i = en (c 22 i) then m_st (m_st c' 35 i (nI m)) 8 10 (c' 8 10 - 1) else c') := by
      intro r
      unfold X2_arrive_b2 X2_arrive_j49
      rw [h1 4 (by omega) (by omega), e4, if_neg hle, q_gi (by omega) (by omega), q_ix (by omega), e35, q_atEnd (by omega), q_cal, h1 33 (by omega) (by omega), h1 22 (by omega) (by omega)]
      by_cases g1 : c 35 i = -4
      · rw [if_pos g1]
        by_cases g2 : c 33 i = en (c 22 i)
        · rw [if_pos g2, if_neg ne10, if_pos ⟨g1, g2⟩, q_gi (by omega) (by omega), q_bnd, q_bnd, q_bnd, q_str (by decide), q_1]
        · rw [if_neg g2, if_pos rfl, if_neg (fun h => g2 h.2), q_bnd, q_1]
      · rw [if_neg g1, if_neg (fun h => g1 h.1), q_bnd, q_1]
    refine ⟨_, ?_, fun _ r => step r⟩
    by_cases g : c 35 i = -4 ∧ c 33 i = en (c 22 i)
    · rw [if_pos g]
      refine ⟨fun a g1 g2 => by rw [q_str g1, q_str g2]; exact h1 a g1 g2, fun j hj => by rw [q_st, if_pos rfl, if_neg hj, q_str (by decide)]; exact h2 j hj, ?_, fun x hx => ?_, fun x hx => ?_, fun hall => absurd g.1 (hall i hi)⟩
      · rw [q_st, if_pos rfl, if_pos rfl, q_str (by decide), h3]
        have hc := cn_up (f := c' 35) (f' := m_st c' 35 i (nI m) 35) hi (by rw [e35]; exact g.1) (by rw [q_st, if_pos rfl, if_pos rfl]; exact q_m4 (by omega)) (fun x _ hx => by rw [q_st, if_pos rfl, if_neg hx])
        rw [← hc, q_m1 (by omega)]
        rfl
      · rw [q_str (by decide), q_st, if_pos rfl]
        by_cases hxi : x = i
        · subst hxi; rw [if_pos rfl, if_pos g]
        · rw [if_neg hxi]; exact h4 x (by omega)
      · rw [q_str (by decide), q_st, if_pos rfl, if_neg (by omega)]; exact h5 x (by omega)
    · rw [if_neg g]
      refine ⟨h1, h2, h3, fun x hx => ?_, fun x hx => h5 x (by omega), h7⟩
      by_cases hxi : x = i
      · subst hxi; rw [if_neg g]; exact e35
      · exact h4 x (by omega)
  · rintro c' ⟨h1, -⟩ _ r
    show X2_arrive_b2 (nI m) r (nI nb) c' = _
    unfold X2_arrive_b2
    rw [h1 4 (by omega) (by omega), e4, if_pos ((q_leX nb nb rfl rfl (by omega) (by omega)).mpr (by omega))]
/-- arriving: the reference -/
theorem arr_D {nb m : Nat} {d : Mm} (h6 : nb ≤ 6) (hm : m ≤ 120) (e4 : d 2 0 = nI nb) (ha : ∀ x, x < nb → d 20 x = -4 ∨ rg (d 20 x) 0 120) : ∃ d', X10_goMinute_j218 (nI m) d = some d' ∧ (∀ a, a ≠ 20 → d' a = d a) ∧ (∀ x, x < nb → d' 20 x = if d 20 x = -4 ∧ d 18 (6 * m + x) = en (d 4 x) then nI m else d 20 x) := by
  have key := q_for (ρ := Unit) (F := fun _ => X10_goMinute_b220 (nI m)) (k := fun _ c => some c) nb (fun i d' => (∀ a, a ≠ 20 → d' a = d a) ∧ (∀ x, x < i → d' 20 x = if d 20 x = -4 ∧ d 18 (6 * m + x) = en (d 4 x) then nI m else d 20 x) ∧ (∀ x, i ≤ x → d' 20 x = d 20 x)) ?_ ?_ nb 0 d 1000 (by omega) (by omega) ⟨fun _ _ => rfl, fun x h => absurd h (by omega), fun _ _ => rfl⟩
  · obtain ⟨d', ⟨h1, h2, -⟩, h7⟩ := key
    exact ⟨d', h7 (), h1, h2⟩
  · rintro i d' hi ⟨h1, h4, h5⟩
    have hle : ¬ nI nb ≤ nI i := fun h => absurd ((q_leX nb i rfl rfl (by omega) (by omega)).mp h) (by omega)
    have e20 : d' 20 i = d 20 i := h5 i (by omega)
    have step : ∀ r, X10_goMinute_b220 (nI m) r (nI i) d' = r (nI (i + 1)) (m_st d' 20 i (if d 20 i = -4 ∧ d 18 (6 * m + i) = en (d 4 i) then nI m else d 20 i)) := by
      intro r
      unfold X10_goMinute_b220 X10_goMinute_j267 X10_goMinute_j273
      rw [h1 2 (by omega), e4, if_neg hle, q_gi (by omega) (by omega), q_ix (by omega), e20, q_6m, q_gi (by omega) (by omega), q_ix (by omega), q_endOf (by omega), q_cal, h1 18 (by omega), h1 4 (by omega), q_gi (by omega) (by omega), q_gi (by omega) (by omega), q_gi (by omega) (by omega)]
      have hai := ar_iff (ha i hi)
      by_cases g1 : d 20 i = -4
      · rw [if_neg (fun h => hai.mp h g1)]
        by_cases g2 : d 18 (6 * m + i) = en (d 4 i)
        · rw [if_pos g2, if_pos ⟨g1, g2⟩, q_bnd, q_bnd, q_1]
        · rw [if_neg g2, if_neg (fun h => g2 h.2), q_bnd, q_bnd, q_1, q_gi (by omega) (by omega), q_gi (by omega) (by omega), e20]
      · rw [if_pos (hai.mpr g1), if_neg (fun h => g1 h.1), q_bnd, q_bnd, q_1]
    refine ⟨_, ⟨fun a g1 => by rw [q_str g1]; exact h1 a g1, fun x hx => ?_, fun x hx => ?_⟩, fun _ r => step r⟩
    · rw [q_st, if_pos rfl]
      by_cases hxi : x = i
      · subst hxi; rw [if_pos rfl]
      · rw [if_neg hxi]; exact h4 x (by omega)
    · rw [q_st, if_pos rfl, if_neg (by omega)]; exact h5 x (by omega)
  · rintro d' ⟨h1, -⟩ _ r
    show X10_goMinute_b220 (nI m) r (nI nb) d' = _
    unfold X10_goMinute_b220
    rw [h1 2 (by omega), e4, if_pos ((q_leX nb nb rfl rfl (by omega) (by omega)).mpr (by omega))]
