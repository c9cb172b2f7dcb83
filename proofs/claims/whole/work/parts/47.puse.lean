/-! calls that ask about a day -/
theorem day120 {c d : Mm} (h : Rel c d) {r : Nat} (hr : r ≤ 3) : ∃ nb k S c' d', (1 ≤ nb ∧ nb ≤ 6 ∧ c 4 0 = nI nb ∧ d 2 0 = nI nb) ∧ X2_run 5 (nI r) (120 : Int32) c = some (S, c') ∧ X10_goDay (nI r) d = some (S, d') ∧ Rel c' d' ∧ frC c c' ∧ frD d d' ∧ k ≤ 15 ∧ mS nb k c' d' ∧ c' 4 0 = nI nb ∧ d' 2 0 = nI nb ∧ ∀ i, i < nb → c' 35 i = d' 20 i ∧ c' 36 i = d' 21 i ∧ c' 37 i = d' 22 i ∧ c' 38 i = d' 23 i := by
  obtain ⟨ht, nb, h1, h2, h3, h4, h5⟩ := id h
  obtain ⟨S, d', x1, x2, x3⟩ := day_both (pk := 5) (Or.inl rfl) hr h1 h2
  obtain ⟨c', y1, y2, y3, y4⟩ := x3 120 (by omega)
  obtain ⟨⟨z1, k, z2, z3⟩, z4⟩ := y4 rfl
  have h1' := h1.fd y2 x2
  refine ⟨nb, k, S, c', d', h1.1, by rw [← z4]; exact y1, x1, h.fd (fun a g1 g2 => y2 a g1 (by omega)) x2, y2, x2, z2, z3, h1'.1.2.2.1, h1'.1.2.2.2, z1⟩
theorem s_where (v1 v2 v3 : Int32) (c d : Mm) (h : Rel c d) : ∃ (r : Int32) (c1 d1 : Mm), X9_where v1 v2 v3 c = some (r, c1) ∧ X10_where v1 v2 v3 d = some (r, d1) ∧ Rel c1 d1 := by
  obtain ⟨ht, nb, h1, h2, h3, h4, h5⟩ := id h
  obtain ⟨⟨b1, b2, b3, b4⟩, -⟩ := id h1
  unfold X9_where X10_where
  rw [q_isRule, q_cal, q_isRuleM, q_cal]
  rcases q_small (hi := 3) (n := 3) rfl v1 with h0 | ⟨h0, r, hr, rfl⟩
  · rw [if_pos h0, if_pos h0]; exact fin_ rfl rfl rfl h
  · rw [h0, if_neg ne10, if_neg ne10, q_isBoat b3 b1, q_cal, q_isBoatM b4 b1, q_cal]
    rcases q_boat b1 b2 v2 with h0 | ⟨h0, i, hi, rfl⟩
    · rw [if_pos h0, if_pos h0]; exact fin_ rfl rfl rfl h
    · rw [h0, if_neg ne10, if_neg ne10, q_isW, q_cal, q_inN v3 0 120 (by omega) (by omega), q_cal]
      rcases q_small (hi := 120) (n := 120) rfl v3 with h0 | ⟨h0, T, hT, rfl⟩
      · rw [if_pos h0, if_pos h0]; exact fin_ rfl rfl rfl h
      · obtain ⟨S, d', x1, x2, x3⟩ := day_both (pk := 5) (Or.inl rfl) hr h1 h2
        obtain ⟨c', y1, y2, y3, -⟩ := x3 T hT
        rw [h0, if_neg ne10, if_neg ne10, y1, q_cal, x1, q_cal, q_6m, q_gi (by omega) (by omega), q_gi (by omega) (by omega), q_ix (by omega), q_ix (by omega)]
        exact fin_ rfl rfl (y3 i hi) (h.fd (fun a g1 g2 => y2 a g1 (by omega)) x2)
theorem s_there (v1 v2 : Int32) (c d : Mm) (h : Rel c d) : ∃ (r : Int32) (c1 d1 : Mm), X9_there v1 v2 c = some (r, c1) ∧ X10_there v1 v2 d = some (r, d1) ∧ Rel c1 d1 := by
  unfold X9_there X10_there
  rw [q_isRule, q_cal, q_isRuleM, q_cal]
  rcases q_small (hi := 3) (n := 3) rfl v1 with h0 | ⟨h0, r, hr, rfl⟩
  · rw [if_pos h0, if_pos h0]; exact fin_ rfl rfl rfl h
  · obtain ⟨nb, k, S, c', d', ⟨b1, b2, b3, b4⟩, x1, x2, x3, x4, x5, x6, x7, x8, x9, x10⟩ := day120 h hr
    rw [h0, if_neg ne10, if_neg ne10, q_isBoat b3 b1, q_cal, q_isBoatM b4 b1, q_cal]
    rcases q_boat b1 b2 v2 with h0 | ⟨h0, i, hi, rfl⟩
    · rw [if_pos h0, if_pos h0]; exact fin_ rfl rfl rfl h
    · rw [h0, if_neg ne10, if_neg ne10, x1, q_cal, x2, q_cal, q_gi (by omega) (by omega), q_gi (by omega) (by omega), q_ix (by omega)]
      exact fin_ rfl rfl (x10 i hi).1 x3
theorem s_yields (v1 v2 : Int32) (c d : Mm) (h : Rel c d) : ∃ (r : Int32) (c1 d1 : Mm), X9_yields v1 v2 c = some (r, c1) ∧ X10_yields v1 v2 d = some (r, d1) ∧ Rel c1 d1 := by
  unfold X9_yields X10_yields
  rw [q_isRule, q_cal, q_isRuleM, q_cal]
  rcases q_small (hi := 3) (n := 3) rfl v1 with h0 | ⟨h0, r, hr, rfl⟩
  · rw [if_pos h0, if_pos h0]; exact fin_ rfl rfl rfl h
  · obtain ⟨nb, k, S, c', d', ⟨b1, b2, b3, b4⟩, x1, x2, x3, x4, x5, x6, x7, x8, x9, x10⟩ := day120 h hr
    rw [h0, if_neg ne10, if_neg ne10, q_isBoat b3 b1, q_cal, q_isBoatM b4 b1, q_cal]
    rcases q_boat b1 b2 v2 with h0 | ⟨h0, i, hi, rfl⟩
    · rw [if_pos h0, if_pos h0]; exact fin_ rfl rfl rfl h
    · rw [h0, if_neg ne10, if_neg ne10, x1, q_cal, x2, q_cal, q_gi (by omega) (by omega), q_gi (by omega) (by omega), q_ix (by omega)]
      exact fin_ rfl rfl (x10 i hi).2.2.1 x3
theorem s_starts (v1 v2 : Int32) (c d : Mm) (h : Rel c d) : ∃ (r : Int32) (c1 d1 : Mm), X9_starts v1 v2 c = some (r, c1) ∧ X10_starts v1 v2 d = some (r, d1) ∧ Rel c1 d1 := by
  unfold X9_starts X10_starts
  rw [q_isRule, q_cal, q_isRuleM, q_cal]
  rcases q_small (hi := 3) (n := 3) rfl v1 with h0 | ⟨h0, r, hr, rfl⟩
  · rw [if_pos h0, if_pos h0]; exact fin_ rfl rfl rfl h
  · obtain ⟨nb, k, S, c', d', ⟨b1, b2, b3, b4⟩, x1, x2, x3, x4, x5, x6, x7, x8, x9, x10⟩ := day120 h hr
    rw [h0, if_neg ne10, if_neg ne10, q_isBoat b3 b1, q_cal, q_isBoatM b4 b1, q_cal]
    rcases q_boat b1 b2 v2 with h0 | ⟨h0, i, hi, rfl⟩
    · rw [if_pos h0, if_pos h0]; exact fin_ rfl rfl rfl h
    · rw [h0, if_neg ne10, if_neg ne10, x1, q_cal, x2, q_cal, q_gi (by omega) (by omega), q_gi (by omega) (by omega), q_ix (by omega)]
      exact fin_ rfl rfl (x10 i hi).2.2.2 x3
theorem s_stands (v1 v2 : Int32) (c d : Mm) (h : Rel c d) : ∃ (r : Int32) (c1 d1 : Mm), X9_stands v1 v2 c = some (r, c1) ∧ X10_stands v1 v2 d = some (r, d1) ∧ Rel c1 d1 := by
  unfold X9_stands X10_stands X9_stands_j22 X10_stands_j22
  rw [q_isRule, q_cal, q_isRuleM, q_cal]
  rcases q_small (hi := 3) (n := 3) rfl v1 with h0 | ⟨h0, r, hr, rfl⟩
  · rw [if_pos h0, if_pos h0]; exact fin_ rfl rfl rfl h
  · obtain ⟨nb, k, S, c', d', ⟨b1, b2, b3, b4⟩, x1, x2, x3, x4, x5, x6, x7, x8, x9, x10⟩ := day120 h hr
    rw [h0, if_neg ne10, if_neg ne10, q_isBoat b3 b1, q_cal, q_isBoatM b4 b1, q_cal, x1, q_cal, x2, q_cal]
    by_cases hm : v2 = -1
    · rw [if_pos hm, if_pos hm, if_pos hm, if_neg (by rw [hm]; decide)]
      exact fin_ rfl rfl rfl x3
    · rw [if_neg hm, if_neg hm, if_neg hm]
      rcases q_boat b1 b2 v2 with h0 | ⟨h0, i, hi, rfl⟩
      · rw [if_pos h0, if_pos h0]; exact fin_ rfl rfl rfl h
      · rw [h0, if_neg ne10, if_neg ne10, if_pos (q_ge0 (by omega)), q_gi (by omega) (by omega), q_gi (by omega) (by omega), q_ix (by omega)]
        exact fin_ rfl rfl (x10 i hi).2.1 x3
theorem s_meetings (v1 : Int32) (c d : Mm) (h : Rel c d) : ∃ (r : Int32) (c1 d1 : Mm), X9_meetings v1 c = some (r, c1) ∧ X10_meetings v1 d = some (r, d1) ∧ Rel c1 d1 := by
  unfold X9_meetings X10_meetings
  rw [q_isRule, q_cal, q_isRuleM, q_cal]
  rcases q_small (hi := 3) (n := 3) rfl v1 with h0 | ⟨h0, r, hr, rfl⟩
  · rw [if_pos h0, if_pos h0]; exact fin_ rfl rfl rfl h
  · obtain ⟨nb, k, S, c', d', ⟨b1, b2, b3, b4⟩, x1, x2, x3, x4, x5, x6, ⟨m1, m2, -⟩, x8, x9, x10⟩ := day120 h hr
    rw [h0, if_neg ne10, if_neg ne10, x1, q_cal, x2, q_cal]
    exact fin_ rfl rfl (m1.trans m2.symm) x3
theorem s_meeting (v1 v2 v3 : Int32) (c d : Mm) (h : Rel c d) : ∃ (r : Int32) (c1 d1 : Mm), X9_meeting v1 v2 v3 c = some (r, c1) ∧ X10_meeting v1 v2 v3 d = some (r, d1) ∧ Rel c1 d1 := by
  unfold X9_meeting X10_meeting
  rw [q_isRule, q_cal, q_isRuleM, q_cal]
  rcases q_small (hi := 3) (n := 3) rfl v1 with h0 | ⟨h0, r, hr, rfl⟩
  · rw [if_pos h0, if_pos h0]; exact fin_ rfl rfl rfl h
  · obtain ⟨nb, k, S, c', d', ⟨b1, b2, b3, b4⟩, x1, x2, x3, x4, x5, x6, ⟨m1, m2, m3, -⟩, x8, x9, x10⟩ := day120 h hr
    rw [h0, if_neg ne10, if_neg ne10, q_inN v3 0 3 (by omega) (by omega), q_cal, x1, q_cal, x2, q_cal, m1, m2, q_isW, q_cal]
    have hidx : wn v2 0 (nI k - 1) = 0 ∨ (wn v2 0 (nI k - 1) = 1 ∧ ∃ i, i < k ∧ v2 = nI i) := by
      by_cases hk : k = 0
      · subst hk
        refine Or.inl (wn_0 ?_)
        rintro ⟨g1, g2⟩
        have g3 := Int32.le_iff_toInt_le.mp g1
        have g4 := Int32.le_iff_toInt_le.mp g2
        have e1 : (0 : Int32).toInt = 0 := by decide
        have e2 : (nI 0 - 1).toInt = -1 := by decide
        omega
      · rw [q_m1 (by omega)]
        rcases q_small (hi := nI (k - 1)) (n := k - 1) (nI_toInt (by omega)) v2 with g | ⟨g, i, hi, e⟩
        · exact Or.inl g
        · exact Or.inr ⟨g, i, by omega, e⟩
    rcases q_small (hi := 3) (n := 3) rfl v3 with h0 | ⟨h0, w, hw, rfl⟩
    · rw [if_pos h0]
      have hne : ∀ k, k ≤ 3 → ¬ v3 = nI k := wn_not (by omega) rfl h0
      rw [if_neg (show ¬ v3 = 0 from hne 0 (by omega)), if_neg (show ¬ v3 = 1 from hne 1 (by omega)), if_neg (show ¬ v3 = 2 from hne 2 (by omega)), if_neg (show ¬ v3 = 3 from hne 3 (by omega)), ite_self]
      exact fin_ rfl rfl rfl (h.fd (fun a g1 g2 => x4 a g1 (by omega)) frD.rf)
    · rw [h0, if_neg ne10, q_inM v2 (nI k - 1) 0 (by omega), q_cal]
      rcases hidx with g | ⟨g, i, hi, rfl⟩
      · rw [if_pos g, if_pos (show wn v2 (OfNat.ofNat 0) (nI k - 1) = 0 from g)]
        exact fin_ rfl rfl rfl x3
      · rw [g, if_neg ne10, if_neg ne10]
        simp only [q_gi (show i < 15 by omega) (show 15 < 2147483648 by omega), q_ix (show i < 2147483648 by omega)]
        obtain ⟨t1, t2, t3, t4⟩ := m3 i hi
        match w, hw with
        | 0, _ => exact fin_ rfl rfl t1 x3
        | 1, _ => exact fin_ rfl rfl t2 x3
        | 2, _ => exact fin_ rfl rfl t3 x3
        | 3, _ => exact fin_ rfl rfl t4 x3
        | w + 4, hw => exact absurd hw (by omega)
theorem s_bears (v1 v2 : Int32) (c d : Mm) (h : Rel c d) : ∃ (r : Int32) (c1 d1 : Mm), X9_bears v1 v2 c = some (r, c1) ∧ X10_bears v1 v2 d = some (r, d1) ∧ Rel c1 d1 := by
  unfold X9_bears X10_bears
  rw [q_isRule, q_cal, q_isRuleM, q_cal]
  rcases q_small (hi := 3) (n := 3) rfl v1 with h0 | ⟨h0, r, hr, rfl⟩
  · rw [if_pos h0, if_pos h0]; exact fin_ rfl rfl rfl h
  · obtain ⟨nb, k, S, c', d', ⟨b1, b2, b3, b4⟩, x1, x2, x3, x4, x5, x6, x7, x8, x9, x10⟩ := day120 h hr
    rw [h0, if_neg ne10, if_neg ne10, q_isW, q_cal, q_inN v2 0 9 (by omega) (by omega), q_cal]
    rcases q_small (hi := 9) (n := 9) rfl v2 with h0 | ⟨h0, v, hv, rfl⟩
    · rw [if_pos h0, if_pos h0]; exact fin_ rfl rfl rfl h
    · rw [h0, if_neg ne10, if_neg ne10, x1, q_cal, x2, q_cal]
      have key := q_sim2 (ρ := Unit) (σ := Unit) (F := fun _ => X9_bears_b39 (nI v)) (G := fun _ => X10_bears_b32 (nI v)) (k := fun _ a c => some (a, c)) (l := fun _ a c => some (a, c)) nb (fun _ a c2 b d2 => a = b ∧ c2 = c' ∧ d2 = d') ?_ ?_ nb 0 0 c' 0 d' 1000 1000 (by omega) (by omega) (by omega) ⟨rfl, rfl, rfl⟩
      · obtain ⟨a, c2, b, d2, ⟨rfl, rfl, rfl⟩, k1, k2⟩ := key
        exact fin_ (k1 ()) (k2 ()) rfl x3
      · rintro i a c2 b d2 hi ⟨rfl, rfl, rfl⟩
        have e := (x10 i hi).2.2.2
        refine ⟨if nI v < d2 23 i then a else a ||| ((1 : Int32) <<< (nI i &&& (31 : Int32))), c2, _, d2, ⟨rfl, rfl, rfl⟩, fun _ r => ?_, fun _ r => ?_⟩
        · show X9_bears_b39 (nI v) r a (nI i) c2 = _
          unfold X9_bears_b39 X9_bears_j72
          rw [x8, if_neg (q_lez hi (by omega)), q_gi (by omega) (by omega), q_ix (by omega), e]
          by_cases g : nI v < d2 23 i
          · rw [if_pos g, if_pos g, q_bnd, q_1]
          · rw [if_neg g, if_neg g, q_bnd, q_bnd, q_1]
        · show X10_bears_b32 (nI v) r a (nI i) d2 = _
          unfold X10_bears_b32 X10_bears_j63
          rw [x9, if_neg (q_lez hi (by omega)), q_gi (by omega) (by omega), q_ix (by omega)]
          by_cases g : nI v < d2 23 i
          · rw [if_pos g, if_pos g, q_bnd, q_bnd, q_1, Int32.or_zero]
          · rw [if_neg g, if_neg g, q_bnd, q_bnd, q_1]
      · rintro a c2 b d2 ⟨rfl, rfl, rfl⟩
        refine ⟨fun _ r => ?_, fun _ r => ?_⟩
        · show X9_bears_b39 (nI v) r a (nI nb) c2 = _
          unfold X9_bears_b39
          rw [x8, if_pos (q_les (by omega))]
        · show X10_bears_b32 (nI v) r a (nI nb) d2 = _
          unfold X10_bears_b32
          rw [x9, if_pos (q_les (by omega))]
