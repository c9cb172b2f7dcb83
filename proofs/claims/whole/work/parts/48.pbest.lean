/-! the least day -/
def DV (r : Nat) (d : Mm) (S : Int32) : Prop := ∃ dx, X10_goDay (nI r) d = some (S, dx)
theorem DV.un {r : Nat} {d : Mm} {S T : Int32} (h1 : DV r d S) (h2 : DV r d T) : S = T := by
  obtain ⟨x, hx⟩ := h1
  obtain ⟨y, hy⟩ := h2
  rw [hx] at hy
  exact (Prod.mk.inj (Option.some.inj hy)).1
theorem Rel.ff {c c' d d' : Mm} (h : Rel c d) (hc : frC c c') (hd : frD d d') : Rel c' d' := h.fd (fun a g1 g2 => hc a g1 (by omega)) hd
theorem run_val {c d : Mm} (h : Rel c d) {r : Nat} (hr : r ≤ 3) {S : Int32} (hS : DV r d S) : ∃ c', X2_run 5 (nI r) (120 : Int32) c = some (S, c') ∧ frC c c' := by
  obtain ⟨nb, k, T, c', d', -, x1, x2, x3, x4, -⟩ := day120 h hr
  have : T = S := DV.un ⟨d', x2⟩ hS
  subst this
  exact ⟨c', x1, x4⟩
theorem day_val {c d d0 : Mm} (h : Rel c d) (h0 : Rel c d0) {r : Nat} (hr : r ≤ 3) : ∃ S c' d', DV r d0 S ∧ X2_run 5 (nI r) (120 : Int32) c = some (S, c') ∧ X10_goDay (nI r) d = some (S, d') ∧ frC c c' ∧ frD d d' := by
  obtain ⟨nb, k, T, c', d', -, x1, x2, x3, x4, x5, -⟩ := day120 h hr
  obtain ⟨nb', k', T', c'', d'', -, y1, y2, -⟩ := day120 h0 hr
  rw [x1] at y1
  have : T = T' := (Prod.mk.inj (Option.some.inj y1)).1
  subst this
  exact ⟨T, c', d', ⟨d'', y2⟩, x1, x2, x4, x5⟩
theorem least_both {c d : Mm} (h : Rel c d) : ∃ ra u c' d', ra ≤ 3 ∧ X9_leastRule c = some (nI ra, c') ∧ (∀ v, (m_cal (X10_goDay (0 : Int32) d) fun r6 c7 => m_lp3 (X10_best_b23 v) 1000 (0 : Int32) r6 (1 : Int32) c7) = X10_best_j69 v (nI ra) u d') ∧ frC c c' ∧ frD d d' ∧ DV ra d u := by
  obtain ⟨S, c1, d1, x1, x2, x3, x4, x5⟩ := day_val h h (r := 0) (by omega)
  have key := q_sim3 (ρ := Unit) (σ := Int32) (F := fun _ => X9_leastRule_b19) (G := fun v => X10_best_b23 v) (k := fun _ a _ c => some (a, c)) (l := fun v a u d => X10_best_j69 v a u d) 4 (fun _ a u c' b v d' => a = b ∧ u = v ∧ frC c c' ∧ frD d d' ∧ ∃ ra, ra ≤ 3 ∧ a = nI ra ∧ DV ra d u) ?_ ?_ 3 1 (nI 0) S c1 (nI 0) S d1 1000 1000 (by omega) (by omega) (by omega) ⟨rfl, rfl, x4, x5, 0, by omega, rfl, x1⟩
  · obtain ⟨a, u, c', b, v, d', ⟨rfl, rfl, y1, y2, ra, y3, rfl, y4⟩, k1, k2⟩ := key
    refine ⟨ra, u, c', d', y3, ?_, fun v => ?_, y1, y2, y4⟩
    · unfold X9_leastRule
      rw [show X2_run 5 0 120 c = some (S, c1) from x2, q_cal]
      exact k1 ()
    · rw [show X10_goDay 0 d = some (S, d1) from x3, q_cal]
      exact k2 v
  · rintro i a u c' b v d' hi ⟨rfl, rfl, y1, y2, ra, y3, rfl, y4⟩
    obtain ⟨T, c2, d2, z1, z2, z3, z4, z5⟩ := day_val (h.ff y1 y2) (h.ff y1 frD.rf) (r := i) (by omega)
    have hn : ¬ (4 : Int32) ≤ nI i := fun h => absurd ((q_leX 4 i rfl rfl (by omega) (by omega)).mp h) (by omega)
    by_cases hu : u ≤ T
    · refine ⟨nI ra, u, c2, nI ra, u, d2, ⟨rfl, rfl, y1.tr z4, y2.tr z5, ra, y3, rfl, y4⟩, fun _ rc => ?_, fun v rc => ?_⟩
      · show X9_leastRule_b19 rc (nI ra) u (nI i) c' = _
        unfold X9_leastRule_b19 X9_leastRule_j51
        rw [if_neg hn, z2, q_cal, if_pos hu, q_bnd, q_1]
      · show X10_best_b23 v rc (nI ra) u (nI i) d' = _
        unfold X10_best_b23 X10_best_j49 X10_best_j62
        rw [if_neg hn, z3, q_cal, if_pos hu, if_pos hu, q_bnd, q_1]
    · refine ⟨nI i, T, c2, nI i, T, d2, ⟨rfl, rfl, y1.tr z4, y2.tr z5, i, by omega, rfl, z1⟩, fun _ rc => ?_, fun v rc => ?_⟩
      · show X9_leastRule_b19 rc (nI ra) u (nI i) c' = _
        unfold X9_leastRule_b19 X9_leastRule_j51
        rw [if_neg hn, z2, q_cal, if_neg hu, q_bnd, q_1]
      · show X10_best_b23 v rc (nI ra) u (nI i) d' = _
        unfold X10_best_b23 X10_best_j49 X10_best_j62
        rw [if_neg hn, z3, q_cal, if_neg hu, if_neg hu, q_bnd, q_1]
  · rintro a u c' b v d' ⟨rfl, rfl, y1, y2, ra, y3, rfl, y4⟩
    refine ⟨fun _ rc => ?_, fun v rc => ?_⟩
    · show X9_leastRule_b19 rc (nI ra) u (nI 4) c' = _
      unfold X9_leastRule_b19
      rw [if_pos (by decide)]
    · show X10_best_b23 v rc (nI ra) u (nI 4) d' = _
      unfold X10_best_b23
      rw [if_pos (by decide)]
theorem s_best (v1 : Int32) (c d : Mm) (h : Rel c d) : ∃ (r : Int32) (c1 d1 : Mm), X9_best v1 c = some (r, c1) ∧ X10_best v1 d = some (r, d1) ∧ Rel c1 d1 := by
  unfold X9_best X10_best
  rw [q_isW, q_cal, q_inN v1 0 1 (by omega) (by omega), q_cal]
  rcases q_small (hi := 1) (n := 1) rfl v1 with h0 | ⟨h0, v, hv, rfl⟩
  · rw [if_pos h0, if_pos h0]; exact fin_ rfl rfl rfl h
  · obtain ⟨ra, u, c', d', y1, y2, y3, y4, y5, y6⟩ := least_both h
    obtain ⟨c2, z1, z2⟩ := run_val (h.ff y4 frD.rf) y1 y6
    rw [h0, if_neg ne10, if_neg ne10, y3, y2, q_cal, z1, q_cal]
    unfold X10_best_j69
    by_cases hv0 : nI v = 0
    · rw [if_pos hv0, if_pos hv0]; exact fin_ rfl rfl rfl (h.ff y4 y5)
    · rw [if_neg hv0, if_neg hv0]; exact fin_ rfl rfl rfl (h.ff (y4.tr z2) y5)
theorem s_custom (c d : Mm) (h : Rel c d) : ∃ (r : Int32) (c1 d1 : Mm), X9_custom c = some (r, c1) ∧ X10_custom d = some (r, d1) ∧ Rel c1 d1 := by
  obtain ⟨S, cx, d1, x1, x2, x3, x4, x5⟩ := day_val h h (r := 0) (by omega)
  have h' : Rel c d1 := h.ff frC.rf x5
  obtain ⟨ra, u, c', d', y1, y2, y3, y4, y5, y6⟩ := least_both h'
  obtain ⟨c2, z1, z2⟩ := run_val (h'.ff y4 frD.rf) y1 y6
  obtain ⟨c3, w1, w2⟩ := run_val (h.ff (y4.tr z2) frD.rf) (r := 0) (by omega) x1
  unfold X9_custom X10_custom X10_best
  rw [y2, q_cal, z1, q_cal, show X2_run 5 0 120 c2 = some (S, c3) from w1, q_cal, show X10_goDay 0 d = some (S, d1) from x3, q_cal, q_inN 1 0 1 (by omega) (by omega), q_cal, show wn (1 : Int32) (OfNat.ofNat 0) (OfNat.ofNat 1) = 1 by decide, if_neg ne10, y3]
  unfold X10_best_j69
  rw [if_neg ne10, q_cal]
  exact fin_ rfl rfl rfl (h'.ff ((y4.tr z2).tr w2) y5)
