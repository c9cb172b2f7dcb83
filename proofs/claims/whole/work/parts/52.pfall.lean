/-! sinking -/
theorem q_gz {β : Type} {n : Nat} {K : Option β} (h0 : 0 < n) (h : n < 2147483648) : m_gz (nI n) K = K := by
  unfold m_gz
  rw [if_neg (nI_ne0 h0 (by omega))]
theorem sink_both {nb i : Nat} {c d : Mm} (h1 : cRel nb c d) (h2 : pRel 5 nb c d) (hi : i < nb) : ∃ N, 1 ≤ N ∧ N ≤ 10 ∧ X9_minutesToSink (nI i) c = some (nI N, c) ∧ X10_sinksIn (nI i) d = some (nI N, d) := by
  obtain ⟨⟨b1, b2, b3, b4⟩, -, -, -, ⟨lf, f, hf1, hf5, pf⟩, -, -⟩ := h1
  obtain ⟨⟨l1, a, -, ha, pa⟩, -⟩ := h2 i hi
  have l1 : c 28 i = d 12 i := l1
  refine ⟨(a + f) / f, ?_, ?_, ?_, ?_⟩
  · exact (Nat.le_div_iff_mul_le (by omega)).mpr (by omega)
  · rw [Nat.add_div_right a (by omega)]
    have : a / f ≤ a := Nat.div_le_self a f
    omega
  · unfold X9_minutesToSink
    rw [q_gi (by omega) (by omega), q_ix (by omega), l1, pa, lf, pf, if_neg (show ¬ nI f < (1 : Int32) from fun h => absurd ((q_ltX f 1 rfl rfl (by omega) (by omega)).mp h) (by omega)), q_bnd, q_bnd, q_gz (by omega) (by omega), q_1, nI_add, q_m1 (by omega), show a + 1 + f - 1 = a + f by omega, pk_div (by omega) (by omega) (by omega)]
  · unfold X10_sinksIn
    rw [q_gi (by omega) (by omega), q_ix (by omega), pa, pf, q_gz (by omega) (by omega), nI_add, pk_div (by omega) (by omega) (by omega)]
theorem s_fall (v1 v2 v3 : Int32) (c d : Mm) (h : Rel c d) : ∃ (r : Int32) (c1 d1 : Mm), X9_fall v1 v2 v3 c = some (r, c1) ∧ X10_fall v1 v2 v3 d = some (r, d1) ∧ Rel c1 d1 := by
  obtain ⟨ht, nb, h1, h2, h3, h4, h5⟩ := id h
  obtain ⟨⟨b1, b2, b3, b4⟩, -, -, -, -, ⟨l5, -⟩, -⟩ := id h1
  unfold X9_fall X10_fall
  rw [q_two b3 b1, q_cal, q_twoM b4 b1, q_cal]
  rcases two_cases b1 b2 v1 v2 with h0 | ⟨h0, i, j, hi, hj, hij, rfl, rfl⟩
  · rw [if_pos h0, if_pos h0]; exact fin_ rfl rfl rfl h
  obtain ⟨N, n1, n2, n3, n4⟩ := sink_both h1 h2 hj
  rw [h0, if_neg ne10, if_neg ne10, q_isW, q_cal, q_inN v3 0 1 (by omega) (by omega), q_cal]
  rcases q_small (hi := 1) (n := 1) rfl v3 with h0 | ⟨h0, t, ht1, rfl⟩
  · rw [if_pos h0, if_pos h0]; exact fin_ rfl rfl rfl h
  rw [h0, if_neg ne10, if_neg ne10, n3, q_cal, n4, q_cal, l5, n4, q_cal]
  by_cases hN : nI N ≤ d 11 3
  · rw [if_pos hN, if_pos hN]
    by_cases ht0 : nI t = 0
    · rw [if_pos ht0, if_pos ht0]; exact fin_ rfl rfl rfl h
    · rw [if_neg ht0, if_neg ht0]; exact fin_ rfl rfl rfl h
  · rw [if_neg hN, if_neg hN]; exact fin_ rfl rfl rfl h
/-! the game of two -/
theorem sb_both {nb i : Nat} {c d : Mm} (h1 : cRel nb c d) (h2 : pRel 5 nb c d) (hi : i < nb) (p q : Int32) : ∃ s, X9_standChoosing (nI i) p q c = some (s, c) ∧ X10_standsBy (nI i) p q d = some (s, d) := by
  obtain ⟨⟨b1, b2, b3, b4⟩, -, ⟨l2, -⟩, ⟨l3, -⟩, -, -, -⟩ := h1
  obtain ⟨⟨l1, -⟩, -⟩ := h2 i hi
  have l1 : c 28 i = d 12 i := l1
  unfold X9_standChoosing X10_standsBy
  rw [q_gi (by omega) (by omega), q_gi (by omega) (by omega), q_ix (by omega), l1, l2, l3]
  by_cases hp : p = 0
  · rw [if_pos hp, if_pos hp]
    by_cases hq : q = 0
    · rw [if_pos hq, if_pos hq]; exact ⟨_, rfl, rfl⟩
    · rw [if_neg hq, if_neg hq]; exact ⟨_, rfl, rfl⟩
  · rw [if_neg hp, if_neg hp]; exact ⟨_, rfl, rfl⟩
theorem rest_one {nb i j w : Nat} {c d : Mm} (h1 : cRel nb c d) (h2 : pRel 5 nb c d) (hi : i < nb) (hj : j < nb) (hw : w < 4) (t : Int32) : ∃ z : Int32, (z = 0 ∨ z = 1) ∧ X9_isRest (nI i) (nI j) (nI w) c = some (z, c) ∧ ∀ rc a u, X10_rests_b31 (nI i) (nI j) t rc a u (nI w) d = X10_rests_j127 rc (nI i) (nI j) t a u (nI w) z d := by
  have core : ∀ (p q p' q' : Int32), (if p = 0 then (1 : Int32) else 0) = p' → (if q = 0 then (1 : Int32) else 0) = q' → ∃ z : Int32, (z = 0 ∨ z = 1) ∧ X9_isRest_j30 (nI i) (nI j) p q c = some (z, c) ∧ ∀ rc a u, X10_rests_j62 rc (nI i) (nI j) t a u (nI w) p q d = X10_rests_j127 rc (nI i) (nI j) t a u (nI w) z d := by
    intro p q p' q' hp' hq'
    obtain ⟨s1, e1, f1⟩ := sb_both h1 h2 hi p q
    obtain ⟨s2, e2, f2⟩ := sb_both h1 h2 hi p' q
    obtain ⟨s3, e3, f3⟩ := sb_both h1 h2 hj q p
    obtain ⟨s4, e4, f4⟩ := sb_both h1 h2 hj q' p
    have hC : X9_isRest_j30 (nI i) (nI j) p q c = if s2 < s1 then some (0, c) else if s4 < s3 then some (0, c) else some (1, c) := by
      have a1 : X9_isRest_j30 (nI i) (nI j) p q c = X9_isRest_j53 (nI j) p q s1 (nI i) p' c := by
        unfold X9_isRest_j30
        rw [e1, q_cal, ← hp']
        by_cases hp : p = 0
        · rw [if_pos hp, if_pos hp]
        · rw [if_neg hp, if_neg hp]
      rw [a1]
      unfold X9_isRest_j53
      rw [e2, q_cal, e3, q_cal]
      have a2 : (if q = 0 then X9_isRest_j82 p s3 (nI j) 1 c else X9_isRest_j82 p s3 (nI j) 0 c) = if s4 < s3 then some (0, c) else some (1, c) := by
        have : (if q = 0 then X9_isRest_j82 p s3 (nI j) 1 c else X9_isRest_j82 p s3 (nI j) 0 c) = X9_isRest_j82 p s3 (nI j) q' c := by
          rw [← hq']
          by_cases hq : q = 0
          · rw [if_pos hq, if_pos hq]
          · rw [if_neg hq, if_neg hq]
        rw [this]
        unfold X9_isRest_j82
        rw [e4, q_cal]
      rw [a2]
    have hD : ∀ rc a u, X10_rests_j62 rc (nI i) (nI j) t a u (nI w) p q d = if s2 < s1 then X10_rests_j127 rc (nI i) (nI j) t a u (nI w) 0 d else if s4 < s3 then X10_rests_j127 rc (nI i) (nI j) t a u (nI w) 0 d else X10_rests_j127 rc (nI i) (nI j) t a u (nI w) 1 d := by
      intro rc a u
      have a1 : X10_rests_j62 rc (nI i) (nI j) t a u (nI w) p q d = X10_rests_j76 rc (nI i) (nI j) t a u (nI w) p q (nI i) p' d := by
        unfold X10_rests_j62
        rw [← hp']
        by_cases hp : p = 0
        · rw [if_pos hp, if_pos hp]
        · rw [if_neg hp, if_neg hp]
      rw [a1]
      unfold X10_rests_j76 X10_rests_j126
      rw [f2, q_cal, f1, q_cal]
      have a2 : (if q = 0 then X10_rests_j105 rc (nI i) (nI j) t a u (nI w) p q (nI j) 1 d else X10_rests_j105 rc (nI i) (nI j) t a u (nI w) p q (nI j) 0 d) = if s4 < s3 then X10_rests_j127 rc (nI i) (nI j) t a u (nI w) 0 d else X10_rests_j127 rc (nI i) (nI j) t a u (nI w) 1 d := by
        have : (if q = 0 then X10_rests_j105 rc (nI i) (nI j) t a u (nI w) p q (nI j) 1 d else X10_rests_j105 rc (nI i) (nI j) t a u (nI w) p q (nI j) 0 d) = X10_rests_j105 rc (nI i) (nI j) t a u (nI w) p q (nI j) q' d := by
          rw [← hq']
          by_cases hq : q = 0
          · rw [if_pos hq, if_pos hq]
          · rw [if_neg hq, if_neg hq]
        rw [this]
        unfold X10_rests_j105 X10_rests_j126
        rw [f4, q_cal, f3, q_cal]
      rw [a2]
    by_cases g1 : s2 < s1
    · exact ⟨0, Or.inl rfl, by rw [hC, if_pos g1], fun rc a u => by rw [hD, if_pos g1]⟩
    · by_cases g2 : s4 < s3
      · exact ⟨0, Or.inl rfl, by rw [hC, if_neg g1, if_pos g2], fun rc a u => by rw [hD, if_neg g1, if_pos g2]⟩
      · exact ⟨1, Or.inr rfl, by rw [hC, if_neg g1, if_neg g2], fun rc a u => by rw [hD, if_neg g1, if_neg g2]⟩
  have put : ∀ p q p' q' : Int32, (if p = 0 then (1 : Int32) else 0) = p' → (if q = 0 then (1 : Int32) else 0) = q' → X9_isRest (nI i) (nI j) (nI w) c = X9_isRest_j30 (nI i) (nI j) p q c → (∀ rc a u, X10_rests_b31 (nI i) (nI j) t rc a u (nI w) d = X10_rests_j62 rc (nI i) (nI j) t a u (nI w) p q d) → ∃ z : Int32, (z = 0 ∨ z = 1) ∧ X9_isRest (nI i) (nI j) (nI w) c = some (z, c) ∧ ∀ rc a u, X10_rests_b31 (nI i) (nI j) t rc a u (nI w) d = X10_rests_j127 rc (nI i) (nI j) t a u (nI w) z d := by
    intro p q p' q' hp hq x1 x2
    obtain ⟨z, hz, y1, y2⟩ := core p q p' q' hp hq
    exact ⟨z, hz, x1.trans y1, fun rc a u => (x2 rc a u).trans (y2 rc a u)⟩
  have hC : X9_isRest (nI i) (nI j) (nI w) c = X9_isRest_j30 (nI i) (nI j) (if nI w = 0 then 1 else if nI w = 1 then 1 else 0) (if nI w = 0 then 1 else if nI w = 2 then 1 else 0) c := by
    unfold X9_isRest X9_isRest_j9 X9_isRest_j14 X9_isRest_j25
    by_cases g0 : nI w = 0
    · simp only [g0, if_true]
    · by_cases g1 : nI w = 1
      · by_cases g2 : nI w = 2
        · exact absurd (g1.symm.trans g2) (by decide)
        · simp only [if_neg g0, if_pos g1, if_neg g2]
      · by_cases g2 : nI w = 2
        · simp only [if_neg g0, if_neg g1, if_pos g2]
        · simp only [if_neg g0, if_neg g1, if_neg g2]
  have hD : ∀ rc a u, X10_rests_b31 (nI i) (nI j) t rc a u (nI w) d = X10_rests_j62 rc (nI i) (nI j) t a u (nI w) (if (2 : Int32) ≤ nI w then 0 else 1) (if nI w - nI w / (2 : Int32) * (2 : Int32) = 0 then 1 else 0) d := by
    intro rc a u
    unfold X10_rests_b31 X10_rests_j48
    rw [if_neg (show ¬ (4 : Int32) ≤ nI w from q_lez (n := 4) hw (by omega))]
    by_cases g1 : (2 : Int32) ≤ nI w <;> by_cases g2 : nI w - nI w / (2 : Int32) * (2 : Int32) = 0 <;> simp only [g1, g2, if_true, if_false]
  have fin4 : ∀ w, w < 4 → (if (2 : Int32) ≤ nI w then (0 : Int32) else 1) = (if nI w = 0 then 1 else if nI w = 1 then 1 else 0) ∧ (if nI w - nI w / (2 : Int32) * (2 : Int32) = 0 then (1 : Int32) else 0) = (if nI w = 0 then 1 else if nI w = 2 then 1 else 0) := by decide
  exact put _ _ _ _ rfl rfl hC (fun rc a u => by rw [hD, (fin4 w hw).1, (fin4 w hw).2])
theorem s_rests (v1 v2 v3 : Int32) (c d : Mm) (h : Rel c d) : ∃ (r : Int32) (c1 d1 : Mm), X9_rests v1 v2 v3 c = some (r, c1) ∧ X10_rests v1 v2 v3 d = some (r, d1) ∧ Rel c1 d1 := by
  obtain ⟨ht, nb, h1, h2, h3, h4, h5⟩ := id h
  obtain ⟨⟨b1, b2, b3, b4⟩, -⟩ := id h1
  unfold X9_rests X10_rests
  rw [q_two b3 b1, q_cal, q_twoM b4 b1, q_cal]
  rcases two_cases b1 b2 v1 v2 with h0 | ⟨h0, i, j, hi, hj, hij, rfl, rfl⟩
  · rw [if_pos h0, if_pos h0]; exact fin_ rfl rfl rfl h
  rw [h0, if_neg ne10, if_neg ne10, q_isW, q_cal, q_inN v3 0 1 (by omega) (by omega), q_cal]
  rcases q_small (hi := 1) (n := 1) rfl v3 with h0 | ⟨h0, t, ht1, rfl⟩
  · rw [if_pos h0, if_pos h0]; exact fin_ rfl rfl rfl h
  rw [h0, if_neg ne10, if_neg ne10]
  have key := q_sim3 (ρ := Unit) (σ := Unit) (F := fun _ => X9_rests_b30 (nI i) (nI j) (nI t)) (G := fun _ => X10_rests_b31 (nI i) (nI j) (nI t)) (k := fun _ a u c9 => X9_rests_j72 (nI t) a u c9) (l := fun _ a u d9 => X10_rests_j169 (nI t) a u d9) 4 (fun w a u c' b v d' => a = b ∧ u = v ∧ c' = c ∧ d' = d ∧ ((a = 0 ∧ u = -4) ∨ ∃ n m, n < 4 ∧ m < 4 ∧ a = nI (n + 1) ∧ u = nI m ∧ n < w)) ?_ ?_ 4 0 0 (-4) c 0 (-4) d 1000 1000 (by omega) (by omega) (by omega) ⟨rfl, rfl, rfl, rfl, Or.inl ⟨rfl, rfl⟩⟩
  · obtain ⟨a, u, c', b, v, d', ⟨rfl, rfl, rfl, rfl, -⟩, k1, k2⟩ := key
    rw [show m_lp3 (X9_rests_b30 (nI i) (nI j) (nI t)) 1000 0 (-4) 0 c' = X9_rests_j72 (nI t) a u c' from k1 (), show m_lp3 (X10_rests_b31 (nI i) (nI j) (nI t)) 1000 0 (-4) 0 d' = X10_rests_j169 (nI t) a u d' from k2 ()]
    unfold X9_rests_j72 X10_rests_j169
    by_cases ht0 : nI t = 0
    · rw [if_pos ht0, if_pos ht0]; exact fin_ rfl rfl rfl h
    · rw [if_neg ht0, if_neg ht0]; exact fin_ rfl rfl rfl h
  · rintro w a u c' b v d' hw ⟨rfl, rfl, rfl, rfl, hx⟩
    obtain ⟨z, hz, f1, f2⟩ := rest_one h1 h2 hi hj hw (nI t)
    have hn : ¬ (4 : Int32) ≤ nI w := q_lez (n := 4) hw (by omega)
    have hC : ∀ rc, X9_rests_b30 (nI i) (nI j) (nI t) rc a u (nI w) c' = if z = 0 then rc a u (nI (w + 1)) c' else if u = -4 then rc (a + 1) (nI w) (nI (w + 1)) c' else rc (a + 1) u (nI (w + 1)) c' := by
      intro rc
      unfold X9_rests_b30 X9_rests_j64 X9_rests_j66
      rw [if_neg hn, f1, q_cal, q_bnd, q_bnd, q_bnd, q_bnd, q_1]
    have hD : ∀ rc, X10_rests_b31 (nI i) (nI j) (nI t) rc a u (nI w) d' = if z = 0 then rc (a + 0) u (nI (w + 1)) d' else if a = 0 then rc (a + 1) (nI w) (nI (w + 1)) d' else rc (a + 1) u (nI (w + 1)) d' := by
      intro rc
      rw [f2]
      unfold X10_rests_j127 X10_rests_j144 X10_rests_j146 X10_rests_j160
      rcases hz with rfl | rfl
      · simp only [if_true, q_bnd, q_1]
      · simp only [ne10, if_false, q_bnd, q_1]
    rcases hz with rfl | rfl
    · refine ⟨a, u, c', a, u, d', ⟨rfl, rfl, rfl, rfl, ?_⟩, fun _ rc => (hC rc).trans (if_pos rfl), fun _ rc => (hD rc).trans (by rw [if_pos rfl, Int32.add_zero])⟩
      rcases hx with hx | ⟨n, m, g1, g2, g3, g4, g5⟩
      · exact Or.inl hx
      · exact Or.inr ⟨n, m, g1, g2, g3, g4, by omega⟩
    · rcases hx with ⟨rfl, rfl⟩ | ⟨n, m, g1, g2, rfl, rfl, g5⟩
      · exact ⟨nI 1, nI w, c', nI 1, nI w, d', ⟨rfl, rfl, rfl, rfl, Or.inr ⟨0, w, by omega, hw, rfl, rfl, by omega⟩⟩, fun _ rc => (hC rc).trans (by rw [if_neg ne10, if_pos rfl]; rfl), fun _ rc => (hD rc).trans (by rw [if_neg ne10, if_pos rfl]; rfl)⟩
      · refine ⟨nI (n + 1) + 1, nI m, c', nI (n + 1) + 1, nI m, d', ⟨rfl, rfl, rfl, rfl, Or.inr ⟨n + 1, m, by omega, g2, q_1 _, rfl, by omega⟩⟩, fun _ rc => (hC rc).trans (by rw [if_neg ne10, if_neg (q_m4 (by omega))]), fun _ rc => (hD rc).trans (by rw [if_neg ne10, if_neg (nI_ne0 (by omega) (by omega))])⟩
  · rintro a u c' b v d' ⟨rfl, rfl, rfl, rfl, -⟩
    refine ⟨fun _ rc => ?_, fun _ rc => ?_⟩
    · show X9_rests_b30 (nI i) (nI j) (nI t) rc a u (nI 4) c' = _
      unfold X9_rests_b30
      rw [if_pos (by decide)]
    · show X10_rests_b31 (nI i) (nI j) (nI t) rc a u (nI 4) d' = _
      unfold X10_rests_b31
      rw [if_pos (by decide)]
