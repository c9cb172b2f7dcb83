theorem change_D {i j : Nat} {d : Mm} (hi : i < 6) (hj : j < 6) : X10_change (nI i) (nI j) d = some (m_st (m_st d 12 i (d 12 j)) 12 j (d 12 i)) := by
  unfold X10_change
  rw [q_gi (by omega) (by omega), q_bnd, q_gi (by omega) (by omega), q_gi (by omega) (by omega), q_bnd, q_gi (by omega) (by omega), q_bnd, q_ix (by omega), q_ix (by omega)]
theorem exch_both {nb r i j : Nat} {c d c' d' : Mm} (h1 : cRel nb c d) (h2 : pRel 5 nb c d) (hr : r ≤ 3) (hij : i < j) (hj : j < nb) (fc : ∀ a, a ≠ 8 → (a < 30 ∨ 42 < a) → c' a = c a) (fd : frD d d') :
    ∃ S c'' d'', X9_standExchanged (nI r) (nI i) (nI j) c' = some (S, c'') ∧ (∀ K : Int32 → Mm → Option (Int32 × Mm), (m_cav (X10_change (nI i) (nI j) d') fun c3 => m_cal (X10_goDay (nI r) c3) fun r4 c5 => m_cav (X10_change (nI i) (nI j) c5) fun c6 => K r4 c6) = K S d'') ∧ (∀ a, a ≠ 8 → (a < 30 ∨ 42 < a) → c'' a = c a) ∧ frD d d'' := by
  obtain ⟨⟨b1, b2, b3, b4⟩, -⟩ := id h1
  obtain ⟨cc, p1, p2, p3⟩ := copy_C (c := c')
  have r28 : c' 28 = c 28 := fc 28 (by omega) (by omega)
  have r29 : c' 29 = c 29 := fc 29 (by omega) (by omega)
  have s12 : d' 12 = d 12 := fd.1 12 (by omega) (by omega)
  have hC : cRel nb (m_st (m_st cc 30 i (c 28 j)) 30 j (c 28 i)) (m_st (m_st d' 12 i (d 12 j)) 12 j (d 12 i)) := h1.fr (fun a ha => by rw [q_str (by rintro rfl; revert ha; decide), q_str (by rintro rfl; revert ha; decide), p2 a (by rintro rfl; revert ha; decide) (by rintro rfl; revert ha; decide)]; exact fc a (by rintro rfl; revert ha; decide) (by simp at ha; omega)) (fun a ha => by rw [q_str (by rintro rfl; revert ha; decide), q_str (by rintro rfl; revert ha; decide)]; exact fd.1 a (by simp at ha; omega) (by simp at ha; omega))
  have hP : pRel 6 nb (m_st (m_st cc 30 i (c 28 j)) 30 j (c 28 i)) (m_st (m_st d' 12 i (d 12 j)) 12 j (d 12 i)) := by
    intro x hx
    obtain ⟨⟨y1, y2⟩, y3, y4⟩ := h2 x hx
    have y1 : c 28 x = d 12 x := y1
    have y3 : c 29 x = d 12 (6 + x) := y3
    obtain ⟨⟨yi, yi2⟩, -⟩ := h2 i (by omega)
    obtain ⟨⟨yj, yj2⟩, -⟩ := h2 j hj
    have yi : c 28 i = d 12 i := yi
    have yj : c 28 j = d 12 j := yj
    obtain ⟨z1, z2⟩ := p3 x (by omega)
    rw [r28] at z1
    rw [r29] at z2
    have e31 : m_st (m_st cc 30 i (c 28 j)) 30 j (c 28 i) (m_pD 6) x = d 12 (6 + x) := by
      show m_st (m_st cc 30 i (c 28 j)) 30 j (c 28 i) 31 x = _
      rw [q_str (by omega), q_str (by omega), z2]; exact y3
    have e12 : m_st (m_st d' 12 i (d 12 j)) 12 j (d 12 i) 12 (6 + x) = d 12 (6 + x) := by rw [q_st, if_pos rfl, if_neg (by omega), q_st, if_pos rfl, if_neg (by omega), s12]
    rw [e31, e12]
    refine ⟨?_, rfl, y4⟩
    show m_st (m_st cc 30 i (c 28 j)) 30 j (c 28 i) 30 x = _ ∧ _
    rw [q_st, if_pos rfl, q_st, if_pos rfl, q_st, if_pos rfl, q_st, if_pos rfl]
    by_cases hxj : x = j
    · rw [if_pos hxj, if_pos hxj]; exact ⟨yi, yi2⟩
    · rw [if_neg hxj, if_neg hxj]
      by_cases hxi : x = i
      · rw [if_pos hxi, if_pos hxi]; exact ⟨yj, yj2⟩
      · rw [if_neg hxi, if_neg hxi, z1, s12]; exact ⟨y1, y2⟩
  obtain ⟨S, d3, q1, q2, q3⟩ := day_both (pk := 6) (Or.inr rfl) hr hC hP
  obtain ⟨c3, q4, q5, -, q6⟩ := q3 120 (by omega)
  obtain ⟨-, q7⟩ := q6 rfl
  refine ⟨S, c3, m_st (m_st d3 12 i (d3 12 j)) 12 j (d3 12 i), ?_, fun K => ?_, fun a g1 g2 => ?_, ⟨fun a g1 g2 => ?_, fun x hx => ?_⟩⟩
  · unfold X9_standExchanged
    rw [p1, q_cav, q_gi (by omega) (by omega), q_gi (by omega) (by omega), q_bnd, q_gi (by omega) (by omega), q_gi (by omega) (by omega), q_bnd, q_ix (by omega), q_ix (by omega), q_str (b := 28) (by omega), p2 28 (by omega) (by omega), r28, show X2_run 6 (nI r) 120 (m_st (m_st cc 30 i (c 28 j)) 30 j (c 28 i)) = some (S, c3) by rw [← q7]; exact q4, q_cal]
  · rw [change_D (by omega) (by omega), q_cav, s12, q1, q_cal, change_D (by omega) (by omega), q_cav]
  · rw [q5 a g1 (by omega), q_str (by omega), q_str (by omega), p2 a (by omega) (by omega)]; exact fc a g1 g2
  · by_cases ha : a = 12
    · subst ha
      have w12 : d3 12 = m_st (m_st d' 12 i (d 12 j)) 12 j (d 12 i) 12 := q2.1 12 (by omega) (by omega)
      funext x
      rw [q_st, if_pos rfl, q_st, if_pos rfl, w12]
      by_cases hxj : x = j
      · subst hxj; rw [if_pos rfl, q_st, if_pos rfl, if_neg (by omega), q_st, if_pos rfl, if_pos rfl]
      · rw [if_neg hxj]
        by_cases hxi : x = i
        · subst hxi; rw [if_pos rfl, q_st, if_pos rfl, if_pos rfl]
        · rw [if_neg hxi, q_st, if_pos rfl, if_neg hxj, q_st, if_pos rfl, if_neg hxi, s12]
    · rw [q_str ha, q_str ha, q2.1 a g1 g2, q_str ha, q_str ha]; exact fd.1 a g1 g2
  · rw [q_str (by omega), q_str (by omega), q2.2 x hx, q_str (by omega), q_str (by omega)]; exact fd.2 x hx
theorem s_swap (v1 v2 : Int32) (c d : Mm) (h : Rel c d) : ∃ (r : Int32) (c1 d1 : Mm), X9_swap v1 v2 c = some (r, c1) ∧ X10_swap v1 v2 d = some (r, d1) ∧ Rel c1 d1 := by
  obtain ⟨ht, nb, h1, h2, h3, h4, h5⟩ := id h
  obtain ⟨⟨b1, b2, b3, b4⟩, -⟩ := id h1
  unfold X9_swap X10_swap
  rw [q_isRule, q_cal, q_isRuleM, q_cal]
  rcases q_small (hi := 3) (n := 3) rfl v1 with h0 | ⟨h0, r, hr, rfl⟩
  · rw [if_pos h0, if_pos h0]; exact fin_ rfl rfl rfl h
  rw [h0, if_neg ne10, if_neg ne10, q_isW, q_cal, q_inN v2 0 1 (by omega) (by omega), q_cal]
  rcases q_small (hi := 1) (n := 1) rfl v2 with h0 | ⟨h0, t, ht1, rfl⟩
  · rw [if_pos h0, if_pos h0]; exact fin_ rfl rfl rfl h
  obtain ⟨S0, c0, d0, -, x2, x3, x4, x5⟩ := day_val h h hr
  rw [h0, if_neg ne10, if_neg ne10, x2, q_cal, x3, q_cal]
  have n4 : ∀ {c' : Mm}, (∀ a, a ≠ 8 → (a < 30 ∨ 42 < a) → c' a = c a) → c' 4 0 = nI nb := fun {c'} hh => by rw [hh 4 (by omega) (by omega)]; exact b3
  have n2 : ∀ {d' : Mm}, frD d d' → d' 2 0 = nI nb := fun {d'} hh => by rw [hh.1 2 (by omega) (by omega)]; exact b4
  have key := q_sim3 (ρ := Unit) (σ := Unit) (F := fun _ => X9_swap_b40 (nI r) (nI t)) (G := fun _ => X10_swap_b32 (nI r) (nI t)) (k := fun _ a u c9 => X9_swap_j112 (nI t) a u c9) (l := fun _ a u d9 => X10_swap_j131 (nI t) a u d9) nb (fun i a u c' b v d' => a = v ∧ u = b ∧ (u = -4 ∨ ∃ n, n < 64 ∧ u = nI n) ∧ (∀ a, a ≠ 8 → (a < 30 ∨ 42 < a) → c' a = c a) ∧ frD d d') ?_ ?_ nb 0 S0 (-4) c0 (-4) S0 d0 1000 1000 (by omega) (by omega) (by omega) ⟨rfl, rfl, Or.inl rfl, fun a g1 g2 => x4 a g1 (by omega), x5⟩
  · obtain ⟨a, u, c', b, v, d', ⟨rfl, rfl, y3, y4, y5⟩, k1, k2⟩ := key
    have hR : Rel c' d' := h.fd y4 y5
    rw [show m_lp3 (X9_swap_b40 (nI r) (nI t)) 1000 S0 (-4) 0 c0 = X9_swap_j112 (nI t) a u c' from k1 (), show m_lp3 (X10_swap_b32 (nI r) (nI t)) 1000 (-4) S0 0 d0 = X10_swap_j131 (nI t) u a d' from k2 ()]
    unfold X9_swap_j112 X10_swap_j131 X9_swap_j123 X10_swap_j139
    rcases y3 with rfl | ⟨n, hn, rfl⟩
    · rw [if_pos (show (-4 : Int32) < 0 by decide), if_pos (show (-4 : Int32) = -4 from rfl), ite_self]; exact fin_ rfl rfl rfl hR
    · rw [if_neg (nI_pos (by omega)), if_neg (q_m4 (by omega))]
      by_cases ht0 : nI t = 0
      · rw [if_pos ht0, if_pos ht0]; exact fin_ rfl rfl rfl hR
      · rw [if_neg ht0, if_neg ht0]; exact fin_ rfl rfl rfl hR
  · rintro i a u c' b v d' hi ⟨rfl, rfl, y3, y4, y5⟩
    have inner := q_sim3 (ρ := Int32 → Int32 → Int32 → Mm → Option (Int32 × Mm)) (σ := Int32 → Int32 → Int32 → Mm → Option (Int32 × Mm)) (F := fun x => X9_swap_b58 x (nI r) (nI t) (nI i)) (G := fun x => X10_swap_b49 x (nI r) (nI t) (nI i)) (k := fun x a u c9 => X9_swap_j106 x (nI r) (nI t) a u (nI i) c9) (l := fun x a u d9 => X10_swap_j125 x (nI r) (nI t) a u (nI i) d9) nb (fun j a u c' b v d' => i < j ∧ a = v ∧ u = b ∧ (u = -4 ∨ ∃ n, n < 64 ∧ u = nI n) ∧ (∀ a, a ≠ 8 → (a < 30 ∨ 42 < a) → c' a = c a) ∧ frD d d') ?_ ?_ (nb - (i + 1)) (i + 1) a u c' u a d' 1000 1000 (by omega) (by omega) (by omega) ⟨by omega, rfl, rfl, y3, y4, y5⟩
    · obtain ⟨a', u', c2, b', v', d2, ⟨-, rfl, rfl, z3, z4, z5⟩, k1, k2⟩ := inner
      refine ⟨a', u', c2, u', a', d2, ⟨rfl, rfl, z3, z4, z5⟩, fun _ rc => ?_, fun _ rc => ?_⟩
      · show X9_swap_b40 (nI r) (nI t) rc a u (nI i) c' = _
        unfold X9_swap_b40
        rw [n4 y4, if_neg (q_lez hi (by omega)), q_bnd, q_1, k1 rc]
        unfold X9_swap_j106
        rw [q_bnd, q_1]
      · show X10_swap_b32 (nI r) (nI t) rc u a (nI i) d' = _
        unfold X10_swap_b32
        rw [n2 y5, if_neg (q_lez hi (by omega)), q_bnd, q_1, k2 rc]
        unfold X10_swap_j125
        rw [q_bnd, q_1]
    · rintro j a u c2 b v d2 hj ⟨hij, rfl, rfl, z3, z4, z5⟩
      obtain ⟨S, c3, d3, w1, w2, w3, w4⟩ := exch_both h1 h2 hr hij hj z4 z5
      have hC : ∀ rc40 rc58, X9_swap_b58 rc40 (nI r) (nI t) (nI i) rc58 a u (nI j) c2 = if a ≤ S then rc58 a u (nI (j + 1)) c3 else rc58 S (nI (8 * i + j)) (nI (j + 1)) c3 := by
        intro rc40 rc58
        unfold X9_swap_b58 X9_swap_j100
        rw [n4 z4, if_neg (q_lez hj (by omega)), w1, q_cal, q_bnd, q_bnd, q_bnd, q_1, show (8 : Int32) = nI 8 from rfl, pk_mul, nI_add]
      have hD : ∀ rc32 rc49, X10_swap_b49 rc32 (nI r) (nI t) (nI i) rc49 u a (nI j) d2 = if a ≤ S then rc49 u a (nI (j + 1)) d3 else rc49 (nI (8 * i + j)) S (nI (j + 1)) d3 := by
        intro rc32 rc49
        unfold X10_swap_b49 X10_swap_j102 X10_swap_j117
        rw [n2 z5, if_neg (q_lez hj (by omega)), w2 (fun r4 c6 => if a ≤ r4 then if a ≤ r4 then m_bnd (nI j + 1) fun x2 => rc49 u a x2 c6 else m_bnd (nI j + 1) fun x2 => rc49 u r4 x2 c6 else if a ≤ r4 then m_bnd (nI j + 1) fun x2 => rc49 (8 * nI i + nI j) a x2 c6 else m_bnd (nI j + 1) fun x2 => rc49 (8 * nI i + nI j) r4 x2 c6)]
        by_cases ha : a ≤ S
        · rw [if_pos ha, if_pos ha, if_pos ha, q_bnd, q_1]
        · rw [if_neg ha, if_neg ha, if_neg ha, q_bnd, q_1, show (8 : Int32) = nI 8 from rfl, pk_mul, nI_add]
      by_cases ha : a ≤ S
      · exact ⟨a, u, c3, u, a, d3, ⟨by omega, rfl, rfl, z3, w3, w4⟩, fun x rc => (hC x rc).trans (if_pos ha), fun x rc => (hD x rc).trans (if_pos ha)⟩
      · exact ⟨S, nI (8 * i + j), c3, nI (8 * i + j), S, d3, ⟨by omega, rfl, rfl, Or.inr ⟨8 * i + j, by omega, rfl⟩, w3, w4⟩, fun x rc => (hC x rc).trans (if_neg ha), fun x rc => (hD x rc).trans (if_neg ha)⟩
    · rintro a u c2 b v d2 ⟨-, rfl, rfl, z3, z4, z5⟩
      refine ⟨fun x rc => ?_, fun x rc => ?_⟩
      · show X9_swap_b58 x (nI r) (nI t) (nI i) rc a u (nI nb) c2 = _
        unfold X9_swap_b58
        rw [n4 z4, if_pos (q_les (by omega))]
      · show X10_swap_b49 x (nI r) (nI t) (nI i) rc u a (nI nb) d2 = _
        unfold X10_swap_b49
        rw [n2 z5, if_pos (q_les (by omega))]
  · rintro a u c' b v d' ⟨rfl, rfl, y3, y4, y5⟩
    refine ⟨fun _ rc => ?_, fun _ rc => ?_⟩
    · show X9_swap_b40 (nI r) (nI t) rc a u (nI nb) c' = _
      unfold X9_swap_b40
      rw [n4 y4, if_pos (q_les (by omega))]
    · show X10_swap_b32 (nI r) (nI t) rc u a (nI nb) d' = _
      unfold X10_swap_b32
      rw [n2 y5, if_pos (q_les (by omega))]
