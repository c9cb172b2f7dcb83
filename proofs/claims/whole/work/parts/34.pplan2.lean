theorem s_load (v1 v2 : Int32) (c d : Mm) (h : Rel c d) : ∃ (r : Int32) (c1 d1 : Mm), X9_load v1 v2 c = some (r, c1) ∧ X10_load v1 v2 d = some (r, d1) ∧ Rel c1 d1 := by
  obtain ⟨ht, nb, h1, h2, h3, h4, h5⟩ := id h
  obtain ⟨⟨b1, b2, b3, b4⟩, -⟩ := id h1
  unfold X9_load X10_load
  rw [q_isBoat b3 b1, q_cal, q_isBoatM b4 b1, q_cal]
  rcases q_boat b1 b2 v1 with h0 | ⟨h0, i, hi, rfl⟩
  · rw [if_pos h0, if_pos h0]; exact fin_ rfl rfl rfl h
  · rw [h0, if_neg ne10, if_neg ne10, q_isW, q_cal, q_inN v2 0 9 (by omega) (by omega), q_cal]
    rcases q_small (hi := 9) (n := 9) rfl v2 with h0 | ⟨h0, v, hv, rfl⟩
    · rw [if_pos h0, if_pos h0]; exact fin_ rfl rfl rfl h
    · have e28 : c 28 i = d 12 i := (h2 i hi).1.1
      obtain ⟨c1, d1, n1, n2, n3, n4, n5, n6⟩ := note_both h3 i hi b2 1 (Or.inr rfl) (c 28 i) (nI v) (by rw [if_pos rfl]; exact e28) (fun i hi => ⟨(h2 i hi).1.2, (h2 i hi).2.2⟩)
      have g6 : ∀ {k : Option (Int32 × Mm)}, m_gi (nI i) 6 k = k := q_gi (by omega) (by omega)
      have g12 : ∀ {k : Option (Int32 × Mm)}, m_gi (nI i) 12 k = k := q_gi (by omega) (by omega)
      rw [h0, if_neg ne10, if_neg ne10, g6, q_bnd, q_ix (by omega), n1, q_cav, g6, q_bnd, n2, q_cav, g12, q_bnd, g12, q_bnd]
      rw [if_pos rfl, if_pos rfl] at n6
      have dn : d1 12 = d 12 := n5 12 (by omega) (by omega)
      refine fin_ rfl rfl (by rw [dn, e28]) ⟨ht.fr ?_ ?_ ?_ ?_, nb, h1.fr (fun a ha => ?_) (fun a ha => ?_), ?_, n6, h4.fr ?_ ?_ ?_ ?_ ?_ ?_, h5.fr ?_ ?_ ?_ ?_ ?_⟩
      · rw [q_str (by decide), n3 1 (by decide) (by decide) (by decide) (by decide)]
      · rw [q_str (by decide), n3 12 (by decide) (by decide) (by decide) (by decide)]
      · rw [q_str (by decide), n4 0 (by decide)]
      · rw [q_str (by decide), n5 1 (by decide) (by decide)]
      · rw [q_str, n3] <;> (rintro rfl; revert ha; decide)
      · rw [q_str, n5] <;> (rintro rfl; revert ha; decide)
      · intro x hx
        obtain ⟨⟨y1, y2⟩, y3, y4⟩ := h2 x hx
        have y1 : c 28 x = d 12 x := y1
        have y3 : c 29 x = d 12 (6 + x) := y3
        show (m_st c1 28 i (nI v) 28 x = m_st d1 12 i (nI v) 12 x ∧ rg (m_st d1 12 i (nI v) 12 x) 0 9) ∧ (m_st c1 28 i (nI v) 29 x = m_st d1 12 i (nI v) 12 (6 + x) ∧ rg (m_st d1 12 i (nI v) 12 (6 + x)) 0 30)
        simp only [q_st, dn, n3 28 (by decide) (by decide) (by decide) (by decide), n3 29 (by decide) (by decide) (by decide) (by decide), if_neg (show ¬ 6 + x = i by omega)]
        by_cases hxi : x = i
        · subst hxi; simp; exact ⟨⟨v, by omega, hv, rfl⟩, y3, y4⟩
        · simp [hxi]; exact ⟨⟨y1, y2⟩, y3, y4⟩
      · rw [q_str (by decide), n3 10 (by decide) (by decide) (by decide) (by decide)]
      · rw [q_str (by decide), n3 46 (by decide) (by decide) (by decide) (by decide)]
      · rw [q_str (by decide), n3 47 (by decide) (by decide) (by decide) (by decide)]
      · rw [q_str (by decide), n4 17 (by decide)]
      · rw [q_str (by decide), n5 15 (by decide) (by decide)]
      · rw [q_str (by decide), n5 16 (by decide) (by decide)]
      · rw [q_str (by decide), n3 11 (by decide) (by decide) (by decide) (by decide)]
      · rw [q_str (by decide), n3 48 (by decide) (by decide) (by decide) (by decide)]
      · rw [q_str (by decide), n3 49 (by decide) (by decide) (by decide) (by decide)]
      · rw [q_str (by decide), n4 16 (by decide)]
      · rw [q_str (by decide), n5 14 (by decide) (by decide)]
theorem s_later (v1 v2 : Int32) (c d : Mm) (h : Rel c d) : ∃ (r : Int32) (c1 d1 : Mm), X9_later v1 v2 c = some (r, c1) ∧ X10_later v1 v2 d = some (r, d1) ∧ Rel c1 d1 := by
  obtain ⟨ht, nb, h1, h2, h3, h4, h5⟩ := id h
  obtain ⟨⟨b1, b2, b3, b4⟩, -⟩ := id h1
  unfold X9_later X10_later
  rw [q_isBoat b3 b1, q_cal, q_isBoatM b4 b1, q_cal]
  rcases q_boat b1 b2 v1 with h0 | ⟨h0, i, hi, rfl⟩
  · rw [if_pos h0, if_pos h0]; exact fin_ rfl rfl rfl h
  · rw [h0, if_neg ne10, if_neg ne10, q_isW, q_cal, q_inN v2 0 30 (by omega) (by omega), q_cal]
    rcases q_small (hi := 30) (n := 30) rfl v2 with h0 | ⟨h0, v, hv, rfl⟩
    · rw [if_pos h0, if_pos h0]; exact fin_ rfl rfl rfl h
    · have e29 : c 29 i = d 12 (6 + i) := (h2 i hi).2.1
      obtain ⟨c1, d1, n1, n2, n3, n4, n5, n6⟩ := note_both h3 i hi b2 0 (Or.inl rfl) (c 29 i) (nI v) (by rw [if_neg (by decide)]; exact e29) (fun i hi => ⟨(h2 i hi).1.2, (h2 i hi).2.2⟩)
      have g6 : ∀ {k : Option (Int32 × Mm)}, m_gi (nI i) 6 k = k := q_gi (by omega) (by omega)
      have g12 : ∀ {k : Option (Int32 × Mm)}, m_gi (nI (6 + i)) 12 k = k := q_gi (by omega) (by omega)
      rw [h0, if_neg ne10, if_neg ne10, g6, q_bnd, q_ix (by omega), n1, q_cav, g6, q_bnd, n2, q_cav, q_6, g12, q_bnd, g12, q_bnd, q_ix (by omega)]
      rw [if_neg (by decide), if_neg (by decide)] at n6
      have dn : d1 12 = d 12 := n5 12 (by omega) (by omega)
      refine fin_ rfl rfl (by rw [dn, e29]) ⟨ht.fr ?_ ?_ ?_ ?_, nb, h1.fr (fun a ha => ?_) (fun a ha => ?_), ?_, n6, h4.fr ?_ ?_ ?_ ?_ ?_ ?_, h5.fr ?_ ?_ ?_ ?_ ?_⟩
      · rw [q_str (by decide), n3 1 (by decide) (by decide) (by decide) (by decide)]
      · rw [q_str (by decide), n3 12 (by decide) (by decide) (by decide) (by decide)]
      · rw [q_str (by decide), n4 0 (by decide)]
      · rw [q_str (by decide), n5 1 (by decide) (by decide)]
      · rw [q_str, n3] <;> (rintro rfl; revert ha; decide)
      · rw [q_str, n5] <;> (rintro rfl; revert ha; decide)
      · intro x hx
        obtain ⟨⟨y1, y2⟩, y3, y4⟩ := h2 x hx
        have y1 : c 28 x = d 12 x := y1
        have y3 : c 29 x = d 12 (6 + x) := y3
        show (m_st c1 29 i (nI v) 28 x = m_st d1 12 (6 + i) (nI v) 12 x ∧ rg (m_st d1 12 (6 + i) (nI v) 12 x) 0 9) ∧ (m_st c1 29 i (nI v) 29 x = m_st d1 12 (6 + i) (nI v) 12 (6 + x) ∧ rg (m_st d1 12 (6 + i) (nI v) 12 (6 + x)) 0 30)
        simp only [q_st, dn, n3 28 (by decide) (by decide) (by decide) (by decide), n3 29 (by decide) (by decide) (by decide) (by decide), if_neg (show ¬ x = 6 + i by omega)]
        by_cases hxi : x = i
        · subst hxi; simp; exact ⟨⟨y1, y2⟩, v, by omega, hv, rfl⟩
        · have h6 : ¬ 6 + x = 6 + i := by omega
          simp [hxi]; exact ⟨⟨y1, y2⟩, y3, y4⟩
      · rw [q_str (by decide), n3 10 (by decide) (by decide) (by decide) (by decide)]
      · rw [q_str (by decide), n3 46 (by decide) (by decide) (by decide) (by decide)]
      · rw [q_str (by decide), n3 47 (by decide) (by decide) (by decide) (by decide)]
      · rw [q_str (by decide), n4 17 (by decide)]
      · rw [q_str (by decide), n5 15 (by decide) (by decide)]
      · rw [q_str (by decide), n5 16 (by decide) (by decide)]
      · rw [q_str (by decide), n3 11 (by decide) (by decide) (by decide) (by decide)]
      · rw [q_str (by decide), n3 48 (by decide) (by decide) (by decide) (by decide)]
      · rw [q_str (by decide), n3 49 (by decide) (by decide) (by decide) (by decide)]
      · rw [q_str (by decide), n4 16 (by decide)]
      · rw [q_str (by decide), n5 14 (by decide) (by decide)]
/-- a row of twelve comes back -/
theorem undo_M {u : Nat} {d : Mm} (hu : u < 8) (e : d 0 14 = nI u) : ∃ d1, m_lp1 X10_undo_b22 1000 (0 : Int32) d = some (nI u, d1) ∧ (∀ a, a ≠ 12 → d1 a = d a) ∧ ∀ x, x < 12 → d1 12 x = d 13 (12 * u + x) := by
  have key := q_for (ρ := Unit) (F := fun _ => X10_undo_b22) (k := fun _ => X10_undo_j54) 12 (fun i d' => (∀ a, a ≠ 12 → d' a = d a) ∧ ∀ x, x < i → d' 12 x = d 13 (12 * u + x)) ?_ ?_ 12 0 d 1000 (by omega) (by omega) ⟨fun _ _ => rfl, fun x h => absurd h (by omega)⟩
  · obtain ⟨d', ⟨h1, h2⟩, h3⟩ := key
    refine ⟨d', (h3 ()).trans ?_, h1, h2⟩
    unfold X10_undo_j54
    rw [h1 0 (by omega), e]
  · rintro i d' hi ⟨h1, h2⟩
    refine ⟨m_st d' 12 i (d 13 (12 * u + i)), ⟨fun a ha => by rw [q_str ha]; exact h1 a ha, fun x hx => ?_⟩, fun _ r => ?_⟩
    · rw [q_st, if_pos rfl]
      by_cases hxi : x = i
      · rw [if_pos hxi, hxi]
      · rw [if_neg hxi, h2 x (by omega)]
    · have hn : ¬ (12 : Int32) ≤ nI i := fun h => absurd ((q_leX 12 i rfl rfl (by omega) (by omega)).mp h) (by omega)
      show X10_undo_b22 r (nI i) d' = _
      unfold X10_undo_b22
      rw [if_neg hn, h1 0 (by omega), e, q_12, q_gi (by omega) (by omega), q_gi (by omega) (by omega), q_bnd, q_bnd, q_ix (by omega), q_ix (by omega), q_1, h1 13 (by omega)]
  · rintro d' - _ r
    show X10_undo_b22 r (nI 12) d' = _
    unfold X10_undo_b22
    rw [if_pos (by decide)]
theorem s_undo (c d : Mm) (h : Rel c d) : ∃ (r : Int32) (c1 d1 : Mm), X9_undo c = some (r, c1) ∧ X10_undo d = some (r, d1) ∧ Rel c1 d1 := by
  obtain ⟨ht, nb, h1, h2, ⟨u, hu8, e1, e2, hk⟩, h4, h5⟩ := id h
  obtain ⟨⟨b1, b2, b3, b4⟩, -⟩ := id h1
  unfold X9_undo X10_undo X0_takeBack
  rw [e1, e2]
  by_cases h0 : u = 0
  · subst h0
    rw [if_neg (by decide), q_cal, if_pos rfl, if_pos (show nI 0 = (0 : Int32) from rfl)]
    exact fin_ rfl rfl rfl h
  · have hp : (0 : Int32) < nI u := (q_ltX 0 u rfl rfl (by omega) (by omega)).mpr (by omega)
    have hz : ¬ nI u = (0 : Int32) := fun e => h0 ((q_eqX u 0 rfl rfl (by omega) (by omega)).mp e)
    rw [if_pos hp, if_neg hz, q_m1 (by omega), q_bnd]
    obtain ⟨d1, m1, m2, m3⟩ := undo_M (u := u - 1) (d := m_st d 0 14 (nI (u - 1))) (by omega) (by rw [q_st, if_pos rfl, if_pos rfl])
    rw [show (m_bnd (m_st d 0 14 (nI (u - 1))) fun c3 => m_lp1 X10_undo_b22 1000 0 c3) = some (nI (u - 1), d1) from m1]
    obtain ⟨⟨w, q1, q2, q3, q4⟩, q5⟩ := hk (u - 1) (by omega)
    have z93 : m_st c 9 3 (nI (u - 1)) 9 3 = nI (u - 1) := by rw [q_st, if_pos rfl, if_pos rfl]
    have g8 : ∀ {k : Option (Int32 × Mm)}, m_gi (nI (u - 1)) 8 k = k := q_gi (by omega) (by omega)
    have gw : ∀ {k : Option (Int32 × Mm)}, m_gi (nI w) 6 k = k := q_gi (by omega) (by omega)
    have r43 : m_st c 9 3 (nI (u - 1)) 43 (u - 1) = nI w := by rw [q_str (by decide)]; exact q2
    have r44 : m_st c 9 3 (nI (u - 1)) 44 = c 44 := q_str (by decide)
    have r45 : m_st c 9 3 (nI (u - 1)) 45 = c 45 := q_str (by decide)
    rw [z93, q_ix (by omega), r44, r45, r43, q_ix (by omega), g8, g8, g8, gw]
    have m3' : ∀ x, x < 12 → d1 12 x = sn d u (u - 1) x := by
      intro x hx
      rw [m3 x hx, q_str (by decide)]
      unfold sn
      rw [if_pos (by omega)]
    have snu : ∀ x, sn d u (u - 1 + 1) x = d 12 x := by
      intro x
      unfold sn
      rw [if_neg (by omega)]
    -- the reference's rows
    have dR : ∀ a, a ≠ 12 → a ≠ 0 → d1 a = d a := fun a h12 hz => by rw [m2 a h12, q_str hz]
    have d0 : ∀ j, j ≠ 14 → d1 0 j = d 0 j := fun j hj => by rw [m2 0 (by omega), q_st, if_pos rfl, if_neg hj]
    have d14 : d1 0 14 = nI (u - 1) := by rw [m2 0 (by omega), q_st, if_pos rfl, if_pos rfl]
    have snk : ∀ k x, k ≤ u - 1 → x < 12 → sn d1 (u - 1) k x = sn d u k x := by
      intro k x hk hx
      by_cases hlt : k < u - 1
      · unfold sn
        rw [if_pos hlt, if_pos (by omega), dR 13 (by omega) (by omega)]
      · have : k = u - 1 := by omega
        subst this
        rw [← m3' x hx]
        unfold sn
        rw [if_neg (by omega)]
    have fin2 : ∀ (a : Nat) (val : Int32), (a = 28 ∨ a = 29) → (∀ x, x < nb → (m_st (m_st c 9 3 (nI (u - 1))) a w val 28 x = d1 12 x) ∧ m_st (m_st c 9 3 (nI (u - 1))) a w val 29 x = d1 12 (6 + x)) → Rel (m_st (m_st c 9 3 (nI (u - 1))) a w val) d1 := by
      intro a val ha hx
      have na : ∀ b, b ≠ 28 → b ≠ 29 → b ≠ 9 → m_st (m_st c 9 3 (nI (u - 1))) a w val b = c b := fun b g1 g2 g3 => by
        rw [q_str (by rcases ha with rfl | rfl <;> assumption), q_str g3]
      have n9 : m_st (m_st c 9 3 (nI (u - 1))) a w val 9 3 = nI (u - 1) := by
        rw [q_str (by rcases ha with rfl | rfl <;> decide), z93]
      refine ⟨ht.fr (by rw [na 1 (by decide) (by decide) (by decide)]) (na 12 (by decide) (by decide) (by decide)) (d0 0 (by decide)) (dR 1 (by decide) (by decide)), nb, h1.fr (fun b hb => na b ?_ ?_ ?_) (fun b hb => dR b ?_ ?_), ?_, ?_, h4.fr (by rw [na 10 (by decide) (by decide) (by decide)]) (na 46 (by decide) (by decide) (by decide)) (na 47 (by decide) (by decide) (by decide)) (d0 17 (by decide)) (dR 15 (by decide) (by decide)) (dR 16 (by decide) (by decide)), h5.fr (by rw [na 11 (by decide) (by decide) (by decide)]) (na 48 (by decide) (by decide) (by decide)) (na 49 (by decide) (by decide) (by decide)) (d0 16 (by decide)) (dR 14 (by decide) (by decide))⟩
      iterate 5 (rintro rfl; revert hb; decide)
      · intro x hxn
        obtain ⟨y1, y2⟩ := hx x hxn
        obtain ⟨r1, r2⟩ := q5 x hxn
        rw [← m3' x (by omega)] at r1
        rw [← m3' (6 + x) (by omega)] at r2
        exact ⟨⟨y1, r1⟩, y2, r2⟩
      · refine ⟨u - 1, by omega, n9, d14, fun k hk1 => ?_⟩
        obtain ⟨⟨w', p1, p2, p3, p4⟩, p5⟩ := hk k (by omega)
        rw [na 43 (by decide) (by decide) (by decide), na 44 (by decide) (by decide) (by decide), na 45 (by decide) (by decide) (by decide)]
        refine ⟨⟨w', p1, p2, p3, fun x hx => ?_⟩, fun x hx => ?_⟩
        · rw [snk k x (by omega) (by omega), snk k (6 + x) (by omega) (by omega), snk (k + 1) x (by omega) (by omega), snk (k + 1) (6 + x) (by omega) (by omega)]
          exact p4 x hx
        · rw [snk k x (by omega) (by omega), snk k (6 + x) (by omega) (by omega)]
          exact p5 x hx
    rcases q3 with hz0 | hz1
    · rw [if_pos hz0, q_bnd, q_cal, if_neg ne10]
      refine fin_ rfl rfl (by rw [q_str (by decide), z93]) (fin2 29 _ (Or.inr rfl) (fun x hx => ?_))
      obtain ⟨⟨y1, -⟩, y3, -⟩ := h2 x hx
      have y1 : c 28 x = d 12 x := y1
      have y3 : c 29 x = d 12 (6 + x) := y3
      obtain ⟨p1, p2⟩ := q4 x hx
      rw [hz0] at p1 p2
      rw [snu] at p1 p2
      rw [m3' x (by omega), m3' (6 + x) (by omega), p1, p2]
      simp [q_st, y1, y3]
    · rw [if_neg (by rw [hz1]; decide), q_bnd, g8, g8, gw, q_cal, if_neg ne10]
      refine fin_ rfl rfl (by rw [q_str (by decide), z93]) (fin2 28 _ (Or.inl rfl) (fun x hx => ?_))
      obtain ⟨⟨y1, -⟩, y3, -⟩ := h2 x hx
      have y1 : c 28 x = d 12 x := y1
      have y3 : c 29 x = d 12 (6 + x) := y3
      obtain ⟨p1, p2⟩ := q4 x hx
      rw [hz1] at p1 p2
      rw [snu] at p1 p2
      rw [m3' x (by omega), m3' (6 + x) (by omega), p1, p2]
      simp [q_st, y1, y3]
