theorem keep_M {n : Nat} {d : Mm} (hn : n < 2) (e : d 0 16 = nI n) : ∃ d1, m_lp1 X10_keep_b13 1000 (0 : Int32) d = some (nI (n + 1), d1) ∧ d1 0 16 = nI (n + 1) ∧ (∀ j, j ≠ 16 → d1 0 j = d 0 j) ∧ (∀ a, a ≠ 14 → a ≠ 0 → d1 a = d a) ∧ ∀ x, d1 14 x = if 12 * n ≤ x ∧ x < 12 * n + 12 then d 12 (x - 12 * n) else d 14 x := by
  have key := q_for (ρ := Unit) (F := fun _ => X10_keep_b13) (k := fun _ => X10_keep_j45) 12 (fun i d' => (∀ a, a ≠ 14 → d' a = d a) ∧ ∀ x, d' 14 x = if 12 * n ≤ x ∧ x < 12 * n + i then d 12 (x - 12 * n) else d 14 x) ?_ ?_ 12 0 d 1000 (by omega) (by omega) ⟨fun _ _ => rfl, fun x => by rw [if_neg (by omega)]⟩
  · obtain ⟨d', ⟨h1, h2⟩, h3⟩ := key
    refine ⟨m_st d' 0 16 (nI (n + 1)), (h3 ()).trans ?_, by simp [q_st], fun j hj => by simp [q_st, hj, h1 0 (by omega)], fun a h14 h0 => by rw [q_str h0, h1 a h14], fun x => by rw [q_str (by omega)]; exact h2 x⟩
    unfold X10_keep_j45
    rw [h1 0 (by omega), e, q_1, q_bnd]
    simp [q_st]
  · rintro i d' hi ⟨h1, h2⟩
    refine ⟨m_st d' 14 (12 * n + i) (d' 12 i), ⟨fun a ha => by rw [q_str ha]; exact h1 a ha, fun x => ?_⟩, fun _ r => ?_⟩
    · rw [q_st, if_pos rfl, h2, h1 12 (by omega)]
      by_cases hx : x = 12 * n + i
      · rw [if_pos hx, if_pos (by omega), hx]; congr 1; omega
      · rw [if_neg hx]
        by_cases hy : 12 * n ≤ x ∧ x < 12 * n + i
        · rw [if_pos hy, if_pos (by omega)]
        · rw [if_neg hy, if_neg (by omega)]
    · have hn : ¬ (12 : Int32) ≤ nI i := fun h => absurd ((q_leX 12 i rfl rfl (by omega) (by omega)).mp h) (by omega)
      show X10_keep_b13 r (nI i) d' = _
      unfold X10_keep_b13
      rw [if_neg hn, q_gi (by omega) (by omega), h1 0 (by omega), e, q_12, q_gi (by omega) (by omega), q_bnd, q_bnd, q_ix (by omega), q_ix (by omega), q_1]
  · rintro d' - _ r
    show X10_keep_b13 r (nI 12) d' = _
    unfold X10_keep_b13
    rw [if_pos (by decide)]
theorem s_keep (c d : Mm) (h : Rel c d) : ∃ (r : Int32) (c1 d1 : Mm), X9_keep c = some (r, c1) ∧ X10_keep d = some (r, d1) ∧ Rel c1 d1 := by
  obtain ⟨ht, nb, h1, h2, h3, h4, ⟨n, hn2, e1, e2, hk⟩⟩ := id h
  obtain ⟨⟨b1, b2, b3, b4⟩, -⟩ := id h1
  unfold X9_keep X10_keep X7_add
  rw [e1, e2]
  by_cases h0 : n = 2
  · subst h0
    rw [if_neg (by decide), q_cal, if_pos rfl, if_pos (show nI 2 = (2 : Int32) from rfl)]
    exact fin_ rfl rfl rfl h
  · have hp : nI n < (2 : Int32) := (q_ltX n 2 rfl rfl (by omega) (by omega)).mpr (by omega)
    have hz : ¬ nI n = (2 : Int32) := fun e => h0 ((q_eqX n 2 rfl rfl (by omega) (by omega)).mp e)
    obtain ⟨d1, m1, m2, m3, m4, m5⟩ := keep_M (by omega : n < 2) e2
    have gcc : ∀ {β : Type} {K : Option β}, m_gc (0 : Int32) (nI (n * 6)) (6 : Int32) 6 12 K = K := fun {β K} => q_gc 0 (n * 6) 6 rfl rfl rfl (by omega) (by omega) (by omega) (by omega) (by omega)
    have z1 : m_cp c 28 0 48 (n * 6) 6 11 2 = nI n := by rw [q_cpr (by decide)]; exact e1
    have z2 : m_cp (m_cp c 28 0 48 (n * 6) 6) 29 0 49 (n * 6) 6 11 2 = nI n := by rw [q_cpr (by decide)]; exact z1
    rw [if_pos hp, if_neg hz, m1, q_x6, gcc, ix0, ix6, q_ix (by omega), q_bnd, z1, q_x6, gcc, q_ix (by omega), q_bnd, z2, q_1, q_bnd, q_cal, if_neg ne10]
    have cR : ∀ a, a ≠ 11 → a ≠ 48 → a ≠ 49 → m_st (m_cp (m_cp c 28 0 48 (n * 6) 6) 29 0 49 (n * 6) 6) 11 2 (nI (n + 1)) a = c a := fun a g1 g2 g3 => by rw [q_str g1, q_cpr g3, q_cpr g2]
    refine fin_ rfl rfl (by simp [q_st]) ⟨ht.fr (by rw [cR 1 (by decide) (by decide) (by decide)]) (cR 12 (by decide) (by decide) (by decide)) (m3 0 (by decide)) (m4 1 (by decide) (by decide)), nb, h1.fr (fun a ha => cR a ?_ ?_ ?_) (fun a ha => m4 a ?_ ?_), h2.fr (cR 28 (by decide) (by decide) (by decide)) (cR 29 (by decide) (by decide) (by decide)) (m4 12 (by decide) (by decide)), h3.fr (by rw [cR 9 (by decide) (by decide) (by decide)]) (cR 43 (by decide) (by decide) (by decide)) (cR 44 (by decide) (by decide) (by decide)) (cR 45 (by decide) (by decide) (by decide)) (m3 14 (by decide)) (m4 12 (by decide) (by decide)) (m4 13 (by decide) (by decide)), h4.fr (by rw [cR 10 (by decide) (by decide) (by decide)]) (cR 46 (by decide) (by decide) (by decide)) (cR 47 (by decide) (by decide) (by decide)) (m3 17 (by decide)) (m4 15 (by decide) (by decide)) (m4 16 (by decide) (by decide)), n + 1, by omega, by simp [q_st], m2, fun k i hk1 hi => ?_⟩
    iterate 5 (rintro rfl; revert ha; decide)
    have c48 : ∀ x, m_st (m_cp (m_cp c 28 0 48 (n * 6) 6) 29 0 49 (n * 6) 6) 11 2 (nI (n + 1)) 48 x = if n * 6 ≤ x ∧ x < n * 6 + 6 then c 28 (x - n * 6) else c 48 x := fun x => by rw [q_str (by decide), q_cpr (by decide), q_cp, if_pos rfl, Nat.zero_add]
    have c49 : ∀ x, m_st (m_cp (m_cp c 28 0 48 (n * 6) 6) 29 0 49 (n * 6) 6) 11 2 (nI (n + 1)) 49 x = if n * 6 ≤ x ∧ x < n * 6 + 6 then c 29 (x - n * 6) else c 49 x := fun x => by rw [q_str (by decide), q_cp, if_pos rfl, Nat.zero_add, q_cpr (by decide), q_cpr (by decide)]
    rw [c48, c49, m5, m5]
    by_cases hkn : k = n
    · subst hkn
      rw [if_pos (by omega), if_pos (by omega), if_pos (by omega), if_pos (by omega), show 6 * k + i - k * 6 = i by omega, show 12 * k + i - 12 * k = i by omega, show 12 * k + 6 + i - 12 * k = 6 + i by omega]
      exact h2 i hi
    · rw [if_neg (by omega), if_neg (by omega), if_neg (by omega), if_neg (by omega)]
      exact hk k i (by omega) hi
theorem back_M {n : Nat} {d : Mm} (hn : n < 2) (e : d 0 16 = nI n) : ∃ d1, m_lp1 X10_back_b22 1000 (0 : Int32) d = some (nI n, d1) ∧ d1 0 14 = 0 ∧ (∀ j, j ≠ 14 → d1 0 j = d 0 j) ∧ (∀ a, a ≠ 12 → a ≠ 0 → d1 a = d a) ∧ ∀ x, x < 12 → d1 12 x = d 14 (12 * n + x) := by
  have key := q_for (ρ := Unit) (F := fun _ => X10_back_b22) (k := fun _ => X10_back_j54) 12 (fun i d' => (∀ a, a ≠ 12 → d' a = d a) ∧ ∀ x, x < i → d' 12 x = d 14 (12 * n + x)) ?_ ?_ 12 0 d 1000 (by omega) (by omega) ⟨fun _ _ => rfl, fun x h => absurd h (by omega)⟩
  · obtain ⟨d', ⟨h1, h2⟩, h3⟩ := key
    refine ⟨m_st d' 0 14 0, (h3 ()).trans ?_, by simp [q_st], fun j hj => by simp [q_st, hj, h1 0 (by omega)], fun a h14 h0 => by rw [q_str h0, h1 a h14], fun x hx => by rw [q_str (by omega)]; exact h2 x hx⟩
    unfold X10_back_j54
    rw [q_bnd, q_st, if_pos rfl, if_neg (by decide), h1 0 (by omega), e]
  · rintro i d' hi ⟨h1, h2⟩
    refine ⟨m_st d' 12 i (d 14 (12 * n + i)), ⟨fun a ha => by rw [q_str ha]; exact h1 a ha, fun x hx => ?_⟩, fun _ r => ?_⟩
    · rw [q_st, if_pos rfl]
      by_cases hxi : x = i
      · rw [if_pos hxi, hxi]
      · rw [if_neg hxi, h2 x (by omega)]
    · have hn : ¬ (12 : Int32) ≤ nI i := fun h => absurd ((q_leX 12 i rfl rfl (by omega) (by omega)).mp h) (by omega)
      show X10_back_b22 r (nI i) d' = _
      unfold X10_back_b22
      rw [if_neg hn, h1 0 (by omega), e, q_12, q_gi (by omega) (by omega), q_gi (by omega) (by omega), q_bnd, q_bnd, q_ix (by omega), q_ix (by omega), q_1, h1 14 (by omega)]
  · rintro d' - _ r
    show X10_back_b22 r (nI 12) d' = _
    unfold X10_back_b22
    rw [if_pos (by decide)]
theorem s_back (c d : Mm) (h : Rel c d) : ∃ (r : Int32) (c1 d1 : Mm), X9_back c = some (r, c1) ∧ X10_back d = some (r, d1) ∧ Rel c1 d1 := by
  obtain ⟨ht, nb, h1, h2, h3, h4, ⟨n, hn2, e1, e2, hk⟩⟩ := id h
  obtain ⟨⟨b1, b2, b3, b4⟩, -⟩ := id h1
  unfold X9_back X10_back X7_takeLast
  rw [e1, e2]
  by_cases h0 : n = 0
  · subst h0
    rw [if_neg (by decide), q_cal, if_pos rfl, if_pos (show nI 0 = (0 : Int32) from rfl)]
    exact fin_ rfl rfl rfl h
  · have hp : (0 : Int32) < nI n := (q_ltX 0 n rfl rfl (by omega) (by omega)).mpr (by omega)
    have hz : ¬ nI n = (0 : Int32) := fun e => h0 ((q_eqX n 0 rfl rfl (by omega) (by omega)).mp e)
    obtain ⟨d1, m1, m2, m3, m4, m5⟩ := back_M (n := n - 1) (d := m_st d 0 16 (nI (n - 1))) (by omega) (by simp [q_st])
    have gcc : ∀ {β : Type} {K : Option β}, m_gc (nI ((n - 1) * 6)) (0 : Int32) (6 : Int32) 12 6 K = K := fun {β K} => q_gc ((n - 1) * 6) 0 6 rfl rfl rfl (by omega) (by omega) (by omega) (by omega) (by omega)
    have z0 : m_st c 11 2 (nI (n - 1)) 11 2 = nI (n - 1) := by simp [q_st]
    have z1 : m_cp (m_st c 11 2 (nI (n - 1))) 48 ((n - 1) * 6) 28 0 6 11 2 = nI (n - 1) := by rw [q_cpr (by decide), z0]
    have z2 : m_cp (m_cp (m_st c 11 2 (nI (n - 1))) 48 ((n - 1) * 6) 28 0 6) 49 ((n - 1) * 6) 29 0 6 11 2 = nI (n - 1) := by rw [q_cpr (by decide), z1]
    rw [if_pos hp, if_neg hz, q_m1 (by omega), q_bnd, z0, q_x6, gcc, ix0, ix6, q_ix (by omega), q_bnd, z1, q_x6, gcc, q_ix (by omega), q_bnd, q_cal, if_neg ne10, q_bnd, show (m_bnd (m_st d 0 16 (nI (n - 1))) fun c4 => m_lp1 X10_back_b22 1000 0 c4) = some (nI (n - 1), d1) from m1]
    have cR : ∀ a, a ≠ 11 → a ≠ 28 → a ≠ 29 → a ≠ 9 → m_st (m_cp (m_cp (m_st c 11 2 (nI (n - 1))) 48 ((n - 1) * 6) 28 0 6) 49 ((n - 1) * 6) 29 0 6) 9 3 0 a = c a := fun a g1 g2 g3 g4 => by rw [q_str g4, q_cpr g3, q_cpr g2, q_str g1]
    have dR : ∀ a, a ≠ 12 → a ≠ 0 → d1 a = d a := fun a h12 hz => by rw [m4 a h12 hz, q_str hz]
    have d0 : ∀ j, j ≠ 14 → j ≠ 16 → d1 0 j = d 0 j := fun j hj h16 => by rw [m3 j hj, q_st, if_pos rfl, if_neg h16]
    refine fin_ rfl rfl (by rw [q_str (by decide), z2]) ⟨ht.fr (by rw [cR 1 (by decide) (by decide) (by decide) (by decide)]) (cR 12 (by decide) (by decide) (by decide) (by decide)) (d0 0 (by decide) (by decide)) (dR 1 (by decide) (by decide)), nb, h1.fr (fun a ha => cR a ?_ ?_ ?_ ?_) (fun a ha => dR a ?_ ?_), fun i hi => ?_, ⟨0, by omega, ?_, m2, fun k hk => absurd hk (by omega)⟩, h4.fr (by rw [cR 10 (by decide) (by decide) (by decide) (by decide)]) (cR 46 (by decide) (by decide) (by decide) (by decide)) (cR 47 (by decide) (by decide) (by decide) (by decide)) (d0 17 (by decide) (by decide)) (dR 15 (by decide) (by decide)) (dR 16 (by decide) (by decide)), n - 1, by omega, ?_, ?_, fun k i hk1 hi => ?_⟩
    iterate 6 (rintro rfl; revert ha; decide)
    · have c28 : m_st (m_cp (m_cp (m_st c 11 2 (nI (n - 1))) 48 ((n - 1) * 6) 28 0 6) 49 ((n - 1) * 6) 29 0 6) 9 3 0 (m_pL 5) i = c 48 (6 * (n - 1) + i) := by
        show m_st (m_cp (m_cp (m_st c 11 2 (nI (n - 1))) 48 ((n - 1) * 6) 28 0 6) 49 ((n - 1) * 6) 29 0 6) 9 3 0 28 i = _
        rw [q_str (by decide), q_cpr (by decide), q_cp, if_pos rfl, if_pos (by omega), q_str (by decide)]
        congr 1; omega
      have c29 : m_st (m_cp (m_cp (m_st c 11 2 (nI (n - 1))) 48 ((n - 1) * 6) 28 0 6) 49 ((n - 1) * 6) 29 0 6) 9 3 0 (m_pD 5) i = c 49 (6 * (n - 1) + i) := by
        show m_st (m_cp (m_cp (m_st c 11 2 (nI (n - 1))) 48 ((n - 1) * 6) 28 0 6) 49 ((n - 1) * 6) 29 0 6) 9 3 0 29 i = _
        rw [q_str (by decide), q_cp, if_pos rfl, if_pos (by omega), q_cpr (by decide), q_str (by decide)]
        congr 1; omega
      rw [c28, c29, m5 i (by omega), m5 (6 + i) (by omega), q_str (by decide), ← Nat.add_assoc]
      exact hk (n - 1) i (by omega) hi
    · rw [q_st, if_pos rfl, if_pos rfl]; rfl
    · rw [q_str (by decide), z2]
    · rw [m3 16 (by decide)]; simp [q_st]
    · rw [cR 48 (by decide) (by decide) (by decide) (by decide), cR 49 (by decide) (by decide) (by decide) (by decide), dR 14 (by decide) (by decide)]
      exact hk k i (by omega) hi
