theorem q_lez {n : Nat} {i : Nat} (h : i < n) (hn : n < 2147483648) : ¬ nI n ≤ nI i := fun h' => absurd ((q_leX n i rfl rfl (by omega) (by omega)).mp h') (by omega)
theorem q_les {n : Nat} (hn : n < 2147483648) : nI n ≤ nI n := (q_leX n n rfl rfl (by omega) (by omega)).mpr (by omega)
theorem beg_C {pk nb : Nat} {c : Mm} (hp : pk = 5 ∨ pk = 6) (h6 : nb ≤ 6) (e4 : c 4 0 = nI nb) : ∃ c', X2_begin pk c = some c' ∧ frC c c' ∧ c' 8 11 = 0 ∧ c' 8 9 = 0 ∧ c' 8 10 = nI (cn (c' 35) nb) ∧ ∀ x, x < nb → c' 33 x = c 21 x ∧ c' 34 x = c (m_pD pk) x ∧ c' 35 x = (if c 21 x = en (c 22 x) then 0 else -4) ∧ c' 36 x = 0 ∧ c' 37 x = 0 ∧ c' 38 x = if c 21 x = en (c 22 x) then 0 else 1 := by
  have hpd : m_pD pk < 32 := by rcases hp with rfl | rfl <;> decide
  have hpd8 : m_pD pk ≠ 8 := by rcases hp with rfl | rfl <;> decide
  obtain ⟨cs, hcs⟩ : ∃ cs, cs = m_st (m_st (m_st c 8 11 0) 8 9 0) 8 10 (m_st (m_st c 8 11 0) 8 9 0 4 0) := ⟨_, rfl⟩
  have s8 : ∀ a, a ≠ 8 → cs a = c a := fun a ha => by rw [hcs, q_str ha, q_str ha, q_str ha]
  have key := q_for (ρ := Unit) (F := fun _ => X2_begin_b23 pk) (k := fun _ => X2_begin_j108 pk) nb (fun i c' => (∀ a, (a < 33 ∨ 38 < a) → c' a = cs a) ∧ ∀ x, x < i → c' 33 x = c 21 x ∧ c' 34 x = c (m_pD pk) x ∧ c' 35 x = -4 ∧ c' 36 x = 0 ∧ c' 37 x = 0 ∧ c' 38 x = if c 21 x = en (c 22 x) then 0 else 1) ?_ ?_ nb 0 cs 1000 (by omega) (by omega) ⟨fun _ _ => rfl, fun x h => absurd h (by omega)⟩
  · obtain ⟨c1, ⟨h1, h2⟩, h3⟩ := key
    have x4 : c1 4 0 = nI nb := by rw [h1 4 (by omega), s8 4 (by omega)]; exact e4
    have hcn : cn (c1 35) nb = nb := cn_all (fun x hx => (h2 x hx).2.2.1)
    have x10 : c1 8 10 = nI (cn (c1 35) nb) := by
      rw [hcn, h1 8 (by omega), hcs, q_st, if_pos rfl, if_pos rfl, q_str (by decide), q_str (by decide)]; exact e4
    obtain ⟨c2, k1, k2, k3, k4, k5, -⟩ := arr_C (m := 0) h6 (by omega) x4 x10
    refine ⟨c2, ?_, ?_, ?_, ?_, k4, ?_⟩
    · unfold X2_begin
      rw [q_bnd, q_bnd, q_bnd, ← hcs]
      refine (h3 ()).trans ?_
      unfold X2_begin_j108
      rw [show X2_arrive (0 : Int32) c1 = some c2 from k1, q_cav]
    · intro a h8 ha
      rw [k2 a h8 (by omega), h1 a (by omega), s8 a h8]
    · rw [k3 11 (by omega), h1 8 (by omega), hcs]; simp [q_st]
    · rw [k3 9 (by omega), h1 8 (by omega), hcs]; simp [q_st]
    · intro x hx
      obtain ⟨y1, y2, y3, y4, y5, y6⟩ := h2 x hx
      rw [k5 x hx, k2 33 (by omega) (by omega), k2 34 (by omega) (by omega), k2 36 (by omega) (by omega), k2 37 (by omega) (by omega), k2 38 (by omega) (by omega), y1, y3, h1 22 (by omega), s8 22 (by omega)]
      refine ⟨rfl, y2, ?_, y4, y5, y6⟩
      by_cases g : c 21 x = en (c 22 x)
      · rw [if_pos g, if_pos ⟨rfl, g⟩]; rfl
      · rw [if_neg g, if_neg (fun h => g h.2)]
  · rintro i c' hi ⟨h1, h2⟩
    have hix : m_ix (nI i) = i := q_ix (by omega)
    have g6 : ∀ {k : Option Mm}, m_gi (nI i) 6 k = k := q_gi (by omega) (by omega)
    refine ⟨m_st (m_st (m_st (m_st (m_st (m_st c' 33 i (c 21 i)) 34 i (c (m_pD pk) i)) 35 i (-4)) 36 i 0) 37 i 0) 38 i (if c 21 i = en (c 22 i) then 0 else 1), ⟨fun a ha => ?_, fun x hx => ?_⟩, fun _ r => ?_⟩
    · rw [q_str (by omega), q_str (by omega), q_str (by omega), q_str (by omega), q_str (by omega), q_str (by omega)]; exact h1 a ha
    · by_cases hxi : x = i
      · subst hxi; simp [q_st]
      · simp [q_st, hxi]; exact h2 x (by omega)
    · show X2_begin_b23 pk r (nI i) c' = _
      unfold X2_begin_b23 X2_begin_j101
      rw [h1 4 (by omega), s8 4 (by omega), e4, if_neg (q_lez hi (by omega)), hix]
      simp only [g6, q_bnd]
      rw [h1 21 (by omega), s8 21 (by omega), q_str (b := m_pD pk) (by omega), h1 _ (by omega), s8 _ hpd8, q_atEnd (by omega), q_cal]
      have z : m_st (m_st (m_st (m_st (m_st c' 33 i (c 21 i)) 34 i (c (m_pD pk) i)) 35 i (-4)) 36 i 0) 37 i 0 33 i = c 21 i := by simp [q_st]
      have w : m_st (m_st (m_st (m_st (m_st c' 33 i (c 21 i)) 34 i (c (m_pD pk) i)) 35 i (-4)) 36 i 0) 37 i 0 22 i = c 22 i := by simp [q_st]; rw [h1 22 (by omega), s8 22 (by omega)]
      rw [z, w]
      by_cases g : c 21 i = en (c 22 i)
      · rw [if_pos g, if_neg ne10, if_pos g, q_1]
      · rw [if_neg g, if_pos rfl, if_neg g, q_1]
  · rintro c' ⟨h1, -⟩ _ r
    show X2_begin_b23 pk r (nI nb) c' = _
    unfold X2_begin_b23
    rw [h1 4 (by omega), s8 4 (by omega), e4, if_pos (q_les (by omega))]
theorem beg_D {nb : Nat} {d : Mm} (v : Int32) (h6 : nb ≤ 6) (e4 : d 2 0 = nI nb) : ∃ d', X10_goDay v d = X10_goDay_j110 v d' ∧ frD d d' ∧ d' 0 28 = 0 ∧ ∀ x, x < nb → d' 18 x = d 3 x ∧ d' 19 x = d 12 (6 + x) ∧ d' 20 x = (if d 3 x = en (d 4 x) then 0 else -4) ∧ d' 21 x = 0 ∧ d' 22 x = 0 ∧ d' 23 x = if d 3 x = en (d 4 x) then 0 else 1 := by
  obtain ⟨ds, hds⟩ : ∃ ds, ds = m_st d 0 28 0 := ⟨_, rfl⟩
  have s8 : ∀ a, a ≠ 0 → ds a = d a := fun a ha => by rw [hds, q_str ha]
  have key := q_for (ρ := Unit) (F := fun _ => X10_goDay_b7 v) (k := fun _ => X10_goDay_j110 v) nb (fun i d' => (∀ a, (a < 18 ∨ 23 < a) → d' a = ds a) ∧ ∀ x, x < i → d' 18 x = d 3 x ∧ d' 19 x = d 12 (6 + x) ∧ d' 20 x = (if d 3 x = en (d 4 x) then 0 else -4) ∧ d' 21 x = 0 ∧ d' 22 x = 0 ∧ d' 23 x = if d 3 x = en (d 4 x) then 0 else 1) ?_ ?_ nb 0 ds 1000 (by omega) (by omega) ⟨fun _ _ => rfl, fun x h => absurd h (by omega)⟩
  · obtain ⟨d1, ⟨h1, h2⟩, h3⟩ := key
    refine ⟨d1, ?_, ⟨fun a ha hb => ?_, fun j hj => ?_⟩, ?_, h2⟩
    · unfold X10_goDay
      rw [q_bnd, ← hds]
      exact h3 ()
    · rw [h1 a (by omega), s8 a (by omega)]
    · rw [h1 0 (by omega), hds, q_st, if_pos rfl, if_neg hj]
    · rw [h1 0 (by omega), hds, q_st, if_pos rfl, if_pos rfl]
  · rintro i c' hi ⟨h1, h2⟩
    have hix : m_ix (nI i) = i := q_ix (by omega)
    have hix6 : m_ix (nI (6 + i)) = 6 + i := q_ix (by omega)
    have g6 : ∀ {k : Option (Int32 × Mm)}, m_gi (nI i) 6 k = k := q_gi (by omega) (by omega)
    have g12 : ∀ {k : Option (Int32 × Mm)}, m_gi (nI i) 12 k = k := q_gi (by omega) (by omega)
    have g12' : ∀ {k : Option (Int32 × Mm)}, m_gi (nI (6 + i)) 12 k = k := q_gi (by omega) (by omega)
    have g7 : ∀ {k : Option (Int32 × Mm)}, m_gi (nI i) 726 k = k := q_gi (by omega) (by omega)
    refine ⟨m_st (m_st (m_st (m_st (m_st (m_st c' 18 i (d 3 i)) 19 i (d 12 (6 + i))) 20 i (if d 3 i = en (d 4 i) then 0 else -4)) 21 i 0) 22 i 0) 23 i (if d 3 i = en (d 4 i) then 0 else 1), ⟨fun a ha => ?_, fun x hx => ?_⟩, fun _ r => ?_⟩
    · rw [q_str (by omega), q_str (by omega), q_str (by omega), q_str (by omega), q_str (by omega), q_str (by omega)]; exact h1 a ha
    · by_cases hxi : x = i
      · subst hxi; simp [q_st]
      · simp [q_st, hxi]; exact h2 x (by omega)
    · show X10_goDay_b7 v r (nI i) c' = _
      unfold X10_goDay_b7 X10_goDay_j69 X10_goDay_j103
      rw [h1 2 (by omega), s8 2 (by omega), e4, if_neg (q_lez hi (by omega)), hix]
      simp only [q_6, g6, g12, g12', g7, q_bnd, hix6]
      rw [h1 3 (by omega), s8 3 (by omega), q_str (b := 12) (by omega), h1 12 (by omega), s8 12 (by omega), q_endOf (by omega), q_cal]
      have z : m_st (m_st c' 18 i (d 3 i)) 19 i (d 12 (6 + i)) 3 i = d 3 i := by simp [q_st]; rw [h1 3 (by omega), s8 3 (by omega)]
      have w : m_st (m_st c' 18 i (d 3 i)) 19 i (d 12 (6 + i)) 4 i = d 4 i := by simp [q_st]; rw [h1 4 (by omega), s8 4 (by omega)]
      rw [z, w]
      by_cases g : d 3 i = en (d 4 i)
      · rw [if_pos g, if_pos g, if_pos g, if_pos (by simp [q_st]), q_1]
      · rw [if_neg g, if_neg g, if_neg g, if_neg (by simp [q_st]), q_1]
  · rintro c' ⟨h1, -⟩ _ r
    show X10_goDay_b7 v r (nI nb) c' = _
    unfold X10_goDay_b7
    rw [h1 2 (by omega), s8 2 (by omega), e4, if_pos (q_les (by omega))]
