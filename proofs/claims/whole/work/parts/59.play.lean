/-! laying the text out -/
theorem lay_C1 {c : Mm} : ∃ c', X1_copy c = some c' ∧ (∀ a, a ≠ 4 → (a < 21 ∨ 27 < a) → c' a = c a) ∧ (∀ x, x < 6 → c' 4 x = c 2 x ∧ c' 21 x = c 13 x ∧ c' 22 x = c 14 x ∧ c' 23 x = c 15 x ∧ c' 24 x = c 16 x ∧ c' 25 x = c 17 x) ∧ ∀ x, x < 3 → c' 26 x = c 18 x ∧ c' 27 x = c 19 x := by
  have g6 : ∀ {β : Type} {K : Option β}, m_gc (0 : Int32) (0 : Int32) (6 : Int32) 6 6 K = K := fun {β K} => q_gc 0 0 6 rfl rfl rfl (by omega) (by omega) (by omega) (by omega) (by omega)
  have g3 : ∀ {β : Type} {K : Option β}, m_gc (0 : Int32) (0 : Int32) (3 : Int32) 3 3 K = K := fun {β K} => q_gc 0 0 3 rfl rfl rfl (by omega) (by omega) (by omega) (by omega) (by omega)
  unfold X1_copy
  simp only [g6, g3, q_bnd, ix0, ix3, ix6]
  refine ⟨_, rfl, fun a h4 h2 => ?_, fun x hx => ?_, fun x hx => ?_⟩
  · rw [q_cpr (by omega), q_cpr (by omega), q_cpr (by omega), q_cpr (by omega), q_cpr (by omega), q_cpr (by omega), q_cpr (by omega), q_str h4, q_str h4, q_str h4, q_str h4, q_str h4, q_str h4]
  · have h0 : 0 ≤ x ∧ x < 0 + 6 := by omega
    have hz : 0 + (x - 0) = x := by omega
    simp [q_cp, q_st]
    refine ⟨?_, ?_⟩
    · match x, hx with
      | 0, _ => simp
      | 1, _ => simp
      | 2, _ => simp
      | 3, _ => simp
      | 4, _ => simp
      | 5, _ => simp
      | x + 6, h => exact absurd h (by omega)
    · refine ⟨?_, ?_, ?_, ?_, ?_⟩ <;> intro h <;> exact absurd hx (by omega)
  · simp [q_cp, q_st]
    refine ⟨?_, ?_⟩ <;> intro h <;> exact absurd hx (by omega)
theorem lay_C2 {c : Mm} : ∃ c', X3_begin c = some c' ∧ (∀ a, a ≠ 28 → a ≠ 29 → c' a = c a) ∧ ∀ x, x < 6 → c' 28 x = c 24 x ∧ c' 29 x = 0 := by
  have key := q_for (ρ := Unit) (F := fun _ => X3_begin_b2) (k := fun _ c => some c) 6 (fun i c' => (∀ a, a ≠ 28 → a ≠ 29 → c' a = c a) ∧ ∀ x, x < i → c' 28 x = c 24 x ∧ c' 29 x = 0) ?_ ?_ 6 0 c 1000 (by omega) (by omega) ⟨fun _ _ _ => rfl, fun x h => absurd h (by omega)⟩
  · obtain ⟨c', ⟨h1, h2⟩, h3⟩ := key
    exact ⟨c', h3 (), h1, h2⟩
  · rintro i c' hi ⟨h1, h2⟩
    refine ⟨m_st (m_st c' 28 i (c 24 i)) 29 i 0, ⟨fun a g1 g2 => by rw [q_str g2, q_str g1]; exact h1 a g1 g2, fun x hx => ?_⟩, fun _ r => ?_⟩
    · by_cases hxi : x = i
      · subst hxi; simp [q_st]
      · simp [q_st, hxi]; exact h2 x (by omega)
    · show X3_begin_b2 r (nI i) c' = _
      unfold X3_begin_b2
      rw [if_neg (show ¬ (6 : Int32) ≤ nI i from q_lez (n := 6) hi (by omega)), q_gi (by omega) (by omega), q_gi (by omega) (by omega), q_bnd, q_gi (by omega) (by omega), q_bnd, q_bnd, q_ix (by omega), q_1, h1 24 (by omega) (by omega)]
  · rintro c' - _ r
    show X3_begin_b2 r (nI 6) c' = _
    unfold X3_begin_b2
    rw [if_pos (by decide)]
theorem lay_D1 {d : Mm} : ∃ d', m_lp1 X10_lay_b47 1000 (0 : Int32) d = X10_lay_j134 d' ∧ (∀ a, (a < 3 ∨ 7 < a) → d' a = d a) ∧ ∀ a, 3 ≤ a → a ≤ 7 → (∀ x, x < 6 → d' a x = d a (6 + x)) := by
  have key := q_for (ρ := Unit) (F := fun _ => X10_lay_b47) (k := fun _ => X10_lay_j134) 6 (fun i d' => (∀ a, (a < 3 ∨ 7 < a) → d' a = d a) ∧ ∀ a, 3 ≤ a → a ≤ 7 → (∀ x, x < i → d' a x = d a (6 + x)) ∧ ∀ x, i ≤ x → d' a x = d a x) ?_ ?_ 6 0 d 1000 (by omega) (by omega) ⟨fun _ _ => rfl, fun _ _ _ => ⟨fun x h => absurd h (by omega), fun _ _ => rfl⟩⟩
  · obtain ⟨d', ⟨h1, h2⟩, h3⟩ := key
    exact ⟨d', h3 (), h1, fun a g1 g2 => (h2 a g1 g2).1⟩
  · rintro i d' hi ⟨h1, h2⟩
    have v : ∀ a, 3 ≤ a → a ≤ 7 → d' a (6 + i) = d a (6 + i) := fun a g1 g2 => (h2 a g1 g2).2 (6 + i) (by omega)
    refine ⟨m_st (m_st (m_st (m_st (m_st d' 3 i (d 3 (6 + i))) 4 i (d 4 (6 + i))) 5 i (d 5 (6 + i))) 6 i (d 6 (6 + i))) 7 i (d 7 (6 + i)), ⟨fun a g1 => by rw [q_str (by omega), q_str (by omega), q_str (by omega), q_str (by omega), q_str (by omega)]; exact h1 a g1, fun a g1 g2 => ?_⟩, fun _ r => ?_⟩
    · have row : ∀ x, m_st (m_st (m_st (m_st (m_st d' 3 i (d 3 (6 + i))) 4 i (d 4 (6 + i))) 5 i (d 5 (6 + i))) 6 i (d 6 (6 + i))) 7 i (d 7 (6 + i)) a x = if x = i then d a (6 + i) else d' a x := by
        intro x
        have : a = 3 ∨ a = 4 ∨ a = 5 ∨ a = 6 ∨ a = 7 := by omega
        rcases this with rfl | rfl | rfl | rfl | rfl <;> simp [q_st]
      refine ⟨fun x hx => ?_, fun x hx => ?_⟩
      · rw [row]
        by_cases hxi : x = i
        · rw [if_pos hxi, hxi]
        · rw [if_neg hxi]; exact (h2 a g1 g2).1 x (by omega)
      · rw [row, if_neg (by omega)]; exact (h2 a g1 g2).2 x (by omega)
    · show X10_lay_b47 r (nI i) d' = _
      have gA : ∀ {K : Option (Int32 × Mm)}, m_gi (nI i) 12 K = K := q_gi (by omega) (by omega)
      have gB : ∀ {K : Option (Int32 × Mm)}, m_gi (nI (6 + i)) 12 K = K := q_gi (by omega) (by omega)
      unfold X10_lay_b47
      rw [if_neg (show ¬ (6 : Int32) ≤ nI i from q_lez (n := 6) hi (by omega)), q_6]
      simp only [gA, gB, q_bnd, q_ix (show i < 2147483648 by omega), q_ix (show 6 + i < 2147483648 by omega), q_1]
      simp only [q_str (b := 4) (a := 3) (by decide), q_str (b := 5) (a := 3) (by decide), q_str (b := 5) (a := 4) (by decide), q_str (b := 6) (a := 3) (by decide), q_str (b := 6) (a := 4) (by decide), q_str (b := 6) (a := 5) (by decide), q_str (b := 7) (a := 3) (by decide), q_str (b := 7) (a := 4) (by decide), q_str (b := 7) (a := 5) (by decide), q_str (b := 7) (a := 6) (by decide), v 3 (by omega) (by omega), v 4 (by omega) (by omega), v 5 (by omega) (by omega), v 6 (by omega) (by omega), v 7 (by omega) (by omega)]
  · rintro d' - _ r
    show X10_lay_b47 r (nI 6) d' = _
    unfold X10_lay_b47
    rw [if_pos (by decide)]
theorem lay_D2 {d : Mm} : ∃ d', X10_lay_j134 d = X10_lay_j175 d' ∧ (∀ a, a ≠ 9 → a ≠ 10 → d' a = d a) ∧ ∀ x, x < 3 → d' 9 x = d 9 (3 + x) ∧ d' 10 x = d 10 (3 + x) := by
  have key := q_for (ρ := Unit) (F := fun _ => X10_lay_b136) (k := fun _ => X10_lay_j175) 3 (fun i d' => (∀ a, a ≠ 9 → a ≠ 10 → d' a = d a) ∧ (∀ x, x < i → d' 9 x = d 9 (3 + x) ∧ d' 10 x = d 10 (3 + x)) ∧ ∀ x, i ≤ x → d' 9 x = d 9 x ∧ d' 10 x = d 10 x) ?_ ?_ 3 0 d 1000 (by omega) (by omega) ⟨fun _ _ _ => rfl, fun x h => absurd h (by omega), fun _ _ => ⟨rfl, rfl⟩⟩
  · obtain ⟨d', ⟨h1, h2, -⟩, h3⟩ := key
    exact ⟨d', h3 (), h1, h2⟩
  · rintro i d' hi ⟨h1, h2, h4⟩
    obtain ⟨v9, v10⟩ := h4 (3 + i) (by omega)
    refine ⟨m_st (m_st d' 9 i (d 9 (3 + i))) 10 i (d 10 (3 + i)), ⟨fun a g1 g2 => by rw [q_str g2, q_str g1]; exact h1 a g1 g2, fun x hx => ?_, fun x hx => ?_⟩, fun _ r => ?_⟩
    · by_cases hxi : x = i
      · subst hxi; simp [q_st]
      · simp [q_st, hxi]; exact h2 x (by omega)
    · have hxi : ¬ x = i := by omega
      simp [q_st, hxi]; exact h4 x (by omega)
    · show X10_lay_b136 r (nI i) d' = _
      unfold X10_lay_b136
      rw [if_neg (show ¬ (3 : Int32) ≤ nI i from q_lez (n := 3) hi (by omega)), show (3 : Int32) + nI i = nI (3 + i) from nI_add 3 i, q_gi (by omega) (by omega), q_gi (by omega) (by omega), q_bnd, q_gi (by omega) (by omega), q_gi (by omega) (by omega), q_bnd, q_bnd, q_ix (by omega), q_ix (by omega), q_1, q_str (b := 10) (by omega), v9, v10]
  · rintro d' - _ r
    show X10_lay_b136 r (nI 3) d' = _
    unfold X10_lay_b136
    rw [if_pos (by decide)]
theorem lay_D3 {d : Mm} : ∃ d', X10_lay_j175 d = X10_lay_j202 d' ∧ (∀ a, a ≠ 11 → d' a = d a) ∧ ∀ x, x < 4 → d' 11 x = d 11 (4 + x) := by
  have key := q_for (ρ := Unit) (F := fun _ => X10_lay_b177) (k := fun _ => X10_lay_j202) 4 (fun i d' => (∀ a, a ≠ 11 → d' a = d a) ∧ (∀ x, x < i → d' 11 x = d 11 (4 + x)) ∧ ∀ x, i ≤ x → d' 11 x = d 11 x) ?_ ?_ 4 0 d 1000 (by omega) (by omega) ⟨fun _ _ => rfl, fun x h => absurd h (by omega), fun _ _ => rfl⟩
  · obtain ⟨d', ⟨h1, h2, -⟩, h3⟩ := key
    exact ⟨d', h3 (), h1, h2⟩
  · rintro i d' hi ⟨h1, h2, h4⟩
    have v := h4 (4 + i) (by omega)
    refine ⟨m_st d' 11 i (d 11 (4 + i)), ⟨fun a g1 => by rw [q_str g1]; exact h1 a g1, fun x hx => ?_, fun x hx => ?_⟩, fun _ r => ?_⟩
    · by_cases hxi : x = i
      · subst hxi; simp [q_st]
      · simp [q_st, hxi]; exact h2 x (by omega)
    · have hxi : ¬ x = i := by omega
      simp [q_st, hxi]; exact h4 x (by omega)
    · show X10_lay_b177 r (nI i) d' = _
      unfold X10_lay_b177
      rw [if_neg (show ¬ (4 : Int32) ≤ nI i from q_lez (n := 4) hi (by omega)), show (4 : Int32) + nI i = nI (4 + i) from nI_add 4 i, q_gi (by omega) (by omega), q_gi (by omega) (by omega), q_bnd, q_bnd, q_ix (by omega), q_ix (by omega), q_1, v]
  · rintro d' - _ r
    show X10_lay_b177 r (nI 4) d' = _
    unfold X10_lay_b177
    rw [if_pos (by decide)]
theorem lay_D4 {d : Mm} : ∃ d', X10_begin d = some d' ∧ (∀ a, a ≠ 0 → a ≠ 12 → d' a = d a) ∧ (∀ j, j ≠ 14 → j ≠ 16 → j ≠ 17 → d' 0 j = d 0 j) ∧ d' 0 14 = 0 ∧ d' 0 16 = 0 ∧ d' 0 17 = 0 ∧ ∀ x, x < 6 → d' 12 x = d 6 x ∧ d' 12 (6 + x) = 0 := by
  have key := q_for (ρ := Unit) (F := fun _ => X10_begin_b2) (k := fun _ => X10_begin_j36) 6 (fun i d' => (∀ a, a ≠ 12 → d' a = d a) ∧ (∀ x, x < i → d' 12 x = d 6 x ∧ d' 12 (6 + x) = 0)) ?_ ?_ 6 0 d 1000 (by omega) (by omega) ⟨fun _ _ => rfl, fun x h => absurd h (by omega)⟩
  · obtain ⟨d', ⟨h1, h2⟩, h3⟩ := key
    refine ⟨_, (h3 ()).trans rfl, fun a g1 g2 => by rw [q_str g1, q_str g1, q_str g1]; exact h1 a g2, fun j g1 g2 g3 => by simp [q_st, g1, g2, g3, h1 0 (by omega)], by simp [q_st], by simp [q_st], by simp [q_st], fun x hx => by rw [q_str (by omega), q_str (by omega), q_str (by omega)]; exact h2 x hx⟩
  · rintro i d' hi ⟨h1, h2⟩
    refine ⟨m_st (m_st d' 12 i (d 6 i)) 12 (6 + i) 0, ⟨fun a g1 => by rw [q_str g1, q_str g1]; exact h1 a g1, fun x hx => ?_⟩, fun _ r => ?_⟩
    · rw [q_st, if_pos rfl, if_neg (by omega), q_st, if_pos rfl, q_st, if_pos rfl, q_st, if_pos rfl]
      by_cases hxi : x = i
      · subst hxi; rw [if_pos rfl, if_pos rfl]; exact ⟨rfl, rfl⟩
      · rw [if_neg hxi, if_neg (by omega), if_neg (by omega)]; exact h2 x (by omega)
    · show X10_begin_b2 r (nI i) d' = _
      unfold X10_begin_b2
      rw [if_neg (show ¬ (6 : Int32) ≤ nI i from q_lez (n := 6) hi (by omega)), q_gi (by omega) (by omega), q_gi (by omega) (by omega), q_bnd, q_6, q_gi (by omega) (by omega), q_bnd, q_bnd, q_ix (by omega), q_ix (by omega), q_1, h1 6 (by omega)]
  · rintro d' - _ r
    show X10_begin_b2 r (nI 6) d' = _
    unfold X10_begin_b2
    rw [if_pos (by decide)]
theorem s_lay (c d : Mm) (h : Rel c d) : ∃ (r : Int32) (c1 d1 : Mm), X9_lay c = some (r, c1) ∧ X10_lay d = some (r, d1) ∧ Rel c1 d1 := by
  obtain ⟨r, c', d', x1, x2, x3, x4, x5⟩ := whole_both h
  have hR := h.pq x3 x4
  unfold X9_lay X10_lay X9_layText
  rw [x1, x2, q_cal, q_cal]
  by_cases hr : r = -4
  · obtain ⟨p, es, ⟨b, b1, b2, b3, b4⟩, ⟨m, m1, m2, m3, m4⟩, l1, l2, l3, l4⟩ := x5 hr
    rw [if_pos hr, if_pos hr, b2, b3]
    by_cases hb : b = 0
    · subst hb
      rw [if_pos (show nI 0 = (0 : Int32) from rfl), if_pos (show nI 0 = (0 : Int32) from rfl), q_cal, if_pos rfl]
      exact fin_ rfl rfl rfl hR
    · have hb0 : ¬ nI b = (0 : Int32) := nI_ne0 (by omega) (by omega)
      obtain ⟨c1, y1, y2, y3, y4⟩ := lay_C1 (c := c')
      obtain ⟨c2, y5, y6, y7⟩ := lay_C2 (c := c1)
      obtain ⟨d1, z1, z2, z3⟩ := lay_D1 (d := m_st (m_st d' 2 0 (nI b)) 8 0 (nI m))
      obtain ⟨d2, z4, z5, z6⟩ := lay_D2 (d := d1)
      obtain ⟨d3, z7, z8, z9⟩ := lay_D3 (d := d2)
      obtain ⟨d4, w1, w2, w3, w4, w5, w6, w7⟩ := lay_D4 (d := d3)
      have hC : (m_cav (X1_copy c') fun c3 => m_cav (X3_begin c3) fun c4 => m_bnd (m_st c4 9 3 (0 : Int32)) fun c5 => m_cal (X6_empty c5) fun r6 c7 => m_bnd (m_st c7 11 2 (0 : Int32)) fun c8 => some ((1 : Int32), c8)) = some (1, m_st (m_st (m_st c2 9 3 0) 10 2 0) 11 2 0) := by
        rw [y1, q_cav, y5, q_cav]; rfl
      have hD : (m_bnd (m_st d' 2 0 (nI b)) fun c15 => m_bnd (m_st c15 8 0 (c15 8 1)) fun c16 => m_lp1 (X10_lay_b47) 1000 (0 : Int32) c16) = some (d4 2 0, d4) := by
        rw [q_bnd, q_str (b := 8) (by omega), m3, q_bnd, z1, z4, z7]
        unfold X10_lay_j202
        rw [w1, q_cav]
      rw [if_neg hb0, if_neg hb0, hC, hD, q_cal, if_neg ne10]
      -- rows
      have rc : ∀ a, a ≠ 4 → a ≠ 9 → a ≠ 10 → a ≠ 11 → (a < 21 ∨ 29 < a) → m_st (m_st (m_st c2 9 3 0) 10 2 0) 11 2 0 a = c' a := fun a g1 g2 g3 g4 g5 => by rw [q_str g4, q_str g3, q_str g2, y6 a (by omega) (by omega), y2 a g1 (by omega)]
      have rc' : ∀ a, a ≠ 9 → a ≠ 10 → a ≠ 11 → a ≠ 28 → a ≠ 29 → m_st (m_st (m_st c2 9 3 0) 10 2 0) 11 2 0 a = c1 a := fun a g1 g2 g3 g4 g5 => by rw [q_str g3, q_str g2, q_str g1, y6 a g4 g5]
      have rd : ∀ a, 12 ≤ a → a ≠ 12 → d4 a = d' a := fun a g1 g2 => by rw [w2 a (by omega) g2, z8 a (by omega), z5 a (by omega) (by omega), z2 a (by omega), q_str (by omega), q_str (by omega)]
      have rd0 : ∀ j, j ≠ 14 → j ≠ 16 → j ≠ 17 → d4 0 j = d' 0 j := fun j g1 g2 g3 => by rw [w3 j g1 g2 g3, z8 0 (by omega), z5 0 (by omega) (by omega), z2 0 (by omega), q_str (by omega), q_str (by omega)]
      have rd1 : d4 1 = d' 1 := by rw [w2 1 (by omega) (by omega), z8 1 (by omega), z5 1 (by omega) (by omega), z2 1 (by omega), q_str (by omega), q_str (by omega)]
      have e2 : d4 2 0 = nI b := by rw [w2 2 (by omega) (by omega), z8 2 (by omega), z5 2 (by omega) (by omega), z2 2 (by omega), q_str (by omega), q_st, if_pos rfl, if_pos rfl]
      have e8 : d4 8 0 = nI m := by rw [w2 8 (by omega) (by omega), z8 8 (by omega), z5 8 (by omega) (by omega), z2 8 (by omega), q_st, if_pos rfl, if_pos rfl]
      have e37 : ∀ a, 3 ≤ a → a ≤ 7 → ∀ x, x < 6 → d3 a x = d' a (6 + x) := fun a g1 g2 x hx => by rw [z8 a (by omega), z5 a (by omega) (by omega), z3 a g1 g2 x hx, q_str (by omega), q_str (by omega)]
      have e37' : ∀ a, 3 ≤ a → a ≤ 7 → ∀ x, x < 6 → d4 a x = d' a (6 + x) := fun a g1 g2 x hx => by rw [w2 a (by omega) (by omega)]; exact e37 a g1 g2 x hx
      have e9 : ∀ x, x < 3 → d4 9 x = d' 9 (3 + x) ∧ d4 10 x = d' 10 (3 + x) := fun x hx => by
        obtain ⟨t1, t2⟩ := z6 x hx
        rw [w2 9 (by omega) (by omega), w2 10 (by omega) (by omega), z8 9 (by omega), z8 10 (by omega), t1, t2, z2 9 (by omega), z2 10 (by omega), q_str (by omega), q_str (by omega), q_str (by omega), q_str (by omega)]
        exact ⟨rfl, rfl⟩
      have e11 : ∀ x, x < 4 → d4 11 x = d' 11 (4 + x) := fun x hx => by rw [w2 11 (by omega) (by omega), z9 x hx, z5 11 (by omega) (by omega), z2 11 (by omega), q_str (by omega), q_str (by omega)]
      have c4 : ∀ x, x < 6 → m_st (m_st (m_st c2 9 3 0) 10 2 0) 11 2 0 4 x = c' 2 x := fun x hx => by rw [rc' 4 (by omega) (by omega) (by omega) (by omega) (by omega)]; exact (y3 x hx).1
      obtain ⟨n, t1, t2, t3, t4⟩ := hR.1
      refine fin_ rfl rfl (by rw [c4 0 (by omega), b2, e2]) ⟨⟨n, t1, by rw [rc 1 (by omega) (by omega) (by omega) (by omega) (by omega)]; exact t2, by rw [rd0 0 (by omega) (by omega) (by omega)]; exact t3, fun j hj => by rw [rc 12 (by omega) (by omega) (by omega) (by omega) (by omega), rd1]; exact t4 j hj⟩, b, ⟨⟨by omega, b1, by rw [c4 0 (by omega)]; exact b2, e2⟩, ⟨m, m1, by rw [c4 1 (by omega)]; exact m2, e8, fun k hk => ?_⟩, ?_, ?_, ?_, ?_, fun i hi => ?_⟩, fun i hi => ?_, ⟨0, by omega, ?_, w4, fun k hk => absurd hk (by omega)⟩, ⟨0, by omega, ?_, w6, fun k hk => absurd hk (by omega)⟩, ⟨0, by omega, ?_, w5, fun k i hk => absurd hk (by omega)⟩⟩
      · obtain ⟨v1, v2⟩ := e9 k (by omega)
        obtain ⟨v3, v4⟩ := y4 k (by omega)
        rw [rc' 26 (by omega) (by omega) (by omega) (by omega) (by omega), rc' 27 (by omega) (by omega) (by omega) (by omega) (by omega), v1, v2, v3, v4]
        exact m4 k hk
      · rw [c4 2 (by omega), e11 0 (by omega)]; exact l1
      · rw [c4 3 (by omega), e11 1 (by omega)]; exact l2
      · rw [c4 4 (by omega), e11 2 (by omega)]; exact l3
      · rw [c4 5 (by omega), e11 3 (by omega)]; exact l4
      · obtain ⟨-, v1, v2, v3, v4, v5⟩ := y3 i (by omega)
        obtain ⟨u1, u2, u3, u4, u5⟩ := b4 i hi
        rw [rc' 21 (by omega) (by omega) (by omega) (by omega) (by omega), rc' 22 (by omega) (by omega) (by omega) (by omega) (by omega), rc' 23 (by omega) (by omega) (by omega) (by omega) (by omega), rc' 25 (by omega) (by omega) (by omega) (by omega) (by omega), v1, v2, v3, v5, e37' 3 (by omega) (by omega) i (by omega), e37' 4 (by omega) (by omega) i (by omega), e37' 5 (by omega) (by omega) i (by omega), e37' 7 (by omega) (by omega) i (by omega)]
        exact ⟨u1, u2, u3, u5⟩
      · obtain ⟨v1, v2⟩ := y7 i (by omega)
        obtain ⟨-, -, -, -, v4, -⟩ := y3 i (by omega)
        obtain ⟨-, -, -, u4, -⟩ := b4 i hi
        obtain ⟨q1, q2⟩ := w7 i (by omega)
        have r28 : m_st (m_st (m_st c2 9 3 0) 10 2 0) 11 2 0 (m_pL 5) i = d' 6 (6 + i) := by
          show m_st (m_st (m_st c2 9 3 0) 10 2 0) 11 2 0 28 i = _
          rw [q_str (by omega), q_str (by omega), q_str (by omega), v1, v4]; exact u4.1
        have r29 : m_st (m_st (m_st c2 9 3 0) 10 2 0) 11 2 0 (m_pD 5) i = 0 := by
          show m_st (m_st (m_st c2 9 3 0) 10 2 0) 11 2 0 29 i = _
          rw [q_str (by omega), q_str (by omega), q_str (by omega), v2]
        rw [r28, r29, q1, q2, e37 6 (by omega) (by omega) i (by omega)]
        exact ⟨⟨rfl, u4.2⟩, rfl, 0, by omega, by omega, rfl⟩
      · rw [q_str (by omega), q_str (by omega), q_st, if_pos rfl, if_pos rfl]; rfl
      · rw [q_str (by omega), q_st, if_pos rfl, if_pos rfl]; rfl
      · rw [q_st, if_pos rfl, if_pos rfl]; rfl
  · rw [if_neg hr, if_neg hr, q_cal, if_pos rfl]
    exact fin_ rfl rfl rfl hR
