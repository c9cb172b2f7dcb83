/-! one minute: going on -/
def dB (m k : Nat) (c d : Mm) (i : Nat) : Prop :=
  (c 33 i = d 18 (6 * m + i) ∧ rg (d 18 (6 * m + i)) 0 60) ∧ (c 35 i = d 20 i ∧ (d 20 i = -4 ∨ rg (d 20 i) 0 120)) ∧ (d 20 i = -4 → c 34 i = d 19 i ∧ rg (d 19 i) 0 (30 + 33 * k)) ∧ c 36 i = d 21 i ∧ c 37 i = d 22 i ∧ c 38 i = d 23 i
theorem q_neg {a b : Nat} (h : a < b) (hb : b ≤ 3) : nI a - nI b < (0 : Int32) ∧ nI a - nI b ≤ (60 : Int32) ∧ ¬ (0 : Int32) ≤ nI a - nI b := by
  have : ∀ b, b < 4 → ∀ a, a < b → (nI a - nI b < (0 : Int32) ∧ nI a - nI b ≤ (60 : Int32) ∧ ¬ (0 : Int32) ≤ nI a - nI b) := by decide
  exact this b (by omega) a h
theorem go_step {nb m k i r : Nat} {c d c' d' : Mm} (h1 : cRel nb c d) (hm : 1 ≤ m) (hm2 : m ≤ 120) (hk : k ≤ 15) (hi : i < nb) (hB : dB (m - 1) k c d i) (fc : ∀ a, a ≠ 32 → a ≠ 33 → a ≠ 34 → c' a = c a) (fd : ∀ a, a ≠ 18 → a ≠ 19 → d' a = d a) (f33 : c' 33 i = c 33 i) (f34 : c' 34 i = c 34 i) (f19 : d' 19 i = d 19 i) (f18 : ∀ x, x < 6 * m → d' 18 x = d 18 x) :
    ∃ P L L', (∀ rc, X2_goOn_b2 rc (nI i) c' = rc (nI (i + 1)) (m_st (m_st (m_st c' 32 i (c 33 i)) 33 i P) 34 i L)) ∧ (∀ rc, X10_goMinute_b2 (nI r) (nI m) rc (nI i) d' = rc (nI (i + 1)) (m_st (m_st d' 18 (6 * m + i) P) 19 i L')) ∧ rg P 0 60 ∧ (d 20 i = -4 → L = L' ∧ rg L' 0 (30 + 33 * k)) ∧ (d 4 i = 0 → c 33 i ≤ P) ∧ (d 4 i ≠ 0 → P ≤ c 33 i) ∧ (d 20 i ≠ -4 → P = c 33 i) := by
  obtain ⟨⟨b1, b2, b3, b4⟩, -, -, -, -, -, hb⟩ := h1
  obtain ⟨-, ⟨ew, -⟩, ⟨ep, b, hb1, hb3, pb⟩, -⟩ := hb i hi
  obtain ⟨⟨e33, a, -, ha, pa⟩, ⟨e35, ar⟩, hst, -⟩ := hB
  have g6 : ∀ {k : Option Mm}, m_gi (nI i) 6 k = k := q_gi (by omega) (by omega)
  have g12 : ∀ {k : Option Mm}, m_gi (nI i) 12 k = k := q_gi (by omega) (by omega)
  have g7 : ∀ {k : Option Mm}, m_gi (nI (6 * m + i)) 726 k = k := q_gi (by omega) (by omega)
  have g7' : ∀ {k : Option Mm}, m_gi (nI (6 * (m - 1) + i)) 726 k = k := q_gi (by omega) (by omega)
  have hix : m_ix (nI i) = i := q_ix (by omega)
  have hix7 : m_ix (nI (6 * m + i)) = 6 * m + i := q_ix (by omega)
  have hix7' : m_ix (nI (6 * (m - 1) + i)) = 6 * (m - 1) + i := q_ix (by omega)
  have n4 : c' 4 0 = nI nb := by rw [fc 4 (by omega) (by omega) (by omega)]; exact b3
  have n2 : d' 2 0 = nI nb := by rw [fd 2 (by omega) (by omega)]; exact b4
  have v35 : m_st c' 32 i (c' 33 i) 35 i = d 20 i := by rw [q_str (by omega), fc 35 (by omega) (by omega) (by omega)]; exact e35
  have v34 : m_st c' 32 i (c' 33 i) 34 i = c 34 i := by rw [q_str (by omega)]; exact f34
  have v22 : m_st c' 32 i (c' 33 i) 22 i = d 4 i := by rw [q_str (by omega), fc 22 (by omega) (by omega) (by omega)]; exact ew
  have v23 : m_st c' 32 i (c' 33 i) 23 i = nI b := by rw [q_str (by omega), fc 23 (by omega) (by omega) (by omega), ep]; exact pb
  have v33 : m_st c' 32 i (c' 33 i) 33 i = nI a := by rw [q_str (by omega), f33, e33]; exact pa
  have u20 : d' 20 i = d 20 i := by rw [fd 20 (by omega) (by omega)]
  have u4 : d' 4 i = d 4 i := by rw [fd 4 (by omega) (by omega)]
  have u5 : d' 5 i = nI b := by rw [fd 5 (by omega) (by omega)]; exact pb
  have u18 : d' 18 (6 * (m - 1) + i) = nI a := by rw [f18 _ (by omega)]; exact pa
  have w19 : ∀ P, m_st d' 18 (6 * m + i) P 19 i = d 19 i := fun P => by rw [q_str (by omega)]; exact f19
  have e33a : c 33 i = nI a := by rw [e33]; exact pa
  have hai := ar_iff ar
  have hC : ∀ rc, X2_goOn_b2 rc (nI i) c' = if d 20 i = -4 then (if c 34 i ≤ 0 then (if d 4 i = 0 then rc (nI (i + 1)) (m_st (m_st c' 32 i (c' 33 i)) 33 i (if (60 : Int32) < nI a + nI b then 60 else nI a + nI b)) else rc (nI (i + 1)) (m_st (m_st c' 32 i (c' 33 i)) 33 i (if nI a - nI b < (0 : Int32) then 0 else nI a - nI b))) else rc (nI (i + 1)) (m_st (m_st c' 32 i (c' 33 i)) 34 i (c 34 i - 1))) else rc (nI (i + 1)) (m_st c' 32 i (c' 33 i)) := by
    intro rc
    unfold X2_goOn_b2 X2_goOn_j129
    rw [n4, if_neg (q_lez hi (by omega)), hix]
    simp only [g6, q_bnd, v35, v34, v22, v23, v33, q_1]
  have hD : ∀ rc, X10_goMinute_b2 (nI r) (nI m) rc (nI i) d' = rc (nI (i + 1)) (m_st (m_st d' 18 (6 * m + i) (if d 20 i = -4 ∧ d 19 i = 0 then (if d 4 i = 0 then (if nI a + nI b ≤ (60 : Int32) then (if (0 : Int32) ≤ nI a + nI b then nI a + nI b else 0) else 60) else (if nI a - nI b ≤ (60 : Int32) then (if (0 : Int32) ≤ nI a - nI b then nI a - nI b else 0) else 60)) else nI a)) 19 i (if d 19 i ≤ 0 then d 19 i - 0 else d 19 i - 1)) := by
    intro rc
    have hj : ∀ P, X10_goMinute_j128 rc (nI r) (nI m) (nI i) (nI (6 * m + i)) P d' = rc (nI (i + 1)) (m_st (m_st d' 18 (6 * m + i) P) 19 i (if d 19 i ≤ 0 then d 19 i - 0 else d 19 i - 1)) := by
      intro P
      unfold X10_goMinute_j128 X10_goMinute_j150
      rw [g7, hix7, q_bnd, g6, g6, hix, w19]
      by_cases g : d 19 i ≤ 0
      · rw [if_pos g, if_pos g, g6, q_bnd, q_bnd, q_1]
      · rw [if_neg g, if_neg g, g6, q_bnd, q_bnd, q_1]
    unfold X10_goMinute_b2 X10_goMinute_j50 X10_goMinute_j51 X10_goMinute_j83
    rw [n2, if_neg (q_lez hi (by omega)), q_6p hm, g7', hix7', q_bnd, g6, g6, hix, q_6m, u20, u18, f19, u4, u5]
    have e1 : ((0 : Int32) ≤ d 20 i) = (¬ d 20 i = -4) := propext hai
    simp only [hj, g12, e1]
    by_cases q1 : d 20 i = -4
    · by_cases q2 : d 19 i = 0
      · simp only [q1, q2, not_true, if_false, if_true, and_self, ne10]
        by_cases q3 : d 4 i = 0
        · simp only [q3, if_true]
          by_cases q4 : nI a + nI b ≤ (60 : Int32) <;> by_cases q5 : (0 : Int32) ≤ nI a + nI b <;> simp only [q4, q5, if_true, if_false]
        · simp only [q3, if_false]
          by_cases q4 : nI a - nI b ≤ (60 : Int32) <;> by_cases q5 : (0 : Int32) ≤ nI a - nI b <;> simp only [q4, q5, if_true, if_false]
      · simp only [q1, q2, not_true, if_false, if_true, and_false, ite_self]
    · simp only [q1, not_false_eq_true, if_false, if_true, false_and, ite_self]
  have k34 : ∀ P, m_st (m_st (m_st c' 32 i (c 33 i)) 33 i P) 34 i (c 34 i) = m_st (m_st c' 32 i (c 33 i)) 33 i P := by
    intro P
    have z : m_st (m_st c' 32 i (c 33 i)) 33 i P 34 i = c 34 i := by rw [q_str (by omega), q_str (by omega)]; exact f34
    rw [← z]; exact q_sts
  have k33 : m_st (m_st c' 32 i (c 33 i)) 33 i (nI a) = m_st c' 32 i (c 33 i) := by
    have z : m_st c' 32 i (c 33 i) 33 i = nI a := by rw [q_str (by omega), f33]; exact e33a
    rw [← z]; exact q_sts
  by_cases q1 : d 20 i = -4
  · obtain ⟨e34, l, -, hl, pl⟩ := hst q1
    by_cases hl0 : l = 0
    · -- it goes
      have z19 : d 19 i = 0 := by rw [pl, hl0]; rfl
      have z34 : c 34 i ≤ 0 := by rw [e34, z19]; decide
      by_cases q3 : d 4 i = 0
      · by_cases q4 : a + b ≤ 60
        · have y1 : ¬ (60 : Int32) < nI a + nI b := by rw [nI_add]; exact fun h => absurd ((q_ltX 60 (a + b) rfl rfl (by omega) (by omega)).mp h) (by omega)
          have y2 : nI a + nI b ≤ (60 : Int32) := by rw [nI_add]; exact (q_leX (a + b) 60 rfl rfl (by omega) (by omega)).mpr (by omega)
          have y3 : (0 : Int32) ≤ nI a + nI b := by rw [nI_add]; exact q_ge0 (by omega)
          refine ⟨nI a + nI b, c 34 i, if d 19 i ≤ 0 then d 19 i - 0 else d 19 i - 1, fun rc => ?_, fun rc => ?_, ⟨a + b, by omega, by omega, nI_add a b⟩, fun _ => ?_, fun _ => ?_, fun h => absurd q3 h, fun h => absurd q1 h⟩
          · rw [hC, if_pos q1, if_pos z34, if_pos q3, if_neg y1, f33, k34]
          · rw [hD, if_pos ⟨q1, z19⟩, if_pos q3, if_pos y2, if_pos y3]
          · rw [e34, z19]; exact ⟨by decide, 0, by omega, by omega, by decide⟩
          · rw [e33a, nI_add]; exact nI_le (by omega) (by omega)
        · have y1 : (60 : Int32) < nI a + nI b := by rw [nI_add]; exact (q_ltX 60 (a + b) rfl rfl (by omega) (by omega)).mpr (by omega)
          have y2 : ¬ nI a + nI b ≤ (60 : Int32) := by rw [nI_add]; exact fun h => absurd ((q_leX (a + b) 60 rfl rfl (by omega) (by omega)).mp h) (by omega)
          refine ⟨60, c 34 i, if d 19 i ≤ 0 then d 19 i - 0 else d 19 i - 1, fun rc => ?_, fun rc => ?_, ⟨60, by omega, by omega, rfl⟩, fun _ => ?_, fun _ => ?_, fun h => absurd q3 h, fun h => absurd q1 h⟩
          · rw [hC, if_pos q1, if_pos z34, if_pos q3, if_pos y1, f33, k34]
          · rw [hD, if_pos ⟨q1, z19⟩, if_pos q3, if_neg y2]
          · rw [e34, z19]; exact ⟨by decide, 0, by omega, by omega, by decide⟩
          · rw [e33a]; exact nI_le (b := 60) (by omega) (by omega)
      · by_cases q4 : b ≤ a
        · have ys : nI a - nI b = nI (a - b) := pk_sub q4
          have y1 : ¬ nI (a - b) < (0 : Int32) := nI_pos (by omega)
          have y2 : nI (a - b) ≤ (60 : Int32) := (q_leX (a - b) 60 rfl rfl (by omega) (by omega)).mpr (by omega)
          have y3 : (0 : Int32) ≤ nI (a - b) := q_ge0 (by omega)
          refine ⟨nI (a - b), c 34 i, if d 19 i ≤ 0 then d 19 i - 0 else d 19 i - 1, fun rc => ?_, fun rc => ?_, ⟨a - b, by omega, by omega, rfl⟩, fun _ => ?_, fun h => absurd h q3, fun _ => ?_, fun h => absurd q1 h⟩
          · rw [hC, if_pos q1, if_pos z34, if_neg q3, ys, if_neg y1, f33, k34]
          · rw [hD, if_pos ⟨q1, z19⟩, if_neg q3, ys, if_pos y2, if_pos y3]
          · rw [e34, z19]; exact ⟨by decide, 0, by omega, by omega, by decide⟩
          · rw [e33a]; exact nI_le (by omega) (by omega)
        · obtain ⟨y1, y2, y3⟩ := q_neg (show a < b by omega) hb3
          refine ⟨0, c 34 i, if d 19 i ≤ 0 then d 19 i - 0 else d 19 i - 1, fun rc => ?_, fun rc => ?_, ⟨0, by omega, by omega, rfl⟩, fun _ => ?_, fun h => absurd h q3, fun _ => ?_, fun h => absurd q1 h⟩
          · rw [hC, if_pos q1, if_pos z34, if_neg q3, if_pos y1, f33, k34]
          · rw [hD, if_pos ⟨q1, z19⟩, if_neg q3, if_pos y2, if_neg y3]
          · rw [e34, z19]; exact ⟨by decide, 0, by omega, by omega, by decide⟩
          · rw [e33a]; exact q_ge0 (by omega)
    · -- it stands
      have z19 : ¬ d 19 i = 0 := by rw [pl]; exact fun h => hl0 ((q_eqX l 0 rfl rfl (by omega) (by omega)).mp h)
      have z34 : ¬ c 34 i ≤ 0 := by rw [e34, pl]; exact fun h => hl0 (by have := (q_leX l 0 rfl rfl (by omega) (by omega)).mp h; omega)
      have z34' : ¬ d 19 i ≤ 0 := by rw [← e34]; exact z34
      refine ⟨nI a, c 34 i - 1, if d 19 i ≤ 0 then d 19 i - 0 else d 19 i - 1, fun rc => ?_, fun rc => ?_, ⟨a, by omega, by omega, rfl⟩, fun _ => ?_, fun _ => ?_, fun _ => ?_, fun h => absurd q1 h⟩
      · rw [hC, if_pos q1, if_neg z34, f33, k33]
      · rw [hD, if_neg (fun h => z19 h.2)]
      · rw [if_neg z34', e34]; exact ⟨rfl, l - 1, by omega, by omega, by rw [pl, q_m1 (by omega)]⟩
      · rw [e33a]; exact q_les (by omega)
      · rw [e33a]; exact q_les (by omega)
  · refine ⟨nI a, c 34 i, if d 19 i ≤ 0 then d 19 i - 0 else d 19 i - 1, fun rc => ?_, fun rc => ?_, ⟨a, by omega, by omega, rfl⟩, fun h => absurd h q1, fun _ => ?_, fun _ => ?_, fun _ => e33a.symm⟩
    · rw [hC, if_neg q1, f33, k34, k33]
    · rw [hD, if_neg (fun h => q1 h.1)]
    · rw [e33a]; exact q_les (by omega)
    · rw [e33a]; exact q_les (by omega)
theorem go_both {nb m k r : Nat} {c d : Mm} (h1 : cRel nb c d) (hm : 1 ≤ m) (hm2 : m ≤ 120) (hk : k ≤ 15) (hB : ∀ i, i < nb → dB (m - 1) k c d i) :
    ∃ c' d', X2_goOn c = some c' ∧ X10_goMinute (nI r) (nI m) d = X10_goMinute_j158 (nI r) (nI m) d' ∧ (∀ a, a ≠ 32 → a ≠ 33 → a ≠ 34 → c' a = c a) ∧ (∀ a, a ≠ 18 → a ≠ 19 → d' a = d a) ∧ (∀ x, x < 6 * m → d' 18 x = d 18 x) ∧
      ∀ x, x < nb → c' 32 x = c 33 x ∧ (c' 33 x = d' 18 (6 * m + x) ∧ rg (d' 18 (6 * m + x)) 0 60) ∧ (d 20 x = -4 → c' 34 x = d' 19 x ∧ rg (d' 19 x) 0 (30 + 33 * k)) ∧ (d 4 x = 0 → c 33 x ≤ c' 33 x) ∧ (d 4 x ≠ 0 → c' 33 x ≤ c 33 x) ∧ (d 20 x ≠ -4 → c' 33 x = c 33 x) := by
  obtain ⟨⟨b1, b2, b3, b4⟩, -⟩ := id h1
  have key := q_sim (ρ := Unit) (σ := Unit) (F := fun _ => X2_goOn_b2) (G := fun _ => X10_goMinute_b2 (nI r) (nI m)) (k := fun _ c => some c) (l := fun _ => X10_goMinute_j158 (nI r) (nI m)) nb (fun i c' d' => (∀ a, a ≠ 32 → a ≠ 33 → a ≠ 34 → c' a = c a) ∧ (∀ a, a ≠ 18 → a ≠ 19 → d' a = d a) ∧ (∀ x, x < 6 * m → d' 18 x = d 18 x) ∧ (∀ x, x < i → c' 32 x = c 33 x ∧ (c' 33 x = d' 18 (6 * m + x) ∧ rg (d' 18 (6 * m + x)) 0 60) ∧ (d 20 x = -4 → c' 34 x = d' 19 x ∧ rg (d' 19 x) 0 (30 + 33 * k)) ∧ (d 4 x = 0 → c 33 x ≤ c' 33 x) ∧ (d 4 x ≠ 0 → c' 33 x ≤ c 33 x) ∧ (d 20 x ≠ -4 → c' 33 x = c 33 x)) ∧ ∀ x, i ≤ x → c' 33 x = c 33 x ∧ c' 34 x = c 34 x ∧ d' 19 x = d 19 x) ?_ ?_ nb 0 c d 1000 1000 (by omega) (by omega) (by omega) ⟨fun _ _ _ _ => rfl, fun _ _ _ => rfl, fun _ _ => rfl, fun x h => absurd h (by omega), fun _ _ => ⟨rfl, rfl, rfl⟩⟩
  · obtain ⟨c', d', ⟨k1, k2, k3, k4, -⟩, k5, k6⟩ := key
    exact ⟨c', d', k5 (), k6 (), k1, k2, k3, k4⟩
  · rintro i c' d' hi ⟨k1, k2, k3, k4, k5⟩
    obtain ⟨f33, f34, f19⟩ := k5 i (by omega)
    obtain ⟨P, L, L', z1, z2, z3, z4, z5, z6, z7⟩ := go_step (r := r) h1 hm hm2 hk hi (hB i hi) k1 k2 f33 f34 f19 k3
    refine ⟨_, _, ⟨fun a g1 g2 g3 => ?_, fun a g1 g2 => ?_, fun x hx => ?_, fun x hx => ?_, fun x hx => ?_⟩, fun _ r => z1 r, fun _ r => z2 r⟩
    · rw [q_str g3, q_str g2, q_str g1]; exact k1 a g1 g2 g3
    · rw [q_str g2, q_str g1]; exact k2 a g1 g2
    · rw [q_str (by omega), q_st, if_pos rfl, if_neg (by omega)]; exact k3 x hx
    · by_cases hxi : x = i
      · subst hxi
        simp [q_st]
        exact ⟨z3, z4, z5, z6, z7⟩
      · have : ¬ 6 * m + x = 6 * m + i := by omega
        simp [q_st, hxi]
        obtain ⟨p1, p2, p3⟩ := k4 x (by omega)
        exact ⟨p1, p2, p3⟩
    · have : ¬ x = i := by omega
      simp [q_st, this]
      exact k5 x (by omega)
  · rintro c' d' ⟨k1, k2, -⟩
    refine ⟨fun _ r => ?_, fun _ rc => ?_⟩
    · show X2_goOn_b2 r (nI nb) c' = _
      unfold X2_goOn_b2
      rw [k1 4 (by omega) (by omega) (by omega), b3, if_pos (q_les (by omega))]
    · show X10_goMinute_b2 (nI r) (nI m) rc (nI nb) d' = _
      unfold X10_goMinute_b2
      rw [k2 2 (by omega) (by omega), b4, if_pos (q_les (by omega))]
