/-! trial plans -/
theorem copy_C {c : Mm} : ∃ c', X3_copy c = some c' ∧ (∀ a, a ≠ 30 → a ≠ 31 → c' a = c a) ∧ ∀ x, x < 6 → c' 30 x = c 28 x ∧ c' 31 x = c 29 x := by
  have gcc : ∀ {β : Type} {K : Option β}, m_gc (0 : Int32) (0 : Int32) (6 : Int32) 6 6 K = K := fun {β K} => q_gc 0 0 6 rfl rfl rfl (by omega) (by omega) (by omega) (by omega) (by omega)
  unfold X3_copy
  rw [gcc, q_bnd, gcc, q_bnd, ix0, ix6]
  refine ⟨_, rfl, fun a g1 g2 => by rw [q_cpr g2, q_cpr g1], fun x hx => ⟨?_, ?_⟩⟩
  · rw [q_cpr (by omega), q_cp, if_pos rfl, if_pos (by omega)]; congr 1; omega
  · rw [q_cp, if_pos rfl, if_pos (by omega), q_cpr (by omega)]; congr 1; omega
theorem s_send (v1 v2 v3 : Int32) (c d : Mm) (h : Rel c d) : ∃ (r : Int32) (c1 d1 : Mm), X9_send v1 v2 v3 c = some (r, c1) ∧ X10_send v1 v2 v3 d = some (r, d1) ∧ Rel c1 d1 := by
  obtain ⟨ht, nb, h1, h2, h3, h4, h5⟩ := id h
  obtain ⟨⟨b1, b2, b3, b4⟩, -⟩ := id h1
  unfold X9_send X10_send
  rw [q_isRule, q_cal, q_isRuleM, q_cal]
  rcases q_small (hi := 3) (n := 3) rfl v1 with h0 | ⟨h0, r, hr, rfl⟩
  · rw [if_pos h0, if_pos h0]; exact fin_ rfl rfl rfl h
  rw [h0, if_neg ne10, if_neg ne10, q_isBoat b3 b1, q_cal, q_isBoatM b4 b1, q_cal]
  rcases q_boat b1 b2 v2 with h0 | ⟨h0, w, hw, rfl⟩
  · rw [if_pos h0, if_pos h0]; exact fin_ rfl rfl rfl h
  rw [h0, if_neg ne10, if_neg ne10, q_isW, q_cal, q_inN v3 0 1 (by omega) (by omega), q_cal]
  rcases q_small (hi := 1) (n := 1) rfl v3 with h0 | ⟨h0, t, ht1, rfl⟩
  · rw [if_pos h0, if_pos h0]; exact fin_ rfl rfl rfl h
  have g6 : ∀ {K : Option (Int32 × Mm)}, m_gi (nI w) 6 K = K := q_gi (by omega) (by omega)
  have g12 : ∀ {K : Option (Int32 × Mm)}, m_gi (nI (6 + w)) 12 K = K := q_gi (by omega) (by omega)
  have xw : m_ix (nI w) = w := q_ix (by omega)
  have xw6 : m_ix (nI (6 + w)) = 6 + w := q_ix (by omega)
  obtain ⟨cc, p1, p2, p3⟩ := copy_C (c := c)
  rw [h0, if_neg ne10, if_neg ne10, p1, q_cav, q_6, g12, xw6, q_bnd]
  have step : ∀ (i : Nat) (c' d' : Mm), i < 31 → ((∀ a, a ≠ 8 → (a < 30 ∨ 42 < a) → c' a = c a) ∧ (∀ x, x < 6 → c' 30 x = c 28 x ∧ (x ≠ w → c' 31 x = c 29 x)) ∧ (∀ a, 1 ≤ a → (a < 18 ∨ 27 < a) → a ≠ 12 → d' a = d a) ∧ (∀ j, j ≠ 28 → d' 0 j = d 0 j) ∧ ∀ x, x ≠ 6 + w → d' 12 x = d 12 x) → ∃ (S : Int32) (c3 d3 : Mm), X2_run 6 (nI r) 120 (m_st c' 31 w (nI i)) = some (S, c3) ∧ X10_goDay (nI r) (m_st d' 12 (6 + w) (nI i)) = some (S, d3) ∧ (∀ a, a ≠ 8 → (a < 30 ∨ 42 < a) → c3 a = c a) ∧ (∀ x, x < 6 → c3 30 x = c 28 x ∧ (x ≠ w → c3 31 x = c 29 x)) ∧ (∀ a, 1 ≤ a → (a < 18 ∨ 27 < a) → a ≠ 12 → d3 a = d a) ∧ (∀ j, j ≠ 28 → d3 0 j = d 0 j) ∧ ∀ x, x ≠ 6 + w → d3 12 x = d 12 x := by
    rintro i c' d' hi ⟨x2, x3, x4, x5, x6⟩
    have hC : cRel nb (m_st c' 31 w (nI i)) (m_st d' 12 (6 + w) (nI i)) := h1.fr (fun a ha => by rw [q_str (by rintro rfl; revert ha; decide)]; exact x2 a (by rintro rfl; revert ha; decide) (by simp at ha; omega)) (fun a ha => by rw [q_str (by rintro rfl; revert ha; decide)]; exact x4 a (by simp at ha; omega) (by simp at ha; omega) (by rintro rfl; revert ha; decide))
    have hP : pRel 6 nb (m_st c' 31 w (nI i)) (m_st d' 12 (6 + w) (nI i)) := by
      intro x hx
      obtain ⟨⟨y1, y2⟩, y3, y4⟩ := h2 x hx
      have y1 : c 28 x = d 12 x := y1
      have y3 : c 29 x = d 12 (6 + x) := y3
      obtain ⟨z1, z2⟩ := x3 x (by omega)
      have e30 : m_st c' 31 w (nI i) (m_pL 6) x = d 12 x := by
        show m_st c' 31 w (nI i) 30 x = _
        rw [q_str (by omega), z1]; exact y1
      have e12 : m_st d' 12 (6 + w) (nI i) 12 x = d 12 x := by rw [q_st, if_pos rfl, if_neg (by omega)]; exact x6 x (by omega)
      rw [e30, e12]
      refine ⟨⟨rfl, y2⟩, ?_⟩
      show m_st c' 31 w (nI i) 31 x = _ ∧ _
      rw [q_st, if_pos rfl, q_st, if_pos rfl]
      by_cases hxw : x = w
      · subst hxw
        rw [if_pos rfl, if_pos rfl]
        exact ⟨rfl, i, by omega, by omega, rfl⟩
      · rw [if_neg hxw, if_neg (by omega), z2 hxw, x6 _ (by omega)]
        exact ⟨y3, y4⟩
    obtain ⟨S, d3, q1, q2, q3⟩ := day_both (pk := 6) (Or.inr rfl) hr hC hP
    obtain ⟨c3, q4, q5, -, q6⟩ := q3 120 (by omega)
    obtain ⟨-, q7⟩ := q6 rfl
    have fC : (∀ a, a ≠ 8 → (a < 30 ∨ 42 < a) → c3 a = c a) ∧ (∀ x, x < 6 → c3 30 x = c 28 x ∧ (x ≠ w → c3 31 x = c 29 x)) := by
      refine ⟨fun a g1 g2 => by rw [q5 a g1 (by omega), q_str (by omega)]; exact x2 a g1 g2, fun x hx => ?_⟩
      rw [q5 30 (by omega) (by omega), q5 31 (by omega) (by omega), q_str (by omega), q_st, if_pos rfl]
      exact ⟨(x3 x hx).1, fun hxw => by rw [if_neg hxw]; exact (x3 x hx).2 hxw⟩
    have fD : (∀ a, 1 ≤ a → (a < 18 ∨ 27 < a) → a ≠ 12 → d3 a = d a) ∧ (∀ j, j ≠ 28 → d3 0 j = d 0 j) ∧ ∀ x, x ≠ 6 + w → d3 12 x = d 12 x := by
      refine ⟨fun a g1 g2 g3 => by rw [q2.1 a g1 g2, q_str g3]; exact x4 a g1 g2 g3, fun j hj => by rw [q2.2 j hj, q_str (by omega)]; exact x5 j hj, fun x hx => ?_⟩
      rw [q2.1 12 (by omega) (by omega), q_st, if_pos rfl, if_neg hx]; exact x6 x hx
    exact ⟨S, c3, d3, by rw [← q7]; exact q4, q1, fC.1, fC.2, fD.1, fD.2.1, fD.2.2⟩
  obtain ⟨S0, c0, d0, s1, s2, s3⟩ := step 0 cc d (by omega) ⟨fun a g1 g2 => p2 a (by omega) (by omega), fun x hx => ⟨(p3 x hx).1, fun _ => (p3 x hx).2⟩, fun _ _ _ _ => rfl, fun _ _ => rfl, fun _ _ => rfl⟩
  have stD : ∀ (i : Nat) (b v : Int32) (d' d3 : Mm) (S : Int32), i < 31 → X10_goDay (nI r) (m_st d' 12 (6 + w) (nI i)) = some (S, d3) → ∀ rc, X10_send_b48 (nI r) (nI w) (nI t) (d 12 (6 + w)) rc b v (nI i) d' = if b < 0 then rc (nI i) S (nI (i + 1)) d3 else if v ≤ S then rc b v (nI (i + 1)) d3 else rc (nI i) S (nI (i + 1)) d3 := by
    intro i b v d' d3 S hi q1 rc
    have hn : ¬ (30 : Int32) < nI i := fun h => absurd ((q_ltX 30 i rfl rfl (by omega) (by omega)).mp h) (by omega)
    unfold X10_send_b48 X10_send_j85 X10_send_j93
    rw [if_neg hn, q_6, g12, xw6, q_bnd, q1, q_cal, q_bnd, q_bnd, q_1]
  have hfst : m_lp3 (X10_send_b48 (nI r) (nI w) (nI t) (d 12 (6 + w))) 1000 (-4) 0 0 d = m_lp3 (X10_send_b48 (nI r) (nI w) (nI t) (d 12 (6 + w))) 999 (nI 0) S0 (nI 1) d0 :=
    (stD 0 (-4) 0 d d0 S0 (by omega) s2 (m_lp3 (X10_send_b48 (nI r) (nI w) (nI t) (d 12 (6 + w))) 999)).trans (if_pos (by decide))
  rw [g6, xw, q_bnd, show X2_run 6 (nI r) 120 (m_st cc 31 w 0) = some (S0, c0) from s1, q_cal, hfst]
  have key := q_sim3 (ρ := Unit) (σ := Unit) (F := fun _ => X9_send_b69 (nI r) (nI w) (nI t)) (G := fun _ => X10_send_b48 (nI r) (nI w) (nI t) (d 12 (6 + w))) (k := fun _ a u c => X9_send_j124 (nI t) a u c) (l := fun _ a u d9 => X10_send_j99 (nI w) (nI t) (d 12 (6 + w)) a u d9) 31 (fun _ a u c' b v d' => (a = b ∧ u = v ∧ ∃ n, n < 31 ∧ a = nI n) ∧ (∀ a, a ≠ 8 → (a < 30 ∨ 42 < a) → c' a = c a) ∧ (∀ x, x < 6 → c' 30 x = c 28 x ∧ (x ≠ w → c' 31 x = c 29 x)) ∧ (∀ a, 1 ≤ a → (a < 18 ∨ 27 < a) → a ≠ 12 → d' a = d a) ∧ (∀ j, j ≠ 28 → d' 0 j = d 0 j) ∧ ∀ x, x ≠ 6 + w → d' 12 x = d 12 x) ?_ ?_ 30 1 (nI 0) S0 c0 (nI 0) S0 d0 1000 999 (by omega) (by omega) (by omega) ⟨⟨rfl, rfl, 0, by omega, rfl⟩, s3⟩
  · obtain ⟨a, u, c', b, v, d', ⟨x1, x2, x3, x4, x5, x6⟩, k1, k2⟩ := key
    obtain ⟨rfl, rfl, -⟩ := x1
    have hd : frD d (m_st d' 12 (6 + w) (d 12 (6 + w))) := by
      refine ⟨fun a g1 g2 => ?_, fun j hj => by rw [q_str (by omega)]; exact x5 j hj⟩
      by_cases ha : a = 12
      · subst ha
        funext x
        rw [q_st, if_pos rfl]
        by_cases hx : x = 6 + w
        · rw [if_pos hx, hx]
        · rw [if_neg hx]; exact x6 x hx
      · rw [q_str ha]; exact x4 a g1 g2 ha
    have hR : Rel c' (m_st d' 12 (6 + w) (d 12 (6 + w))) := h.fd x2 hd
    have e1 : X10_send_j99 (nI w) (nI t) (d 12 (6 + w)) a u d' = if nI t = 0 then some (a, m_st d' 12 (6 + w) (d 12 (6 + w))) else some (u, m_st d' 12 (6 + w) (d 12 (6 + w))) := by
      unfold X10_send_j99
      rw [q_6, g12, xw6, q_bnd]
    have k1' : m_lp3 (X9_send_b69 (nI r) (nI w) (nI t)) 1000 (nI 0) S0 (nI 1) c0 = if nI t = 0 then some (a, c') else some (u, c') := k1 ()
    have k2' : m_lp3 (X10_send_b48 (nI r) (nI w) (nI t) (d 12 (6 + w))) 999 (nI 0) S0 (nI 1) d0 = _ := (k2 ()).trans e1
    rw [show m_lp3 (X9_send_b69 (nI r) (nI w) (nI t)) 1000 0 S0 1 c0 = _ from k1', k2']
    by_cases ht0 : nI t = 0
    · rw [if_pos ht0, if_pos ht0]; exact fin_ rfl rfl rfl hR
    · rw [if_neg ht0, if_neg ht0]; exact fin_ rfl rfl rfl hR
  · rintro i a u c' b v d' hi ⟨⟨rfl, rfl, n, hn31, rfl⟩, hJ⟩
    obtain ⟨S, c3, d3, q4, q1, hJ3⟩ := step i c' d' hi hJ
    have hn : ¬ (30 : Int32) < nI i := fun h => absurd ((q_ltX 30 i rfl rfl (by omega) (by omega)).mp h) (by omega)
    have stC' : ∀ rc, X9_send_b69 (nI r) (nI w) (nI t) rc (nI n) u (nI i) c' = if u ≤ S then rc (nI n) u (nI (i + 1)) c3 else rc (nI i) S (nI (i + 1)) c3 := by
      intro rc
      unfold X9_send_b69 X9_send_j118
      rw [if_neg hn, g6, xw, q_bnd, q4, q_cal, q_bnd, q_bnd, q_1]
    have hb0 : ¬ nI n < 0 := nI_pos (by omega)
    by_cases hu : u ≤ S
    · refine ⟨nI n, u, c3, nI n, u, d3, ⟨⟨rfl, rfl, n, hn31, rfl⟩, hJ3⟩, fun _ rc => (stC' rc).trans (if_pos hu), fun _ rc => (stD i (nI n) u d' d3 S hi q1 rc).trans (by rw [if_neg hb0, if_pos hu])⟩
    · refine ⟨nI i, S, c3, nI i, S, d3, ⟨⟨rfl, rfl, i, hi, rfl⟩, hJ3⟩, fun _ rc => (stC' rc).trans (if_neg hu), fun _ rc => (stD i (nI n) u d' d3 S hi q1 rc).trans (by rw [if_neg hb0, if_neg hu])⟩
  · rintro a u c' b v d' ⟨x1, x2, x3, x4, x5, x6⟩
    refine ⟨fun _ rc => ?_, fun _ rc => ?_⟩
    · show X9_send_b69 (nI r) (nI w) (nI t) rc a u (nI 31) c' = _
      unfold X9_send_b69
      rw [if_pos (by decide)]
    · show X10_send_b48 (nI r) (nI w) (nI t) (d 12 (6 + w)) rc b v (nI 31) d' = _
      unfold X10_send_b48
      rw [if_pos (by decide)]
