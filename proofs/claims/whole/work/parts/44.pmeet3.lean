/-! do they meet? then all meetings of a minute -/
def unc (w p : Nat → Int32) (a b : Nat) : Prop := (w a = 0 → p a < p b) ∧ (¬ w a = 0 → p b < p a)
theorem dm_both {nb m i j : Nat} {c d : Mm} (h6 : nb ≤ 6) (hi : i < nb) (hj : j < nb) (hm : 1 ≤ m) (hm2 : m ≤ 120) (e22 : ∀ x, x < nb → c 22 x = d 4 x) (e35 : ∀ x, x < nb → c 35 x = d 20 x) (har : ∀ x, x < nb → d 20 x = -4 ∨ rg (d 20 x) 0 120) (e32 : ∀ x, x < nb → c 32 x = d 18 (6 * (m - 1) + x)) (e33 : ∀ x, x < nb → c 33 x = d 18 (6 * m + x)) :
    (d 4 i = d 4 j → X10_doMeet (nI i) (nI j) (nI m) d = some (0, d)) ∧ (d 4 i ≠ d 4 j → ∃ b : Int32, (b = 0 ∨ (b = 1 ∧ d 20 i = -4 ∧ d 20 j = -4 ∧ unc (d 4) (c 32) i j ∧ ¬ unc (d 4) (c 33) i j)) ∧ X2_doMeet (nI i) (nI j) c = some (b, c) ∧ X10_doMeet (nI i) (nI j) (nI m) d = some (b, d)) := by
  have gi6 : ∀ {K : Option (Int32 × Mm)}, m_gi (nI i) 6 K = K := q_gi (by omega) (by omega)
  have gj6 : ∀ {K : Option (Int32 × Mm)}, m_gi (nI j) 6 K = K := q_gi (by omega) (by omega)
  have gi12 : ∀ {K : Option (Int32 × Mm)}, m_gi (nI i) 12 K = K := q_gi (by omega) (by omega)
  have gj12 : ∀ {K : Option (Int32 × Mm)}, m_gi (nI j) 12 K = K := q_gi (by omega) (by omega)
  have g7i : ∀ {K : Option (Int32 × Mm)}, m_gi (nI (6 * m + i)) 726 K = K := q_gi (by omega) (by omega)
  have g7j : ∀ {K : Option (Int32 × Mm)}, m_gi (nI (6 * m + j)) 726 K = K := q_gi (by omega) (by omega)
  have g8i : ∀ {K : Option (Int32 × Mm)}, m_gi (nI (6 * (m - 1) + i)) 726 K = K := q_gi (by omega) (by omega)
  have g8j : ∀ {K : Option (Int32 × Mm)}, m_gi (nI (6 * (m - 1) + j)) 726 K = K := q_gi (by omega) (by omega)
  have xi : m_ix (nI i) = i := q_ix (by omega)
  have xj : m_ix (nI j) = j := q_ix (by omega)
  have x7i : m_ix (nI (6 * m + i)) = 6 * m + i := q_ix (by omega)
  have x7j : m_ix (nI (6 * m + j)) = 6 * m + j := q_ix (by omega)
  have x8i : m_ix (nI (6 * (m - 1) + i)) = 6 * (m - 1) + i := q_ix (by omega)
  have x8j : m_ix (nI (6 * (m - 1) + j)) = 6 * (m - 1) + j := q_ix (by omega)
  have ai : ((0 : Int32) ≤ d 20 i) = (¬ d 20 i = -4) := propext (ar_iff (har i hi))
  have aj : ((0 : Int32) ≤ d 20 j) = (¬ d 20 j = -4) := propext (ar_iff (har j hj))
  have e0 : ¬ (1 : Int32) = 0 := by decide
  have hD : X10_doMeet (nI i) (nI j) (nI m) d = some (if d 4 i = d 4 j ∨ ¬ d 20 i = -4 ∨ ¬ d 20 j = -4 then 0 else if d 4 i = 0 then (if c 32 j ≤ c 32 i then 0 else if c 33 i < c 33 j then 0 else 1) else (if c 32 i ≤ c 32 j then 0 else if c 33 j < c 33 i then 0 else 1), d) := by
    simp only [X10_doMeet, X10_doMeet_j14, X10_doMeet_j30, X10_doMeet_j69, X10_doMeet_j70, q_6m, q_6p hm, gi6, gj6, gi12, gj12, g7i, g7j, g8i, g8j, xi, xj, x7i, x7j, x8i, x8j, ai, aj, ← e32 i hi, ← e32 j hj, ← e33 i hi, ← e33 j hj]
    by_cases w0 : d 4 i = 0
    · by_cases w : d 4 i = d 4 j
      · simp only [w, true_or, if_true, ite_self]
      · by_cases q1 : d 20 i = -4 <;> by_cases q2 : d 20 j = -4 <;> simp only [w, q1, q2, not_true, not_false_eq_true, false_or, or_false, or_true, true_or, if_true, if_false, w0, e0, ite_self]
        · by_cases p1 : c 32 j ≤ c 32 i <;> by_cases p2 : c 33 i < c 33 j <;> simp only [p1, p2, if_true, if_false, ite_self]
          all_goals (rw [w0] at w; simp only [w, if_false])
        all_goals (rw [w0] at w; simp only [w, if_false, if_true, ite_self])
    · by_cases w : d 4 i = d 4 j
      · simp only [w, true_or, if_true, ite_self]
      · by_cases q1 : d 20 i = -4 <;> by_cases q2 : d 20 j = -4 <;> simp only [w, q1, q2, not_true, not_false_eq_true, false_or, or_false, or_true, true_or, if_true, if_false, w0, e0, ite_self]
        · by_cases p1 : c 32 i ≤ c 32 j <;> by_cases p2 : c 33 j < c 33 i <;> simp only [p1, p2, if_true, if_false, ite_self]
  have hC : X2_doMeet (nI i) (nI j) c = some (if ¬ d 20 i = -4 ∨ ¬ d 20 j = -4 then 0 else if d 4 i = 0 then (if c 32 j ≤ c 32 i then 0 else if c 33 i < c 33 j then 0 else 1) else (if c 32 i ≤ c 32 j then 0 else if c 33 j < c 33 i then 0 else 1), c) := by
    simp only [X2_doMeet, X2_doMeet_j41, X2_doMeet_j59, gi6, gj6, xi, xj, e22 i hi, e35 i hi, e35 j hj]
    by_cases q1 : d 20 i = -4 <;> by_cases q2 : d 20 j = -4 <;> simp only [q1, q2, not_true, not_false_eq_true, false_or, or_false, or_true, true_or, if_true, if_false]
    by_cases w0 : d 4 i = 0 <;> simp only [w0, if_true, if_false]
    · by_cases p1 : c 32 j ≤ c 32 i <;> by_cases p2 : c 33 i < c 33 j <;> simp only [p1, p2, if_true, if_false]
    · by_cases p1 : c 32 i ≤ c 32 j <;> by_cases p2 : c 33 j < c 33 i <;> simp only [p1, p2, if_true, if_false]
  refine ⟨fun w => by rw [hD, if_pos (Or.inl w)], fun w => ?_⟩
  rw [hD, hC]
  by_cases q1 : d 20 i = -4
  · by_cases q2 : d 20 j = -4
    · have n1 : ¬ (¬ d 20 i = -4 ∨ ¬ d 20 j = -4) := by rintro (h | h); exact h q1; exact h q2
      have n2 : ¬ (d 4 i = d 4 j ∨ ¬ d 20 i = -4 ∨ ¬ d 20 j = -4) := by rintro (h | h | h); exact w h; exact h q1; exact h q2
      rw [if_neg n1, if_neg n2]
      refine ⟨_, ?_, rfl, rfl⟩
      by_cases w0 : d 4 i = 0
      · rw [if_pos w0]
        by_cases p1 : c 32 j ≤ c 32 i
        · rw [if_pos p1]; exact Or.inl rfl
        · rw [if_neg p1]
          by_cases p2 : c 33 i < c 33 j
          · rw [if_pos p2]; exact Or.inl rfl
          · rw [if_neg p2]; exact Or.inr ⟨rfl, q1, q2, ⟨fun _ => q_nle.mp p1, fun h => absurd w0 h⟩, fun h => p2 (h.1 w0)⟩
      · rw [if_neg w0]
        by_cases p1 : c 32 i ≤ c 32 j
        · rw [if_pos p1]; exact Or.inl rfl
        · rw [if_neg p1]
          by_cases p2 : c 33 j < c 33 i
          · rw [if_pos p2]; exact Or.inl rfl
          · rw [if_neg p2]; exact Or.inr ⟨rfl, q1, q2, ⟨fun h => absurd h w0, fun _ => q_nle.mp p1⟩, fun h => p2 (h.2 w0)⟩
    · rw [if_pos (Or.inr q2), if_pos (Or.inr (Or.inr q2))]; exact ⟨0, Or.inl rfl, rfl, rfl⟩
  · rw [if_pos (Or.inl q1), if_pos (Or.inr (Or.inl q1))]; exact ⟨0, Or.inl rfl, rfl, rfl⟩
/-- counts, rows and sum -/
def mS (nb k : Nat) (c d : Mm) : Prop := c 8 11 = nI k ∧ d 0 28 = nI k ∧ (∀ x, x < k → c 39 x = d 24 x ∧ c 40 x = d 25 x ∧ c 41 x = d 26 x ∧ c 42 x = d 27 x) ∧ c 8 9 = isum (d 21) nb
def mR (nb t : Nat) (c1 d1 c d : Mm) : Prop :=
  (∀ a, a ≠ 8 → (a < 34 ∨ a = 35 ∨ 42 < a) → c a = c1 a) ∧ (∀ a, 1 ≤ a → (a < 19 ∨ a = 20 ∨ 27 < a) → d a = d1 a) ∧ (∀ j, j ≠ 28 → d 0 j = d1 0 j) ∧ c 8 10 = c1 8 10 ∧ ((∀ x, x < nb → d1 20 x ≠ -4) → c = c1) ∧
  ∃ k g, k + sm g 36 ≤ 15 ∧ mS nb k c d ∧ (∀ x, x < nb → (d1 20 x = -4 → c 34 x = d 19 x ∧ rg (d 19 x) 0 (30 + 33 * k)) ∧ c 36 x = d 21 x ∧ c 37 x = d 22 x ∧ c 38 x = d 23 x) ∧
    ∀ a b, a < b → b < nb → d1 4 a ≠ d1 4 b → (unc (d1 4) (c1 33) a b → g (6 * a + b) = 1) ∧ (t ≤ 6 * a + b → unc (d1 4) (c1 32) a b → g (6 * a + b) = 1)
theorem mR.up {nb t t' : Nat} {c1 d1 c d : Mm} (h : mR nb t c1 d1 c d) (ht : t ≤ t') : mR nb t' c1 d1 c d := by
  obtain ⟨p1, p2, p3, p4, p5, k, g, q1, q2, q3, q4⟩ := h
  exact ⟨p1, p2, p3, p4, p5, k, g, q1, q2, q3, fun a b h1 h2 h3 => ⟨(q4 a b h1 h2 h3).1, fun h4 => (q4 a b h1 h2 h3).2 (by omega)⟩⟩
theorem q_rgadd {x v : Int32} {n k : Nat} (h1 : rg x 0 n) (h2 : rg v 0 k) : rg (x + v) 0 (n + k) := by
  obtain ⟨a, -, ha, rfl⟩ := h1
  obtain ⟨b, -, hb, rfl⟩ := h2
  exact ⟨a + b, by omega, by omega, nI_add a b⟩
theorem rg.up {x : Int32} {n k : Nat} (h : rg x 0 n) (hk : n ≤ k) : rg x 0 k := by
  obtain ⟨a, h1, h2, h3⟩ := h
  exact ⟨a, h1, by omega, h3⟩
theorem isum_u2 {f : Nat → Int32} {i j n : Nat} {a b : Int32} (hi : i < n) (hj : j < n) (hij : i ≠ j) : isum (u2 f i j a b) n = isum f n + a + b := by
  rw [isum_up (f := fun x => if x = i then f i + a else f x) (f' := u2 f i j a b) (i := j) (v := b) hj (by unfold u2; simp [Ne.symm hij]) (fun x _ hx => by unfold u2; simp [hx]), isum_up (f := f) (f' := fun x => if x = i then f i + a else f x) (i := i) (v := a) hi (by simp) (fun x _ hx => by simp [hx])]
theorem mR.st {pk nb r m i j : Nat} {c1 d1 c d : Mm} (hp : pk = 5 ∨ pk = 6) (h1 : cRel nb c1 d1) (h2 : pRel pk nb c1 d1) (hr : r ≤ 3) (hm : 1 ≤ m) (hm2 : m ≤ 120) (e35 : ∀ x, x < nb → c1 35 x = d1 20 x) (har : ∀ x, x < nb → d1 20 x = -4 ∨ rg (d1 20 x) 0 120) (e32 : ∀ x, x < nb → c1 32 x = d1 18 (6 * (m - 1) + x)) (e33 : ∀ x, x < nb → c1 33 x = d1 18 (6 * m + x))
    (hij : i < j) (hj : j < nb) (hR : mR nb (6 * i + j) c1 d1 c d) : ∃ c' d', mR nb (6 * i + (j + 1)) c1 d1 c' d' ∧ (∀ rc3 rc21, X2_meetAll_b21 pk rc3 (nI r) (nI m) (nI i) rc21 (nI j) c = rc21 (nI (j + 1)) c') ∧ ∀ rc160 rc175, X10_goMinute_b175 rc160 (nI r) (nI m) (nI i) rc175 (nI j) d = rc175 (nI (j + 1)) d' := by
  obtain ⟨f1, f2, f3, f4, f5, k, g, q1, q2, q3, q4⟩ := id hR
  have fc : frC c1 c := fun a g1 g2 => f1 a g1 (by omega)
  have fd : frD d1 d := ⟨fun a g1 g2 => f2 a g1 (by omega), f3⟩
  have h1' := h1.fd fc fd
  have h2' := h2.fd hp fc fd
  obtain ⟨⟨b1, b2, b3, b4⟩, -, -, -, -, -, hb⟩ := id h1'
  have r35 : c 35 = c1 35 := f1 35 (by omega) (by omega)
  have r32 : c 32 = c1 32 := f1 32 (by omega) (by omega)
  have r33 : c 33 = c1 33 := f1 33 (by omega) (by omega)
  have s20 : d 20 = d1 20 := f2 20 (by omega) (by omega)
  have s18 : d 18 = d1 18 := f2 18 (by omega) (by omega)
  have s4 : d 4 = d1 4 := f2 4 (by omega) (by omega)
  obtain ⟨dm1, dm2⟩ := dm_both (m := m) (i := i) (j := j) (c := c) (d := d) b2 (by omega) hj hm hm2 (fun x hx => (hb x hx).2.1.1) (fun x hx => by rw [r35, s20]; exact e35 x hx) (fun x hx => by rw [s20]; exact har x hx) (fun x hx => by rw [r32, s18]; exact e32 x hx) (fun x hx => by rw [r33, s18]; exact e33 x hx)
  have hC : ∀ rc3 rc21, X2_meetAll_b21 pk rc3 (nI r) (nI m) (nI i) rc21 (nI j) c = if d 4 i = d 4 j then rc21 (nI (j + 1)) c else m_cal (X2_doMeet (nI i) (nI j) c) fun r3 c4 => if r3 = 0 then rc21 (nI (j + 1)) c4 else m_cav (X2_meet pk (nI r) (nI m) (nI i) (nI j) c4) fun c5 => rc21 (nI (j + 1)) c5 := by
    intro rc3 rc21
    unfold X2_meetAll_b21 X2_meetAll_j78
    rw [b3, if_neg (q_lez hj (by omega)), q_gi (by omega) (by omega), q_gi (by omega) (by omega), q_ix (by omega), q_ix (by omega), (hb i (by omega)).2.1.1, (hb j hj).2.1.1]
    simp only [q_bnd, q_1]
  have hD : ∀ rc160 rc175, X10_goMinute_b175 rc160 (nI r) (nI m) (nI i) rc175 (nI j) d = m_cal (X10_doMeet (nI i) (nI j) (nI m) d) fun r7 c8 => if r7 = 0 then rc175 (nI (j + 1)) c8 else m_cav (X10_meet (nI r) (nI i) (nI j) (nI m) c8) fun c9 => rc175 (nI (j + 1)) c9 := by
    intro rc160 rc175
    unfold X10_goMinute_b175 X10_goMinute_j206
    rw [b4, if_neg (q_lez hj (by omega))]
    simp only [q_bnd, q_1]
  by_cases w : d 4 i = d 4 j
  · exact ⟨c, d, hR.up (by omega), fun rc3 rc21 => by rw [hC, if_pos w], fun rc160 rc175 => by rw [hD, dm1 w, q_cal, if_pos rfl]⟩
  · obtain ⟨b, hb', x1, x2⟩ := dm2 w
    rcases hb' with rfl | ⟨rfl, a1, a2, a3, a4⟩
    · exact ⟨c, d, hR.up (by omega), fun rc3 rc21 => by rw [hC, if_neg w, x1, q_cal, if_pos rfl], fun rc160 rc175 => by rw [hD, x2, q_cal, if_pos rfl]⟩
    · rw [s20] at a1 a2
      rw [s4, r32] at a3
      rw [s4, r33] at a4
      have hg : g (6 * i + j) = 1 := (q4 i j hij hj (by rw [← s4]; exact w)).2 (by omega) a3
      have hsm := (sm_up (g := g) (p := 6 * i + j) (n := 36) hg).1 (by omega)
      have hk : k < 15 := by omega
      obtain ⟨m1, m2, m3, m4⟩ := q2
      obtain ⟨vi, vj, bi, bj, gi, gj, mm, pp, y, z, c', d', y1, y2, y3, y4, ⟨dc1, dc2, dc3, dc4, dc5, dc6, dc7, dc8, dc9⟩, ⟨dd1, dd2, dd3, dd4, dd5, dd6, dd7, dd8⟩⟩ := meet_both h1' h2' (show i < nb by omega) hj (by omega) hr hm2 hk m1 m2 (fun x hx => by rw [r33, s18]; exact e33 x hx) ((q3 i (by omega)).1 a1).1 ((q3 j hj).1 a2).1
      refine ⟨c', d', ⟨fun a g1 g2 => by rw [dc1 a g1 g2]; exact f1 a g1 g2, fun a g1 g2 => by rw [dd1 a g1 g2]; exact f2 a g1 g2, fun x hx => by rw [dd7 x hx]; exact f3 x hx, by rw [dc7]; exact f4, fun hall => absurd a1 (hall i (by omega)), k + 1, fun x => if x = 6 * i + j then 0 else g x, by omega, ⟨dc8, dd6, fun x hx => ?_, ?_⟩, fun x hx => ?_, fun a b hab hb2 hw => ?_⟩, fun rc3 rc21 => by rw [hC, if_neg w, x1, q_cal, if_neg ne10, y1, q_cav], fun rc160 rc175 => by rw [hD, x2, q_cal, if_neg ne10, y2, q_cav]⟩
      · obtain ⟨t1, t2, t3, t4⟩ := dc9 x
        obtain ⟨u1, u2, u3, u4⟩ := dd8 x
        rw [t1, t2, t3, t4, u1, u2, u3, u4]
        by_cases hxk : x = k
        · simp only [hxk, if_true]; exact ⟨trivial, trivial, trivial, trivial⟩
        · simp only [hxk, if_false]; exact m3 x (by omega)
      · rw [dc6, m4, dd3, isum_u2 (by omega) hj (by omega)]
      · obtain ⟨t1, t2, t3, t4⟩ := q3 x hx
        rw [dc2, dc3, dc4, dc5, dd2, dd3, dd4, dd5]
        unfold u2
        by_cases hxi : x = i
        · subst hxi
          simp only [if_true]
          rw [t2, t3, t4]
          refine ⟨fun hx4 => ?_, rfl, rfl, rfl⟩
          obtain ⟨t1, t5⟩ := t1 hx4
          rw [t1]
          exact ⟨rfl, (q_rgadd t5 y3).up (by omega)⟩
        · simp only [hxi, if_false]
          by_cases hxj : x = j
          · subst hxj
            simp only [if_true]
            rw [t2, t3, t4]
            refine ⟨fun hx4 => ?_, rfl, rfl, rfl⟩
            obtain ⟨t1, t5⟩ := t1 hx4
            rw [t1]
            exact ⟨rfl, (q_rgadd t5 y4).up (by omega)⟩
          · simp only [hxj, if_false]
            exact ⟨fun hx4 => ⟨(t1 hx4).1, (t1 hx4).2.up (by omega)⟩, t2, t3, t4⟩
      · obtain ⟨t1, t2⟩ := q4 a b hab hb2 hw
        refine ⟨fun hu => ?_, fun ht hu => ?_⟩
        · show (if 6 * a + b = 6 * i + j then 0 else g (6 * a + b)) = 1
          rw [if_neg ?_]
          · exact t1 hu
          · intro he
            have : a = i ∧ b = j := by omega
            obtain ⟨rfl, rfl⟩ := this
            exact a4 hu
        · show (if 6 * a + b = 6 * i + j then 0 else g (6 * a + b)) = 1
          rw [if_neg (by omega)]
          exact t2 (by omega) hu
