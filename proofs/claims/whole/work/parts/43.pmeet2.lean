def ntD (d : Mm) (k : Nat) (a b y z : Int32) : Mm := m_st (m_st (m_st (m_st (m_st d 24 k a) 25 k b) 26 k y) 27 k z) 0 28 (nI (k + 1))
def g2 (d : Mm) (i j : Nat) (gi gj : Int32) : Mm := m_st (m_st d 22 i (d 22 i + gi)) 22 j (m_st d 22 i (d 22 i + gi) 22 j + gj)
theorem tl_D {k i j m : Nat} {d : Mm} {y gi : Int32} (hi : i < 6) (hj : j < 6) (hk : k < 15) (hm : m ≤ 120) (e : d 0 28 = nI k) : X10_meet_j211 (nI i) (nI j) (nI m) y (nI i) (d 22 i) gi d = some (ntD (g2 d i j gi (if y = nI j then 1 else 0)) k (nI m) ((8 : Int32) * nI i + nI j) y (d 18 (6 * m + (if d 4 i = 0 then i else j)))) := by
  have gi6 : ∀ {K : Option Mm}, m_gi (nI i) 6 K = K := q_gi (by omega) (by omega)
  have gj6 : ∀ {K : Option Mm}, m_gi (nI j) 6 K = K := q_gi (by omega) (by omega)
  have gi12 : ∀ {K : Option Mm}, m_gi (nI i) 12 K = K := q_gi (by omega) (by omega)
  have gk : ∀ {K : Option Mm}, m_gi (nI k) 15 K = K := q_gi (by omega) (by omega)
  have g7i : ∀ {K : Option Mm}, m_gi (nI (6 * m + i)) 726 K = K := q_gi (by omega) (by omega)
  have g7j : ∀ {K : Option Mm}, m_gi (nI (6 * m + j)) 726 K = K := q_gi (by omega) (by omega)
  have xi : m_ix (nI i) = i := q_ix (by omega)
  have xj : m_ix (nI j) = j := q_ix (by omega)
  have xk : m_ix (nI k) = k := q_ix (by omega)
  have x7i : m_ix (nI (6 * m + i)) = 6 * m + i := q_ix (by omega)
  have x7j : m_ix (nI (6 * m + j)) = 6 * m + j := q_ix (by omega)
  have tail : ∀ gj, X10_meet_j231 (nI i) (nI j) (nI m) y (nI j) (m_st d 22 i (d 22 i + gi) 22 j) gj (m_st d 22 i (d 22 i + gi)) = some (ntD (g2 d i j gi gj) k (nI m) ((8 : Int32) * nI i + nI j) y (d 18 (6 * m + (if d 4 i = 0 then i else j)))) := by
    intro gj
    have s0 : ∀ a b x z, b ≠ 0 → m_st a b x z 0 28 = a 0 28 := fun a b x z h => by rw [q_str (Ne.symm h)]
    have f0 : g2 d i j gi gj 0 28 = nI k := by unfold g2; rw [q_str (by omega), q_str (by omega)]; exact e
    have f4 : g2 d i j gi gj 4 = d 4 := by unfold g2; rw [q_str (by omega), q_str (by omega)]
    have f18 : g2 d i j gi gj 18 = d 18 := by unfold g2; rw [q_str (by omega), q_str (by omega)]
    unfold X10_meet_j231 X10_meet_j301 ntD
    rw [gj6, xj, q_bnd, show m_st (m_st d 22 i (d 22 i + gi)) 22 j (m_st d 22 i (d 22 i + gi) 22 j + gj) = g2 d i j gi gj from rfl, f0, gk, xk, q_bnd]
    rw [q_str (b := 0) (by omega), f0, gk, xk, q_bnd]
    rw [q_str (b := 0) (by omega), q_str (b := 0) (by omega), f0, gk, xk, q_bnd, gi12, xi, q_str (b := 0) (by omega), q_str (b := 0) (by omega), q_str (b := 0) (by omega), f0, q_6m, q_6m, gk, xk, x7i, x7j, g7i, q_bnd, q_bnd, g7j, gk, q_bnd, q_bnd, q_str (b := 4) (by omega), q_str (b := 4) (by omega), q_str (b := 4) (by omega), f4, q_str (b := 18) (by omega), q_str (b := 18) (by omega), q_str (b := 18) (by omega), f18]
    rw [q_str (b := 0) (by omega), q_str (b := 0) (by omega), q_str (b := 0) (by omega), q_str (b := 0) (by omega), f0]
    rw [q_str (b := 0) (by omega), q_str (b := 0) (by omega), q_str (b := 0) (by omega), q_str (b := 0) (by omega), f0, q_1]
    by_cases h : d 4 i = 0
    · rw [if_pos h, if_pos h]
    · rw [if_neg h, if_neg h]
  unfold X10_meet_j211
  rw [gi6, xi, q_bnd, gj6, xj, tail, tail]
  by_cases h : y = nI j
  · rw [if_pos h, if_pos h]
  · rw [if_neg h, if_neg h]
theorem ds_D {k i j : Nat} {vi vj bi bj gi gj mm pp y z : Int32} {d : Mm} (hij : i ≠ j) : dsD k i j vi vj bi bj gi gj mm pp y z d (ntD (g2 (stD (stD d i vi bi) j vj bj) i j gi gj) k mm pp y z) := by
  have hji := Ne.symm hij
  refine ⟨fun a g1 g2' => ?_, ?_, ?_, ?_, ?_, ?_, fun x hx => ?_, fun x => ?_⟩
  · unfold ntD g2 stD
    repeat rw [q_str (b := a) (by omega)]
  · funext x; unfold ntD g2 stD u2; by_cases h1 : x = i <;> by_cases h2 : x = j <;> simp [q_st, h1, h2, hij, hji]; (first | exact absurd (h1.symm.trans h2) hij | skip)
  · funext x; unfold ntD g2 stD u2; by_cases h1 : x = i <;> by_cases h2 : x = j <;> simp [q_st, h1, h2, hij, hji]; (first | exact absurd (h1.symm.trans h2) hij | skip)
  · funext x; unfold ntD g2 stD u2; by_cases h1 : x = i <;> by_cases h2 : x = j <;> simp [q_st, h1, h2, hij, hji]; (first | exact absurd (h1.symm.trans h2) hij | skip)
  · funext x; unfold ntD g2 stD u2; by_cases h1 : x = i <;> by_cases h2 : x = j <;> simp [q_st, h1, h2, hij, hji]; (first | exact absurd (h1.symm.trans h2) hij | skip)
  · unfold ntD; simp [q_st]
  · unfold ntD g2 stD; simp [q_st, hx]
  · unfold ntD g2 stD; simp [q_st]
/-- both sides of a meeting -/
theorem meet_both {pk nb k i j r m : Nat} {c d : Mm} (h1 : cRel nb c d) (h2 : pRel pk nb c d) (hi : i < nb) (hj : j < nb) (hij : i ≠ j) (hr : r ≤ 3) (hm : m ≤ 120) (hk : k < 15) (e1 : c 8 11 = nI k) (e2 : d 0 28 = nI k) (e33 : ∀ x, x < nb → c 33 x = d 18 (6 * m + x)) (e34i : c 34 i = d 19 i) (e34j : c 34 j = d 19 j) :
    ∃ vi vj bi bj gi gj mm pp y z c' d', X2_meet pk (nI r) (nI m) (nI i) (nI j) c = some c' ∧ X10_meet (nI r) (nI i) (nI j) (nI m) d = some d' ∧ rg vi 0 33 ∧ rg vj 0 33 ∧ dsC k i j vi vj bi bj gi gj mm pp y z c c' ∧ dsD k i j vi vj bi bj gi gj mm pp y z d d' := by
  obtain ⟨y, y1, y2, y3⟩ := yield_both h1 h2 hi hj hr
  have nar := narrow_both h1
  obtain ⟨⟨b1, b2, b3, b4⟩, -, ⟨lY, Y, hY1, hY9, pY⟩, ⟨lH, H, hH1, hH30, pH⟩, -, -, hb⟩ := id h1
  have wi : c 22 i = d 4 i := (hb i hi).2.1.1
  have wj : c 22 j = d 4 j := (hb j hj).2.1.1
  obtain ⟨⟨li, A, -, hA, pA⟩, -⟩ := h2 i hi
  obtain ⟨⟨lj, B, -, hB, pB⟩, -⟩ := h2 j hj
  have gi6 : ∀ {K : Option Mm}, m_gi (nI i) 6 K = K := q_gi (by omega) (by omega)
  have gj6 : ∀ {K : Option Mm}, m_gi (nI j) 6 K = K := q_gi (by omega) (by omega)
  have gi12 : ∀ {K : Option Mm}, m_gi (nI i) 12 K = K := q_gi (by omega) (by omega)
  have gj12 : ∀ {K : Option Mm}, m_gi (nI j) 12 K = K := q_gi (by omega) (by omega)
  have g7i : ∀ {K : Option Mm}, m_gi (nI (6 * m + i)) 726 K = K := q_gi (by omega) (by omega)
  have g7j : ∀ {K : Option Mm}, m_gi (nI (6 * m + j)) 726 K = K := q_gi (by omega) (by omega)
  have xi : m_ix (nI i) = i := q_ix (by omega)
  have xj : m_ix (nI j) = j := q_ix (by omega)
  have x7i : m_ix (nI (6 * m + i)) = 6 * m + i := q_ix (by omega)
  have x7j : m_ix (nI (6 * m + j)) = 6 * m + j := q_ix (by omega)
  have nij : ¬ nI i = nI j := fun h => hij ((nI_eq (by omega) (by omega)).mp h)
  have nji : ¬ nI j = nI i := fun h => nij h.symm
  -- the stands, one after the other
  have C2 : ∀ (a b p q : Nat), a < 6 → b < 6 → a ≠ b → p < 100 → q < 100 → X2_makeStand (nI a) (nI p) c = some (stC c a (nI p) (bon p (c 34 a) (c 33 a) (en (c 22 a)))) ∧ X2_makeStand (nI b) (nI q) (stC c a (nI p) (bon p (c 34 a) (c 33 a) (en (c 22 a)))) = some (stC (stC c a (nI p) (bon p (c 34 a) (c 33 a) (en (c 22 a)))) b (nI q) (bon q (c 34 b) (c 33 b) (en (c 22 b)))) := by
    intro a b p q ha hb' hab hp hq
    refine ⟨mk_C ha hp, ?_⟩
    rw [mk_C hb' hq]
    have z34 : stC c a (nI p) (bon p (c 34 a) (c 33 a) (en (c 22 a))) 34 b = c 34 b := by unfold stC; simp [q_st, Ne.symm hab]
    have z33 : stC c a (nI p) (bon p (c 34 a) (c 33 a) (en (c 22 a))) 33 b = c 33 b := by unfold stC; simp [q_st]
    have z22 : stC c a (nI p) (bon p (c 34 a) (c 33 a) (en (c 22 a))) 22 b = c 22 b := by unfold stC; simp [q_st]
    rw [z34, z33, z22]
  have D2 : ∀ (p q : Nat), p < 100 → q < 100 → ∃ e, X10_standMore (nI i) (nI p) (nI m) d = some e ∧ X10_standMore (nI j) (nI q) (nI m) e = some (stD (stD d i (nI p) (bon p (c 34 i) (c 33 i) (en (c 22 i)))) j (nI q) (bon q (c 34 j) (c 33 j) (en (c 22 j)))) := by
    intro p q hp hq
    refine ⟨_, mk_D (by omega) hp hm, ?_⟩
    rw [mk_D (by omega) hq hm, ← e34i, ← e33 i hi, ← wi]
    have z19 : stD d i (nI p) (bon p (c 34 i) (c 33 i) (en (c 22 i))) 19 j = c 34 j := by rw [e34j]; unfold stD; simp [q_st, Ne.symm hij]
    have z18 : stD d i (nI p) (bon p (c 34 i) (c 33 i) (en (c 22 i))) 18 (6 * m + j) = c 33 j := by rw [e33 j hj]; unfold stD; simp [q_st]
    have z4 : stD d i (nI p) (bon p (c 34 i) (c 33 i) (en (c 22 i))) 4 j = c 22 j := by rw [wj]; unfold stD; simp [q_st]
    rw [z19, z18, z4]
  obtain ⟨z, hz⟩ : ∃ z, z = c 33 (if c 22 i = 0 then i else j) := ⟨_, rfl⟩
  have hz' : d 18 (6 * m + (if d 4 i = 0 then i else j)) = z := by
    rw [hz, wi]; split
    · exact (e33 i hi).symm
    · exact (e33 j hj).symm
  -- ends
  have EC : ∀ c1 : Mm, c1 8 11 = nI k → c1 33 = c 33 → c1 22 = c 22 → X2_meet_j169 pk (nI m) (nI i) (nI j) y c1 = some (ntC c1 k (nI m) ((8 : Int32) * nI i + nI j) y z) := by
    intro c1 q1 q2 q3
    rw [tl_C (by omega) (by omega) hk q1, q2, q3, hz]
  have ED : ∀ (p q : Nat) (bi bj gi : Int32), X10_meet_j211 (nI i) (nI j) (nI m) y (nI i) (stD (stD d i (nI p) bi) j (nI q) bj 22 i) gi (stD (stD d i (nI p) bi) j (nI q) bj) = some (ntD (g2 (stD (stD d i (nI p) bi) j (nI q) bj) i j gi (if y = nI j then 1 else 0)) k (nI m) ((8 : Int32) * nI i + nI j) y z) := by
    intro p q bi bj gi
    have z0 : stD (stD d i (nI p) bi) j (nI q) bj 0 28 = nI k := by unfold stD; simp [q_st]; exact e2
    have z18 : stD (stD d i (nI p) bi) j (nI q) bj 18 = d 18 := by funext x; unfold stD; simp [q_st]
    have z4 : stD (stD d i (nI p) bi) j (nI q) bj 4 = d 4 := by funext x; unfold stD; simp [q_st]
    rw [tl_D (by omega) (by omega) hk hm z0, z18, z4, hz']
  have stc8 : ∀ (a b : Nat) (p q s t : Int32), stC (stC c a p s) b q t 8 11 = nI k ∧ stC (stC c a p s) b q t 33 = c 33 ∧ stC (stC c a p s) b q t 22 = c 22 := by
    intro a b p q s t
    refine ⟨by unfold stC; simp [q_st]; exact e1, by funext x; unfold stC; simp [q_st], by funext x; unfold stC; simp [q_st]⟩
  -- the reference after the extra is known
  have MD : ∀ (e0 p q : Nat), e0 ≤ 3 → p < 100 → q < 100 → (0 ≤ y → (if y = nI i then d 11 0 + d 12 i else 0) + nI e0 = nI p ∧ (if y = nI j then d 11 0 + d 12 j else 0) + nI e0 = nI q) → (¬ 0 ≤ y → d 11 1 + nI e0 = nI p ∧ d 11 1 + nI e0 = nI q) →
      X10_meet_j89 (nI i) (nI j) (nI m) y (nI e0) d = some (ntD (g2 (stD (stD d i (nI p) (bon p (c 34 i) (c 33 i) (en (c 22 i)))) j (nI q) (bon q (c 34 j) (c 33 j) (en (c 22 j)))) i j (if y = nI i then 1 else 0) (if y = nI j then 1 else 0)) k (nI m) ((8 : Int32) * nI i + nI j) y z) := by
    intro e0 p q he hp hq hv hv'
    obtain ⟨e, s1, s2⟩ := D2 p q hp hq
    have j167 : ∀ v8 s0, v8 + nI e0 = nI p → s0 + nI e0 = nI q → X10_meet_j167 (nI i) (nI j) (nI m) y (nI e0) v8 s0 d = some (ntD (g2 (stD (stD d i (nI p) (bon p (c 34 i) (c 33 i) (en (c 22 i)))) j (nI q) (bon q (c 34 j) (c 33 j) (en (c 22 j)))) i j (if y = nI i then 1 else 0) (if y = nI j then 1 else 0)) k (nI m) ((8 : Int32) * nI i + nI j) y z) := by
      intro v8 s0 q1 q2
      unfold X10_meet_j167
      rw [q1, s1, q_cav, q2, s2, q_cav, gi6, xi]
      by_cases h : y = nI i
      · rw [if_pos h, if_pos h, ED]
      · rw [if_neg h, if_neg h, ED]
    unfold X10_meet_j89 X10_meet_j128
    rw [xi, xj]
    simp only [gi12, gj12]
    by_cases hy : 0 ≤ y
    · obtain ⟨a1, a2⟩ := hv hy
      rw [if_pos hy]
      by_cases t1 : y = nI i
      · have t2 : ¬ y = nI j := fun t => nij (t1.symm.trans t)
        rw [if_pos t1] at a1
        rw [if_neg t2] at a2
        rw [if_pos t1, if_pos hy, if_neg t2]
        exact j167 _ _ a1 a2
      · rw [if_neg t1] at a1
        rw [if_neg t1, if_pos hy]
        by_cases t2 : y = nI j
        · rw [if_pos t2] at a2
          rw [if_pos t2]
          exact j167 _ _ a1 a2
        · rw [if_neg t2] at a2
          rw [if_neg t2]
          exact j167 _ _ a1 a2
    · obtain ⟨a1, a2⟩ := hv' hy
      rw [if_neg hy, if_neg hy]
      exact j167 _ _ a1 a2
  have ne4 : ∀ x : Nat, x < 6 → ¬ (-4 : Int32) = nI x := fun x hx h => q_m4 (by omega) h.symm
  rcases y3 with rfl | rfl | rfl
  · have he : ∃ e0, e0 ≤ 3 ∧ X2_meet pk (nI r) (nI m) (nI i) (nI j) c = X2_meet_j68 pk (nI m) (nI i) (nI j) (-4) (c 4 3) (nI e0) c ∧ X10_meet (nI r) (nI i) (nI j) (nI m) d = X10_meet_j89 (nI i) (nI j) (nI m) (-4) (nI e0) d := by
      obtain ⟨p1, hp1, n1, n2⟩ := nar (c 33 i)
      obtain ⟨p2, hp2, n3, n4⟩ := nar (c 33 j)
      unfold X2_meet X10_meet X2_meet_j63 X10_meet_j52 X10_meet_j77
      rw [y1, y2, q_cal, q_cal, if_pos rfl, if_neg (by decide), q_6m, q_6m, x7i, x7j, xi, xj]
      simp only [gi6, gj6, g7i, g7j, ne10, if_true, if_false]
      rw [← e33 i hi, n1, n2, q_cal, q_cal, ← e33 j hj, n3, n4, q_cal, q_cal]
      rcases hp1 with rfl | rfl
      · rw [if_pos rfl, if_pos rfl]
        rcases hp2 with rfl | rfl
        · exact ⟨0, by omega, by rw [if_pos rfl]; rfl, by rw [if_pos rfl]; rfl⟩
        · exact ⟨3, by omega, by rw [if_neg ne10]; rfl, by rw [if_neg ne10]; rfl⟩
      · rw [if_neg ne10, if_neg ne10]
        exact ⟨3, by omega, rfl, rfl⟩
    obtain ⟨e0, he0, x1, x2⟩ := he
    obtain ⟨c1, c2⟩ := C2 i j (H + e0) (H + e0) (by omega) (by omega) hij (by omega) (by omega)
    have hm1 := MD e0 (H + e0) (H + e0) he0 (by omega) (by omega) (fun h => absurd h (by decide)) (fun _ => by rw [pH, nI_add]; exact ⟨rfl, rfl⟩)
    obtain ⟨t1, t2, t3⟩ := stc8 i j (nI (H + e0)) (nI (H + e0)) (bon (H + e0) (c 34 i) (c 33 i) (en (c 22 i))) (bon (H + e0) (c 34 j) (c 33 j) (en (c 22 j)))
    refine ⟨nI (H + e0), nI (H + e0), bon (H + e0) (c 34 i) (c 33 i) (en (c 22 i)), bon (H + e0) (c 34 j) (c 33 j) (en (c 22 j)), 0, 0, nI m, (8 : Int32) * nI i + nI j, -4, z, _, _, ?_, x2.trans hm1, ⟨H + e0, by omega, by omega, rfl⟩, ⟨H + e0, by omega, by omega, rfl⟩, ds_C hij (Or.inl rfl) (Or.inl ⟨rfl, rfl, rfl⟩), ?_⟩
    · rw [x1]
      unfold X2_meet_j68
      rw [lH, pH, nI_add, q_bnd, c1, q_cav, c2, q_cav, EC _ t1 t2 t3]
    · rw [if_neg (ne4 i (by omega)), if_neg (ne4 j (by omega))]
      exact ds_D hij
  · have he : ∃ e0, e0 ≤ 3 ∧ X2_meet pk (nI r) (nI m) (nI i) (nI j) c = X2_meet_j112 pk (nI m) (nI i) (nI j) (nI i) (nI e0) c ∧ X10_meet (nI r) (nI i) (nI j) (nI m) d = X10_meet_j89 (nI i) (nI j) (nI m) (nI i) (nI e0) d := by
      obtain ⟨p1, hp1, n1, n2⟩ := nar (c 33 i)
      unfold X2_meet X10_meet X10_meet_j77
      rw [y1, y2, q_cal, q_cal, if_neg (q_m4 (by omega)), if_pos (q_ge0 (by omega)), q_6m, x7i, xi]
      simp only [gi6, g7i]
      rw [← e33 i hi, n1, n2, q_cal, q_cal]
      rcases hp1 with rfl | rfl
      · exact ⟨0, by omega, by rw [if_pos rfl]; rfl, by rw [if_pos rfl]; rfl⟩
      · exact ⟨3, by omega, by rw [if_neg ne10]; rfl, by rw [if_neg ne10]; rfl⟩
    obtain ⟨e0, he0, x1, x2⟩ := he
    obtain ⟨c1, c2⟩ := C2 i j (Y + A + e0) e0 (by omega) (by omega) hij (by omega) (by omega)
    have hm1 := MD e0 (Y + A + e0) e0 he0 (by omega) (by omega) (fun _ => by rw [if_pos rfl, if_neg nij, pY, pA, nI_add, nI_add]; exact ⟨rfl, Int32.zero_add _⟩) (fun h => absurd (q_ge0 (by omega)) h)
    obtain ⟨t1, t2, t3⟩ := stc8 i j (nI (Y + A + e0)) (nI e0) (bon (Y + A + e0) (c 34 i) (c 33 i) (en (c 22 i))) (bon e0 (c 34 j) (c 33 j) (en (c 22 j)))
    refine ⟨nI (Y + A + e0), nI e0, bon (Y + A + e0) (c 34 i) (c 33 i) (en (c 22 i)), bon e0 (c 34 j) (c 33 j) (en (c 22 j)), 1, 0, nI m, (8 : Int32) * nI i + nI j, nI i, z, _, _, ?_, x2.trans hm1, ⟨Y + A + e0, by omega, by omega, rfl⟩, ⟨e0, by omega, by omega, rfl⟩, ds_C hij (Or.inl rfl) (Or.inr (Or.inl ⟨rfl, rfl, rfl⟩)), ?_⟩
    · rw [x1]
      unfold X2_meet_j112 X2_meet_j153
      rw [gi6, xi, lY, li, pY, pA, nI_add, nI_add, c1, q_cav, if_pos rfl, c2, q_cav, gi6, gi6, q_bnd, EC _ (by rw [q_str (by omega)]; exact t1) (by rw [q_str (by omega)]; exact t2) (by rw [q_str (by omega)]; exact t3)]
    · rw [if_pos rfl, if_neg nij]
      exact ds_D hij
  · have he : ∃ e0, e0 ≤ 3 ∧ X2_meet pk (nI r) (nI m) (nI i) (nI j) c = X2_meet_j112 pk (nI m) (nI i) (nI j) (nI j) (nI e0) c ∧ X10_meet (nI r) (nI i) (nI j) (nI m) d = X10_meet_j89 (nI i) (nI j) (nI m) (nI j) (nI e0) d := by
      obtain ⟨p1, hp1, n1, n2⟩ := nar (c 33 j)
      unfold X2_meet X10_meet X10_meet_j77
      rw [y1, y2, q_cal, q_cal, if_neg (q_m4 (by omega)), if_pos (q_ge0 (by omega)), q_6m, x7j, xj]
      simp only [gj6, g7j]
      rw [← e33 j hj, n1, n2, q_cal, q_cal]
      rcases hp1 with rfl | rfl
      · exact ⟨0, by omega, by rw [if_pos rfl]; rfl, by rw [if_pos rfl]; rfl⟩
      · exact ⟨3, by omega, by rw [if_neg ne10]; rfl, by rw [if_neg ne10]; rfl⟩
    obtain ⟨e0, he0, x1, x2⟩ := he
    obtain ⟨c1, c2⟩ := C2 j i (Y + B + e0) e0 (by omega) (by omega) (Ne.symm hij) (by omega) (by omega)
    have hm1 := MD e0 e0 (Y + B + e0) he0 (by omega) (by omega) (fun _ => by rw [if_neg nji, if_pos rfl, pY, pB, nI_add, nI_add]; exact ⟨Int32.zero_add _, rfl⟩) (fun h => absurd (q_ge0 (by omega)) h)
    obtain ⟨t1, t2, t3⟩ := stc8 j i (nI (Y + B + e0)) (nI e0) (bon (Y + B + e0) (c 34 j) (c 33 j) (en (c 22 j))) (bon e0 (c 34 i) (c 33 i) (en (c 22 i)))
    refine ⟨nI e0, nI (Y + B + e0), bon e0 (c 34 i) (c 33 i) (en (c 22 i)), bon (Y + B + e0) (c 34 j) (c 33 j) (en (c 22 j)), 0, 1, nI m, (8 : Int32) * nI i + nI j, nI j, z, _, _, ?_, x2.trans hm1, ⟨e0, by omega, by omega, rfl⟩, ⟨Y + B + e0, by omega, by omega, rfl⟩, ds_C hij (Or.inr rfl) (Or.inr (Or.inr ⟨rfl, rfl, rfl⟩)), ?_⟩
    · rw [x1]
      unfold X2_meet_j112 X2_meet_j153
      rw [gj6, xj, lY, lj, pY, pB, nI_add, nI_add, c1, q_cav, if_neg nji, c2, q_cav, gj6, gj6, q_bnd, EC _ (by rw [q_str (by omega)]; exact t1) (by rw [q_str (by omega)]; exact t2) (by rw [q_str (by omega)]; exact t3)]
    · rw [if_neg nji, if_pos rfl]
      exact ds_D hij
