/-! reading: letters and numbers -/
def tL (n : Nat) (c d : Mm) : Prop := n ≤ 200 ∧ c 1 1 = nI n ∧ d 0 0 = nI n ∧ ∀ j, j < n → c 12 j = d 1 j
def lt (n : Nat) (d : Mm) (p : Nat) : Int32 := if p < n then d 1 p else 0
theorem l_C {n p : Nat} {c d : Mm} (h : tL n c d) (hp : p ≤ 300) : X8_letterAt (nI p) c = some (if p < n then d 1 p else -4, c) := by
  obtain ⟨h1, h2, h3, h4⟩ := h
  unfold X8_letterAt
  rw [if_neg (nI_pos (by omega)), h2]
  by_cases g : p < n
  · rw [if_neg (q_lez g (by omega)), q_gi (by omega) (by omega), q_ix (by omega), if_pos g, h4 p g]
  · rw [if_pos ((q_leX n p rfl rfl (by omega) (by omega)).mpr (by omega)), if_neg g]
theorem l_D {n p : Nat} {c d : Mm} (h : tL n c d) (hp : p ≤ 300) : X10_letterAt (nI p) d = some (lt n d p, d) := by
  obtain ⟨h1, h2, h3, h4⟩ := h
  unfold X10_letterAt lt
  rw [h3]
  by_cases g : p < n
  · rw [if_neg (q_lez g (by omega)), q_gi (by omega) (by omega), q_ix (by omega), if_pos g]
  · rw [if_pos ((q_leX n p rfl rfl (by omega) (by omega)).mpr (by omega)), if_neg g]
/-- a letter of the text: a figure, or none -/
theorem l_dig (n : Nat) (d : Mm) (p : Nat) : (wn (lt n d p) 48 57 = 0 ∧ (p < n → wn (d 1 p) 48 57 = 0)) ∨ (wn (lt n d p) 48 57 = 1 ∧ p < n ∧ ∃ v, v ≤ 9 ∧ lt n d p = nI (48 + v)) := by
  by_cases g : p < n
  · have e : lt n d p = d 1 p := if_pos g
    rw [e]
    rcases wn_01 (d 1 p) 48 57 with h | h
    · exact Or.inl ⟨h, fun _ => h⟩
    · refine Or.inr ⟨h, g, ?_⟩
      have hb : (48 : Int32) ≤ d 1 p ∧ d 1 p ≤ 57 := by
        by_cases hh : (48 : Int32) ≤ d 1 p ∧ d 1 p ≤ 57
        · exact hh
        · rw [wn_0 hh] at h; exact absurd h (by decide)
      have h48 : (0 : Int32) ≤ d 1 p := by
        have := Int32.le_iff_toInt_le.mp hb.1
        rw [Int32.le_iff_toInt_le]
        have e1 : (48 : Int32).toInt = 48 := by decide
        have e2 : (0 : Int32).toInt = 0 := by decide
        omega
      obtain ⟨j, hj, e2⟩ := q_num (n := 57) (hi := 57) rfl ⟨h48, hb.2⟩
      have hj48 : 48 ≤ j := by
        have := hb.1
        rw [e2] at this
        exact (q_leX 48 j rfl rfl (by omega) (by omega)).mp this
      exact ⟨j - 48, by omega, by rw [e2]; congr 1; omega⟩
  · have e : lt n d p = 0 := if_neg g
    exact Or.inl ⟨by rw [e]; decide, fun h => absurd h g⟩
theorem f_C {n p : Nat} {c d : Mm} (h : tL n c d) (hp : p ≤ 300) : (wn (lt n d p) 48 57 = 0 ∧ X4_figureAt (nI p) c = some (-4, c)) ∨ (wn (lt n d p) 48 57 = 1 ∧ p < n ∧ ∃ v, v ≤ 9 ∧ lt n d p = nI (48 + v) ∧ X4_figureAt (nI p) c = some (nI v, c)) := by
  unfold X4_figureAt
  rw [l_C h hp, q_cal, q_isW, q_cal]
  rcases l_dig n d p with ⟨h1, h2⟩ | ⟨h1, h2, v, h3, h4⟩
  · refine Or.inl ⟨h1, ?_⟩
    by_cases g : p < n
    · rw [if_pos g, h2 g, if_pos rfl]
    · rw [if_neg g, show wn (-4) 48 57 = 0 by decide, if_pos rfl]
  · refine Or.inr ⟨h1, h2, v, h3, h4, ?_⟩
    have e : lt n d p = d 1 p := if_pos h2
    rw [if_pos h2, ← e, h1, if_neg ne10, h4, show (48 : Int32) = nI 48 from rfl, pk_sub (by omega), show 48 + v - 48 = v by omega]
/-- only the spot and the told numbers -/
def frN (d d' : Mm) : Prop := (∀ j, j ≠ 20 → d' 0 j = d 0 j) ∧ ∀ a, a ≠ 0 → a ≠ 17 → d' a = d a
theorem frN.rf {d : Mm} : frN d d := ⟨fun _ _ => rfl, fun _ _ _ => rfl⟩
theorem frN.tr {a b c : Mm} (h1 : frN a b) (h2 : frN b c) : frN a c := ⟨fun j hj => (h2.1 j hj).trans (h1.1 j hj), fun x g1 g2 => (h2.2 x g1 g2).trans (h1.2 x g1 g2)⟩
theorem frN.st {d : Mm} {x : Int32} : frN d (m_st d 0 20 x) := ⟨fun j hj => by rw [q_st, if_pos rfl, if_neg hj], fun a g1 _ => by rw [q_str g1]⟩
theorem tL.fr {n : Nat} {c c' d d' : Mm} (h : tL n c d) (h1 : c' 1 = c 1) (h2 : c' 12 = c 12) (h3 : frN d d') : tL n c' d' := by
  obtain ⟨g1, g2, g3, g4⟩ := h
  refine ⟨g1, by rw [h1]; exact g2, by rw [h3.1 0 (by omega)]; exact g3, fun j hj => by rw [h2, h3.2 1 (by omega) (by omega)]; exact g4 j hj⟩
theorem lt_fr {n p : Nat} {d d' : Mm} (h3 : frN d d') : lt n d' p = lt n d p := by unfold lt; rw [h3.2 1 (by omega) (by omega)]
/-- one number: the sign that must follow is 59 or 44 -/
theorem num_both {n p k N : Nat} {c d : Mm} (h : tL n c d) (hp : p ≤ 200) (hk : k < 5) (hkN : k < N) (hN : N ≤ 5) (es : d 0 20 = nI p) :
    (∃ c' d', X4_readNumber (nI p) (nI k) (if N ≤ k + 1 then 59 else 44) c = some (-4, c') ∧ (∀ rc2, m_lp2 (X10_figures_b12 rc2 (nI N) (nI k)) 1000 (0 : Int32) (0 : Int32) d = some (0, d')) ∧ (∀ a, a ≠ 20 → c' a = c a) ∧ frN d d') ∨
    (∃ p' v d', p < p' ∧ p' ≤ n ∧ v ≤ 99 ∧ X4_readNumber (nI p) (nI k) (if N ≤ k + 1 then 59 else 44) c = some (nI p', m_st c 20 k (nI v)) ∧ (∀ rc2, m_lp2 (X10_figures_b12 rc2 (nI N) (nI k)) 1000 (0 : Int32) (0 : Int32) d = rc2 (nI (k + 1)) d') ∧ frN d d' ∧ d' 0 20 = nI p' ∧ d' 17 k = nI v ∧ ∀ x, x ≠ k → d' 17 x = d 17 x) := by
  obtain ⟨sep, hsep⟩ : ∃ sep, sep = (if N ≤ k + 1 then 59 else 44 : Int32) := ⟨_, rfl⟩
  rw [← hsep]
  have gk : ∀ {K : Option (Int32 × Mm)}, m_gi (nI k) 5 K = K := q_gi hk (by omega)
  have xk : m_ix (nI k) = k := q_ix (by omega)
  have hs2 : sep = 59 ∨ sep = 44 := by rw [hsep]; split; exact Or.inl rfl; exact Or.inr rfl
  -- the tail of the program
  have tC : ∀ (v q : Nat), q ≤ 300 → X4_readNumber_j63 (nI k) sep (nI v) (nI q) c = if q < n ∧ d 1 q = sep then some (nI (q + 1), m_st c 20 k (nI v)) else some (-4, m_st c 20 k (nI v)) := by
    intro v q hq
    have h' : tL n (m_st c 20 k (nI v)) d := h.fr (q_str (by omega)) (q_str (by omega)) frN.rf
    unfold X4_readNumber_j63
    rw [gk, xk, q_bnd, l_C h' hq, q_cal, q_1]
    by_cases g : q < n
    · rw [if_pos g]
      by_cases g2 : d 1 q = sep
      · rw [if_pos g2, if_pos ⟨g, g2⟩]
      · rw [if_neg g2, if_neg (fun h => g2 h.2)]
    · rw [if_neg g, if_neg (show ¬ (-4 : Int32) = sep by rcases hs2 with rfl | rfl <;> decide), if_neg (fun h => g h.1)]
  -- the tail of the reference
  have tD : ∀ (v q cnt : Nat) (e : Mm) (rc2 : Int32 → Mm → Option (Int32 × Mm)), q ≤ 300 → frN d e → e 0 20 = nI q → 1 ≤ cnt → cnt ≤ 2 → X10_figures_j73 rc2 (nI N) (nI k) (nI cnt) (nI v) e = if q < n ∧ d 1 q = sep then rc2 (nI (k + 1)) (m_st (m_st e 17 k (nI v)) 0 20 (nI (q + 1))) else some (0, e) := by
    intro v q cnt e rc2 hq fe ee h1 h2
    have h' : tL n c e := h.fr rfl rfl fe
    have hin : wn (nI cnt) (OfNat.ofNat 1) (OfNat.ofNat 2) = 1 := wn_1 ⟨(q_leX 1 cnt rfl rfl (by omega) (by omega)).mpr h1, (q_leX cnt 2 rfl rfl (by omega) (by omega)).mpr h2⟩
    have j107 : X10_figures_j107 rc2 (nI N) (nI k) (nI v) (lt n d q) sep e = if q < n ∧ d 1 q = sep then rc2 (nI (k + 1)) (m_st (m_st e 17 k (nI v)) 0 20 (nI (q + 1))) else some (0, e) := by
      unfold X10_figures_j107
      rw [gk, xk, q_bnd, q_bnd, q_bnd, q_str (by omega), ee, q_1, q_1]
      by_cases g : q < n
      · rw [show lt n d q = d 1 q from if_pos g]
        by_cases g2 : d 1 q = sep
        · rw [if_pos g2, if_pos ⟨g, g2⟩]
        · rw [if_neg g2, if_neg (fun h => g2 h.2)]
      · rw [show lt n d q = 0 from if_neg g, if_neg (show ¬ (0 : Int32) = sep by rcases hs2 with rfl | rfl <;> decide), if_neg (fun h => g h.1)]
    unfold X10_figures_j73
    rw [q_inN (nI cnt) 1 2 (by omega) (by omega), q_cal, hin, if_neg ne10, ee, l_D h' hq, q_cal, lt_fr fe, ← j107, hsep, q_m1 (by omega)]
    by_cases g : N ≤ k + 1
    · rw [if_pos g, if_pos ((q_leX (N - 1) k rfl rfl (by omega) (by omega)).mpr (by omega))]
    · rw [if_neg g, if_neg (fun h => g (by have := (q_leX (N - 1) k rfl rfl (by omega) (by omega)).mp h; omega))]
  have tD0 : ∀ (cnt : Nat) (v : Int32) (e : Mm) (rc2 : Int32 → Mm → Option (Int32 × Mm)), cnt = 0 ∨ cnt = 3 → X10_figures_j73 rc2 (nI N) (nI k) (nI cnt) v e = some (0, e) := by
    intro cnt v e rc2 hc
    unfold X10_figures_j73
    rw [q_inN (nI cnt) 1 2 (by omega) (by omega), q_cal, if_pos (by rcases hc with rfl | rfl <;> decide)]
  -- a step of the reference
  have sD : ∀ (q cnt : Nat) (v : Nat) (e : Mm) (rc2 : Int32 → Mm → Option (Int32 × Mm)) (f : Nat), q ≤ 300 → cnt < 3 → frN d e → e 0 20 = nI q → m_lp2 (X10_figures_b12 rc2 (nI N) (nI k)) (f + 1) (nI cnt) (nI v) e = if wn (lt n d q) 48 57 = 0 then X10_figures_j73 rc2 (nI N) (nI k) (nI cnt) (nI v) e else m_lp2 (X10_figures_b12 rc2 (nI N) (nI k)) f (nI (cnt + 1)) (10 * nI v + lt n d q - 48) (m_st e 0 20 (nI (q + 1))) := by
    intro q cnt v e rc2 f hq hc fe ee
    have h' : tL n c e := h.fr rfl rfl fe
    have gen : ∀ rc, X10_figures_b12 rc2 (nI N) (nI k) rc (nI cnt) (nI v) e = if wn (lt n d q) 48 57 = 0 then X10_figures_j73 rc2 (nI N) (nI k) (nI cnt) (nI v) e else rc (nI (cnt + 1)) (10 * nI v + lt n d q - 48) (m_st e 0 20 (nI (q + 1))) := by
      intro rc
      unfold X10_figures_b12
      rw [ee, l_D h' hq, q_cal, q_inN (lt n e q) 48 57 (by omega) (by omega), q_cal, ee, l_D h' hq, q_cal, q_bnd, q_bnd, q_bnd, ee, q_1, q_1, if_neg (show ¬ (3 : Int32) ≤ nI cnt from q_lez (n := 3) hc (by omega)), lt_fr fe]
    exact gen _
  have s3D : ∀ (q : Nat) (v : Int32) (e : Mm) (rc2 : Int32 → Mm → Option (Int32 × Mm)) (f : Nat), q ≤ 300 → frN d e → e 0 20 = nI q → m_lp2 (X10_figures_b12 rc2 (nI N) (nI k)) (f + 1) (nI 3) v e = some (0, e) := by
    intro q v e rc2 f hq fe ee
    have h' : tL n c e := h.fr rfl rfl fe
    have gen : ∀ rc, X10_figures_b12 rc2 (nI N) (nI k) rc (nI 3) v e = some (0, e) := by
      intro rc
      unfold X10_figures_b12
      rw [ee, l_D h' hq, q_cal, q_inN (lt n e q) 48 57 (by omega) (by omega), q_cal, if_pos (show (3 : Int32) ≤ nI 3 by decide), ite_self, tD0 3 v e rc2 (Or.inr rfl)]
    exact gen _
  have hk5 : ¬ nI k < (0 : Int32) := nI_pos (by omega)
  have hk5' : nI k < (5 : Int32) := (q_ltX k 5 rfl rfl (by omega) (by omega)).mpr hk
  have val : ∀ a b : Nat, (10 : Int32) * nI a + nI (48 + b) - 48 = nI (10 * a + b) := by
    intro a b
    rw [show (10 : Int32) = nI 10 from rfl, show (48 : Int32) = nI 48 from rfl, pk_mul, nI_add, pk_sub (by omega)]
    congr 1; omega
  rcases f_C h (show p ≤ 300 by omega) with ⟨a1, a2⟩ | ⟨a1, a2, v1, a3, a4, a5⟩
  · -- no figure
    refine Or.inl ⟨c, d, ?_, fun rc2 => ?_, fun _ _ => rfl, frN.rf⟩
    · unfold X4_readNumber
      rw [a2, q_cal, if_pos rfl]
    · exact (sD p 0 0 d rc2 999 (by omega) (by omega) frN.rf es).trans (by rw [if_pos a1]; exact tD0 0 (nI 0) d rc2 (Or.inl rfl))
  · have d1 : ∀ rc2 f, m_lp2 (X10_figures_b12 rc2 (nI N) (nI k)) (f + 1) (0 : Int32) (0 : Int32) d = m_lp2 (X10_figures_b12 rc2 (nI N) (nI k)) f (nI 1) (nI v1) (m_st d 0 20 (nI (p + 1))) := by
      intro rc2 f
      refine (sD p 0 0 d rc2 f (by omega) (by omega) frN.rf es).trans ?_
      rw [a1, if_neg ne10, a4, val 0 v1, show 10 * 0 + v1 = v1 by omega]
    have e1 : m_st d 0 20 (nI (p + 1)) 0 20 = nI (p + 1) := by rw [q_st, if_pos rfl, if_pos rfl]
    have f1 : frN d (m_st d 0 20 (nI (p + 1))) := frN.st
    have cC : X4_readNumber (nI p) (nI k) sep c = m_cal (X4_figureAt (nI (p + 1)) c) fun r7 c8 => if r7 = -4 then X4_readNumber_j63 (nI k) sep (nI v1) (nI (p + 1)) c8 else X4_readNumber_j63 (nI k) sep (10 * nI v1 + r7) (nI (p + 1) + 1) c8 := by
      unfold X4_readNumber
      rw [a5, q_cal, if_neg (q_m4 (by omega)), if_neg hk5, if_pos hk5', q_bnd, q_1]
      rfl
    rw [cC]
    rcases f_C h (show p + 1 ≤ 300 by omega) with ⟨b1, b2⟩ | ⟨b1, b2, v2, b3, b4, b5⟩
    · -- one figure
      have d2 : ∀ rc2, m_lp2 (X10_figures_b12 rc2 (nI N) (nI k)) 1000 (0 : Int32) (0 : Int32) d = X10_figures_j73 rc2 (nI N) (nI k) (nI 1) (nI v1) (m_st d 0 20 (nI (p + 1))) := by
        intro rc2
        refine (d1 rc2 999).trans ((sD (p + 1) 1 v1 _ rc2 998 (by omega) (by omega) f1 e1).trans ?_)
        rw [if_pos b1]
      rw [b2, q_cal, if_pos rfl, tC v1 (p + 1) (by omega)]
      by_cases g : p + 1 < n ∧ d 1 (p + 1) = sep
      · refine Or.inr ⟨p + 1 + 1, v1, m_st (m_st (m_st d 0 20 (nI (p + 1))) 17 k (nI v1)) 0 20 (nI (p + 1 + 1)), by omega, by omega, by omega, by rw [if_pos g], fun rc2 => ?_, ?_, ?_, ?_, fun x hx => ?_⟩
        · rw [d2, tD v1 (p + 1) 1 _ rc2 (by omega) f1 e1 (by omega) (by omega), if_pos g]
        · refine ⟨fun j hj => ?_, fun a g1 g2 => ?_⟩
          · rw [q_st, if_pos rfl, if_neg hj, q_str (by omega)]; exact f1.1 j hj
          · rw [q_str g1, q_str g2]; exact f1.2 a g1 g2
        · rw [q_st, if_pos rfl, if_pos rfl]
        · rw [q_str (by omega), q_st, if_pos rfl, if_pos rfl]
        · rw [q_str (by omega), q_st, if_pos rfl, if_neg hx, q_str (by omega)]
      · refine Or.inl ⟨m_st c 20 k (nI v1), m_st d 0 20 (nI (p + 1)), by rw [if_neg g], fun rc2 => ?_, fun a ha => q_str ha, f1⟩
        rw [d2, tD v1 (p + 1) 1 _ rc2 (by omega) f1 e1 (by omega) (by omega), if_neg g]
    · -- two figures, or three
      have d2 : ∀ rc2 f, m_lp2 (X10_figures_b12 rc2 (nI N) (nI k)) (f + 2) (0 : Int32) (0 : Int32) d = m_lp2 (X10_figures_b12 rc2 (nI N) (nI k)) f (nI 2) (nI (10 * v1 + v2)) (m_st (m_st d 0 20 (nI (p + 1))) 0 20 (nI (p + 1 + 1))) := by
        intro rc2 f
        refine (d1 rc2 (f + 1)).trans ((sD (p + 1) 1 v1 _ rc2 f (by omega) (by omega) f1 e1).trans ?_)
        rw [b1, if_neg ne10, b4, val v1 v2]
      have e2 : m_st (m_st d 0 20 (nI (p + 1))) 0 20 (nI (p + 1 + 1)) 0 20 = nI (p + 1 + 1) := by rw [q_st, if_pos rfl, if_pos rfl]
      have f2 : frN d (m_st (m_st d 0 20 (nI (p + 1))) 0 20 (nI (p + 1 + 1))) := f1.tr frN.st
      rw [b5, q_cal, if_neg (q_m4 (by omega)), show (10 : Int32) * nI v1 + nI v2 = nI (10 * v1 + v2) by rw [show (10 : Int32) = nI 10 from rfl, pk_mul, nI_add], q_1, tC (10 * v1 + v2) (p + 1 + 1) (by omega)]
      rcases l_dig n d (p + 1 + 1) with ⟨h1, h2⟩ | ⟨h1, h2, v3, h3, h4⟩
      · have d3 : ∀ rc2, m_lp2 (X10_figures_b12 rc2 (nI N) (nI k)) 1000 (0 : Int32) (0 : Int32) d = X10_figures_j73 rc2 (nI N) (nI k) (nI 2) (nI (10 * v1 + v2)) (m_st (m_st d 0 20 (nI (p + 1))) 0 20 (nI (p + 1 + 1))) := by
          intro rc2
          refine (d2 rc2 998).trans ((sD (p + 1 + 1) 2 (10 * v1 + v2) _ rc2 997 (by omega) (by omega) f2 e2).trans ?_)
          rw [if_pos h1]
        by_cases g : p + 1 + 1 < n ∧ d 1 (p + 1 + 1) = sep
        · refine Or.inr ⟨p + 1 + 1 + 1, 10 * v1 + v2, m_st (m_st (m_st (m_st d 0 20 (nI (p + 1))) 0 20 (nI (p + 1 + 1))) 17 k (nI (10 * v1 + v2))) 0 20 (nI (p + 1 + 1 + 1)), by omega, by omega, by omega, by rw [if_pos g], fun rc2 => ?_, ?_, ?_, ?_, fun x hx => ?_⟩
          · rw [d3, tD (10 * v1 + v2) (p + 1 + 1) 2 _ rc2 (by omega) f2 e2 (by omega) (by omega), if_pos g]
          · refine ⟨fun j hj => ?_, fun a g1 g2 => ?_⟩
            · rw [q_st, if_pos rfl, if_neg hj, q_str (by omega)]; exact f2.1 j hj
            · rw [q_str g1, q_str g2]; exact f2.2 a g1 g2
          · rw [q_st, if_pos rfl, if_pos rfl]
          · rw [q_str (by omega), q_st, if_pos rfl, if_pos rfl]
          · rw [q_str (by omega), q_st, if_pos rfl, if_neg hx, q_str (by omega), q_str (by omega)]
        · refine Or.inl ⟨m_st c 20 k (nI (10 * v1 + v2)), m_st (m_st d 0 20 (nI (p + 1))) 0 20 (nI (p + 1 + 1)), by rw [if_neg g], fun rc2 => ?_, fun a ha => q_str ha, f2⟩
          rw [d3, tD (10 * v1 + v2) (p + 1 + 1) 2 _ rc2 (by omega) f2 e2 (by omega) (by omega), if_neg g]
      · -- three figures
        have g : ¬ (p + 1 + 1 < n ∧ d 1 (p + 1 + 1) = sep) := by
          rintro ⟨g1, g2⟩
          have e : lt n d (p + 1 + 1) = d 1 (p + 1 + 1) := if_pos g1
          rw [e, g2] at h1
          rcases hs2 with rfl | rfl
          · exact absurd h1 (by decide)
          · exact absurd h1 (by decide)
        refine Or.inl ⟨m_st c 20 k (nI (10 * v1 + v2)), m_st (m_st (m_st d 0 20 (nI (p + 1))) 0 20 (nI (p + 1 + 1))) 0 20 (nI (p + 1 + 1 + 1)), by rw [if_neg g], fun rc2 => ?_, fun a ha => q_str ha, f2.tr frN.st⟩
        refine (d2 rc2 998).trans ((sD (p + 1 + 1) 2 (10 * v1 + v2) _ rc2 997 (by omega) (by omega) f2 e2).trans ?_)
        rw [h1, if_neg ne10]
        exact s3D (p + 1 + 1 + 1) _ _ rc2 996 (by omega) (f2.tr frN.st) (by rw [q_st, if_pos rfl, if_pos rfl])
