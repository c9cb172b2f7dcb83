/-! reading: the whole text -/
theorem tk.w1 {p : Nat} {c d : Mm} {x y : Option (Int32 × Mm)} (h : tk p c d x y) : tk p c d (m_cal x fun r e => m_gb r (some (r, e))) y := by
  rcases h with ⟨c', d', rfl, rfl, h1, h2⟩ | ⟨c', d', rfl, rfl, h1, h2, h3⟩
  · exact Or.inl ⟨c', d', rfl, rfl, h1, h2⟩
  · exact Or.inr ⟨c', d', rfl, rfl, h1, h2, h3⟩
theorem tk.w2 {p : Nat} {c d : Mm} {x y : Option (Int32 × Mm)} (h : tk p c d x y) : tk p c d x (m_cal y fun r e => m_gb r (some (r, e))) := by
  rcases h with ⟨c', d', rfl, rfl, h1, h2⟩ | ⟨c', d', rfl, rfl, h1, h2, h3⟩
  · exact Or.inl ⟨c', d', rfl, rfl, h1, h2⟩
  · exact Or.inr ⟨c', d', rfl, rfl, h1, h2, h3⟩
theorem frP_20 {c c' : Mm} (h : ∀ a, a ≠ 20 → c' a = c a) : frP c c' := fun a _ g2 => h a (by omega)
theorem item_both {n p : Nat} {c d : Mm} (h : tL n c d) (hg : gR p c d) (hp : p < n) :
    (∃ c' d', X4_readItem (nI p) c = some (-4, c') ∧ X10_item d = some (0, d') ∧ frP c c' ∧ frQ d d') ∨ (∃ p' c' d', p < p' ∧ p' ≤ n ∧ X4_readItem (nI p) c = some (nI p', c') ∧ X10_item d = some (1, d') ∧ frP c c' ∧ frQ d d' ∧ gR p' c' d') := by
  have hn := h.1
  obtain ⟨d0, hd0⟩ : ∃ d0, d0 = m_st d 0 20 (nI (p + 1)) := ⟨_, rfl⟩
  have f0 : frN d d0 := by rw [hd0]; exact frN.st
  have e0 : d0 0 20 = nI (p + 1) := by rw [hd0, q_st, if_pos rfl, if_pos rfl]
  have h' : tL n c d0 := h.fr rfl rfl f0
  have hC : ∀ N, X4_numbersOf (d 1 p) c = some (nI N, c) → X4_readItem (nI p) c = m_lp2 (X4_readItem_b22 (d 1 p) (nI N)) 1000 (nI (p + 1)) (nI 0) c := by
    intro N hN
    unfold X4_readItem
    rw [l_C h (by omega), q_cal, if_pos hp, hN, q_cal, q_bnd, q_1]
    rfl
  have core : ∀ (N : Nat) (T : Mm → Option (Int32 × Mm)), N ≤ 5 → X4_numbersOf (d 1 p) c = some (nI N, c) → (∀ e, X10_figures (nI N) d0 = some (0, e) → X10_item d = some (0, e)) → (∀ e, X10_figures (nI N) d0 = some (1, e) → X10_item d = T e) → (∀ c' d' p', gR p' c' d' → (∀ x, x < N → ∃ w, w ≤ 99 ∧ c' 20 x = nI w ∧ d' 17 x = nI w) → tk p' c' d' (X4_takeItem (d 1 p) c') (T d')) →
      (∃ c' d', X4_readItem (nI p) c = some (-4, c') ∧ X10_item d = some (0, d') ∧ frP c c' ∧ frQ d d') ∨ (∃ p' c' d', p < p' ∧ p' ≤ n ∧ X4_readItem (nI p) c = some (nI p', c') ∧ X10_item d = some (1, d') ∧ frP c c' ∧ frQ d d' ∧ gR p' c' d') := by
    intro N T hN hnum hz ho ht
    rw [hC N hnum]
    rcases figs_both (v := d 1 p) hN N 0 (p + 1) c d0 1000 1000 (by omega) (by omega) (by omega) h' (by omega) e0 (fun x hx => absurd hx (by omega)) with ⟨c', d', x1, x2, x3, x4⟩ | ⟨p', c', d', x0, x0', x1, x2, x3, x4, x5, x6⟩
    · exact Or.inl ⟨c', d', x1, hz d' x2, frP_20 x3, (f0.tr x4).q⟩
    · rw [x1, ho d' x2]
      unfold X4_readItem_j69
      rcases ht c' d' p' (hg.fr x3 (f0.tr x4) x5) x6 with ⟨c2, d2, y1, y2, y3, y4⟩ | ⟨c2, d2, y1, y2, y3, y4, y5⟩
      · rw [y1, q_cal, if_pos rfl]
        exact Or.inl ⟨c2, d2, rfl, y2, (frP_20 x3).tr y3, (f0.tr x4).q.tr y4⟩
      · rw [y1, q_cal, if_neg ne10]
        exact Or.inr ⟨p', c2, d2, by omega, x0', rfl, y2, (frP_20 x3).tr y3, (f0.tr x4).q.tr y4, y5⟩
  have hD : X10_item d = if d 1 p = (98 : Int32) then m_cal (X10_boatItem d0) fun r e => m_gb r (some (r, e)) else if d 1 p = (104 : Int32) then m_cal (X10_figures (1 : Int32) d0) fun r e => if r = 0 then some (0, e) else m_cal (X10_setLaw (1 : Int32) (e 17 0) (30 : Int32) e) fun r c' => if r = 0 then some (0, c') else some (1, c') else if d 1 p = (108 : Int32) then m_cal (X10_figures (2 : Int32) d0) fun r e => if r = 0 then some (0, e) else m_cal (X10_setLaw (2 : Int32) (e 17 0) (5 : Int32) e) fun r12 c13 => if r12 = 0 then some (0, c13) else m_cal (X10_setLaw (3 : Int32) (c13 17 1) (9 : Int32) c13) fun r c' => if r = 0 then some (0, c') else some (1, c') else if d 1 p = (110 : Int32) then m_cal (X10_narrowItem d0) fun r e => m_gb r (some (r, e)) else if d 1 p = (121 : Int32) then m_cal (X10_figures (1 : Int32) d0) fun r e => if r = 0 then some (0, e) else m_cal (X10_setLaw (0 : Int32) (e 17 0) (9 : Int32) e) fun r c' => if r = 0 then some (0, c') else some (1, c') else some (0, d0) := by
    unfold X10_item
    rw [hg.1, l_D h (by omega), q_cal, hg.1, q_1, ← hd0, q_bnd, show lt n d p = d 1 p from if_pos hp]
  by_cases a1 : d 1 p = 98
  · refine core 5 (fun e => m_cal (if (6 : Int32) ≤ e 2 1 then X10_boatItem_j82 e else if (60 : Int32) < e 17 0 then X10_boatItem_j82 e else if (1 : Int32) < e 17 1 then X10_boatItem_j82 e else m_cal (X10_in (Int32.toInt64 (e 17 2)) (1 : Int64) (3 : Int64) e) fun r4 c5 => if r4 = (0 : Int32) then X10_boatItem_j82 c5 else if (9 : Int32) < (c5 17 3) then X10_boatItem_j82 c5 else if (3 : Int32) < (c5 17 4) then X10_boatItem_j82 c5 else X10_boatItem_j83 (1 : Int32) c5) fun r e => m_gb r (some (r, e))) (by omega) ?_ (fun e he => ?_) (fun e he => ?_) (fun c' d' p' g1 g2 => ?_)
    · unfold X4_numbersOf; rw [if_pos a1]; rfl
    · rw [hD, if_pos a1]
      unfold X10_boatItem
      rw [show X10_figures 5 d0 = some (0, e) from he, q_cal, if_pos rfl]
      unfold X10_boatItem_j82 X10_boatItem_j83
      rw [if_pos rfl, q_gb0, q_cal, q_gb0]
    · rw [hD, if_pos a1]
      unfold X10_boatItem
      rw [show X10_figures 5 d0 = some (1, e) from he, q_cal, if_neg ne10]
    · unfold X4_takeItem
      rw [if_pos a1]
      exact (tk_boat g1 g2).w1.w2
  by_cases a2 : d 1 p = 104
  · refine core 1 (fun e => m_cal (X10_setLaw (1 : Int32) (e 17 0) (30 : Int32) e) fun r c' => if r = 0 then some (0, c') else some (1, c')) (by omega) ?_ (fun e he => ?_) (fun e he => ?_) (fun c' d' p' g1 g2 => ?_)
    · unfold X4_numbersOf; rw [if_neg a1, if_pos a2]; rfl
    · rw [hD, if_neg a1, if_pos a2, show X10_figures 1 d0 = some (0, e) from he, q_cal, if_pos rfl]
    · rw [hD, if_neg a1, if_pos a2, show X10_figures 1 d0 = some (1, e) from he, q_cal, if_neg ne10]
    · unfold X4_takeItem
      rw [if_neg a1, if_pos a2]
      obtain ⟨w, w1, w2, w3⟩ := g2 0 (by omega)
      exact (tk_held g1 w1 w2 w3).w1
  by_cases a3 : d 1 p = 108
  · refine core 2 (fun e => m_cal (X10_setLaw (2 : Int32) (e 17 0) (5 : Int32) e) fun r12 c13 => if r12 = 0 then some (0, c13) else m_cal (X10_setLaw (3 : Int32) (c13 17 1) (9 : Int32) c13) fun r c' => if r = 0 then some (0, c') else some (1, c')) (by omega) ?_ (fun e he => ?_) (fun e he => ?_) (fun c' d' p' g1 g2 => ?_)
    · unfold X4_numbersOf; rw [if_neg a1, if_neg a2, if_pos a3]; rfl
    · rw [hD, if_neg a1, if_neg a2, if_pos a3, show X10_figures 2 d0 = some (0, e) from he, q_cal, if_pos rfl]
    · rw [hD, if_neg a1, if_neg a2, if_pos a3, show X10_figures 2 d0 = some (1, e) from he, q_cal, if_neg ne10]
    · unfold X4_takeItem
      rw [if_neg a1, if_neg a2, if_pos a3]
      obtain ⟨w, w1, w2, w3⟩ := g2 0 (by omega)
      obtain ⟨u, u1, u2, u3⟩ := g2 1 (by omega)
      exact (tk_line g1 w1 u1 w2 w3 u2 u3).w1
  by_cases a4 : d 1 p = 110
  · refine core 2 (fun e => m_cal (if e 8 1 = (3 : Int32) then some ((0 : Int32), e) else if (60 : Int32) < e 17 1 then some ((0 : Int32), e) else if e 17 0 ≤ e 17 1 then m_gi ((3 : Int32) + (e 8 1)) 6 <| m_bnd (m_st e 9 (m_ix ((3 : Int32) + (e 8 1))) (e 17 0)) fun c3 => m_gi ((3 : Int32) + (c3 8 1)) 6 <| m_bnd (m_st c3 10 (m_ix ((3 : Int32) + (c3 8 1))) (c3 17 1)) fun c4 => m_bnd (m_st c4 8 1 ((c4 8 1) + (1 : Int32))) fun c5 => some ((1 : Int32), c5) else some ((0 : Int32), e)) fun r e => m_gb r (some (r, e))) (by omega) ?_ (fun e he => ?_) (fun e he => ?_) (fun c' d' p' g1 g2 => ?_)
    · unfold X4_numbersOf; rw [if_neg a1, if_neg a2, if_neg a3, if_pos a4]; rfl
    · rw [hD, if_neg a1, if_neg a2, if_neg a3, if_pos a4]
      unfold X10_narrowItem
      rw [show X10_figures 2 d0 = some (0, e) from he, q_cal, if_pos rfl, q_cal, q_gb0]
    · rw [hD, if_neg a1, if_neg a2, if_neg a3, if_pos a4]
      unfold X10_narrowItem
      rw [show X10_figures 2 d0 = some (1, e) from he, q_cal, if_neg ne10]
    · unfold X4_takeItem
      rw [if_neg a1, if_neg a2, if_neg a3, if_pos a4]
      obtain ⟨w, w1, w2, w3⟩ := g2 0 (by omega)
      obtain ⟨u, u1, u2, u3⟩ := g2 1 (by omega)
      exact (tk_narrow g1 w1 u1 w2 w3 u2 u3).w1.w2
  by_cases a5 : d 1 p = 121
  · refine core 1 (fun e => m_cal (X10_setLaw (0 : Int32) (e 17 0) (9 : Int32) e) fun r c' => if r = 0 then some (0, c') else some (1, c')) (by omega) ?_ (fun e he => ?_) (fun e he => ?_) (fun c' d' p' g1 g2 => ?_)
    · unfold X4_numbersOf; rw [if_neg a1, if_neg a2, if_neg a3, if_neg a4, if_pos a5]; rfl
    · rw [hD, if_neg a1, if_neg a2, if_neg a3, if_neg a4, if_pos a5, show X10_figures 1 d0 = some (0, e) from he, q_cal, if_pos rfl]
    · rw [hD, if_neg a1, if_neg a2, if_neg a3, if_neg a4, if_pos a5, show X10_figures 1 d0 = some (1, e) from he, q_cal, if_neg ne10]
    · unfold X4_takeItem
      rw [if_neg a1, if_neg a2, if_neg a3, if_neg a4, if_pos a5]
      obtain ⟨w, w1, w2, w3⟩ := g2 0 (by omega)
      exact (tk_yield g1 w1 w2 w3).w1
  · have hnum : X4_numbersOf (d 1 p) c = some (nI 0, c) := by unfold X4_numbersOf; rw [if_neg a1, if_neg a2, if_neg a3, if_neg a4, if_neg a5]; rfl
    refine Or.inl ⟨c, d0, ?_, by rw [hD, if_neg a1, if_neg a2, if_neg a3, if_neg a4, if_neg a5], frP.rf, f0.q⟩
    rw [hC 0 hnum]
    have gen : ∀ rc, X4_readItem_b22 (d 1 p) (nI 0) rc (nI (p + 1)) (nI 0) c = some (-4, c) := by
      intro rc
      unfold X4_readItem_b22 X4_readItem_j69 X4_takeItem
      rw [if_pos (q_les (by omega)), if_neg a1, if_neg a2, if_neg a3, if_neg a4, if_neg a5, q_cal, if_pos rfl]
    exact gen _
theorem read_both {n : Nat} : ∀ (m p q : Nat) (c d : Mm) (f1 f2 : Nat), n ≤ p + m → m < f1 → m < f2 → tL n c d → gR p c d → p ≤ n → q ≤ p → ∃ r c' d', m_lp2 X4_firstFault_b11 f1 (nI p) (nI q) c = some (r, c') ∧ m_lp0 X10_readAll_b10 f2 d = some (r, d') ∧ frP c c' ∧ frQ d d' ∧ (r = -4 → ∃ p', gR p' c' d') := by
  intro m
  have stop : ∀ (p q : Nat) (c d : Mm) (f1 f2 : Nat), 0 < f1 → 0 < f2 → tL n c d → gR p c d → p = n → q ≤ p → ∃ r c' d', m_lp2 X4_firstFault_b11 f1 (nI p) (nI q) c = some (r, c') ∧ m_lp0 X10_readAll_b10 f2 d = some (r, d') ∧ frP c c' ∧ frQ d d' ∧ (r = -4 → ∃ p', gR p' c' d') := by
    intro p q c d f1 f2 hf1 hf2 h hg hp hq
    obtain ⟨f, rfl⟩ : ∃ f, f1 = f + 1 := ⟨f1 - 1, by omega⟩
    obtain ⟨g, rfl⟩ : ∃ f, f2 = f + 1 := ⟨f2 - 1, by omega⟩
    obtain ⟨g1, g2, g3, g4⟩ := id h
    subst hp
    refine ⟨-4, c, d, ?_, ?_, frP.rf, frQ.rf, fun _ => ⟨p, hg⟩⟩
    · have gen : ∀ rc, X4_firstFault_b11 rc (nI p) (nI q) c = some (-4, c) := by
        intro rc
        unfold X4_firstFault_b11
        rw [g2, if_pos (q_les (by omega)), ite_self]
      exact gen _
    · have gen : ∀ rc, X10_readAll_b10 rc d = some (-4, d) := by
        intro rc
        unfold X10_readAll_b10
        rw [g3, hg.1, if_pos (q_les (by omega))]
      exact gen _
  induction m with
  | zero =>
    intro p q c d f1 f2 hpm hf1 hf2 h hg hp hq
    exact stop p q c d f1 f2 hf1 hf2 h hg (by omega) hq
  | succ m ih =>
    intro p q c d f1 f2 hpm hf1 hf2 h hg hp hq
    by_cases hpn : p = n
    · exact stop p q c d f1 f2 (by omega) (by omega) h hg hpn hq
    · obtain ⟨f, rfl⟩ : ∃ f, f1 = f + 1 := ⟨f1 - 1, by omega⟩
      obtain ⟨g, rfl⟩ : ∃ f, f2 = f + 1 := ⟨f2 - 1, by omega⟩
      obtain ⟨g1, g2, g3, g4⟩ := id h
      have hC : ∀ rc, X4_firstFault_b11 rc (nI p) (nI q) c = m_cal (X4_readItem (nI p) c) fun r1 c2 => if r1 = -4 then some (nI p, c2) else rc r1 (nI (q + 1)) c2 := by
        intro rc
        unfold X4_firstFault_b11
        rw [if_neg (show ¬ (200 : Int32) ≤ nI q from q_lez (n := 200) (by omega) (by omega)), g2, if_neg (q_lez (by omega) (by omega)), q_1]
        rfl
      have hD : ∀ rc, X10_readAll_b10 rc d = m_cal (X10_item d) fun r2 c3 => if r2 = 0 then some (nI p, c3) else rc c3 := by
        intro rc
        unfold X10_readAll_b10
        rw [g3, hg.1, if_neg (q_lez (by omega) (by omega)), q_bnd]
      have hC' := hC (m_lp2 X4_firstFault_b11 f)
      have hD' := hD (m_lp0 X10_readAll_b10 g)
      rcases item_both h hg (by omega) with ⟨c', d', x1, x2, x3, x4⟩ | ⟨p', c', d', x0, x0', x1, x2, x3, x4, x5⟩
      · refine ⟨nI p, c', d', hC'.trans ?_, hD'.trans ?_, x3, x4, fun e => absurd e (q_m4 (by omega))⟩
        · rw [x1, q_cal, if_pos rfl]
        · rw [x2, q_cal, if_pos rfl]
      · have h2 : tL n c' d' := ⟨g1, by rw [x3 1 (by omega) (by omega)]; exact g2, by rw [x4.1 0 (by omega)]; exact g3, fun j hj => by rw [x3 12 (by omega) (by omega), x4.2.1]; exact g4 j hj⟩
        obtain ⟨r, c2, d2, y1, y2, y3, y4, y5⟩ := ih p' (q + 1) c' d' f g (by omega) (by omega) (by omega) h2 x5 x0' (by omega)
        refine ⟨r, c2, d2, hC'.trans ?_, hD'.trans ?_, x3.tr y3, x4.tr y4, y5⟩
        · rw [x1, q_cal, if_neg (q_m4 (by omega))]; exact y1
        · rw [x2, q_cal, if_neg ne10]; exact y2
theorem clear_both {c d : Mm} : ∃ c' d', X1_clear c = some c' ∧ (m_cav (X10_noCut (1 : Int32) d) fun c4 => m_bnd (m_st c4 0 20 (0 : Int32)) fun c5 => m_lp0 (X10_readAll_b10) 1000 c5) = m_lp0 X10_readAll_b10 1000 d' ∧ frP c c' ∧ frQ d d' ∧ gR 0 c' d' := by
  have g2 : ∀ {K : Option Mm}, m_gi (1 : Int32) 2 K = K := q_gi (n := 1) (by omega) (by omega)
  have g4 : ∀ {K : Option Mm}, m_gi (nI 4) 8 K = K := q_gi (by omega) (by omega)
  have g5 : ∀ {K : Option Mm}, m_gi (nI 5) 8 K = K := q_gi (by omega) (by omega)
  have g6 : ∀ {K : Option Mm}, m_gi (nI 6) 8 K = K := q_gi (by omega) (by omega)
  have g7 : ∀ {K : Option Mm}, m_gi (nI 7) 8 K = K := q_gi (by omega) (by omega)
  have x1 : m_ix (1 : Int32) = 1 := q_ix (n := 1) (by omega)
  have x4 : m_ix (nI 4) = 4 := q_ix (by omega)
  have x5 : m_ix (nI 5) = 5 := q_ix (by omega)
  have x6 : m_ix (nI 6) = 6 := q_ix (by omega)
  have x7 : m_ix (nI 7) = 7 := q_ix (by omega)
  refine ⟨_, m_st (m_st (m_st (m_st (m_st (m_st (m_st d 2 1 0) 8 1 0) 11 4 4) 11 5 10) 11 6 2) 11 7 4) 0 20 0, rfl, ?_, fun a h1 h2 => by rw [q_str h1, q_str h1, q_str h1, q_str h1, q_str h1, q_str h1], ?_, ?_⟩
  · unfold X10_noCut
    rw [show (4 : Int32) * 1 = nI 4 from rfl, show nI 4 + (1 : Int32) = nI 5 from rfl, show nI 4 + (2 : Int32) = nI 6 from rfl, show nI 4 + (3 : Int32) = nI 7 from rfl]
    simp only [g2, g4, g5, g6, g7, x1, x4, x5, x6, x7, q_bnd, q_cav]
  · refine ⟨fun j hj => by simp [q_st, hj], by funext x; simp [q_st], by simp [q_st], fun a h1 h2 x _ => ?_, by simp [q_st], fun a h1 h2 x _ => ?_, fun x hx => ?_, fun a h1 h2 => ?_⟩
    · rw [q_str (by omega), q_str (by omega), q_str (by omega), q_str (by omega), q_str (by omega), q_str (by omega), q_str (by omega)]
    · rw [q_str (by omega), q_str (by omega), q_str (by omega), q_str (by omega), q_str (by omega), q_str (by omega), q_str (by omega)]
    · have h4 : ¬ x = 4 := by omega
      have h5 : ¬ x = 5 := by omega
      have h6 : ¬ x = 6 := by omega
      have h7 : ¬ x = 7 := by omega
      simp [q_st, h4, h5, h6, h7]
    · rw [q_str (by omega), q_str (by omega), q_str (by omega), q_str (by omega), q_str (by omega), q_str (by omega), q_str (by omega)]
  · refine ⟨by simp [q_st]; rfl, ⟨0, by omega, by simp [q_st]; rfl, by simp [q_st]; rfl, fun i hi => absurd hi (by omega)⟩, ⟨0, by omega, by simp [q_st]; rfl, by simp [q_st]; rfl, fun i hi => absurd hi (by omega)⟩, ⟨by simp [q_st], 4, by omega, by omega, by simp [q_st]; rfl⟩, ⟨by simp [q_st], 10, by omega, by omega, by simp [q_st]; rfl⟩, ⟨by simp [q_st], 2, by omega, by omega, by simp [q_st]; rfl⟩, ⟨by simp [q_st], 4, by omega, by omega, by simp [q_st]; rfl⟩⟩
theorem Rel.pq {c c' d d' : Mm} (h : Rel c d) (hp : frP c c') (hq : frQ d d') : Rel c' d' := by
  obtain ⟨q1, q2, q3, q4, q5, q6, q7, q8⟩ := hq
  obtain ⟨ht, nb, ⟨⟨b1, b2, b3, b4⟩, ⟨nn, n1, n2, n3, n4⟩, l2, l3, l4, l5, hb⟩, h2, h3, h4, h5⟩ := h
  refine ⟨ht.fr (by rw [hp 1 (by omega) (by omega)]) (hp 12 (by omega) (by omega)) (q1 0 (by omega)) q2, nb, ⟨⟨b1, b2, by rw [hp 4 (by omega) (by omega)]; exact b3, by rw [q3]; exact b4⟩, ⟨nn, n1, by rw [hp 4 (by omega) (by omega)]; exact n2, by rw [q5]; exact n3, fun k hk => ?_⟩, ?_, ?_, ?_, ?_, fun i hi => ?_⟩, h2.fr (hp 28 (by omega) (by omega)) (hp 29 (by omega) (by omega)) (q8 12 (by omega) (by omega)), h3.fr (by rw [hp 9 (by omega) (by omega)]) (hp 43 (by omega) (by omega)) (hp 44 (by omega) (by omega)) (hp 45 (by omega) (by omega)) (q1 14 (by omega)) (q8 12 (by omega) (by omega)) (q8 13 (by omega) (by omega)), h4.fr (by rw [hp 10 (by omega) (by omega)]) (hp 46 (by omega) (by omega)) (hp 47 (by omega) (by omega)) (q1 17 (by omega)) (q8 15 (by omega) (by omega)) (q8 16 (by omega) (by omega)), h5.fr (by rw [hp 11 (by omega) (by omega)]) (hp 48 (by omega) (by omega)) (hp 49 (by omega) (by omega)) (q1 16 (by omega)) (q8 14 (by omega) (by omega))⟩
  · rw [hp 26 (by omega) (by omega), hp 27 (by omega) (by omega), q6 9 (by omega) (by omega) k (by omega), q6 10 (by omega) (by omega) k (by omega)]; exact n4 k hk
  · rw [hp 4 (by omega) (by omega), q7 0 (by omega)]; exact l2
  · rw [hp 4 (by omega) (by omega), q7 1 (by omega)]; exact l3
  · rw [hp 4 (by omega) (by omega), q7 2 (by omega)]; exact l4
  · rw [hp 4 (by omega) (by omega), q7 3 (by omega)]; exact l5
  · rw [hp 21 (by omega) (by omega), hp 22 (by omega) (by omega), hp 23 (by omega) (by omega), hp 25 (by omega) (by omega), q4 3 (by omega) (by omega) i (by omega), q4 4 (by omega) (by omega) i (by omega), q4 5 (by omega) (by omega) i (by omega), q4 7 (by omega) (by omega) i (by omega)]; exact hb i hi
theorem whole_both {c d : Mm} (h : Rel c d) : ∃ r c' d', X4_firstFault c = some (r, c') ∧ X10_readAll d = some (r, d') ∧ frP c c' ∧ frQ d d' ∧ (r = -4 → ∃ p', gR p' c' d') := by
  obtain ⟨⟨n, t1, t2, t3, t4⟩, -⟩ := id h
  obtain ⟨c1, d1, x1, x2, x3, x4, x5⟩ := clear_both (c := c) (d := d)
  have h1 : tL n c1 d1 := ⟨t1, by rw [x3 1 (by omega) (by omega)]; exact t2, by rw [x4.1 0 (by omega)]; exact t3, fun j hj => by rw [x3 12 (by omega) (by omega), x4.2.1]; exact t4 j hj⟩
  obtain ⟨r, c2, d2, y1, y2, y3, y4, y5⟩ := read_both 200 0 0 c1 d1 1000 1000 (by omega) (by omega) (by omega) h1 x5 (by omega) (by omega)
  refine ⟨r, c2, d2, ?_, ?_, x3.tr y3, x4.tr y4, y5⟩
  · unfold X4_firstFault
    rw [x1, q_cav]
    exact y1
  · unfold X10_readAll
    rw [x2]
    exact y2
theorem s_fault (c d : Mm) (h : Rel c d) : ∃ (r : Int32) (c1 d1 : Mm), X9_fault c = some (r, c1) ∧ X10_fault d = some (r, d1) ∧ Rel c1 d1 := by
  obtain ⟨r, c', d', x1, x2, x3, x4, -⟩ := whole_both h
  unfold X9_fault X10_fault
  rw [x1, x2, q_cal, q_cal]
  exact fin_ rfl rfl rfl (h.pq x3 x4)
