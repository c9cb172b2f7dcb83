/-! reading: items -/
theorem figs_both {n N : Nat} {v : Int32} (hN : N ≤ 5) : ∀ (m k p : Nat) (c d : Mm) (f1 f2 : Nat), k + m = N → m < f1 → m < f2 → tL n c d → p ≤ n → d 0 20 = nI p → (∀ x, x < k → ∃ w, w ≤ 99 ∧ c 20 x = nI w ∧ d 17 x = nI w) →
    (∃ c' d', m_lp2 (X4_readItem_b22 v (nI N)) f1 (nI p) (nI k) c = some (-4, c') ∧ m_lp1 (X10_figures_b2 (nI N)) f2 (nI k) d = some (0, d') ∧ (∀ a, a ≠ 20 → c' a = c a) ∧ frN d d') ∨
    (∃ p' c' d', p ≤ p' ∧ p' ≤ n ∧ m_lp2 (X4_readItem_b22 v (nI N)) f1 (nI p) (nI k) c = X4_readItem_j69 v (nI p') c' ∧ m_lp1 (X10_figures_b2 (nI N)) f2 (nI k) d = some (1, d') ∧ (∀ a, a ≠ 20 → c' a = c a) ∧ frN d d' ∧ d' 0 20 = nI p' ∧ ∀ x, x < N → ∃ w, w ≤ 99 ∧ c' 20 x = nI w ∧ d' 17 x = nI w) := by
  intro m
  induction m with
  | zero =>
    intro k p c d f1 f2 hk hf1 hf2 h hp es hx
    obtain ⟨f, rfl⟩ : ∃ f, f1 = f + 1 := ⟨f1 - 1, by omega⟩
    obtain ⟨g, rfl⟩ : ∃ f, f2 = f + 1 := ⟨f2 - 1, by omega⟩
    have hk : k = N := by omega
    subst hk
    have hC : ∀ rc, X4_readItem_b22 v (nI k) rc (nI p) (nI k) c = X4_readItem_j69 v (nI p) c := by
      intro rc
      unfold X4_readItem_b22
      rw [if_pos (q_les (by omega))]
    have hD : ∀ rc, X10_figures_b2 (nI k) rc (nI k) d = some (1, d) := by
      intro rc
      unfold X10_figures_b2
      rw [if_pos (q_les (by omega))]
    exact Or.inr ⟨p, c, d, by omega, hp, hC _, hD _, fun _ _ => rfl, frN.rf, es, hx⟩
  | succ m ih =>
    intro k p c d f1 f2 hk hf1 hf2 h hp es hx
    obtain ⟨f, rfl⟩ : ∃ f, f1 = f + 1 := ⟨f1 - 1, by omega⟩
    obtain ⟨g, rfl⟩ : ∃ f, f2 = f + 1 := ⟨f2 - 1, by omega⟩
    have hn := h.1
    have hC : ∀ rc, X4_readItem_b22 v (nI N) rc (nI p) (nI k) c = m_cal (X4_readNumber (nI p) (nI k) (if N ≤ k + 1 then 59 else 44) c) fun r3 c4 => if r3 = -4 then some (-4, c4) else rc r3 (nI (k + 1)) c4 := by
      intro rc
      unfold X4_readItem_b22 X4_readItem_j48
      rw [if_neg (q_lez (by omega) (by omega)), q_1]
      by_cases g : N ≤ k + 1
      · rw [if_pos g, if_pos ((q_leX N (k + 1) rfl rfl (by omega) (by omega)).mpr g)]; rfl
      · rw [if_neg g, if_neg (fun h => g ((q_leX N (k + 1) rfl rfl (by omega) (by omega)).mp h))]; rfl
    have hD : ∀ rc, X10_figures_b2 (nI N) rc (nI k) d = m_lp2 (X10_figures_b12 rc (nI N) (nI k)) 1000 0 0 d := by
      intro rc
      unfold X10_figures_b2
      rw [if_neg (q_lez (by omega) (by omega))]
    have hC' := hC (m_lp2 (X4_readItem_b22 v (nI N)) f)
    have hD' := hD (m_lp1 (X10_figures_b2 (nI N)) g)
    rcases num_both (k := k) (N := N) h (show p ≤ 200 by omega) (by omega) (by omega) hN es with ⟨c', d', x1, x2, x3, x4⟩ | ⟨p', w, d', x0, x1, x2, x3, x4, x5, x6, x7, x8⟩
    · refine Or.inl ⟨c', d', hC'.trans ?_, hD'.trans (x2 _), x3, x4⟩
      rw [x1, q_cal, if_pos rfl]
    · have e1 : m_lp2 (X4_readItem_b22 v (nI N)) (f + 1) (nI p) (nI k) c = m_lp2 (X4_readItem_b22 v (nI N)) f (nI p') (nI (k + 1)) (m_st c 20 k (nI w)) := hC'.trans (by rw [x3, q_cal, if_neg (q_m4 (by omega))])
      have e2 : m_lp1 (X10_figures_b2 (nI N)) (g + 1) (nI k) d = m_lp1 (X10_figures_b2 (nI N)) g (nI (k + 1)) d' := hD'.trans (x4 _)
      rw [e1, e2]
      have hx' : ∀ x, x < k + 1 → ∃ w', w' ≤ 99 ∧ m_st c 20 k (nI w) 20 x = nI w' ∧ d' 17 x = nI w' := by
        intro x hxk
        rw [q_st, if_pos rfl]
        by_cases hxe : x = k
        · subst hxe; rw [if_pos rfl]; exact ⟨w, x2, rfl, x7⟩
        · rw [if_neg hxe, x8 x hxe]; exact hx x (by omega)
      rcases ih (k + 1) p' (m_st c 20 k (nI w)) d' f g (by omega) (by omega) (by omega) (h.fr (q_str (by omega)) (q_str (by omega)) x5) x1 x6 hx' with ⟨c2, d2, y1, y2, y3, y4⟩ | ⟨p2, c2, d2, y0, y0', y1, y2, y3, y4, y5, y6⟩
      · exact Or.inl ⟨c2, d2, y1, y2, fun a ha => by rw [y3 a ha, q_str ha], x5.tr y4⟩
      · exact Or.inr ⟨p2, c2, d2, by omega, y0', y1, y2, fun a ha => by rw [y3 a ha, q_str ha], x5.tr y4, y5, y6⟩
def frP (c c' : Mm) : Prop := ∀ a, a ≠ 2 → (a < 13 ∨ 20 < a) → c' a = c a
def frQ (d d' : Mm) : Prop := (∀ j, j ≠ 20 → d' 0 j = d 0 j) ∧ d' 1 = d 1 ∧ d' 2 0 = d 2 0 ∧ (∀ a, 3 ≤ a → a ≤ 7 → ∀ x, x < 6 → d' a x = d a x) ∧ d' 8 0 = d 8 0 ∧ (∀ a, 9 ≤ a → a ≤ 10 → ∀ x, x < 3 → d' a x = d a x) ∧ (∀ x, x < 4 → d' 11 x = d 11 x) ∧ ∀ a, 12 ≤ a → a ≠ 17 → d' a = d a
theorem frP.rf {c : Mm} : frP c c := fun _ _ _ => rfl
theorem frP.tr {a b c : Mm} (h1 : frP a b) (h2 : frP b c) : frP a c := fun x g1 g2 => (h2 x g1 g2).trans (h1 x g1 g2)
theorem frQ.rf {d : Mm} : frQ d d := ⟨fun _ _ => rfl, rfl, rfl, fun _ _ _ _ _ => rfl, rfl, fun _ _ _ _ _ => rfl, fun _ _ => rfl, fun _ _ _ => rfl⟩
theorem frQ.tr {a b c : Mm} (h1 : frQ a b) (h2 : frQ b c) : frQ a c := by
  obtain ⟨a1, a2, a3, a4, a5, a6, a7, a8⟩ := h1
  obtain ⟨b1, b2, b3, b4, b5, b6, b7, b8⟩ := h2
  exact ⟨fun j hj => (b1 j hj).trans (a1 j hj), b2.trans a2, b3.trans a3, fun x g1 g2 y hy => (b4 x g1 g2 y hy).trans (a4 x g1 g2 y hy), b5.trans a5, fun x g1 g2 y hy => (b6 x g1 g2 y hy).trans (a6 x g1 g2 y hy), fun y hy => (b7 y hy).trans (a7 y hy), fun x g1 g2 => (b8 x g1 g2).trans (a8 x g1 g2)⟩
theorem frN.q {d d' : Mm} (h : frN d d') : frQ d d' := by
  refine ⟨h.1, h.2 1 (by omega) (by omega), by rw [h.2 2 (by omega) (by omega)], fun a g1 g2 x _ => by rw [h.2 a (by omega) (by omega)], by rw [h.2 8 (by omega) (by omega)], fun a g1 g2 x _ => by rw [h.2 a (by omega) (by omega)], fun x _ => by rw [h.2 11 (by omega) (by omega)], fun a g1 g2 => h.2 a (by omega) g2⟩
def gR (p : Nat) (c d : Mm) : Prop := d 0 20 = nI p ∧ (∃ b, b ≤ 6 ∧ c 2 0 = nI b ∧ d 2 1 = nI b ∧ ∀ i, i < b → (c 13 i = d 3 (6 + i) ∧ rg (d 3 (6 + i)) 0 60) ∧ (c 14 i = d 4 (6 + i) ∧ rg (d 4 (6 + i)) 0 1) ∧ (c 15 i = d 5 (6 + i) ∧ rg (d 5 (6 + i)) 1 3) ∧ (c 16 i = d 6 (6 + i) ∧ rg (d 6 (6 + i)) 0 9) ∧ (c 17 i = d 7 (6 + i) ∧ rg (d 7 (6 + i)) 0 3)) ∧
  (∃ m, m ≤ 3 ∧ c 2 1 = nI m ∧ d 8 1 = nI m ∧ ∀ k, k < m → c 18 k = d 9 (3 + k) ∧ c 19 k = d 10 (3 + k)) ∧ (c 2 2 = d 11 4 ∧ rg (d 11 4) 1 9) ∧ (c 2 3 = d 11 5 ∧ rg (d 11 5) 1 30) ∧ (c 2 4 = d 11 6 ∧ rg (d 11 6) 1 5) ∧ (c 2 5 = d 11 7 ∧ rg (d 11 7) 1 9)
theorem gR.fr {p p' : Nat} {c c' d d' : Mm} (h : gR p c d) (hc : ∀ a, a ≠ 20 → c' a = c a) (hd : frN d d') (hs : d' 0 20 = nI p') : gR p' c' d' := by
  obtain ⟨-, h2⟩ := h
  refine ⟨hs, ?_⟩
  rw [hc 2 (by omega), hc 13 (by omega), hc 14 (by omega), hc 15 (by omega), hc 16 (by omega), hc 17 (by omega), hc 18 (by omega), hc 19 (by omega), hd.2 2 (by omega) (by omega), hd.2 3 (by omega) (by omega), hd.2 4 (by omega) (by omega), hd.2 5 (by omega) (by omega), hd.2 6 (by omega) (by omega), hd.2 7 (by omega) (by omega), hd.2 8 (by omega) (by omega), hd.2 9 (by omega) (by omega), hd.2 10 (by omega) (by omega), hd.2 11 (by omega) (by omega)]
  exact h2
theorem wnN {w lo hi : Nat} (h1 : w < 2147483648) (h2 : lo < 2147483648) (h3 : hi < 2147483648) : wn (nI w) (nI lo) (nI hi) = if lo ≤ w ∧ w ≤ hi then 1 else 0 := by
  by_cases h : lo ≤ w ∧ w ≤ hi
  · rw [if_pos h, wn_1 ⟨(q_leX lo w rfl rfl h2 h1).mpr h.1, (q_leX w hi rfl rfl h1 h3).mpr h.2⟩]
  · rw [if_neg h, wn_0 (fun g => h ⟨(q_leX lo w rfl rfl h2 h1).mp g.1, (q_leX w hi rfl rfl h1 h3).mp g.2⟩)]
/-- what a taken item leaves -/
def tk (p : Nat) (c d : Mm) (x y : Option (Int32 × Mm)) : Prop := (∃ c' d', x = some (0, c') ∧ y = some (0, d') ∧ frP c c' ∧ frQ d d') ∨ ∃ c' d', x = some (1, c') ∧ y = some (1, d') ∧ frP c c' ∧ frQ d d' ∧ gR p c' d'
theorem law_both {p k hi w : Nat} {c d : Mm} (hg : gR p c d) (hk : k < 4) (hh : hi = 9 ∧ k = 0 ∨ hi = 30 ∧ k = 1 ∨ hi = 5 ∧ k = 2 ∨ hi = 9 ∧ k = 3) (hw : w ≤ 99) : ∃ d', X10_setLaw (nI k) (nI w) (nI hi) d = some (if 1 ≤ w ∧ w ≤ hi then 1 else 0, d') ∧ d' = m_st d 11 (4 + k) (nI w) ∧ frQ d d' ∧ (1 ≤ w ∧ w ≤ hi → gR p (m_st c 2 (2 + k) (nI w)) d') := by
  refine ⟨m_st d 11 (4 + k) (nI w), ?_, rfl, ?_, fun hr => ?_⟩
  · unfold X10_setLaw
    rw [show (4 : Int32) + nI k = nI (4 + k) from nI_add 4 k, q_gi (by omega) (by omega), q_ix (by omega), q_bnd, q_inM (nI w) (nI hi) 1 (by omega), q_cal, wn_gb, show wn (nI w) (OfNat.ofNat 1) (nI hi) = wn (nI w) (nI 1) (nI hi) from rfl, wnN (by omega) (by omega) (by omega)]
  · refine ⟨fun j _ => by rw [q_str (by omega)], q_str (by omega), by rw [q_str (by omega)], fun a g1 g2 x _ => by rw [q_str (by omega)], by rw [q_str (by omega)], fun a g1 g2 x _ => by rw [q_str (by omega)], fun x hx => by rw [q_st, if_pos rfl, if_neg (by omega)], fun a g1 g2 => q_str (by omega)⟩
  · obtain ⟨e, ⟨b, b1, b2, b3, b4⟩, ⟨m, m1, m2, m3, m4⟩, l1, l2, l3, l4⟩ := hg
    have e2 : ∀ x, m_st c 2 (2 + k) (nI w) 2 x = if x = 2 + k then nI w else c 2 x := fun x => by rw [q_st, if_pos rfl]
    have e11 : ∀ x, m_st d 11 (4 + k) (nI w) 11 x = if x = 4 + k then nI w else d 11 x := fun x => by rw [q_st, if_pos rfl]
    refine ⟨by rw [q_str (by omega)]; exact e, ⟨b, b1, by rw [e2, if_neg (by omega)]; exact b2, by rw [q_str (by omega)]; exact b3, fun i hi => ?_⟩, ⟨m, m1, by rw [e2, if_neg (by omega)]; exact m2, by rw [q_str (by omega)]; exact m3, fun j hj => ?_⟩, ?_⟩
    · rw [q_str (by omega), q_str (by omega), q_str (by omega), q_str (by omega), q_str (by omega), q_str (by omega), q_str (by omega), q_str (by omega), q_str (by omega), q_str (by omega)]
      exact b4 i hi
    · rw [q_str (by omega), q_str (by omega), q_str (by omega), q_str (by omega)]
      exact m4 j hj
    · rw [e2, e2, e2, e2, e11, e11, e11, e11]
      match k, hk with
      | 0, _ => obtain rfl : hi = 9 := by omega
                exact ⟨⟨rfl, w, hr.1, hr.2, rfl⟩, l2, l3, l4⟩
      | 1, _ => obtain rfl : hi = 30 := by omega
                exact ⟨l1, ⟨rfl, w, hr.1, hr.2, rfl⟩, l3, l4⟩
      | 2, _ => obtain rfl : hi = 5 := by omega
                exact ⟨l1, l2, ⟨rfl, w, hr.1, hr.2, rfl⟩, l4⟩
      | 3, _ => obtain rfl : hi = 9 := by omega
                exact ⟨l1, l2, l3, ⟨rfl, w, hr.1, hr.2, rfl⟩⟩
      | k + 4, h => exact absurd h (by omega)
theorem frP_2 {c : Mm} {j : Nat} {x : Int32} : frP c (m_st c 2 j x) := fun a g1 _ => q_str g1
theorem tk_yield {p w : Nat} {c d : Mm} (hg : gR p c d) (hw : w ≤ 99) (e1 : c 20 0 = nI w) (e2 : d 17 0 = nI w) : tk p c d (X4_takeYield c) (m_cal (X10_setLaw (0 : Int32) (d 17 0) (9 : Int32) d) fun r c' => if r = 0 then some (0, c') else some (1, c')) := by
  obtain ⟨d', x1, rfl, x3, x4⟩ := law_both (k := 0) (hi := 9) hg (by omega) (by omega) hw
  have hC : X4_takeYield c = some (if 1 ≤ w ∧ w ≤ 9 then 1 else 0, m_st c 2 2 (nI w)) := by
    unfold X4_takeYield
    rw [e1, q_bnd, q_str (by omega), e1, q_isW, q_cal, wn_gb, show wn (nI w) 1 9 = wn (nI w) (nI 1) (nI 9) from rfl, wnN (by omega) (by omega) (by omega)]
  rw [hC, e2, show X10_setLaw 0 (nI w) 9 d = some (if 1 ≤ w ∧ w ≤ 9 then 1 else 0, m_st d 11 (4 + 0) (nI w)) from x1, q_cal]
  by_cases g : 1 ≤ w ∧ w ≤ 9
  · rw [if_pos g, if_neg ne10]; exact Or.inr ⟨_, _, rfl, rfl, frP_2, x3, x4 g⟩
  · rw [if_neg g, if_pos rfl]; exact Or.inl ⟨_, _, rfl, rfl, frP_2, x3⟩
theorem tk_held {p w : Nat} {c d : Mm} (hg : gR p c d) (hw : w ≤ 99) (e1 : c 20 0 = nI w) (e2 : d 17 0 = nI w) : tk p c d (X4_takeHeld c) (m_cal (X10_setLaw (1 : Int32) (d 17 0) (30 : Int32) d) fun r c' => if r = 0 then some (0, c') else some (1, c')) := by
  obtain ⟨d', x1, rfl, x3, x4⟩ := law_both (k := 1) (hi := 30) hg (by omega) (by omega) hw
  have hC : X4_takeHeld c = some (if 1 ≤ w ∧ w ≤ 30 then 1 else 0, m_st c 2 3 (nI w)) := by
    unfold X4_takeHeld
    rw [e1, q_bnd, q_str (by omega), e1, q_isW, q_cal, wn_gb, show wn (nI w) 1 30 = wn (nI w) (nI 1) (nI 30) from rfl, wnN (by omega) (by omega) (by omega)]
  rw [hC, e2, show X10_setLaw 1 (nI w) 30 d = some (if 1 ≤ w ∧ w ≤ 30 then 1 else 0, m_st d 11 (4 + 1) (nI w)) from x1, q_cal]
  by_cases g : 1 ≤ w ∧ w ≤ 30
  · rw [if_pos g, if_neg ne10]; exact Or.inr ⟨_, _, rfl, rfl, frP_2, x3, x4 g⟩
  · rw [if_neg g, if_pos rfl]; exact Or.inl ⟨_, _, rfl, rfl, frP_2, x3⟩
theorem tk_line {p w u : Nat} {c d : Mm} (hg : gR p c d) (hw : w ≤ 99) (hu : u ≤ 99) (e1 : c 20 0 = nI w) (e2 : d 17 0 = nI w) (f1 : c 20 1 = nI u) (f2 : d 17 1 = nI u) : tk p c d (X4_takeLine c) (m_cal (X10_setLaw (2 : Int32) (d 17 0) (5 : Int32) d) fun r12 c13 => if r12 = 0 then some (0, c13) else m_cal (X10_setLaw (3 : Int32) (c13 17 1) (9 : Int32) c13) fun r c' => if r = 0 then some (0, c') else some (1, c')) := by
  obtain ⟨d', x1, rfl, x3, x4⟩ := law_both (k := 2) (hi := 5) hg (by omega) (by omega) hw
  have hC : X4_takeLine c = if 1 ≤ w ∧ w ≤ 5 then (if 1 ≤ u ∧ u ≤ 9 then some (1, m_st (m_st c 2 4 (nI w)) 2 5 (nI u)) else some (0, m_st (m_st c 2 4 (nI w)) 2 5 (nI u))) else some (0, m_st (m_st c 2 4 (nI w)) 2 5 (nI u)) := by
    unfold X4_takeLine
    rw [e1, q_bnd, q_str (b := 20) (by omega), f1, q_bnd, q_str (b := 20) (by omega), q_str (b := 20) (by omega), e1, q_isW, q_cal, q_str (b := 20) (by omega), q_str (b := 20) (by omega), f1, q_isW, q_cal, show wn (nI w) 1 5 = wn (nI w) (nI 1) (nI 5) from rfl, show wn (nI u) 1 9 = wn (nI u) (nI 1) (nI 9) from rfl, wnN (by omega) (by omega) (by omega), wnN (by omega) (by omega) (by omega)]
    by_cases g : 1 ≤ w ∧ w ≤ 5
    · rw [if_pos g, if_pos g, if_neg ne10]
      by_cases g2 : 1 ≤ u ∧ u ≤ 9
      · rw [if_pos g2, if_pos g2, if_neg ne10]
      · rw [if_neg g2, if_neg g2, if_pos rfl]
    · rw [if_neg g, if_neg g, if_pos rfl]
  rw [hC, e2, show X10_setLaw 2 (nI w) 5 d = some (if 1 ≤ w ∧ w ≤ 5 then 1 else 0, m_st d 11 (4 + 2) (nI w)) from x1, q_cal]
  by_cases g : 1 ≤ w ∧ w ≤ 5
  · obtain ⟨d2, y1, rfl, y3, y4⟩ := law_both (k := 3) (hi := 9) (x4 g) (by omega) (by omega) hu
    rw [if_pos g, if_pos g, if_neg ne10, q_str (b := 17) (by omega), f2, show X10_setLaw 3 (nI u) 9 (m_st d 11 (4 + 2) (nI w)) = some (if 1 ≤ u ∧ u ≤ 9 then 1 else 0, m_st (m_st d 11 (4 + 2) (nI w)) 11 (4 + 3) (nI u)) from y1, q_cal]
    by_cases g2 : 1 ≤ u ∧ u ≤ 9
    · rw [if_pos g2, if_pos g2, if_neg ne10]; exact Or.inr ⟨_, _, rfl, rfl, frP_2.tr frP_2, x3.tr y3, y4 g2⟩
    · rw [if_neg g2, if_neg g2, if_pos rfl]; exact Or.inl ⟨_, _, rfl, rfl, frP_2.tr frP_2, x3.tr y3⟩
  · rw [if_neg g, if_neg g, if_pos rfl]; exact Or.inl ⟨_, _, rfl, rfl, frP_2.tr frP_2, x3⟩
