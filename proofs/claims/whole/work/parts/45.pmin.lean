theorem all_both {pk nb r m : Nat} {c1 d1 : Mm} (hp : pk = 5 ∨ pk = 6) (h1 : cRel nb c1 d1) (h2 : pRel pk nb c1 d1) (hr : r ≤ 3) (hm : 1 ≤ m) (hm2 : m ≤ 120) (e35 : ∀ x, x < nb → c1 35 x = d1 20 x) (har : ∀ x, x < nb → d1 20 x = -4 ∨ rg (d1 20 x) 0 120) (e32 : ∀ x, x < nb → c1 32 x = d1 18 (6 * (m - 1) + x)) (e33 : ∀ x, x < nb → c1 33 x = d1 18 (6 * m + x)) (hR : mR nb 0 c1 d1 c1 d1) :
    ∃ c' d', X2_meetAll pk (nI r) (nI m) c1 = some c' ∧ X10_goMinute_j158 (nI r) (nI m) d1 = X10_goMinute_j218 (nI m) d' ∧ mR nb (6 * nb) c1 d1 c' d' := by
  obtain ⟨⟨b1, b2, b3, b4⟩, -⟩ := id h1
  have n4 : ∀ {t c d}, mR nb t c1 d1 c d → c 4 0 = nI nb ∧ d 2 0 = nI nb := by
    rintro t c d ⟨p1, p2, -⟩
    rw [p1 4 (by omega) (by omega), p2 2 (by omega) (by omega)]
    exact ⟨b3, b4⟩
  have key := q_sim (ρ := Unit) (σ := Unit) (F := fun _ => X2_meetAll_b3 pk (nI r) (nI m)) (G := fun _ => X10_goMinute_b160 (nI r) (nI m)) (k := fun _ c => some c) (l := fun _ => X10_goMinute_j218 (nI m)) nb (fun i c d => mR nb (6 * i) c1 d1 c d) ?_ ?_ nb 0 c1 d1 1000 1000 (by omega) (by omega) (by omega) hR
  · obtain ⟨c', d', k1, k2, k3⟩ := key
    exact ⟨c', d', k2 (), k3 (), k1⟩
  · intro i c d hi hI
    have inner := q_sim (ρ := Int32 → Mm → Option Mm) (σ := Int32 → Mm → Option Mm) (F := fun x => X2_meetAll_b21 pk x (nI r) (nI m) (nI i)) (G := fun x => X10_goMinute_b175 x (nI r) (nI m) (nI i)) (k := fun x => X2_meetAll_j84 pk x (nI r) (nI m) (nI i)) (l := fun x => X10_goMinute_j212 x (nI r) (nI m) (nI i)) nb (fun j c d => i < j ∧ mR nb (6 * i + j) c1 d1 c d) ?_ ?_ (nb - (i + 1)) (i + 1) c d 1000 1000 (by omega) (by omega) (by omega) ⟨by omega, hI.up (by omega)⟩
    · obtain ⟨c', d', ⟨-, k1⟩, k2, k3⟩ := inner
      refine ⟨c', d', k1.up (by omega), fun _ rc => ?_, fun _ rc => ?_⟩
      · show X2_meetAll_b3 pk (nI r) (nI m) rc (nI i) c = _
        unfold X2_meetAll_b3
        rw [(n4 hI).1, if_neg (q_lez hi (by omega)), q_bnd, q_1, k2 rc]
        unfold X2_meetAll_j84
        rw [q_bnd, q_1]
      · show X10_goMinute_b160 (nI r) (nI m) rc (nI i) d = _
        unfold X10_goMinute_b160
        rw [(n4 hI).2, if_neg (q_lez hi (by omega)), q_bnd, q_1, k3 rc]
        unfold X10_goMinute_j212
        rw [q_bnd, q_1]
    · rintro j c d hj ⟨hij, hJ⟩
      obtain ⟨c', d', x1, x2, x3⟩ := hJ.st hp h1 h2 hr hm hm2 e35 har e32 e33 hij hj
      exact ⟨c', d', ⟨by omega, x1⟩, x2, x3⟩
    · rintro c d ⟨-, hJ⟩
      refine ⟨fun x rc => ?_, fun x rc => ?_⟩
      · show X2_meetAll_b21 pk x (nI r) (nI m) (nI i) rc (nI nb) c = _
        unfold X2_meetAll_b21
        rw [(n4 hJ).1, if_pos (q_les (by omega))]
      · show X10_goMinute_b175 x (nI r) (nI m) (nI i) rc (nI nb) d = _
        unfold X10_goMinute_b175
        rw [(n4 hJ).2, if_pos (q_les (by omega))]
  · intro c d hI
    refine ⟨fun _ rc => ?_, fun _ rc => ?_⟩
    · show X2_meetAll_b3 pk (nI r) (nI m) rc (nI nb) c = _
      unfold X2_meetAll_b3
      rw [(n4 hI).1, if_pos (q_les (by omega))]
    · show X10_goMinute_b160 (nI r) (nI m) rc (nI nb) d = _
      unfold X10_goMinute_b160
      rw [(n4 hI).2, if_pos (q_les (by omega))]
theorem q_tr {a b c d : Int32} (h1 : a ≤ b) (h2 : b < c) (h3 : c ≤ d) : a < d := by
  rw [Int32.le_iff_toInt_le] at h1 h3
  rw [Int32.lt_iff_toInt_lt] at h2 ⊢
  omega
def dR (nb m : Nat) (c d : Mm) : Prop := ∃ k g, k + sm g 36 ≤ 15 ∧ mS nb k c d ∧ (∀ x, x < nb → dB m k c d x) ∧ c 8 10 = nI (cn (c 35) nb) ∧ ∀ a b, a < b → b < nb → d 4 a ≠ d 4 b → unc (d 4) (c 33) a b → g (6 * a + b) = 1
theorem min_both {pk nb r m : Nat} {c d : Mm} (hp : pk = 5 ∨ pk = 6) (h1 : cRel nb c d) (h2 : pRel pk nb c d) (hr : r ≤ 3) (hm : 1 ≤ m) (hm2 : m ≤ 120) (hR : dR nb (m - 1) c d) :
    ∃ c' d', (∀ K : Mm → Option (Int32 × Mm), (m_cav (X2_goOn c) fun c1 => m_cav (X2_meetAll pk (nI r) (nI m) c1) fun c2 => m_cav (X2_arrive (nI m) c2) fun c3 => K c3) = K c') ∧ X10_goMinute (nI r) (nI m) d = some d' ∧ dR nb m c' d' ∧ frC c c' ∧ frD d d' ∧ (∀ x, x < 6 * m → d' 18 x = d 18 x) ∧ (cn (c 35) nb = 0 → (∀ a, a ≠ 32 → a ≠ 33 → a ≠ 34 → c' a = c a) ∧ ∀ x, x < nb → c' 33 x = c 33 x) := by
  obtain ⟨k, g, q1, q2, q3, q4, q5⟩ := hR
  obtain ⟨⟨b1, b2, b3, b4⟩, -, -, -, -, -, hb⟩ := id h1
  obtain ⟨c1, d1, x1, x2, x3, x4, x5, x6⟩ := go_both (r := r) h1 hm hm2 (by omega) q3
  have fc : frC c c1 := fun a g1 g2 => x3 a (by omega) (by omega) (by omega)
  have fd : frD d d1 := ⟨fun a g1 g2 => x4 a (by omega) (by omega), fun j _ => by rw [x4 0 (by omega) (by omega)]⟩
  have h1' := h1.fd fc fd
  have h2' := h2.fd hp fc fd
  have s4 : d1 4 = d 4 := x4 4 (by omega) (by omega)
  have s20 : d1 20 = d 20 := x4 20 (by omega) (by omega)
  have s21 : d1 21 = d 21 := x4 21 (by omega) (by omega)
  have r35 : c1 35 = c 35 := x3 35 (by omega) (by omega) (by omega)
  have r8 : c1 8 = c 8 := x3 8 (by omega) (by omega) (by omega)
  have ways : ∀ x, x < nb → d 4 x = 0 ∨ d 4 x = 1 := by
    intro x hx
    obtain ⟨n, -, hn, e⟩ := (hb x hx).2.1.2
    rw [e]
    match n, hn with
    | 0, _ => exact Or.inl rfl
    | 1, _ => exact Or.inr rfl
    | n + 2, h => exact absurd h (by omega)
  have hmR : mR nb 0 c1 d1 c1 d1 := by
    refine ⟨fun _ _ _ => rfl, fun _ _ _ => rfl, fun _ _ => rfl, rfl, fun _ => rfl, k, g, q1, ?_, fun x hx => ?_, fun a b hab hb2 hw => ?_⟩
    · obtain ⟨m1, m2, m3, m4⟩ := q2
      refine ⟨by rw [r8]; exact m1, by rw [x4 0 (by omega) (by omega)]; exact m2, fun x hx => ?_, by rw [r8, s21]; exact m4⟩
      rw [x3 39 (by omega) (by omega) (by omega), x3 40 (by omega) (by omega) (by omega), x3 41 (by omega) (by omega) (by omega), x3 42 (by omega) (by omega) (by omega), x4 24 (by omega) (by omega), x4 25 (by omega) (by omega), x4 26 (by omega) (by omega), x4 27 (by omega) (by omega)]
      exact m3 x hx
    · obtain ⟨-, -, y3, -⟩ := x6 x hx
      obtain ⟨-, -, -, z4, z5, z6⟩ := q3 x hx
      rw [s20, x3 36 (by omega) (by omega) (by omega), x3 37 (by omega) (by omega) (by omega), x3 38 (by omega) (by omega) (by omega), s21, x4 22 (by omega) (by omega), x4 23 (by omega) (by omega)]
      exact ⟨y3, z4, z5, z6⟩
    · rw [s4] at hw
      rw [s4]
      obtain ⟨ya, -, -, wa1, wa2, -⟩ := x6 a (by omega)
      obtain ⟨yb, -, -, wb1, wb2, -⟩ := x6 b hb2
      refine ⟨fun hu => q5 a b hab hb2 hw ⟨fun h => ?_, fun h => ?_⟩, fun _ hu => q5 a b hab hb2 hw ⟨fun h => ?_, fun h => ?_⟩⟩
      · have hb0 : d 4 b ≠ 0 := fun e => hw (h.trans e.symm)
        exact q_tr (wa1 h) (hu.1 h) (wb2 hb0)
      · have ha1 : d 4 a = 1 := (ways a (by omega)).resolve_left h
        have hb0 : d 4 b = 0 := (ways b hb2).resolve_right (fun e => hw (ha1.trans e.symm))
        exact q_tr (wb1 hb0) (hu.2 h) (wa2 h)
      · rw [← ya, ← yb]; exact hu.1 h
      · rw [← ya, ← yb]; exact hu.2 h
  have e35 : ∀ x, x < nb → c1 35 x = d1 20 x := fun x hx => by rw [r35, s20]; exact (q3 x hx).2.1.1
  have har : ∀ x, x < nb → d1 20 x = -4 ∨ rg (d1 20 x) 0 120 := fun x hx => by rw [s20]; exact (q3 x hx).2.1.2
  have e32 : ∀ x, x < nb → c1 32 x = d1 18 (6 * (m - 1) + x) := fun x hx => by rw [(x6 x hx).1, x5 _ (by omega)]; exact (q3 x hx).1.1
  have e33 : ∀ x, x < nb → c1 33 x = d1 18 (6 * m + x) := fun x hx => (x6 x hx).2.1.1
  obtain ⟨c2, d2, y1, y2, y3⟩ := all_both hp h1' h2' hr hm hm2 e35 har e32 e33 hmR
  obtain ⟨f1, f2, f3, f4, f5, k', g', p1, p2, p3, p4⟩ := y3
  have r35' : c2 35 = c1 35 := f1 35 (by omega) (by omega)
  have r33' : c2 33 = c1 33 := f1 33 (by omega) (by omega)
  have r22' : c2 22 = c1 22 := f1 22 (by omega) (by omega)
  have s20' : d2 20 = d1 20 := f2 20 (by omega) (by omega)
  have s18' : d2 18 = d1 18 := f2 18 (by omega) (by omega)
  have s4' : d2 4 = d1 4 := f2 4 (by omega) (by omega)
  obtain ⟨c3, a1, a2, a3, a4, a5, a6⟩ := arr_C (m := m) (c := c2) b2 hm2 (by rw [f1 4 (by omega) (by omega), x3 4 (by omega) (by omega) (by omega)]; exact b3) (by rw [f4, r8, q4, r35', r35])
  obtain ⟨d3, t1, t2, t3⟩ := arr_D (m := m) (d := d2) b2 hm2 (by rw [f2 2 (by omega) (by omega), x4 2 (by omega) (by omega)]; exact b4) (fun x hx => by rw [s20']; exact har x hx)
  have w22 : ∀ x, x < nb → c1 22 x = d1 4 x := fun x hx => by rw [x3 22 (by omega) (by omega) (by omega), s4]; exact (hb x hx).2.1.1
  refine ⟨c3, d3, fun K => ?_, ?_, ⟨k', g', p1, ?_, fun x hx => ?_, a4, fun a b hab hb2 hw hu => ?_⟩, fun a g1 g2 => ?_, ⟨fun a g1 g2 => ?_, fun j hj => ?_⟩, fun x hx => ?_, fun h0 => ?_⟩
  · rw [x1, q_cav, y1, q_cav, a1, q_cav]
  · rw [x2, y2, t1]
  · obtain ⟨m1, m2, m3, m4⟩ := p2
    refine ⟨by rw [a3 11 (by omega)]; exact m1, by rw [t2 0 (by omega)]; exact m2, fun x hx => ?_, by rw [a3 9 (by omega), t2 21 (by omega)]; exact m4⟩
    rw [a2 39 (by omega) (by omega), a2 40 (by omega) (by omega), a2 41 (by omega) (by omega), a2 42 (by omega) (by omega), t2 24 (by omega), t2 25 (by omega), t2 26 (by omega), t2 27 (by omega)]
    exact m3 x hx
  · obtain ⟨z1, z2, z3, z4⟩ := p3 x hx
    unfold dB
    rw [a2 33 (by omega) (by omega), a2 34 (by omega) (by omega), a2 36 (by omega) (by omega), a2 37 (by omega) (by omega), a2 38 (by omega) (by omega), t2 18 (by omega), t2 19 (by omega), t2 21 (by omega), t2 22 (by omega), t2 23 (by omega), a5 x hx, t3 x hx, r33', s18', r35', s20', r22', s4', e35 x hx, e33 x hx, w22 x hx]
    refine ⟨(⟨rfl, (x6 x hx).2.1.2⟩ : _ ∧ _), ⟨rfl, ?_⟩, fun h => ?_, z2, z3, z4⟩
    · split
      · exact Or.inr ⟨m, by omega, hm2, rfl⟩
      · exact har x hx
    · split at h
      · exact absurd h (q_m4 (by omega))
      · exact z1 h
  · rw [t2 4 (by omega), s4'] at hw
    rw [t2 4 (by omega), s4', a2 33 (by omega) (by omega), r33'] at hu
    exact (p4 a b hab hb2 hw).1 hu
  · rw [a2 a g1 (by omega), f1 a g1 (by omega), x3 a (by omega) (by omega) (by omega)]
  · rw [t2 a (by omega), f2 a g1 (by omega), x4 a (by omega) (by omega)]
  · rw [t2 0 (by omega), f3 j hj, x4 0 (by omega) (by omega)]
  · rw [t2 18 (by omega), s18', x5 x hx]
  · have hall : ∀ x, x < nb → d1 20 x ≠ -4 := fun x hx => by rw [← e35 x hx, r35]; exact cn_0 h0 x hx
    have c21 : c2 = c1 := f5 hall
    have c32 : c3 = c2 := a6 (fun x hx => by rw [r35', e35 x hx]; exact hall x hx)
    refine ⟨fun a g1 g2 g3 => by rw [c32, c21, x3 a g1 g2 g3], fun x hx => ?_⟩
    rw [c32, c21]
    exact (x6 x hx).2.2.2.2.2 (by rw [← s20]; exact hall x hx)
