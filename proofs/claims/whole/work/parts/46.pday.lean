/-! the whole day -/
def dF (nb : Nat) (c d : Mm) : Prop := (∀ i, i < nb → c 35 i = d 20 i ∧ c 36 i = d 21 i ∧ c 37 i = d 22 i ∧ c 38 i = d 23 i) ∧ ∃ k, k ≤ 15 ∧ mS nb k c d
theorem run_both {pk nb r : Nat} (hp : pk = 5 ∨ pk = 6) (hr : r ≤ 3) : ∀ (n m : Nat) (c d : Mm) (f1 f2 : Nat), m + n = 120 → n < f1 → n < f2 → cRel nb c d → pRel pk nb c d → dR nb m c d →
    ∃ d', m_lp1 (X10_goDay_b112 (nI r)) f2 (nI (m + 1)) d = X10_goDay_j130 d' ∧ frD d d' ∧ (∀ x, x < 6 * (m + 1) → d' 18 x = d 18 x) ∧ ∀ T, m ≤ T → T ≤ 120 → ∃ c', m_lp1 (X2_run_b8 pk (nI r) (nI T)) f1 (nI (m + 1)) c = some (c' 8 9, c') ∧ frC c c' ∧ (∀ i, i < nb → c' 33 i = d' 18 (6 * T + i)) ∧ (T = 120 → dF nb c' d') := by
  intro n
  induction n with
  | zero =>
    intro m c d f1 f2 hmn hf1 hf2 h1 h2 hR
    obtain ⟨f, rfl⟩ : ∃ f, f1 = f + 1 := ⟨f1 - 1, by omega⟩
    obtain ⟨g, rfl⟩ : ∃ f, f2 = f + 1 := ⟨f2 - 1, by omega⟩
    have hm : m = 120 := by omega
    subst hm
    obtain ⟨k, gg, q1, q2, q3, q4, q5⟩ := hR
    obtain ⟨⟨b1, b2, b3, b4⟩, -⟩ := id h1
    refine ⟨d, ?_, frD.rf, fun _ _ => rfl, fun T hT1 hT2 => ⟨c, ?_, frC.rf, fun i hi => ?_, fun _ => ⟨fun i hi => ?_, k, by omega, q2⟩⟩⟩
    · show X10_goDay_b112 (nI r) _ (nI 121) d = _
      unfold X10_goDay_b112
      rw [if_pos (by decide)]
    · show X2_run_b8 pk (nI r) (nI T) _ (nI (120 + 1)) c = _
      unfold X2_run_b8 X2_run_j45
      rw [if_pos ((q_ltX T (120 + 1) rfl rfl (by omega) (by omega)).mpr (by omega))]
    · have : T = 120 := by omega
      subst this
      exact (q3 i hi).1.1
    · obtain ⟨-, ⟨z1, -⟩, -, z4, z5, z6⟩ := q3 i hi
      exact ⟨z1, z4, z5, z6⟩
  | succ n ih =>
    intro m c d f1 f2 hmn hf1 hf2 h1 h2 hR
    obtain ⟨f, rfl⟩ : ∃ f, f1 = f + 1 := ⟨f1 - 1, by omega⟩
    obtain ⟨g, rfl⟩ : ∃ f, f2 = f + 1 := ⟨f2 - 1, by omega⟩
    obtain ⟨c1, d1, x1, x2, x3, x4, x5, x6, x7⟩ := min_both (m := m + 1) hp h1 h2 hr (by omega) (by omega) (by rw [Nat.add_sub_cancel]; exact hR)
    obtain ⟨d', y1, y2, y3, y4⟩ := ih (m + 1) c1 d1 f g (by omega) (by omega) (by omega) (h1.fd x4 x5) (h2.fd hp x4 x5) x3
    obtain ⟨k, gg, q1, q2, q3, q4, q5⟩ := hR
    obtain ⟨⟨b1, b2, b3, b4⟩, -⟩ := id h1
    have hcn : cn (c 35) nb ≤ nb := cn_le
    refine ⟨d', ?_, x5.tr y2, fun x hx => by rw [y3 x (by omega), x6 x (by omega)], fun T hT1 hT2 => ?_⟩
    · show X10_goDay_b112 (nI r) (m_lp1 (X10_goDay_b112 (nI r)) g) (nI (m + 1)) d = _
      unfold X10_goDay_b112
      rw [if_neg (show ¬ (121 : Int32) ≤ nI (m + 1) from fun h => absurd ((q_leX 121 (m + 1) rfl rfl (by omega) (by omega)).mp h) (by omega)), x2, q_cav, q_bnd, q_1]
      exact y1
    · have hstep : m_lp1 (X2_run_b8 pk (nI r) (nI T)) (f + 1) (nI (m + 1)) c = if nI T < nI (m + 1) then some (c 8 9, c) else if c 8 10 ≤ 0 then some (c 8 9, c) else m_lp1 (X2_run_b8 pk (nI r) (nI T)) f (nI (m + 1 + 1)) c1 := by
        have gen : ∀ rc, X2_run_b8 pk (nI r) (nI T) rc (nI (m + 1)) c = if nI T < nI (m + 1) then some (c 8 9, c) else if c 8 10 ≤ 0 then some (c 8 9, c) else rc (nI (m + 1 + 1)) c1 := by
          intro rc
          unfold X2_run_b8 X2_run_j45
          rw [x1 (fun c3 => m_bnd (nI (m + 1) + 1) fun x4 => rc x4 c3), q_bnd, q_1]
        exact gen _
      by_cases hTm : T = m
      · subst hTm
        refine ⟨c, ?_, frC.rf, fun i hi => ?_, fun h => absurd h (by omega)⟩
        · rw [hstep, if_pos ((q_ltX T (T + 1) rfl rfl (by omega) (by omega)).mpr (by omega))]
        · rw [y3 _ (by omega), x6 _ (by omega)]
          exact (q3 i hi).1.1
      · have hlt : ¬ nI T < nI (m + 1) := fun h => absurd ((q_ltX T (m + 1) rfl rfl (by omega) (by omega)).mp h) (by omega)
        obtain ⟨c'', z1, z2, z3, z4⟩ := y4 T (by omega) hT2
        by_cases h0 : cn (c 35) nb = 0
        · obtain ⟨w1, w2⟩ := x7 h0
          have hz : c 8 10 ≤ 0 := by rw [q4, h0]; decide
          have hz1 : c1 8 10 ≤ 0 := by rw [w1 8 (by omega) (by omega) (by omega)]; exact hz
          have hst : m_lp1 (X2_run_b8 pk (nI r) (nI T)) f (nI (m + 1 + 1)) c1 = some (c1 8 9, c1) := by
            obtain ⟨f', rfl⟩ : ∃ f', f = f' + 1 := ⟨f - 1, by omega⟩
            show X2_run_b8 pk (nI r) (nI T) (m_lp1 (X2_run_b8 pk (nI r) (nI T)) f') (nI (m + 1 + 1)) c1 = _
            unfold X2_run_b8 X2_run_j45
            rw [if_pos hz1, ite_self]
          rw [hst] at z1
          have hcc : c1 = c'' := (Prod.mk.inj (Option.some.inj z1)).2
          subst hcc
          refine ⟨c, ?_, frC.rf, fun i hi => ?_, fun hT => ?_⟩
          · rw [hstep, if_neg hlt, if_pos hz]
          · rw [← w2 i hi]; exact z3 i hi
          · obtain ⟨v1, k2, v2, v3⟩ := z4 hT
            unfold dF mS at *
            rw [w1 8 (by omega) (by omega) (by omega), w1 39 (by omega) (by omega) (by omega), w1 40 (by omega) (by omega) (by omega), w1 41 (by omega) (by omega) (by omega), w1 42 (by omega) (by omega) (by omega)] at v3
            rw [w1 35 (by omega) (by omega) (by omega), w1 36 (by omega) (by omega) (by omega), w1 37 (by omega) (by omega) (by omega), w1 38 (by omega) (by omega) (by omega)] at v1
            exact ⟨v1, k2, v2, v3⟩
        · have hz : ¬ c 8 10 ≤ 0 := by rw [q4]; exact fun h => h0 (by have := (q_leX (cn (c 35) nb) 0 rfl rfl (by omega) (by omega)).mp h; omega)
          exact ⟨c'', by rw [hstep, if_neg hlt, if_neg hz]; exact z1, x4.tr z2, z3, z4⟩
theorem sum_D {nb : Nat} {d : Mm} (h6 : nb ≤ 6) (e : d 2 0 = nI nb) : X10_goDay_j130 d = some (isum (d 21) nb, d) := by
  have key : ∀ n i fuel, i + n = nb → n < fuel → m_lp2 X10_goDay_b134 fuel (isum (d 21) i) (nI i) d = some (isum (d 21) nb, d) := by
    intro n
    induction n with
    | zero =>
      intro i fuel h1 h2
      obtain ⟨f, rfl⟩ : ∃ f, fuel = f + 1 := ⟨fuel - 1, by omega⟩
      have : i = nb := by omega
      subst this
      show X10_goDay_b134 _ _ (nI i) d = _
      unfold X10_goDay_b134
      rw [e, if_pos (q_les (by omega))]
    | succ n ih =>
      intro i fuel h1 h2
      obtain ⟨f, rfl⟩ : ∃ f, fuel = f + 1 := ⟨fuel - 1, by omega⟩
      show X10_goDay_b134 _ _ (nI i) d = _
      unfold X10_goDay_b134
      rw [e, if_neg (q_lez (by omega) (by omega)), q_gi (by omega) (by omega), q_bnd, q_bnd, q_ix (by omega), q_1]
      exact ih (i + 1) f (by omega) (by omega)
  exact key nb 0 1000 (by omega) (by omega)
theorem day_both {pk nb r : Nat} {c d : Mm} (hp : pk = 5 ∨ pk = 6) (hr : r ≤ 3) (h1 : cRel nb c d) (h2 : pRel pk nb c d) :
    ∃ S d', X10_goDay (nI r) d = some (S, d') ∧ frD d d' ∧ ∀ T, T ≤ 120 → ∃ c', X2_run pk (nI r) (nI T) c = some (c' 8 9, c') ∧ frC c c' ∧ (∀ i, i < nb → c' 33 i = d' 18 (6 * T + i)) ∧ (T = 120 → dF nb c' d' ∧ c' 8 9 = S) := by
  obtain ⟨⟨b1, b2, b3, b4⟩, -, -, -, -, -, hb⟩ := id h1
  obtain ⟨c0, x1, x2, x3, x4, x5, x6⟩ := beg_C (pk := pk) hp b2 b3
  obtain ⟨d0, y1, y2, y3, y4⟩ := beg_D (nI r) b2 b4
  have hR : dR nb 0 c0 d0 := by
    refine ⟨0, fun x => if x / 6 < x % 6 then 1 else 0, by decide, ⟨x3, y3, fun x h => absurd h (by omega), ?_⟩, fun x hx => ?_, x5, fun a b hab hb2 _ _ => ?_⟩
    · rw [x4]
      have : ∀ n, n ≤ nb → isum (d0 21) n = 0 := by
        intro n
        induction n with
        | zero => intro _; rfl
        | succ n ih =>
          intro hn
          show isum (d0 21) n + d0 21 n = 0
          rw [ih (by omega), (y4 n (by omega)).2.2.2.1]; rfl
      rw [this nb (Nat.le_refl nb)]
    · obtain ⟨p1, p2, p3, p4, p5, p6⟩ := x6 x hx
      obtain ⟨z1, z2, z3, z4, z5, z6⟩ := y4 x hx
      obtain ⟨⟨w1, w1'⟩, ⟨w2, -⟩, -⟩ := hb x hx
      obtain ⟨-, w3, w3'⟩ := h2 x hx
      unfold dB
      rw [show 6 * 0 + x = x by omega, p1, p2, p3, p4, p5, p6, z1, z2, z3, z4, z5, z6, w1, w2, w3]
      refine ⟨⟨rfl, w1'⟩, ⟨rfl, ?_⟩, fun _ => ⟨rfl, w3'.up (by omega)⟩, rfl, rfl, rfl⟩
      split
      · exact Or.inr ⟨0, by omega, by omega, rfl⟩
      · exact Or.inl rfl
    · show (if (6 * a + b) / 6 < (6 * a + b) % 6 then 1 else 0) = 1
      rw [if_pos (by omega)]
  obtain ⟨d', z1, z2, z3, z4⟩ := run_both hp hr 120 0 c0 d0 1000 1000 (by omega) (by omega) (by omega) (h1.fd x2 y2) (h2.fd hp x2 y2) hR
  have e2 : d' 2 0 = nI nb := by rw [(y2.tr z2).1 2 (by omega) (by omega)]; exact b4
  refine ⟨isum (d' 21) nb, d', ?_, y2.tr z2, fun T hT => ?_⟩
  · rw [y1]
    unfold X10_goDay_j110
    exact z1.trans (sum_D b2 e2)
  · obtain ⟨c', w1, w2, w3, w4⟩ := z4 T (by omega) hT
    refine ⟨c', ?_, x2.tr w2, w3, fun h => ⟨w4 h, ?_⟩⟩
    · unfold X2_run
      rw [x1, q_cav]
      exact w1
    · obtain ⟨-, k, -, -, -, -, m4⟩ := w4 h
      exact m4
