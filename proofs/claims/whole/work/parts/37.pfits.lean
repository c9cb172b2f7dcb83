theorem narrow_both {nb : Nat} {c d : Mm} (h1 : cRel nb c d) (v : Int32) : ∃ b, (b = 0 ∨ b = 1) ∧ X1_isNarrow v c = some (b, c) ∧ X10_isNarrow v d = some (b, d) := by
  obtain ⟨-, ⟨nn, n3, n1, n2, hn⟩, -⟩ := h1
  have h1s : ∀ m k fuel, k + m = nn → m < fuel → m_lp2 (X10_isNarrow_b4 v) fuel (1 : Int32) (nI k) d = some (1, d) := by
    intro m
    induction m with
    | zero =>
      intro k fuel hk hf
      obtain ⟨f, rfl⟩ : ∃ f, fuel = f + 1 := ⟨fuel - 1, by omega⟩
      have : k = nn := by omega
      subst this
      show X10_isNarrow_b4 v _ 1 (nI k) d = _
      unfold X10_isNarrow_b4
      rw [n2, if_pos ((q_leX k k rfl rfl (by omega) (by omega)).mpr (by omega)), q_gb1]
    | succ m ih =>
      intro k fuel hk hf
      obtain ⟨f, rfl⟩ : ∃ f, fuel = f + 1 := ⟨fuel - 1, by omega⟩
      show X10_isNarrow_b4 v _ 1 (nI k) d = _
      unfold X10_isNarrow_b4 X10_isNarrow_j40 X10_isNarrow_j45
      rw [n2, if_neg (fun h => absurd ((q_leX nn k rfl rfl (by omega) (by omega)).mp h) (by omega)), if_neg ne10, q_bnd, q_1]
      exact ih (k + 1) f (by omega) (by omega)
  have key : ∀ m k f1 f2, k + m = nn → m < f1 → m < f2 → ∃ b : Int32, (b = 0 ∨ b = 1) ∧ m_lp1 (X1_isNarrow_b2 v) f1 (nI k) c = some (b, c) ∧ m_lp2 (X10_isNarrow_b4 v) f2 (0 : Int32) (nI k) d = some (b, d) := by
    intro m
    induction m with
    | zero =>
      intro k f1 f2 hk hf1 hf2
      obtain ⟨f, rfl⟩ : ∃ f, f1 = f + 1 := ⟨f1 - 1, by omega⟩
      obtain ⟨g, rfl⟩ : ∃ f, f2 = f + 1 := ⟨f2 - 1, by omega⟩
      have : k = nn := by omega
      subst this
      refine ⟨0, Or.inl rfl, ?_, ?_⟩
      · show X1_isNarrow_b2 v _ (nI k) c = _
        unfold X1_isNarrow_b2
        rw [n1, if_pos ((q_leX k k rfl rfl (by omega) (by omega)).mpr (by omega))]
      · show X10_isNarrow_b4 v _ 0 (nI k) d = _
        unfold X10_isNarrow_b4
        rw [n2, if_pos ((q_leX k k rfl rfl (by omega) (by omega)).mpr (by omega)), q_gb0]
    | succ m ih =>
      intro k f1 f2 hk hf1 hf2
      obtain ⟨f, rfl⟩ : ∃ f, f1 = f + 1 := ⟨f1 - 1, by omega⟩
      obtain ⟨g, rfl⟩ : ∃ f, f2 = f + 1 := ⟨f2 - 1, by omega⟩
      obtain ⟨q1, q2⟩ := hn k (by omega)
      have hle : ¬ nI nn ≤ nI k := fun h => absurd ((q_leX nn k rfl rfl (by omega) (by omega)).mp h) (by omega)
      have e1 : m_lp1 (X1_isNarrow_b2 v) (f + 1) (nI k) c = if wn v (d 9 k) (d 10 k) = 0 then m_lp1 (X1_isNarrow_b2 v) f (nI (k + 1)) c else some (1, c) := by
        show X1_isNarrow_b2 v _ (nI k) c = _
        unfold X1_isNarrow_b2
        rw [n1, if_neg hle, q_gi (by omega) (by omega), q_gi (by omega) (by omega), q_ix (by omega), q1, q2, q_isW, q_cal, q_bnd, q_1]
      have e2 : m_lp2 (X10_isNarrow_b4 v) (g + 1) 0 (nI k) d = if wn v (d 9 k) (d 10 k) = 0 then m_lp2 (X10_isNarrow_b4 v) g 0 (nI (k + 1)) d else m_lp2 (X10_isNarrow_b4 v) g 1 (nI (k + 1)) d := by
        show X10_isNarrow_b4 v _ 0 (nI k) d = _
        unfold X10_isNarrow_b4 X10_isNarrow_j40 X10_isNarrow_j45
        rw [n2, if_neg hle, if_pos rfl, q_gi (by omega) (by omega), q_gi (by omega) (by omega), q_ix (by omega), q_in0, q_cal, q_bnd, q_bnd, q_1]
      rw [e1, e2]
      by_cases hw : wn v (d 9 k) (d 10 k) = 0
      · rw [if_pos hw, if_pos hw]
        exact ih (k + 1) f g (by omega) (by omega) (by omega)
      · rw [if_neg hw, if_neg hw, h1s m (k + 1) g (by omega) (by omega)]
        exact ⟨1, Or.inr rfl, rfl, rfl⟩
  exact key nn 0 1000 1000 (by omega) (by omega) (by omega)
theorem fits_one {nb : Nat} {c d : Mm} (h1 : cRel nb c d) (h2 : pRel 5 nb c d) (h4 : sRel nb c d) {r : Nat} (hr : r ≤ 3) : ∃ b : Int32, (b = 0 ∨ b = 1) ∧ X9_fitsSightings (nI r) c = some (b, c) ∧ ∀ rc4 v1, m_lp2 (X10_fits_b14 rc4 v1 (nI r)) 1000 (1 : Int32) (0 : Int32) d = X10_fits_j68 rc4 v1 (nI r) b d := by
  obtain ⟨n, n8, n1, n2, hn⟩ := h4
  have h0s : ∀ rc4 v1 m k fuel, k + m = n → m < fuel → m_lp2 (X10_fits_b14 rc4 v1 (nI r)) fuel (0 : Int32) (nI k) d = X10_fits_j68 rc4 v1 (nI r) 0 d := by
    intro rc4 v1 m
    induction m with
    | zero =>
      intro k fuel hk hf
      obtain ⟨f, rfl⟩ : ∃ f, fuel = f + 1 := ⟨fuel - 1, by omega⟩
      have : k = n := by omega
      subst this
      show X10_fits_b14 rc4 v1 (nI r) _ 0 (nI k) d = _
      unfold X10_fits_b14
      rw [n2, if_pos ((q_leX k k rfl rfl (by omega) (by omega)).mpr (by omega))]
    | succ m ih =>
      intro k fuel hk hf
      obtain ⟨f, rfl⟩ : ∃ f, fuel = f + 1 := ⟨fuel - 1, by omega⟩
      show X10_fits_b14 rc4 v1 (nI r) _ 0 (nI k) d = _
      unfold X10_fits_b14 X10_fits_j60 X10_fits_j61
      rw [n2, if_neg (fun h => absurd ((q_leX n k rfl rfl (by omega) (by omega)).mp h) (by omega)), if_pos rfl, q_bnd, q_1]
      exact ih (k + 1) f (by omega) (by omega)
  have key : ∀ m k f1 f2, k + m = n → m < f1 → m < f2 → ∃ b : Int32, (b = 0 ∨ b = 1) ∧ m_lp1 (X9_fitsSightings_b2 (nI r)) f1 (nI k) c = some (b, c) ∧ ∀ rc4 v1, m_lp2 (X10_fits_b14 rc4 v1 (nI r)) f2 (1 : Int32) (nI k) d = X10_fits_j68 rc4 v1 (nI r) b d := by
    intro m
    induction m with
    | zero =>
      intro k f1 f2 hk hf1 hf2
      obtain ⟨f, rfl⟩ : ∃ f, f1 = f + 1 := ⟨f1 - 1, by omega⟩
      obtain ⟨g, rfl⟩ : ∃ f, f2 = f + 1 := ⟨f2 - 1, by omega⟩
      have : k = n := by omega
      subst this
      refine ⟨1, Or.inr rfl, ?_, fun rc4 v1 => ?_⟩
      · show X9_fitsSightings_b2 (nI r) _ (nI k) c = _
        unfold X9_fitsSightings_b2
        rw [n1, if_pos ((q_leX k k rfl rfl (by omega) (by omega)).mpr (by omega))]
      · show X10_fits_b14 rc4 v1 (nI r) _ 1 (nI k) d = _
        unfold X10_fits_b14
        rw [n2, if_pos ((q_leX k k rfl rfl (by omega) (by omega)).mpr (by omega))]
    | succ m ih =>
      intro k f1 f2 hk hf1 hf2
      obtain ⟨f, rfl⟩ : ∃ f, f1 = f + 1 := ⟨f1 - 1, by omega⟩
      obtain ⟨g, rfl⟩ : ∃ f, f2 = f + 1 := ⟨f2 - 1, by omega⟩
      obtain ⟨q1, q2, ⟨i, hi, qi⟩, j, hj, qj⟩ := hn k (by omega)
      obtain ⟨y, y1, y2, -⟩ := yield_both h1 h2 hi hj hr
      have hle : ¬ nI n ≤ nI k := fun h => absurd ((q_leX n k rfl rfl (by omega) (by omega)).mp h) (by omega)
      have e1 : m_lp1 (X9_fitsSightings_b2 (nI r)) (f + 1) (nI k) c = if y = nI i then m_lp1 (X9_fitsSightings_b2 (nI r)) f (nI (k + 1)) c else some (0, c) := by
        show X9_fitsSightings_b2 (nI r) _ (nI k) c = _
        unfold X9_fitsSightings_b2
        rw [n1, if_neg hle, q_gi (by omega) (by omega), q_ix (by omega), q_bnd, q_gi (by omega) (by omega), qi, qj, y1, q_cal, q_bnd, q_1]
      have e2 : ∀ rc4 v1, m_lp2 (X10_fits_b14 rc4 v1 (nI r)) (g + 1) 1 (nI k) d = if y = nI i then m_lp2 (X10_fits_b14 rc4 v1 (nI r)) g 1 (nI (k + 1)) d else m_lp2 (X10_fits_b14 rc4 v1 (nI r)) g 0 (nI (k + 1)) d := by
        intro rc4 v1
        show X10_fits_b14 rc4 v1 (nI r) _ 1 (nI k) d = _
        unfold X10_fits_b14 X10_fits_j60 X10_fits_j61
        rw [n2, if_neg hle, if_neg ne10, q_gi (by omega) (by omega), q_gi (by omega) (by omega), q_ix (by omega), ← q1, ← q2, qi, qj, y2, q_cal, q_gi (by omega) (by omega), ← q1, qi, q_bnd, q_bnd, q_1]
      by_cases hw : y = nI i
      · obtain ⟨b, hb, z1, z2⟩ := ih (k + 1) f g (by omega) (by omega) (by omega)
        refine ⟨b, hb, by rw [e1, if_pos hw, z1], fun rc4 v1 => by rw [e2, if_pos hw, z2]⟩
      · refine ⟨0, Or.inl rfl, by rw [e1, if_neg hw], fun rc4 v1 => by rw [e2, if_neg hw, h0s rc4 v1 m (k + 1) g (by omega) (by omega)]⟩
  exact key n 0 1000 1000 (by omega) (by omega) (by omega)
theorem s_fits (c d : Mm) (h : Rel c d) : ∃ (r : Int32) (c1 d1 : Mm), X9_fits c = some (r, c1) ∧ X10_fits d = some (r, d1) ∧ Rel c1 d1 := by
  obtain ⟨ht, nb, h1, h2, h3, h4, h5⟩ := id h
  have key := q_sim2 (ρ := Unit) (σ := Unit) (F := fun _ => X9_fits_b4) (G := fun _ => X10_fits_b4) (k := fun _ a c => some (a, c)) (l := fun _ a c => some (a, c)) 4 (fun _ a c' b d' => a = b ∧ c' = c ∧ d' = d) ?_ ?_ 4 0 0 c 0 d 1000 1000 (by omega) (by omega) (by omega) ⟨rfl, rfl, rfl⟩
  · obtain ⟨a, c', b, d', ⟨rfl, rfl, rfl⟩, k1, k2⟩ := key
    exact fin_ (k1 ()) (k2 ()) rfl h
  · rintro i a c' b d' hi ⟨rfl, rfl, rfl⟩
    obtain ⟨z, hz, f1, f2⟩ := fits_one h1 h2 h4 (show i ≤ 3 by omega)
    have hn : ¬ (4 : Int32) ≤ nI i := fun h => absurd ((q_leX 4 i rfl rfl (by omega) (by omega)).mp h) (by omega)
    refine ⟨if z = 0 then a else a ||| ((1 : Int32) <<< (nI i &&& (31 : Int32))), c', _, d', ⟨rfl, rfl, rfl⟩, fun _ r => ?_, fun _ r => ?_⟩
    · show X9_fits_b4 r a (nI i) c' = _
      unfold X9_fits_b4 X9_fits_j23
      rw [if_neg hn, f1, q_cal]
      rcases hz with rfl | rfl
      · rw [if_pos rfl, if_pos rfl, q_bnd, q_1]
      · rw [if_neg ne10, if_neg ne10, q_bnd, q_bnd, q_1]
    · show X10_fits_b4 r a (nI i) d' = _
      unfold X10_fits_b4
      rw [if_neg hn, f2]
      unfold X10_fits_j68 X10_fits_j80
      rcases hz with rfl | rfl
      · rw [if_pos rfl, if_pos rfl, q_bnd, q_bnd, q_1, Int32.or_zero]
      · rw [if_neg ne10, if_neg ne10, q_bnd, q_bnd, q_1]
  · rintro a c' b d' ⟨rfl, rfl, rfl⟩
    refine ⟨fun _ r => ?_, fun _ r => ?_⟩
    · show X9_fits_b4 r a (nI 4) c' = _
      unfold X9_fits_b4
      rw [if_pos (by decide)]
    · show X10_fits_b4 r a (nI 4) d' = _
      unfold X10_fits_b4
      rw [if_pos (by decide)]
