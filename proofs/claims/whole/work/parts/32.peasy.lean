/-! the small calls -/
theorem s_write (v1 : Int32) (c d : Mm) (h : Rel c d) : ∃ (r : Int32) (c1 d1 : Mm), X9_write v1 c = some (r, c1) ∧ X10_write v1 d = some (r, d1) ∧ Rel c1 d1 := by
  unfold X9_write X10_write
  rw [q_isW, q_cal, q_inN v1 32 126 (by omega) (by omega), q_cal]
  by_cases hw : wn v1 32 126 = 0
  · rw [if_pos hw, if_pos hw]
    exact ⟨_, _, _, rfl, rfl, h⟩
  · rw [if_neg hw, if_neg hw]
    obtain ⟨⟨n, hn, e1, e2, e3⟩, nb, h1, h2, h3, h4, h5⟩ := h
    unfold X8_add
    rw [e1, e2]
    by_cases hf : n = 200
    · subst hf
      rw [if_neg (by decide), q_cal, if_pos rfl, if_pos (show nI 200 = (200 : Int32) from rfl)]
      exact ⟨_, _, _, rfl, rfl, ⟨200, hn, e1, e2, e3⟩, nb, h1, h2, h3, h4, h5⟩
    · have hlt : nI n < (200 : Int32) := (q_ltX n 200 rfl rfl (by omega) (by omega)).mpr (by omega)
      have hne : ¬ nI n = (200 : Int32) := fun e => hf ((q_eqX n 200 rfl rfl (by omega) (by omega)).mp e)
      rw [if_pos hlt, q_gi (by omega) (by omega), q_bnd, q_bnd, q_cal, if_neg ne10, if_neg hne, q_gi (by omega) (by omega), q_bnd, q_bnd]
      refine fin_ rfl rfl ?_ ?_
      · simp [q_st, e1, e2]
      · refine ⟨⟨n + 1, by omega, ?_, ?_, ?_⟩, nb, h1.fr ?_ ?_, h2.fr ?_ ?_ ?_, h3.fr ?_ ?_ ?_ ?_ ?_ ?_ ?_, h4.fr ?_ ?_ ?_ ?_ ?_ ?_, h5.fr ?_ ?_ ?_ ?_ ?_⟩
        · simp [q_st, e1, q_1]
        · simp [q_st, e2, q_1]
        · intro j hj
          simp only [q_st, q_ix (show n < 2147483648 by omega)]
          by_cases hjn : j = n
          · simp [hjn]
          · simp [hjn, e3 j (by omega)]
        · intro a ha; rw [q_str, q_str] <;> (rintro rfl; revert ha; decide)
        · intro a ha; rw [q_str, q_str] <;> (rintro rfl; revert ha; decide)
        all_goals first | (funext i; simp [q_st, m_pL, m_pD]) | simp [q_st]
theorem wn_not {v hi : Int32} {n : Nat} (hn : n < 2147483648) (hh : hi = nI n) (h : wn v 0 hi = 0) (k : Nat) (hk : k ≤ n) : ¬ v = nI k := by
  intro e
  have h1 : wn v 0 hi = 1 := wn_1 ⟨by rw [e]; exact q_ge0 (by omega), by rw [e, hh]; exact nI_le hk (by omega)⟩
  rw [h1] at h
  exact absurd h (by decide)
theorem s_wipe (c d : Mm) (h : Rel c d) : ∃ (r : Int32) (c1 d1 : Mm), X9_wipe c = some (r, c1) ∧ X10_wipe d = some (r, d1) ∧ Rel c1 d1 := by
  obtain ⟨⟨n, hn, e1, e2, e3⟩, nb, h1, h2, h3, h4, h5⟩ := h
  unfold X9_wipe X10_wipe X8_empty
  rw [q_bnd, q_bnd, q_cal, q_bnd, q_bnd]
  refine fin_ rfl rfl (e1.trans e2.symm) ⟨⟨0, by omega, ?_, ?_, fun j hj => absurd hj (by omega)⟩, nb, h1.fr ?_ ?_, h2.fr ?_ ?_ ?_, h3.fr ?_ ?_ ?_ ?_ ?_ ?_ ?_, h4.fr ?_ ?_ ?_ ?_ ?_ ?_, h5.fr ?_ ?_ ?_ ?_ ?_⟩
  · simp [q_st]; rfl
  · simp [q_st]; rfl
  · intro a ha; rw [q_str]; (rintro rfl; revert ha; decide)
  · intro a ha; rw [q_str]; (rintro rfl; revert ha; decide)
  all_goals first | (funext i; simp [q_st, m_pL, m_pD]) | simp [q_st]
theorem s_count (v1 : Int32) (c d : Mm) (h : Rel c d) : ∃ (r : Int32) (c1 d1 : Mm), X9_count v1 c = some (r, c1) ∧ X10_count v1 d = some (r, d1) ∧ Rel c1 d1 := by
  obtain ⟨⟨n, hn, e1, e2, e3⟩, nb, ⟨⟨b1, b2, b3, b4⟩, ⟨nn, n1, n2, n3, n4⟩, b5⟩, h2, ⟨u, u1, u2, u3, u4⟩, ⟨s, s1, s2, s3, s4⟩, ⟨k, k1, k2, k3, k4⟩⟩ := id h
  unfold X9_count X10_count
  by_cases h0 : v1 = 0
  · rw [if_pos h0, if_pos h0]; exact fin_ rfl rfl (b3.trans b4.symm) h
  rw [if_neg h0, if_neg h0]
  by_cases h0 : v1 = 1
  · rw [if_pos h0, if_pos h0]; exact fin_ rfl rfl (n2.trans n3.symm) h
  rw [if_neg h0, if_neg h0]
  by_cases h0 : v1 = 2
  · rw [if_pos h0, if_pos h0]; exact fin_ rfl rfl (s2.trans s3.symm) h
  rw [if_neg h0, if_neg h0]
  by_cases h0 : v1 = 3
  · rw [if_pos h0, if_pos h0]; exact fin_ rfl rfl (u2.trans u3.symm) h
  rw [if_neg h0, if_neg h0]
  by_cases h0 : v1 = 4
  · rw [if_pos h0, if_pos h0]; exact fin_ rfl rfl (k2.trans k3.symm) h
  rw [if_neg h0, if_neg h0]
  by_cases h0 : v1 = 5
  · rw [if_pos h0, if_pos h0]; exact fin_ rfl rfl (e1.trans e2.symm) h
  rw [if_neg h0, if_neg h0]
  exact fin_ rfl rfl rfl h
theorem s_boat (v1 v2 : Int32) (c d : Mm) (h : Rel c d) : ∃ (r : Int32) (c1 d1 : Mm), X9_boat v1 v2 c = some (r, c1) ∧ X10_boat v1 v2 d = some (r, d1) ∧ Rel c1 d1 := by
  obtain ⟨ht, nb, ⟨⟨b1, b2, b3, b4⟩, hn, l2, l3, l4, l5, hb⟩, h2, hu, hs, hk⟩ := id h
  unfold X9_boat X10_boat
  rw [q_isBoat b3 b1, q_cal, q_isBoatM b4 b1, q_cal]
  rcases q_boat b1 b2 v1 with h0 | ⟨h0, i, hi, rfl⟩
  · rw [if_pos h0, if_pos h0]; exact fin_ rfl rfl rfl h
  · rw [h0, if_neg ne10, if_neg ne10, q_inN v2 0 5 (by omega) (by omega), q_cal]
    obtain ⟨⟨x1, -⟩, ⟨x2, -⟩, ⟨x3, -⟩, x4, -⟩ := hb i hi
    obtain ⟨⟨y1, -⟩, y2, -⟩ := h2 i hi
    have y1 : c 28 i = d 12 i := y1
    have y2 : c 29 i = d 12 (6 + i) := y2
    rcases q_small (hi := 5) (n := 5) rfl v2 with h0 | ⟨h0, k, hk5, rfl⟩
    · rw [if_pos h0]
      have hne : ∀ k, k ≤ 5 → ¬ v2 = nI k := wn_not (by omega) rfl h0
      rw [if_neg (show ¬ v2 = 0 from hne 0 (by omega)), if_neg (show ¬ v2 = 1 from hne 1 (by omega)), if_neg (show ¬ v2 = 2 from hne 2 (by omega)), if_neg (show ¬ v2 = 3 from hne 3 (by omega)), if_neg (show ¬ v2 = 4 from hne 4 (by omega)), if_neg (show ¬ v2 = 5 from hne 5 (by omega))]
      exact fin_ rfl rfl rfl h
    · rw [h0, if_neg ne10]
      simp only [q_6, q_gi (show i < 6 by omega) (show 6 < 2147483648 by omega), q_gi (show i < 12 by omega) (show 12 < 2147483648 by omega), q_gi (show 6 + i < 12 by omega) (show 12 < 2147483648 by omega), q_ix (show i < 2147483648 by omega), q_ix (show 6 + i < 2147483648 by omega)]
      match k, hk5 with
      | 0, _ => exact fin_ rfl rfl x1 h
      | 1, _ => exact fin_ rfl rfl x2 h
      | 2, _ => exact fin_ rfl rfl x3 h
      | 3, _ => exact fin_ rfl rfl y1 h
      | 4, _ => exact fin_ rfl rfl x4 h
      | 5, _ => exact fin_ rfl rfl y2 h
      | k + 6, hk5 => exact absurd hk5 (by omega)
theorem s_forget (c d : Mm) (h : Rel c d) : ∃ (r : Int32) (c1 d1 : Mm), X9_forget c = some (r, c1) ∧ X10_forget d = some (r, d1) ∧ Rel c1 d1 := by
  obtain ⟨ht, nb, h1, h2, h3, ⟨n, hn, e1, e2, e3⟩, h5⟩ := h
  unfold X9_forget X10_forget X6_empty
  rw [q_bnd, q_bnd, q_cal, q_bnd, q_bnd]
  refine fin_ rfl rfl (e1.trans e2.symm) ⟨ht.fr ?_ ?_ ?_ ?_, nb, h1.fr ?_ ?_, h2.fr ?_ ?_ ?_, h3.fr ?_ ?_ ?_ ?_ ?_ ?_ ?_, ⟨0, by omega, ?_, ?_, fun j hj => absurd hj (by omega)⟩, h5.fr ?_ ?_ ?_ ?_ ?_⟩
  rotate_left 4
  · intro a ha; rw [q_str]; (rintro rfl; revert ha; decide)
  · intro a ha; rw [q_str]; (rintro rfl; revert ha; decide)
  all_goals first | (funext i; simp [q_st, m_pL, m_pD]; done) | (simp [q_st]; done) | (simp [q_st]; rfl)
theorem s_seen (v1 v2 : Int32) (c d : Mm) (h : Rel c d) : ∃ (r : Int32) (c1 d1 : Mm), X9_seen v1 v2 c = some (r, c1) ∧ X10_seen v1 v2 d = some (r, d1) ∧ Rel c1 d1 := by
  obtain ⟨ht, nb, h1, h2, h3, ⟨n, hn, e1, e2, e3⟩, h5⟩ := id h
  obtain ⟨⟨b1, b2, b3, b4⟩, -, -, -, -, -, hb⟩ := id h1
  unfold X9_seen X10_seen X6_add
  rw [q_two b3 b1, q_cal, q_twoM b4 b1, q_cal]
  rcases two_cases b1 b2 v1 v2 with h0 | ⟨h0, i, j, hi, hj, hij, rfl, rfl⟩
  · rw [if_pos h0, if_pos h0]; exact fin_ rfl rfl rfl h
  · rw [h0, if_neg ne10, if_neg ne10]
    simp only [q_gi (show i < 6 by omega) (show 6 < 2147483648 by omega), q_gi (show j < 6 by omega) (show 6 < 2147483648 by omega), q_gi (show i < 12 by omega) (show 12 < 2147483648 by omega), q_gi (show j < 12 by omega) (show 12 < 2147483648 by omega), q_ix (show i < 2147483648 by omega), q_ix (show j < 2147483648 by omega), (hb i hi).2.1.1, (hb j hj).2.1.1]
    by_cases hw : d 4 i = d 4 j
    · rw [if_pos hw, if_pos hw]; exact fin_ rfl rfl rfl h
    · rw [if_neg hw, if_neg hw, e1, e2]
      by_cases hf : n = 8
      · subst hf
        rw [if_neg (by decide), q_cal, if_pos rfl, if_pos (show nI 8 = (8 : Int32) from rfl)]
        exact fin_ rfl rfl rfl h
      · have hlt : nI n < (8 : Int32) := (q_ltX n 8 rfl rfl (by omega) (by omega)).mpr (by omega)
        have hne : ¬ nI n = (8 : Int32) := fun e => hf ((q_eqX n 8 rfl rfl (by omega) (by omega)).mp e)
        have c1 : m_st c 46 (m_ix (nI n)) (nI i) 10 2 = nI n := by rw [q_str (by decide)]; exact e1
        have d1 : m_st d 15 (m_ix (nI n)) (nI i) 0 17 = nI n := by rw [q_str (by decide)]; exact e2
        rw [if_pos hlt, if_neg hne, q_gi (by omega) (by omega), q_bnd, c1, q_gi (by omega) (by omega), q_bnd, q_bnd, q_cal, if_neg ne10, q_gi (by omega) (by omega), q_bnd, d1, q_gi (by omega) (by omega), q_bnd, q_bnd]
        simp only [q_ix (show n < 2147483648 by omega)]
        have hs : sRel nb (m_st (m_st (m_st c 46 n (nI i)) 47 n (nI j)) 10 2 (m_st (m_st c 46 n (nI i)) 47 n (nI j) 10 2 + 1)) (m_st (m_st (m_st d 15 n (nI i)) 16 n (nI j)) 0 17 (m_st (m_st d 15 n (nI i)) 16 n (nI j) 0 17 + 1)) := by
          refine ⟨n + 1, by omega, by simp [q_st, e1, q_1], by simp [q_st, e2, q_1], ?_⟩
          intro k hk
          by_cases hkn : k = n
          · subst hkn
            simp only [q_st]
            exact ⟨rfl, rfl, ⟨i, hi, rfl⟩, j, hj, rfl⟩
          · obtain ⟨g1, g2, g3, g4⟩ := e3 k (by omega)
            simp [q_st, hkn]
            exact ⟨g1, g2, g3, g4⟩
        refine fin_ rfl rfl ?_ ⟨ht.fr ?_ ?_ ?_ ?_, nb, h1.fr (fun a ha => by rw [q_str, q_str, q_str] <;> (rintro rfl; revert ha; decide)) (fun a ha => by rw [q_str, q_str, q_str] <;> (rintro rfl; revert ha; decide)), h2.fr ?_ ?_ ?_, h3.fr ?_ ?_ ?_ ?_ ?_ ?_ ?_, hs, h5.fr ?_ ?_ ?_ ?_ ?_⟩
        all_goals first | (funext i; simp [q_st, m_pL, m_pD]; done) | (simp [q_st, e1, e2, q_1]; done)
