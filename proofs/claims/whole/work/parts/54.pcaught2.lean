def pc (M : Nat) : Nat → Nat
  | 0 => 0
  | j + 1 => pc M j + M / 2 ^ j % 2
def pp (x M : Nat) : Nat → Nat
  | 0 => 1
  | j + 1 => pp x M j * (if M / 2 ^ j % 2 = 1 then x else 10 - x)
def ob (F N x : Nat) : Nat → Nat
  | 0 => 0
  | n + 1 => ob F N x n + (if N ≤ pc n F then 0 else pp x n F)
set_option maxRecDepth 100000 in
theorem cw_all : ∀ F, F < 7 → ∀ N, N < 11 → ∀ x, x < 11 → (ws F x (min N (F + 1)) = ob F N x (2 ^ F) ∧ ws F x (min N (F + 1)) ≤ 1000000) := by decide +kernel
theorem q_bit {M j : Nat} (hM : M < 64) (hj : j < 6) : (nI M >>> (nI j &&& (31 : Int32))) &&& (1 : Int32) = nI (M / 2 ^ j % 2) := by
  have hs : ∀ j, j < 6 → ((nI (j % 2 ^ 5)).toBitVec.smod 32).toNat = j := by decide
  rw [pk_andN (by omega) 5 (by decide), pk_shrN (by omega) _ j (hs j hj), pk_andN (Nat.lt_of_le_of_lt (Nat.div_le_self _ _) (by omega)) 1 (by decide)]
theorem q_shl {F : Nat} (hF : F < 7) : (1 : Int32) <<< (nI F &&& (31 : Int32)) = nI (2 ^ F) := by
  have hs : ∀ F, F < 7 → (1 : Int32) <<< (nI F &&& (31 : Int32)) = nI (2 ^ F) := by decide
  exact hs F hF
theorem q_mask {F x M : Nat} {d : Mm} {rc54 : Int32 → Int32 → Mm → Option (Int32 × Mm)} {v1 v4 v5 v6 : Int32} (hF : F ≤ 6) (hx : x ≤ 10) (hM : M < 64) : m_lp3 (X10_caught_b71 rc54 v1 (nI F) (nI x) v4 v5 v6 (nI M)) 1000 (0 : Int32) (1 : Int32) (0 : Int32) d = X10_caught_j119 rc54 v1 (nI F) (nI x) v4 v5 v6 (nI M) (nI (pc M F)) (nI (pp x M F)) d := by
  have key : ∀ n j fuel, j + n = F → n < fuel → m_lp3 (X10_caught_b71 rc54 v1 (nI F) (nI x) v4 v5 v6 (nI M)) fuel (nI (pc M j)) (nI (pp x M j)) (nI j) d = X10_caught_j119 rc54 v1 (nI F) (nI x) v4 v5 v6 (nI M) (nI (pc M F)) (nI (pp x M F)) d := by
    intro n
    induction n with
    | zero =>
      intro j fuel h1 h2
      obtain ⟨f, rfl⟩ : ∃ f, fuel = f + 1 := ⟨fuel - 1, by omega⟩
      have : j = F := by omega
      subst this
      have gen : ∀ rc, X10_caught_b71 rc54 v1 (nI j) (nI x) v4 v5 v6 (nI M) rc (nI (pc M j)) (nI (pp x M j)) (nI j) d = X10_caught_j119 rc54 v1 (nI j) (nI x) v4 v5 v6 (nI M) (nI (pc M j)) (nI (pp x M j)) d := by
        intro rc
        unfold X10_caught_b71
        rw [if_pos (q_les (by omega))]
      exact gen _
    | succ n ih =>
      intro j fuel h1 h2
      obtain ⟨f, rfl⟩ : ∃ f, fuel = f + 1 := ⟨fuel - 1, by omega⟩
      have hb : M / 2 ^ j % 2 < 2 := Nat.mod_lt _ (by omega)
      have gen : ∀ rc, X10_caught_b71 rc54 v1 (nI F) (nI x) v4 v5 v6 (nI M) rc (nI (pc M j)) (nI (pp x M j)) (nI j) d = rc (nI (pc M j + M / 2 ^ j % 2)) (nI (pp x M j * (if M / 2 ^ j % 2 = 1 then x else 10 - x))) (nI (j + 1)) d := by
        intro rc
        unfold X10_caught_b71 X10_caught_j110
        rw [if_neg (q_lez (by omega) (by omega)), q_bit hM (by omega), nI_add, q_bnd, q_bnd, q_bnd, q_bnd, q_bnd, q_1, show (10 : Int32) = nI 10 from rfl, pk_sub hx, pk_mul, pk_mul]
        by_cases h : M / 2 ^ j % 2 = 1
        · rw [if_pos (show nI (M / 2 ^ j % 2) = (1 : Int32) from (q_eqX _ 1 rfl rfl (by omega) (by omega)).mpr h), if_pos h]
        · rw [if_neg (show ¬ nI (M / 2 ^ j % 2) = (1 : Int32) from fun h' => h ((q_eqX _ 1 rfl rfl (by omega) (by omega)).mp h')), if_neg h]
      refine (gen _).trans ?_
      have h3 := ih (j + 1) f (by omega) (by omega)
      rw [show pc M (j + 1) = pc M j + M / 2 ^ j % 2 from rfl, show pp x M (j + 1) = pp x M j * (if M / 2 ^ j % 2 = 1 then x else 10 - x) from rfl] at h3
      exact h3
  exact key F 0 1000 (by omega) (by omega)
theorem q_all {F x N i : Nat} {d : Mm} {v4 : Int32} (hF : F ≤ 6) (hx : x ≤ 10) (hN : N ≤ 10) (hs : X10_sinksIn (nI i) d = some (nI N, d)) : m_lp2 (X10_caught_b54 (nI i) (nI F) (nI x) v4 (1 : Int32)) 1000 (0 : Int32) (0 : Int32) d = X10_caught_j146 (nI F) v4 (nI (ob F N x (2 ^ F))) (1 : Int32) d := by
  have h64 : 2 ^ F ≤ 2 ^ 6 := Nat.pow_le_pow_right (by omega) hF
  have key : ∀ n M fuel, M + n = 2 ^ F → n < fuel → m_lp2 (X10_caught_b54 (nI i) (nI F) (nI x) v4 (1 : Int32)) fuel (nI (ob F N x M)) (nI M) d = X10_caught_j146 (nI F) v4 (nI (ob F N x (2 ^ F))) (1 : Int32) d := by
    intro n
    induction n with
    | zero =>
      intro M fuel h1 h2
      obtain ⟨f, rfl⟩ : ∃ f, fuel = f + 1 := ⟨fuel - 1, by omega⟩
      have hM : M = 2 ^ F := by omega
      have gen : ∀ rc, X10_caught_b54 (nI i) (nI F) (nI x) v4 (1 : Int32) rc (nI (ob F N x M)) (nI M) d = X10_caught_j146 (nI F) v4 (nI (ob F N x (2 ^ F))) (1 : Int32) d := by
        intro rc
        unfold X10_caught_b54
        rw [q_shl (by omega), if_pos (by rw [hM]; exact q_les (by omega)), hM]
      exact gen _
    | succ n ih =>
      intro M fuel h1 h2
      obtain ⟨f, rfl⟩ : ∃ f, fuel = f + 1 := ⟨fuel - 1, by omega⟩
      have hpc : ∀ j, pc M j ≤ j := by
        intro j
        induction j with
        | zero => exact Nat.le_refl 0
        | succ j ih2 =>
          show pc M j + M / 2 ^ j % 2 ≤ j + 1
          have : M / 2 ^ j % 2 < 2 := Nat.mod_lt _ (by omega)
          omega
      have := hpc F
      have gen : ∀ rc, X10_caught_b54 (nI i) (nI F) (nI x) v4 (1 : Int32) rc (nI (ob F N x M)) (nI M) d = rc (nI (ob F N x M + (if N ≤ pc M F then 0 else pp x M F))) (nI (M + 1)) d := by
        intro rc
        unfold X10_caught_b54
        rw [q_shl (by omega), if_neg (q_lez (by omega) (by omega)), q_mask hF hx (by omega)]
        unfold X10_caught_j119 X10_caught_j137
        rw [hs, q_cal, q_bnd, q_bnd, q_bnd, q_bnd, q_1]
        by_cases h : N ≤ pc M F
        · rw [if_pos ((q_leX N (pc M F) rfl rfl (by omega) (by omega)).mpr h), if_pos h, show (0 : Int32) = nI 0 from rfl, nI_add]
        · rw [if_neg (fun h' => h ((q_leX N (pc M F) rfl rfl (by omega) (by omega)).mp h')), if_neg h, nI_add]
      refine (gen _).trans ?_
      have h3 := ih (M + 1) f (by omega) (by omega)
      rw [show ob F N x (M + 1) = ob F N x M + (if N ≤ pc M F then 0 else pp x M F) from rfl] at h3
      exact h3
  exact key (2 ^ F) 0 1000 (by omega) (by omega)
theorem q_tens {F : Nat} {d : Mm} {v4 v5 : Int32} (hF : F ≤ 6) : X10_caught_j146 (nI F) v4 v5 (1 : Int32) d = X10_caught_j168 v4 v5 (nI (10 ^ F)) d := by
  have key : ∀ n j fuel, j + n = F → n < fuel → m_lp2 (X10_caught_b149 (nI F) v4 v5) fuel (nI (10 ^ j)) (nI j) d = X10_caught_j168 v4 v5 (nI (10 ^ F)) d := by
    intro n
    induction n with
    | zero =>
      intro j fuel h1 h2
      obtain ⟨f, rfl⟩ : ∃ f, fuel = f + 1 := ⟨fuel - 1, by omega⟩
      have : j = F := by omega
      subst this
      have gen : ∀ rc, X10_caught_b149 (nI j) v4 v5 rc (nI (10 ^ j)) (nI j) d = X10_caught_j168 v4 v5 (nI (10 ^ j)) d := by
        intro rc
        unfold X10_caught_b149
        rw [if_pos (q_les (by omega))]
      exact gen _
    | succ n ih =>
      intro j fuel h1 h2
      obtain ⟨f, rfl⟩ : ∃ f, fuel = f + 1 := ⟨fuel - 1, by omega⟩
      have gen : ∀ rc, X10_caught_b149 (nI F) v4 v5 rc (nI (10 ^ j)) (nI j) d = rc (nI (10 ^ (j + 1))) (nI (j + 1)) d := by
        intro rc
        unfold X10_caught_b149
        rw [if_neg (q_lez (by omega) (by omega)), q_bnd, q_bnd, q_1, show (10 : Int32) = nI 10 from rfl, pk_mul, ← Nat.pow_succ]
      exact (gen _).trans (ih (j + 1) f (by omega) (by omega))
  exact key F 0 1000 (by omega) (by omega)
theorem s_caught (v1 v2 v3 v4 : Int32) (c d : Mm) (h : Rel c d) : ∃ (r : Int32) (c1 d1 : Mm), X9_caught v1 v2 v3 v4 c = some (r, c1) ∧ X10_caught v1 v2 v3 v4 d = some (r, d1) ∧ Rel c1 d1 := by
  obtain ⟨ht, nb, h1, h2, h3, h4, h5⟩ := id h
  obtain ⟨⟨b1, b2, b3, b4⟩, -⟩ := id h1
  unfold X9_caught X10_caught
  rw [q_isBoat b3 b1, q_cal, q_isBoatM b4 b1, q_cal]
  rcases q_boat b1 b2 v1 with h0 | ⟨h0, i, hi, rfl⟩
  · rw [if_pos h0, if_pos h0]; exact fin_ rfl rfl rfl h
  rw [h0, if_neg ne10, if_neg ne10, q_isW, q_cal, q_inN v2 0 6 (by omega) (by omega), q_cal]
  rcases q_small (hi := 6) (n := 6) rfl v2 with h0 | ⟨h0, F, hF, rfl⟩
  · rw [if_pos h0, if_pos h0]; exact fin_ rfl rfl rfl h
  rw [h0, if_neg ne10, if_neg ne10, q_isW, q_cal, q_inN v3 0 10 (by omega) (by omega), q_cal]
  rcases q_small (hi := 10) (n := 10) rfl v3 with h0 | ⟨h0, x, hx, rfl⟩
  · rw [if_pos h0, if_pos h0]; exact fin_ rfl rfl rfl h
  rw [h0, if_neg ne10, if_neg ne10, q_isW, q_cal, q_inN v4 0 1 (by omega) (by omega), q_cal]
  rcases q_small (hi := 1) (n := 1) rfl v4 with h0 | ⟨h0, t, ht1, rfl⟩
  · rw [if_pos h0, if_pos h0]; exact fin_ rfl rfl rfl h
  obtain ⟨N, n1, n2, n3, n4⟩ := sink_both h1 h2 hi
  obtain ⟨w1, w2⟩ := cw_all F (by omega) N (by omega) x (by omega)
  have hP : 10 ^ F ≤ 10 ^ 6 := Nat.pow_le_pow_right (by omega) hF
  have hP0 : 0 < 10 ^ F := Nat.pow_pos (by omega)
  have hg : 0 < Nat.gcd (ws F x (min N (F + 1))) (10 ^ F) := Nat.gcd_pos_of_pos_right _ hP0
  have hg2 : Nat.gcd (ws F x (min N (F + 1))) (10 ^ F) ≤ 10 ^ F := Nat.gcd_le_right _ hP0
  rw [h0, if_neg ne10, if_neg ne10, n3, q_cal, q_ways n2 hF hx, q_cal, show (10 : Int32) = nI 10 from rfl, q_pow (by omega), q_cal, q_cd w2 (by omega), q_cal, q_all hF hx n2 n4, q_tens hF, ← w1]
  unfold X9_caught_j81 X10_caught_j168 X10_common
  rw [q_gcdM 20 _ _ 1000 (by omega) (by omega) (by omega) (by omega), q_cal, if_neg (show ¬ nI (Nat.gcd (ws F x (min N (F + 1))) (10 ^ F)) < (1 : Int32) from fun h' => absurd ((q_ltX _ 1 rfl rfl (by omega) (by omega)).mp h') (by omega)), q_gz hg (by omega), q_gz hg (by omega), q_gz hg (by omega), q_gz hg (by omega)]
  by_cases ht0 : nI t = 0
  · rw [if_pos ht0, if_pos ht0]; exact fin_ rfl rfl rfl h
  · rw [if_neg ht0, if_neg ht0]; exact fin_ rfl rfl rfl h
