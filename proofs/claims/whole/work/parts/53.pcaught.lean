/-! chances -/
theorem q_pow {b e : Nat} {c : Mm} (he : e < 900) : X9_power (nI b) (nI e) c = some (nI (b ^ e), c) := by
  have key : ∀ n i fuel, i + n = e → n < fuel → m_lp2 (X9_power_b4 (nI b) (nI e)) fuel (nI (b ^ i)) (nI i) c = some (nI (b ^ e), c) := by
    intro n
    induction n with
    | zero =>
      intro i fuel h1 h2
      obtain ⟨f, rfl⟩ : ∃ f, fuel = f + 1 := ⟨fuel - 1, by omega⟩
      have : i = e := by omega
      subst this
      show X9_power_b4 (nI b) (nI i) _ _ (nI i) c = _
      unfold X9_power_b4
      rw [if_pos (q_les (by omega))]
    | succ n ih =>
      intro i fuel h1 h2
      obtain ⟨f, rfl⟩ : ∃ f, fuel = f + 1 := ⟨fuel - 1, by omega⟩
      show X9_power_b4 (nI b) (nI e) _ _ (nI i) c = _
      unfold X9_power_b4
      rw [if_neg (q_lez (by omega) (by omega)), q_bnd, q_bnd, pk_mul, q_1, ← Nat.pow_succ]
      exact ih (i + 1) f (by omega) (by omega)
  exact key e 0 1000 (by omega) (by omega)
def bi (F : Nat) : Nat → Nat
  | 0 => 1
  | k + 1 => bi F k * (F - k) / (k + 1)
def ws (F x : Nat) : Nat → Nat
  | 0 => 0
  | k + 1 => ws F x k + bi F k * x ^ k * (10 - x) ^ (F - k)
theorem bi_le {F : Nat} (hF : F ≤ 6) (k : Nat) : bi F k ≤ 7 ^ k := by
  induction k with
  | zero => exact Nat.le_refl 1
  | succ k ih =>
    show bi F k * (F - k) / (k + 1) ≤ 7 ^ (k + 1)
    refine Nat.le_trans (Nat.div_le_self _ _) ?_
    rw [Nat.pow_succ]
    exact Nat.mul_le_mul ih (by omega)
theorem q_ways {N F x : Nat} {c : Mm} (hN : N ≤ 10) (hF : F ≤ 6) (hx : x ≤ 10) : X9_waysToSinkLess (nI N) (nI F) (nI x) c = some (nI (ws F x (min N (F + 1))), c) := by
  have key : ∀ n k fuel, k + n = min N (F + 1) → n < fuel → m_lp3 (X9_waysToSinkLess_b8 (nI N) (nI F) (nI x)) fuel (nI (ws F x k)) (nI (bi F k)) (nI k) c = some (nI (ws F x (min N (F + 1))), c) := by
    intro n
    induction n with
    | zero =>
      intro k fuel h1 h2
      obtain ⟨f, rfl⟩ : ∃ f, fuel = f + 1 := ⟨fuel - 1, by omega⟩
      have hk : k = min N (F + 1) := by omega
      show X9_waysToSinkLess_b8 (nI N) (nI F) (nI x) _ _ _ (nI k) c = _
      unfold X9_waysToSinkLess_b8
      rw [← hk]
      by_cases h3 : F < k
      · rw [if_pos ((q_ltX F k rfl rfl (by omega) (by omega)).mpr h3)]
      · rw [if_neg (fun h => h3 ((q_ltX F k rfl rfl (by omega) (by omega)).mp h)), if_pos ((q_leX N k rfl rfl (by omega) (by omega)).mpr (by omega))]
    | succ n ih =>
      intro k fuel h1 h2
      obtain ⟨f, rfl⟩ : ∃ f, fuel = f + 1 := ⟨fuel - 1, by omega⟩
      have hkF : k ≤ F := by omega
      have hkN : k < N := by omega
      have hb : bi F k * (F - k) ≤ 7 ^ 6 * 6 := Nat.mul_le_mul (Nat.le_trans (bi_le hF k) (Nat.pow_le_pow_right (by omega) (by omega))) (by omega)
      have gen : ∀ rc, X9_waysToSinkLess_b8 (nI N) (nI F) (nI x) rc (nI (ws F x k)) (nI (bi F k)) (nI k) c = rc (nI (ws F x k + bi F k * x ^ k * (10 - x) ^ (F - k))) (nI (bi F k * (F - k) / (k + 1))) (nI (k + 1)) c := by
        intro rc
        unfold X9_waysToSinkLess_b8
        rw [if_neg (fun h => absurd ((q_ltX F k rfl rfl (by omega) (by omega)).mp h) (by omega)), if_neg (q_lez hkN (by omega)), q_pow (by omega), q_cal, show (10 : Int32) = nI 10 from rfl, pk_sub hx, pk_sub hkF, q_pow (by omega), q_cal, pk_mul, pk_mul, nI_add, q_bnd, q_1, q_gz (by omega) (by omega), pk_mul, pk_div (by omega) (by omega) (by omega), q_bnd, q_bnd]
      refine (gen _).trans ?_
      have h3 := ih (k + 1) f (by omega) (by omega)
      rw [show ws F x (k + 1) = ws F x k + bi F k * x ^ k * (10 - x) ^ (F - k) from rfl, show bi F (k + 1) = bi F k * (F - k) / (k + 1) from rfl] at h3
      exact h3
  exact key (min N (F + 1)) 0 1000 (by omega) (by omega)
/-! Euclid -/
theorem eu_half {b r : Nat} (h0 : 0 < r) (h : r < b) : 2 * (b % r) < b := by
  have h1 := Nat.mod_lt b h0
  by_cases h2 : 2 * r ≤ b
  · omega
  · rw [Nat.mod_eq_sub_mod (by omega), Nat.mod_eq_of_lt (by omega)]; omega
theorem q_gcdM {d : Mm} : ∀ (k a b fuel : Nat), b < 2 ^ k → k ≤ 20 → a < 2147483648 → 2 * k < fuel → m_lp2 X10_common_b4 fuel (nI a) (nI b) d = some (nI (Nat.gcd a b), d) := by
  have z : ∀ a fuel, 0 < fuel → m_lp2 X10_common_b4 fuel (nI a) (nI 0) d = some (nI (Nat.gcd a 0), d) := by
    intro a fuel hf
    obtain ⟨f, rfl⟩ : ∃ f, fuel = f + 1 := ⟨fuel - 1, by omega⟩
    show X10_common_b4 _ (nI a) (nI 0) d = _
    unfold X10_common_b4
    rw [if_pos (show nI 0 = (0 : Int32) from rfl), Nat.gcd_zero_right]
  have s : ∀ a b fuel, 0 < b → b < 2147483648 → a < 2147483648 → m_lp2 X10_common_b4 (fuel + 1) (nI a) (nI b) d = m_lp2 X10_common_b4 fuel (nI b) (nI (a % b)) d := by
    intro a b fuel h0 hb ha
    have gen : ∀ rc, X10_common_b4 rc (nI a) (nI b) d = rc (nI b) (nI (a % b)) d := by
      intro rc
      unfold X10_common_b4
      rw [if_neg (nI_ne0 h0 (by omega)), q_gz h0 hb, q_bnd, pk_rem (by omega) h0 (by omega)]
    exact gen _
  intro k
  induction k with
  | zero =>
    intro a b fuel hb hk ha hf
    have : b = 0 := by omega
    subst this
    exact z a fuel hf
  | succ k ih =>
    intro a b fuel hb hk ha hf
    have hp : 2 ^ (k + 1) ≤ 2 ^ 20 := Nat.pow_le_pow_right (by omega) hk
    by_cases h0 : b = 0
    · subst h0; exact z a fuel (by omega)
    · obtain ⟨f, rfl⟩ : ∃ f, fuel = f + 1 := ⟨fuel - 1, by omega⟩
      have hm := Nat.mod_lt a (show b > 0 by omega)
      have g1 : Nat.gcd a b = Nat.gcd b (a % b) := by rw [Nat.gcd_comm a b, Nat.gcd_rec b a, Nat.gcd_comm]
      rw [s a b f (by omega) (by omega) ha, g1]
      by_cases h1 : a % b = 0
      · rw [h1]; exact z b f (by omega)
      · obtain ⟨f', rfl⟩ : ∃ f', f = f' + 1 := ⟨f - 1, by omega⟩
        have hh := eu_half (b := b) (r := a % b) (by omega) hm
        have g2 : Nat.gcd b (a % b) = Nat.gcd (a % b) (b % (a % b)) := by rw [Nat.gcd_comm b (a % b), Nat.gcd_rec (a % b) b, Nat.gcd_comm]
        rw [s b (a % b) f' (by omega) (by omega) (by omega), g2]
        exact ih (a % b) (b % (a % b)) f' (by rw [Nat.pow_succ] at hb; omega) (by omega) (by omega) (by omega)
theorem q_gcdC {c : Mm} : ∀ (k a b i fuel : Nat), b < 2 ^ k → k ≤ 20 → a < 2147483648 → 2 * k < fuel → i + 2 * k < 64 → m_lp3 X9_commonDivisor_b15 fuel (nI a) (nI b) (nI i) c = some (nI (Nat.gcd a b), c) := by
  have z : ∀ a i fuel, 0 < fuel → i < 64 → m_lp3 X9_commonDivisor_b15 fuel (nI a) (nI 0) (nI i) c = some (nI (Nat.gcd a 0), c) := by
    intro a i fuel hf hi
    obtain ⟨f, rfl⟩ : ∃ f, fuel = f + 1 := ⟨fuel - 1, by omega⟩
    show X9_commonDivisor_b15 _ (nI a) (nI 0) (nI i) c = _
    unfold X9_commonDivisor_b15
    rw [if_neg (show ¬ (64 : Int32) ≤ nI i from q_lez (n := 64) hi (by omega)), if_pos (show nI 0 ≤ (0 : Int32) by decide), Nat.gcd_zero_right]
  have s : ∀ a b i fuel, 0 < b → b < 2147483648 → a < 2147483648 → i < 64 → m_lp3 X9_commonDivisor_b15 (fuel + 1) (nI a) (nI b) (nI i) c = m_lp3 X9_commonDivisor_b15 fuel (nI b) (nI (a % b)) (nI (i + 1)) c := by
    intro a b i fuel h0 hb ha hi
    have gen : ∀ rc, X9_commonDivisor_b15 rc (nI a) (nI b) (nI i) c = rc (nI b) (nI (a % b)) (nI (i + 1)) c := by
      intro rc
      unfold X9_commonDivisor_b15
      rw [if_neg (show ¬ (64 : Int32) ≤ nI i from q_lez (n := 64) hi (by omega)), if_neg (nI_nle h0 (by omega)), q_gz h0 hb, q_bnd, q_bnd, pk_rem (by omega) h0 (by omega), q_1]
    exact gen _
  intro k
  induction k with
  | zero =>
    intro a b i fuel hb hk ha hf hi
    have : b = 0 := by omega
    subst this
    exact z a i fuel hf (by omega)
  | succ k ih =>
    intro a b i fuel hb hk ha hf hi
    have hp : 2 ^ (k + 1) ≤ 2 ^ 20 := Nat.pow_le_pow_right (by omega) hk
    by_cases h0 : b = 0
    · subst h0; exact z a i fuel (by omega) (by omega)
    · obtain ⟨f, rfl⟩ : ∃ f, fuel = f + 1 := ⟨fuel - 1, by omega⟩
      have hm := Nat.mod_lt a (show b > 0 by omega)
      have g1 : Nat.gcd a b = Nat.gcd b (a % b) := by rw [Nat.gcd_comm a b, Nat.gcd_rec b a, Nat.gcd_comm]
      rw [s a b i f (by omega) (by omega) ha (by omega), g1]
      by_cases h1 : a % b = 0
      · rw [h1]; exact z b (i + 1) f (by omega) (by omega)
      · obtain ⟨f', rfl⟩ : ∃ f', f = f' + 1 := ⟨f - 1, by omega⟩
        have hh := eu_half (b := b) (r := a % b) (by omega) hm
        have g2 : Nat.gcd b (a % b) = Nat.gcd (a % b) (b % (a % b)) := by rw [Nat.gcd_comm b (a % b), Nat.gcd_rec (a % b) b, Nat.gcd_comm]
        rw [s b (a % b) (i + 1) f' (by omega) (by omega) (by omega) (by omega), g2]
        exact ih (a % b) (b % (a % b)) (i + 1 + 1) f' (by rw [Nat.pow_succ] at hb; omega) (by omega) (by omega) (by omega) (by omega)
theorem q_cd {a b : Nat} {c : Mm} (ha : a ≤ 1000000) (hb : b ≤ 1000000) : X9_commonDivisor (nI a) (nI b) c = some (nI (Nat.gcd a b), c) := by
  unfold X9_commonDivisor
  rw [q_bnd, q_bnd]
  by_cases h : a < b
  · rw [if_pos ((q_ltX a b rfl rfl (by omega) (by omega)).mpr h), if_neg (fun h' => absurd ((q_ltX b a rfl rfl (by omega) (by omega)).mp h') (by omega)), Nat.gcd_comm]
    exact q_gcdC 20 b a 0 1000 (by omega) (by omega) (by omega) (by omega) (by omega)
  · rw [if_neg (fun h' => h ((q_ltX a b rfl rfl (by omega) (by omega)).mp h'))]
    by_cases h2 : b < a
    · rw [if_pos ((q_ltX b a rfl rfl (by omega) (by omega)).mpr h2)]
      exact q_gcdC 20 a b 0 1000 (by omega) (by omega) (by omega) (by omega) (by omega)
    · have : a = b := by omega
      subst this
      rw [if_neg (fun h' => h2 ((q_ltX a a rfl rfl (by omega) (by omega)).mp h'))]
      exact q_gcdC 20 a a 0 1000 (by omega) (by omega) (by omega) (by omega) (by omega)
