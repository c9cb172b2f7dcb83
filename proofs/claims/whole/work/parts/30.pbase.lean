/-! the pure level: words and loops -/
theorem q_lit (n : Nat) : (OfNat.ofNat n : Int32) = nI n := rfl
theorem q_wide_lt (a b : Int32) : a.toInt64 < b.toInt64 ↔ a < b := by rw [Int64.lt_iff_toInt_lt, Int32.lt_iff_toInt_lt, Int32.toInt_toInt64, Int32.toInt_toInt64]
theorem q_wide_eq (a b : Int32) : a.toInt64 = b.toInt64 ↔ a = b := by rw [← Int64.toInt_inj, ← Int32.toInt_inj, Int32.toInt_toInt64, Int32.toInt_toInt64]
theorem q_ix {n : Nat} (h : n < 2147483648) : m_ix (nI n) = n := nI_clamp (by omega)
theorem q_gi {β : Type} {n N : Nat} {k : Option β} (h : n < N) (hN : N < 2147483648) : m_gi (nI n) N k = k := by
  have h1 := nI_in h (by omega : N < 2 ^ 31)
  unfold m_gi
  rw [if_neg]
  exact h1
theorem q_cal {β : Type} {r : Int32} {c : Mm} {k : Int32 → Mm → Option β} : m_cal (some (r, c)) k = k r c := rfl
theorem q_cav {β : Type} {c : Mm} {k : Mm → Option β} : m_cav (some c) k = k c := rfl
theorem q_bnd {α β : Type} {v : α} {k : α → β} : m_bnd v k = k v := rfl
theorem q_gb0 {β : Type} {k : Option β} : m_gb (0 : Int32) k = k := rfl
theorem q_gb1 {β : Type} {k : Option β} : m_gb (1 : Int32) k = k := rfl
theorem q_st {c : Mm} {a j b i : Nat} {x : Int32} : m_st c a j x b i = if b = a then (if i = j then x else c a i) else c b i := by
  unfold m_st
  split
  · rfl
  · rfl
theorem q_str {c : Mm} {a j b : Nat} {x : Int32} (h : b ≠ a) : m_st c a j x b = c b := m_st_n h
/-- in range -/
def wn (a lo hi : Int32) : Int32 := if lo ≤ a ∧ a ≤ hi then 1 else 0
theorem q_nlt {a b : Int32} : ¬ a < b ↔ b ≤ a := by rw [Int32.lt_iff_toInt_lt, Int32.le_iff_toInt_le]; omega
theorem q_nle {a b : Int32} : ¬ a ≤ b ↔ b < a := by rw [Int32.lt_iff_toInt_lt, Int32.le_iff_toInt_le]; omega
theorem q_isW (a lo hi : Int32) (c : Mm) : X9_isWithin a lo hi c = some (wn a lo hi, c) := by
  unfold X9_isWithin wn
  by_cases h1 : a < lo
  · rw [if_pos h1, if_neg]
    intro h
    exact absurd h.1 (q_nle.mpr h1)
  · rw [if_neg h1]
    by_cases h2 : hi < a
    · rw [if_pos h2, if_neg]
      intro h
      exact absurd h.2 (q_nle.mpr h2)
    · rw [if_neg h2, if_pos ⟨q_nlt.mp h1, q_nlt.mp h2⟩]
theorem q_in0 (a lo hi : Int32) (c : Mm) : X10_in (Int32.toInt64 a) (Int32.toInt64 lo) (Int32.toInt64 hi) c = some (wn a lo hi, c) := by
  have hc : ∀ x y : Int32, (lg_cmp x.toInt64 y.toInt64 < 0 ↔ x < y) ∧ (0 < lg_cmp x.toInt64 y.toInt64 ↔ y < x) := by
    intro x y
    unfold lg_cmp
    by_cases h1 : y < x
    · rw [if_pos ((q_wide_lt y x).mpr h1)]
      refine ⟨⟨fun h => absurd h (by decide), fun h => ?_⟩, fun _ => h1, fun _ => by decide⟩
      rw [Int32.lt_iff_toInt_lt] at h h1
      omega
    · rw [if_neg (fun h => h1 ((q_wide_lt y x).mp h))]
      by_cases h2 : x = y
      · rw [if_pos ((q_wide_eq x y).mpr h2)]
        subst h2
        refine ⟨⟨fun h => absurd h (by decide), fun h => absurd h h1⟩, fun h => absurd h (by decide), fun h => absurd h h1⟩
      · rw [if_neg (fun h => h2 ((q_wide_eq x y).mp h))]
        refine ⟨⟨fun _ => ?_, fun _ => by decide⟩, fun h => absurd h (by decide), fun h => absurd h h1⟩
        rw [← Int32.toInt_inj] at h2
        rw [Int32.lt_iff_toInt_lt] at h1 ⊢
        omega
  unfold X10_in wn
  by_cases h1 : a < lo
  · rw [if_pos ((hc a lo).1.mpr h1), if_neg]
    intro h
    exact absurd h.1 (q_nle.mpr h1)
  · rw [if_neg (fun h => h1 ((hc a lo).1.mp h))]
    by_cases h2 : hi < a
    · rw [if_pos ((hc a hi).2.mpr h2), if_neg]
      intro h
      exact absurd h.2 (q_nle.mpr h2)
    · rw [if_neg (fun h => h2 ((hc a hi).2.mp h)), if_pos ⟨q_nlt.mp h1, q_nlt.mp h2⟩]
theorem q_in (a lo hi : Int32) (l h : Int64) (c : Mm) (hl : Int32.toInt64 lo = l) (hh : Int32.toInt64 hi = h) : X10_in (Int32.toInt64 a) l h c = some (wn a lo hi, c) := by rw [← hl, ← hh]; exact q_in0 a lo hi c
theorem q_inN (a : Int32) (lo hi : Nat) (hl : lo < 2147483648) (hh : hi < 2147483648) (c : Mm) : X10_in (Int32.toInt64 a) (OfNat.ofNat lo : Int64) (OfNat.ofNat hi : Int64) c = some (wn a (OfNat.ofNat lo) (OfNat.ofNat hi), c) := q_in a (nI lo) (nI hi) _ _ c (nI_l (by omega)) (nI_l (by omega))
theorem q_inM (a hi : Int32) (lo : Nat) (hl : lo < 2147483648) (c : Mm) : X10_in (Int32.toInt64 a) (OfNat.ofNat lo : Int64) (Int32.toInt64 hi) c = some (wn a (OfNat.ofNat lo) hi, c) := q_in a (nI lo) hi _ _ c (nI_l (by omega)) rfl
theorem wn_01 (a lo hi : Int32) : wn a lo hi = 0 ∨ wn a lo hi = 1 := by
  unfold wn
  split
  · exact Or.inr rfl
  · exact Or.inl rfl
theorem wn_gb {β : Type} (a lo hi : Int32) (k : Option β) : m_gb (wn a lo hi) k = k := by
  rcases wn_01 a lo hi with h | h <;> rw [h] <;> rfl
theorem wn_1 {a lo hi : Int32} (h : lo ≤ a ∧ a ≤ hi) : wn a lo hi = 1 := if_pos h
theorem wn_0 {a lo hi : Int32} (h : ¬ (lo ≤ a ∧ a ≤ hi)) : wn a lo hi = 0 := if_neg h
/-- an int between 0 and a small bound is a number -/
theorem q_num {a hi : Int32} {n : Nat} (hh : hi.toInt = n) (h : 0 ≤ a ∧ a ≤ hi) : ∃ j : Nat, j ≤ n ∧ a = nI j := nI_of2 hh (q_nlt.mpr h.1) h.2
/-! loops: one side, two sides; the counter is the last int -/
theorem q_for {ρ β : Type} {F : ρ → (Int32 → Mm → Option β) → Int32 → Mm → Option β} {k : ρ → Mm → Option β} (N : Nat) (I : Nat → Mm → Prop) (hs : ∀ i c, i < N → I i c → ∃ c', I (i + 1) c' ∧ ∀ x r, F x r (nI i) c = r (nI (i + 1)) c') (he : ∀ c, I N c → ∀ x r, F x r (nI N) c = k x c) :
    ∀ (n i : Nat) (c : Mm) (fuel : Nat), i + n = N → n < fuel → I i c → ∃ c', I N c' ∧ ∀ x, m_lp1 (F x) fuel (nI i) c = k x c' := by
  intro n
  induction n with
  | zero =>
    intro i c fuel h1 h2 hI
    obtain ⟨f, rfl⟩ : ∃ f, fuel = f + 1 := ⟨fuel - 1, by omega⟩
    have hi : i = N := by omega
    subst hi
    exact ⟨c, hI, fun x => he c hI x _⟩
  | succ n ih =>
    intro i c fuel h1 h2 hI
    obtain ⟨f, rfl⟩ : ∃ f, fuel = f + 1 := ⟨fuel - 1, by omega⟩
    obtain ⟨c', hI', hf⟩ := hs i c (by omega) hI
    obtain ⟨c'', h3, h4⟩ := ih (i + 1) c' f (by omega) (by omega) hI'
    exact ⟨c'', h3, fun x => (hf x _).trans (h4 x)⟩
theorem q_sim {ρ σ β γ : Type} {F : ρ → (Int32 → Mm → Option β) → Int32 → Mm → Option β} {G : σ → (Int32 → Mm → Option γ) → Int32 → Mm → Option γ} {k : ρ → Mm → Option β} {l : σ → Mm → Option γ} (N : Nat) (I : Nat → Mm → Mm → Prop)
    (hs : ∀ i c d, i < N → I i c d → ∃ c' d', I (i + 1) c' d' ∧ (∀ x r, F x r (nI i) c = r (nI (i + 1)) c') ∧ ∀ x r, G x r (nI i) d = r (nI (i + 1)) d') (he : ∀ c d, I N c d → (∀ x r, F x r (nI N) c = k x c) ∧ ∀ x r, G x r (nI N) d = l x d) :
    ∀ (n i : Nat) (c d : Mm) (f1 f2 : Nat), i + n = N → n < f1 → n < f2 → I i c d → ∃ c' d', I N c' d' ∧ (∀ x, m_lp1 (F x) f1 (nI i) c = k x c') ∧ ∀ x, m_lp1 (G x) f2 (nI i) d = l x d' := by
  intro n
  induction n with
  | zero =>
    intro i c d f1 f2 h1 h2 h3 hI
    obtain ⟨f, rfl⟩ : ∃ f, f1 = f + 1 := ⟨f1 - 1, by omega⟩
    obtain ⟨g, rfl⟩ : ∃ f, f2 = f + 1 := ⟨f2 - 1, by omega⟩
    have hi : i = N := by omega
    subst hi
    exact ⟨c, d, hI, fun x => (he c d hI).1 x _, fun x => (he c d hI).2 x _⟩
  | succ n ih =>
    intro i c d f1 f2 h1 h2 h3 hI
    obtain ⟨f, rfl⟩ : ∃ f, f1 = f + 1 := ⟨f1 - 1, by omega⟩
    obtain ⟨g, rfl⟩ : ∃ f, f2 = f + 1 := ⟨f2 - 1, by omega⟩
    obtain ⟨c', d', hI', hf, hg⟩ := hs i c d (by omega) hI
    obtain ⟨c'', d'', h4, h5, h6⟩ := ih (i + 1) c' d' f g (by omega) (by omega) (by omega) hI'
    exact ⟨c'', d'', h4, fun x => (hf x _).trans (h5 x), fun x => (hg x _).trans (h6 x)⟩
theorem q_sim2 {ρ σ β γ : Type} {F : ρ → (Int32 → Int32 → Mm → Option β) → Int32 → Int32 → Mm → Option β} {G : σ → (Int32 → Int32 → Mm → Option γ) → Int32 → Int32 → Mm → Option γ} {k : ρ → Int32 → Mm → Option β} {l : σ → Int32 → Mm → Option γ} (N : Nat) (I : Nat → Int32 → Mm → Int32 → Mm → Prop)
    (hs : ∀ i a c b d, i < N → I i a c b d → ∃ a' c' b' d', I (i + 1) a' c' b' d' ∧ (∀ x r, F x r a (nI i) c = r a' (nI (i + 1)) c') ∧ ∀ x r, G x r b (nI i) d = r b' (nI (i + 1)) d') (he : ∀ a c b d, I N a c b d → (∀ x r, F x r a (nI N) c = k x a c) ∧ ∀ x r, G x r b (nI N) d = l x b d) :
    ∀ (n i : Nat) (a : Int32) (c : Mm) (b : Int32) (d : Mm) (f1 f2 : Nat), i + n = N → n < f1 → n < f2 → I i a c b d → ∃ a' c' b' d', I N a' c' b' d' ∧ (∀ x, m_lp2 (F x) f1 a (nI i) c = k x a' c') ∧ ∀ x, m_lp2 (G x) f2 b (nI i) d = l x b' d' := by
  intro n
  induction n with
  | zero =>
    intro i a c b d f1 f2 h1 h2 h3 hI
    obtain ⟨f, rfl⟩ : ∃ f, f1 = f + 1 := ⟨f1 - 1, by omega⟩
    obtain ⟨g, rfl⟩ : ∃ f, f2 = f + 1 := ⟨f2 - 1, by omega⟩
    have hi : i = N := by omega
    subst hi
    exact ⟨a, c, b, d, hI, fun x => (he a c b d hI).1 x _, fun x => (he a c b d hI).2 x _⟩
  | succ n ih =>
    intro i a c b d f1 f2 h1 h2 h3 hI
    obtain ⟨f, rfl⟩ : ∃ f, f1 = f + 1 := ⟨f1 - 1, by omega⟩
    obtain ⟨g, rfl⟩ : ∃ f, f2 = f + 1 := ⟨f2 - 1, by omega⟩
    obtain ⟨a', c', b', d', hI', hf, hg⟩ := hs i a c b d (by omega) hI
    obtain ⟨a'', c'', b'', d'', h4, h5, h6⟩ := ih (i + 1) a' c' b' d' f g (by omega) (by omega) (by omega) hI'
    exact ⟨a'', c'', b'', d'', h4, fun x => (hf x _).trans (h5 x), fun x => (hg x _).trans (h6 x)⟩
theorem q_sim3 {ρ σ β γ : Type} {F : ρ → (Int32 → Int32 → Int32 → Mm → Option β) → Int32 → Int32 → Int32 → Mm → Option β} {G : σ → (Int32 → Int32 → Int32 → Mm → Option γ) → Int32 → Int32 → Int32 → Mm → Option γ} {k : ρ → Int32 → Int32 → Mm → Option β} {l : σ → Int32 → Int32 → Mm → Option γ} (N : Nat) (I : Nat → Int32 → Int32 → Mm → Int32 → Int32 → Mm → Prop)
    (hs : ∀ i a u c b v d, i < N → I i a u c b v d → ∃ a' u' c' b' v' d', I (i + 1) a' u' c' b' v' d' ∧ (∀ x r, F x r a u (nI i) c = r a' u' (nI (i + 1)) c') ∧ ∀ x r, G x r b v (nI i) d = r b' v' (nI (i + 1)) d') (he : ∀ a u c b v d, I N a u c b v d → (∀ x r, F x r a u (nI N) c = k x a u c) ∧ ∀ x r, G x r b v (nI N) d = l x b v d) :
    ∀ (n i : Nat) (a u : Int32) (c : Mm) (b v : Int32) (d : Mm) (f1 f2 : Nat), i + n = N → n < f1 → n < f2 → I i a u c b v d → ∃ a' u' c' b' v' d', I N a' u' c' b' v' d' ∧ (∀ x, m_lp3 (F x) f1 a u (nI i) c = k x a' u' c') ∧ ∀ x, m_lp3 (G x) f2 b v (nI i) d = l x b' v' d' := by
  intro n
  induction n with
  | zero =>
    intro i a u c b v d f1 f2 h1 h2 h3 hI
    obtain ⟨f, rfl⟩ : ∃ f, f1 = f + 1 := ⟨f1 - 1, by omega⟩
    obtain ⟨g, rfl⟩ : ∃ f, f2 = f + 1 := ⟨f2 - 1, by omega⟩
    have hi : i = N := by omega
    subst hi
    exact ⟨a, u, c, b, v, d, hI, fun x => (he a u c b v d hI).1 x _, fun x => (he a u c b v d hI).2 x _⟩
  | succ n ih =>
    intro i a u c b v d f1 f2 h1 h2 h3 hI
    obtain ⟨f, rfl⟩ : ∃ f, f1 = f + 1 := ⟨f1 - 1, by omega⟩
    obtain ⟨g, rfl⟩ : ∃ f, f2 = f + 1 := ⟨f2 - 1, by omega⟩
    obtain ⟨a', u', c', b', v', d', hI', hf, hg⟩ := hs i a u c b v d (by omega) hI
    obtain ⟨a'', u'', c'', b'', v'', d'', h4, h5, h6⟩ := ih (i + 1) a' u' c' b' v' d' f g (by omega) (by omega) (by omega) hI'
    exact ⟨a'', u'', c'', b'', v'', d'', h4, fun x => (hf x _).trans (h5 x), fun x => (hg x _).trans (h6 x)⟩
/-! numbers -/
theorem q_leN {a b : Nat} (ha : a < 2147483648) (hb : b < 2147483648) : (nI a ≤ nI b) = (a ≤ b) := propext (nI_leI (by omega) (by omega))
theorem q_ltN {a b : Nat} (ha : a < 2147483648) (hb : b < 2147483648) : (nI a < nI b) = (a < b) := propext (nI_ltI (by omega) (by omega))
theorem q_eqN {a b : Nat} (ha : a < 2147483648) (hb : b < 2147483648) : (nI a = nI b) = (a = b) := propext (nI_eq (by omega) (by omega))
theorem q_1 (n : Nat) : nI n + (1 : Int32) = nI (n + 1) := nI_1 n
theorem q_6 {i : Nat} : (6 : Int32) + nI i = nI (6 + i) := nI_add 6 i
theorem q_6m {m i : Nat} : (6 : Int32) * nI m + nI i = nI (6 * m + i) := by rw [show (6 : Int32) = nI 6 from rfl, pk_mul, nI_add]
theorem q_6p {m i : Nat} (h : 1 ≤ m) : (6 : Int32) * nI m - (6 : Int32) + nI i = nI (6 * (m - 1) + i) := by
  rw [show (6 : Int32) = nI 6 from rfl, pk_mul, pk_sub (by omega), nI_add]
  congr 1
  omega
theorem q_12 {m i : Nat} : (12 : Int32) * nI m + nI i = nI (12 * m + i) := by rw [show (12 : Int32) = nI 12 from rfl, pk_mul, nI_add]
theorem q_m1 {n : Nat} (h : 1 ≤ n) : nI n - (1 : Int32) = nI (n - 1) := by rw [show (1 : Int32) = nI 1 from rfl, pk_sub h]
theorem q_m4 {n : Nat} (h : n < 2147483648) : ¬ nI n = (-4 : Int32) := by
  intro h2
  have h3 := nI_toInt (n := n) (by omega)
  rw [h2] at h3
  have h4 : (-4 : Int32).toInt = -4 := by decide
  omega
theorem q_ge0 {n : Nat} (h : n < 2147483648) : (0 : Int32) ≤ nI n := nI_pos' (by omega)
def rg (x : Int32) (lo hi : Nat) : Prop := ∃ n, lo ≤ n ∧ n ≤ hi ∧ x = nI n
theorem q_ltX {x y : Int32} (a b : Nat) (hx : x = nI a) (hy : y = nI b) (ha : a < 2147483648) (hb : b < 2147483648) : x < y ↔ a < b := by rw [hx, hy]; exact nI_ltI (by omega) (by omega)
theorem q_leX {x y : Int32} (a b : Nat) (hx : x = nI a) (hy : y = nI b) (ha : a < 2147483648) (hb : b < 2147483648) : x ≤ y ↔ a ≤ b := by rw [hx, hy]; exact nI_leI (by omega) (by omega)
theorem q_eqX {x y : Int32} (a b : Nat) (hx : x = nI a) (hy : y = nI b) (ha : a < 2147483648) (hb : b < 2147483648) : x = y ↔ a = b := by rw [hx, hy]; exact nI_eq (by omega) (by omega)
