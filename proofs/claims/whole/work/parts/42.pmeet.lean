/-! one meeting -/
def stC (c : Mm) (x : Nat) (v b : Int32) : Mm := m_st (m_st (m_st (m_st c 38 x (c 38 x + b)) 34 x (c 34 x + v)) 36 x (c 36 x + v)) 8 9 (c 8 9 + v)
def stD (d : Mm) (x : Nat) (v b : Int32) : Mm := m_st (m_st (m_st d 23 x (d 23 x + b)) 19 x (d 19 x + v)) 21 x (d 21 x + v)
def bon (n : Nat) (st at_ e : Int32) : Int32 := if n = 0 then 0 else if st = 0 then (if at_ = e then 0 else 1) else 0
theorem stC_0 {c : Mm} {x : Nat} : stC c x 0 0 = c := by
  unfold stC
  simp only [Int32.add_zero]
  rw [show m_st c 38 x (c 38 x) = c from q_sts, show m_st c 34 x (c 34 x) = c from q_sts, show m_st c 36 x (c 36 x) = c from q_sts, show m_st c 8 9 (c 8 9) = c from q_sts]
theorem mk_C {x n : Nat} {c : Mm} (hx : x < 6) (hn : n < 100) : X2_makeStand (nI x) (nI n) c = some (stC c x (nI n) (bon n (c 34 x) (c 33 x) (en (c 22 x)))) := by
  have hix : m_ix (nI x) = x := q_ix (by omega)
  have g6 : ∀ {k : Option Mm}, m_gi (nI x) 6 k = k := q_gi (by omega) (by omega)
  have j32 : ∀ b, X2_makeStand_j32 (nI x) (nI n) (m_st c 38 x (c 38 x + b)) = some (stC c x (nI n) b) := by
    intro b
    unfold X2_makeStand_j32 stC
    simp only [hix, g6, q_bnd]
    rw [q_str (b := 34) (by omega), q_str (b := 36) (by omega), q_str (b := 36) (by omega), q_str (b := 8) (by omega), q_str (b := 8) (by omega), q_str (b := 8) (by omega)]
  have j32' : X2_makeStand_j32 (nI x) (nI n) c = some (stC c x (nI n) 0) := by
    have := j32 0
    rw [Int32.add_zero, q_sts] at this
    exact this
  unfold X2_makeStand bon
  by_cases h0 : n = 0
  · subst h0
    rw [if_neg (by decide), if_pos rfl]
    exact congrArg some (stC_0 (c := c) (x := x)).symm
  · have hp : (0 : Int32) < nI n := (q_ltX 0 n rfl rfl (by omega) (by omega)).mpr (by omega)
    rw [if_pos hp, if_neg h0, hix, g6]
    by_cases h1 : c 34 x = 0
    · rw [if_pos h1, if_pos h1, q_atEnd hx, q_cal]
      by_cases h2 : c 33 x = en (c 22 x)
      · rw [if_pos h2, if_pos h2, if_neg ne10, j32']
      · rw [if_neg h2, if_neg h2, if_pos rfl, g6, g6, q_bnd, j32]
    · rw [if_neg h1, if_neg h1, j32']
theorem mk_D {x n m : Nat} {d : Mm} (hx : x < 6) (hn : n < 100) (hm : m ≤ 120) : X10_standMore (nI x) (nI n) (nI m) d = some (stD d x (nI n) (bon n (d 19 x) (d 18 (6 * m + x)) (en (d 4 x)))) := by
  have hix : m_ix (nI x) = x := q_ix (by omega)
  have hix7 : m_ix (nI (6 * m + x)) = 6 * m + x := q_ix (by omega)
  have g6 : ∀ {k : Option Mm}, m_gi (nI x) 6 k = k := q_gi (by omega) (by omega)
  have g7 : ∀ {k : Option Mm}, m_gi (nI (6 * m + x)) 726 k = k := q_gi (by omega) (by omega)
  have j44 : ∀ b, X10_standMore_j44 (nI x) (nI n) (nI x) (d 23 x) b d = some (stD d x (nI n) b) := by
    intro b
    unfold X10_standMore_j44 stD
    simp only [hix, g6, q_bnd]
    rw [q_str (b := 19) (by omega), q_str (b := 21) (by omega), q_str (b := 21) (by omega)]
  unfold X10_standMore X10_standMore_j43 bon
  rw [g6, hix]
  by_cases h0 : n = 0
  · subst h0
    rw [if_pos (by decide), if_pos rfl, j44]
  · have hp : ¬ nI n ≤ (0 : Int32) := fun h => h0 (by have := (q_leX n 0 rfl rfl (by omega) (by omega)).mp h; omega)
    rw [if_neg hp, if_neg h0, g6, q_6m, g7, q_endOf hx, q_cal, hix7]
    by_cases h1 : d 19 x = 0
    · rw [if_pos h1, if_pos h1]
      by_cases h2 : d 18 (6 * m + x) = en (d 4 x)
      · rw [if_pos h2, if_pos h2, j44]
      · rw [if_neg h2, if_neg h2, j44]
    · rw [if_neg h1, if_neg h1, j44]
def ntC (c : Mm) (k : Nat) (a b y z : Int32) : Mm := m_st (m_st (m_st (m_st (m_st c 39 k a) 40 k b) 41 k y) 42 k z) 8 11 (nI (k + 1))
theorem nt_C {k : Nat} {c : Mm} {a b y z : Int32} (hk : k < 15) (e : c 8 11 = nI k) : X2_noteMeeting a b y z c = some (ntC c k a b y z) := by
  have g : ∀ {K : Option Mm}, m_gi (nI k) 15 K = K := q_gi (by omega) (by omega)
  have hix : m_ix (nI k) = k := q_ix (by omega)
  have e1 : ∀ j x, j ≠ 8 → m_st c j k x 8 11 = nI k := fun j x h => by rw [q_str (Ne.symm h)]; exact e
  unfold X2_noteMeeting ntC
  rw [e, if_pos (show nI k < (15 : Int32) from (q_ltX k 15 rfl rfl (by omega) (by omega)).mpr (by omega)), g, q_bnd, hix]
  rw [q_str (b := 8) (by omega), e, g, q_bnd, hix]
  rw [q_str (b := 8) (by omega), q_str (b := 8) (by omega), e, g, q_bnd, hix]
  rw [q_str (b := 8) (by omega), q_str (b := 8) (by omega), q_str (b := 8) (by omega), e, g, q_bnd, hix]
  rw [q_str (b := 8) (by omega), q_str (b := 8) (by omega), q_str (b := 8) (by omega), q_str (b := 8) (by omega), e, q_bnd, q_1]
def u2 (f : Nat → Int32) (i j : Nat) (a b : Int32) : Nat → Int32 := fun x => if x = i then f i + a else if x = j then f j + b else f x
def dsC (k i j : Nat) (vi vj bi bj gi gj mm pp y z : Int32) (c c' : Mm) : Prop :=
  (∀ a, a ≠ 8 → (a < 34 ∨ a = 35 ∨ 42 < a) → c' a = c a) ∧ c' 34 = u2 (c 34) i j vi vj ∧ c' 36 = u2 (c 36) i j vi vj ∧ c' 38 = u2 (c 38) i j bi bj ∧ c' 37 = u2 (c 37) i j gi gj ∧
  c' 8 9 = c 8 9 + vi + vj ∧ c' 8 10 = c 8 10 ∧ c' 8 11 = nI (k + 1) ∧ ∀ x, (c' 39 x = if x = k then mm else c 39 x) ∧ (c' 40 x = if x = k then pp else c 40 x) ∧ (c' 41 x = if x = k then y else c 41 x) ∧ (c' 42 x = if x = k then z else c 42 x)
def dsD (k i j : Nat) (vi vj bi bj gi gj mm pp y z : Int32) (d d' : Mm) : Prop :=
  (∀ a, 1 ≤ a → (a < 19 ∨ a = 20 ∨ 27 < a) → d' a = d a) ∧ d' 19 = u2 (d 19) i j vi vj ∧ d' 21 = u2 (d 21) i j vi vj ∧ d' 23 = u2 (d 23) i j bi bj ∧ d' 22 = u2 (d 22) i j gi gj ∧
  d' 0 28 = nI (k + 1) ∧ (∀ j, j ≠ 28 → d' 0 j = d 0 j) ∧ ∀ x, (d' 24 x = if x = k then mm else d 24 x) ∧ (d' 25 x = if x = k then pp else d 25 x) ∧ (d' 26 x = if x = k then y else d 26 x) ∧ (d' 27 x = if x = k then z else d 27 x)
theorem tl_C {pk k i j : Nat} {c : Mm} {v3 y : Int32} (hi : i < 6) (hj : j < 6) (hk : k < 15) (e : c 8 11 = nI k) : X2_meet_j169 pk v3 (nI i) (nI j) y c = some (ntC c k v3 ((8 : Int32) * nI i + nI j) y (c 33 (if c 22 i = 0 then i else j))) := by
  unfold X2_meet_j169 X2_meet_j205
  rw [q_gi (by omega) (by omega), q_ix (by omega), q_ix (by omega)]
  by_cases h : c 22 i = 0
  · rw [if_pos h, if_pos h, q_gi (by omega) (by omega), nt_C hk e, q_cav]
  · rw [if_neg h, if_neg h, q_gi (by omega) (by omega), nt_C hk e, q_cav]
theorem u2_st {f : Mm} {a i j : Nat} {p q : Int32} (h : i ≠ j) : m_st (m_st f a i (f a i + p)) a j (m_st f a i (f a i + p) a j + q) a = u2 (f a) i j p q := by
  funext x
  unfold u2
  rw [q_st, q_st, q_st, if_pos rfl, if_pos rfl, if_pos rfl, if_neg (Ne.symm h)]
  by_cases h1 : x = i
  · subst h1; rw [if_neg h, if_pos rfl, if_pos rfl]
  · by_cases h2 : x = j
    · rw [if_pos h2, if_neg h1, if_pos h2]
    · rw [if_neg h2, if_neg h1, if_neg h1, if_neg h2]
/-- the program's three ends of a meeting, in one description -/
theorem ds_C {k i j : Nat} {vi vj bi bj gi gj mm pp y z : Int32} {c c0 c1 : Mm} (hij : i ≠ j) (h0 : c0 = stC (stC c i vi bi) j vj bj ∨ c0 = stC (stC c j vj bj) i vi bi) (h1 : (gi = 0 ∧ gj = 0 ∧ c1 = c0) ∨ (gi = 1 ∧ gj = 0 ∧ c1 = m_st c0 37 i (c0 37 i + 1)) ∨ (gi = 0 ∧ gj = 1 ∧ c1 = m_st c0 37 j (c0 37 j + 1))) : dsC k i j vi vj bi bj gi gj mm pp y z c (ntC c1 k mm pp y z) := by
  have a0 : (∀ a, a ≠ 8 → (a < 34 ∨ a = 35 ∨ a = 37 ∨ 38 < a) → c0 a = c a) ∧ c0 34 = u2 (c 34) i j vi vj ∧ c0 36 = u2 (c 36) i j vi vj ∧ c0 38 = u2 (c 38) i j bi bj ∧ c0 8 9 = c 8 9 + vi + vj ∧ c0 8 10 = c 8 10 := by
    rcases h0 with rfl | rfl
    · refine ⟨fun a g1 g2 => ?_, ?_, ?_, ?_, ?_, ?_⟩
      · unfold stC
        repeat rw [q_str (b := a) (by omega)]
      · funext x; unfold stC u2; by_cases h1 : x = i <;> by_cases h2 : x = j <;> simp [q_st, h1, h2, hij, Ne.symm hij]; (first | exact absurd (h1.symm.trans h2) hij | skip)
      · funext x; unfold stC u2; by_cases h1 : x = i <;> by_cases h2 : x = j <;> simp [q_st, h1, h2, hij, Ne.symm hij]; (first | exact absurd (h1.symm.trans h2) hij | skip)
      · funext x; unfold stC u2; by_cases h1 : x = i <;> by_cases h2 : x = j <;> simp [q_st, h1, h2, hij, Ne.symm hij]; (first | exact absurd (h1.symm.trans h2) hij | skip)
      · unfold stC; simp [q_st]
      · unfold stC; simp [q_st]
    · refine ⟨fun a g1 g2 => ?_, ?_, ?_, ?_, ?_, ?_⟩
      · unfold stC
        repeat rw [q_str (b := a) (by omega)]
      · funext x; unfold stC u2; by_cases h1 : x = i <;> by_cases h2 : x = j <;> simp [q_st, h1, h2, hij, Ne.symm hij]; (first | exact absurd (h1.symm.trans h2) hij | skip)
      · funext x; unfold stC u2; by_cases h1 : x = i <;> by_cases h2 : x = j <;> simp [q_st, h1, h2, hij, Ne.symm hij]; (first | exact absurd (h1.symm.trans h2) hij | skip)
      · funext x; unfold stC u2; by_cases h1 : x = i <;> by_cases h2 : x = j <;> simp [q_st, h1, h2, hij, Ne.symm hij]; (first | exact absurd (h1.symm.trans h2) hij | skip)
      · unfold stC; simp [q_st]; exact q_add3 _ _ _
      · unfold stC; simp [q_st]
  obtain ⟨p1, p2, p3, p4, p5, p6⟩ := a0
  have a1 : (∀ a, a ≠ 37 → c1 a = c0 a) ∧ c1 37 = u2 (c 37) i j gi gj := by
    have e37 : c0 37 = c 37 := p1 37 (by omega) (by omega)
    rcases h1 with ⟨rfl, rfl, rfl⟩ | ⟨rfl, rfl, rfl⟩ | ⟨rfl, rfl, rfl⟩
    · refine ⟨fun _ _ => rfl, ?_⟩
      rw [e37]; funext x; unfold u2; by_cases h1 : x = i <;> by_cases h2 : x = j <;> simp [h1, h2, Ne.symm hij]
    · refine ⟨fun a ha => q_str ha, ?_⟩
      rw [e37]; funext x; unfold u2; rw [q_st, if_pos rfl, e37]; by_cases h1 : x = i <;> by_cases h2 : x = j <;> simp [h1, h2, Ne.symm hij]
    · refine ⟨fun a ha => q_str ha, ?_⟩
      rw [e37]; funext x; unfold u2; rw [q_st, if_pos rfl, e37]; by_cases h1 : x = i <;> by_cases h2 : x = j <;> simp [h1, h2, hij, Ne.symm hij]; (first | exact absurd (h1.symm.trans h2) hij | skip)
  obtain ⟨r1, r2⟩ := a1
  have nt : ∀ a, a ≠ 8 → (a < 39 ∨ 42 < a) → ntC c1 k mm pp y z a = c1 a := fun a g1 g2 => by
    unfold ntC; rw [q_str g1, q_str (by omega), q_str (by omega), q_str (by omega), q_str (by omega)]
  have nt8 : ∀ x, x ≠ 11 → ntC c1 k mm pp y z 8 x = c1 8 x := fun x hx => by unfold ntC; simp [q_st, hx]
  refine ⟨fun a g1 g2 => by rw [nt a g1 (by omega), r1 a (by omega), p1 a g1 (by omega)], by rw [nt 34 (by omega) (by omega), r1 34 (by omega), p2], by rw [nt 36 (by omega) (by omega), r1 36 (by omega), p3], by rw [nt 38 (by omega) (by omega), r1 38 (by omega), p4], by rw [nt 37 (by omega) (by omega), r2], by rw [nt8 9 (by omega), r1 8 (by omega), p5], by rw [nt8 10 (by omega), r1 8 (by omega), p6], by unfold ntC; simp [q_st], fun x => ?_⟩
  have z39 : ∀ a, 39 ≤ a → a ≤ 42 → c1 a = c a := fun a g1 g2 => by rw [r1 a (by omega), p1 a (by omega) (by omega)]
  unfold ntC
  simp [q_st, z39 39 (by omega) (by omega), z39 40 (by omega) (by omega), z39 41 (by omega) (by omega), z39 42 (by omega) (by omega)]
