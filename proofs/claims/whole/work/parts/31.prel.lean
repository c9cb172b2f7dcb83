/-! the relation between the program's memory c and the reference's memory d -/
def tRel (c d : Mm) : Prop := ∃ n, n ≤ 200 ∧ c 1 1 = nI n ∧ d 0 0 = nI n ∧ ∀ j, j < n → c 12 j = d 1 j
def cRel (nb : Nat) (c d : Mm) : Prop := (1 ≤ nb ∧ nb ≤ 6 ∧ c 4 0 = nI nb ∧ d 2 0 = nI nb) ∧ (∃ nn, nn ≤ 3 ∧ c 4 1 = nI nn ∧ d 8 0 = nI nn ∧ ∀ k, k < nn → c 26 k = d 9 k ∧ c 27 k = d 10 k) ∧
  (c 4 2 = d 11 0 ∧ rg (d 11 0) 1 9) ∧ (c 4 3 = d 11 1 ∧ rg (d 11 1) 1 30) ∧ (c 4 4 = d 11 2 ∧ rg (d 11 2) 1 5) ∧ (c 4 5 = d 11 3 ∧ rg (d 11 3) 1 9) ∧
  ∀ i, i < nb → (c 21 i = d 3 i ∧ rg (d 3 i) 0 60) ∧ (c 22 i = d 4 i ∧ rg (d 4 i) 0 1) ∧ (c 23 i = d 5 i ∧ rg (d 5 i) 1 3) ∧ (c 25 i = d 7 i ∧ rg (d 7 i) 0 3)
def pRel (pk nb : Nat) (c d : Mm) : Prop := ∀ i, i < nb → (c (m_pL pk) i = d 12 i ∧ rg (d 12 i) 0 9) ∧ (c (m_pD pk) i = d 12 (6 + i) ∧ rg (d 12 (6 + i)) 0 30)
def sn (d : Mm) (u k j : Nat) : Int32 := if k < u then d 13 (12 * k + j) else d 12 j
def uRel (nb : Nat) (c d : Mm) : Prop := ∃ u, u ≤ 8 ∧ c 9 3 = nI u ∧ d 0 14 = nI u ∧ ∀ k, k < u → (∃ w, w < nb ∧ c 43 k = nI w ∧ (c 44 k = 0 ∨ c 44 k = 1) ∧ ∀ i, i < nb → (sn d u k i = if c 44 k = 1 ∧ i = w then c 45 k else sn d u (k + 1) i) ∧ (sn d u k (6 + i) = if c 44 k = 0 ∧ i = w then c 45 k else sn d u (k + 1) (6 + i))) ∧ ∀ i, i < nb → rg (sn d u k i) 0 9 ∧ rg (sn d u k (6 + i)) 0 30
def sRel (nb : Nat) (c d : Mm) : Prop := ∃ n, n ≤ 8 ∧ c 10 2 = nI n ∧ d 0 17 = nI n ∧ ∀ k, k < n → c 46 k = d 15 k ∧ c 47 k = d 16 k ∧ (∃ i, i < nb ∧ c 46 k = nI i) ∧ ∃ j, j < nb ∧ c 47 k = nI j
def kRel (nb : Nat) (c d : Mm) : Prop := ∃ n, n ≤ 2 ∧ c 11 2 = nI n ∧ d 0 16 = nI n ∧ ∀ k i, k < n → i < nb → (c 48 (6 * k + i) = d 14 (12 * k + i) ∧ rg (d 14 (12 * k + i)) 0 9) ∧ (c 49 (6 * k + i) = d 14 (12 * k + 6 + i) ∧ rg (d 14 (12 * k + 6 + i)) 0 30)
def Rel (c d : Mm) : Prop := tRel c d ∧ ∃ nb, cRel nb c d ∧ pRel 5 nb c d ∧ uRel nb c d ∧ sRel nb c d ∧ kRel nb c d
theorem tRel.fr {c c' d d' : Mm} (h : tRel c d) (h1 : c' 1 1 = c 1 1) (h2 : c' 12 = c 12) (h3 : d' 0 0 = d 0 0) (h4 : d' 1 = d 1) : tRel c' d' := by
  unfold tRel at h ⊢
  rw [h1, h2, h3, h4]
  exact h
theorem cRel.fr {nb : Nat} {c c' d d' : Mm} (h : cRel nb c d) (hc : ∀ a, a ∈ [4, 21, 22, 23, 25, 26, 27] → c' a = c a) (hd : ∀ a, a ∈ [2, 3, 4, 5, 7, 8, 9, 10, 11] → d' a = d a) : cRel nb c' d' := by
  unfold cRel at h ⊢
  rw [hc 4 (by decide), hc 21 (by decide), hc 22 (by decide), hc 23 (by decide), hc 25 (by decide), hc 26 (by decide), hc 27 (by decide), hd 2 (by decide), hd 3 (by decide), hd 4 (by decide), hd 5 (by decide), hd 7 (by decide), hd 8 (by decide), hd 9 (by decide), hd 10 (by decide), hd 11 (by decide)]
  exact h
theorem pRel.fr {pk nb : Nat} {c c' d d' : Mm} (h : pRel pk nb c d) (h1 : c' (m_pL pk) = c (m_pL pk)) (h2 : c' (m_pD pk) = c (m_pD pk)) (h3 : d' 12 = d 12) : pRel pk nb c' d' := by
  unfold pRel at h ⊢
  rw [h1, h2, h3]
  exact h
theorem uRel.fr {nb : Nat} {c c' d d' : Mm} (h : uRel nb c d) (h1 : c' 9 3 = c 9 3) (h2 : c' 43 = c 43) (h3 : c' 44 = c 44) (h4 : c' 45 = c 45) (h5 : d' 0 14 = d 0 14) (h6 : d' 12 = d 12) (h7 : d' 13 = d 13) : uRel nb c' d' := by
  unfold uRel sn at h ⊢
  rw [h1, h2, h3, h4, h5, h6, h7]
  exact h
theorem sRel.fr {nb : Nat} {c c' d d' : Mm} (h : sRel nb c d) (h1 : c' 10 2 = c 10 2) (h2 : c' 46 = c 46) (h3 : c' 47 = c 47) (h5 : d' 0 17 = d 0 17) (h6 : d' 15 = d 15) (h7 : d' 16 = d 16) : sRel nb c' d' := by
  unfold sRel at h ⊢
  rw [h1, h2, h3, h5, h6, h7]
  exact h
theorem kRel.fr {nb : Nat} {c c' d d' : Mm} (h : kRel nb c d) (h1 : c' 11 2 = c 11 2) (h2 : c' 48 = c 48) (h3 : c' 49 = c 49) (h5 : d' 0 16 = d 0 16) (h6 : d' 14 = d 14) : kRel nb c' d' := by
  unfold kRel at h ⊢
  rw [h1, h2, h3, h5, h6]
  exact h
/-- nothing that counts has changed -/
theorem Rel.fr {c c' d d' : Mm} (h : Rel c d) (hc : ∀ a, (a < 30 ∧ a ≠ 8 ∨ 43 ≤ a) → c' a = c a) (hd : ∀ a, 1 ≤ a → a < 18 → d' a = d a) (h0 : ∀ j, j < 28 → d' 0 j = d 0 j) : Rel c' d' := by
  obtain ⟨ht, nb, h1, h2, h3, h4, h5⟩ := h
  refine ⟨ht.fr (by rw [hc 1 (by omega)]) (hc 12 (by omega)) (h0 0 (by omega)) (hd 1 (by omega) (by omega)), nb, ?_, h2.fr (hc 28 (by omega)) (hc 29 (by omega)) (hd 12 (by omega) (by omega)), ?_, ?_, ?_⟩
  · refine h1.fr (fun a ha => hc a ?_) (fun a ha => hd a ?_ ?_)
    · simp at ha; omega
    · simp at ha; omega
    · simp at ha; omega
  · exact h3.fr (by rw [hc 9 (by omega)]) (hc 43 (by omega)) (hc 44 (by omega)) (hc 45 (by omega)) (h0 14 (by omega)) (hd 12 (by omega) (by omega)) (hd 13 (by omega) (by omega))
  · exact h4.fr (by rw [hc 10 (by omega)]) (hc 46 (by omega)) (hc 47 (by omega)) (h0 17 (by omega)) (hd 15 (by omega) (by omega)) (hd 16 (by omega) (by omega))
  · exact h5.fr (by rw [hc 11 (by omega)]) (hc 48 (by omega)) (hc 49 (by omega)) (h0 16 (by omega)) (hd 14 (by omega) (by omega))
/-! what calls share -/
theorem q_isRule (v : Int32) (c : Mm) : X9_isRule v c = some (wn v 0 3, c) := by
  unfold X9_isRule
  rw [q_isW, q_cal, wn_gb]
theorem q_isRuleM (v : Int32) (d : Mm) : X10_isRule v d = some (wn v 0 3, d) := by
  unfold X10_isRule
  rw [q_inN v 0 3 (by omega) (by omega), q_cal, wn_gb]
theorem q_isBoat {nb : Nat} {c : Mm} (h : c 4 0 = nI nb) (h1 : 1 ≤ nb) (v : Int32) : X9_isBoat v c = some (wn v 0 (nI (nb - 1)), c) := by
  unfold X9_isBoat
  rw [h, q_m1 h1, q_isW, q_cal, wn_gb]
theorem q_isBoatM {nb : Nat} {d : Mm} (h : d 2 0 = nI nb) (h1 : 1 ≤ nb) (v : Int32) : X10_isBoat v d = some (wn v 0 (nI (nb - 1)), d) := by
  unfold X10_isBoat
  rw [h, q_m1 h1, q_inM v (nI (nb - 1)) 0 (by omega), q_cal, wn_gb]
/-- is it a boat? then its number -/
theorem q_boat {nb : Nat} (h1 : 1 ≤ nb) (h6 : nb ≤ 6) (v : Int32) : wn v 0 (nI (nb - 1)) = 0 ∨ (wn v 0 (nI (nb - 1)) = 1 ∧ ∃ i, i < nb ∧ v = nI i) := by
  by_cases h : 0 ≤ v ∧ v ≤ nI (nb - 1)
  · refine Or.inr ⟨wn_1 h, ?_⟩
    obtain ⟨j, hj, rfl⟩ := q_num (n := nb - 1) (nI_toInt (by omega)) h
    exact ⟨j, by omega, rfl⟩
  · exact Or.inl (wn_0 h)
theorem q_small {hi : Int32} {n : Nat} (hh : hi.toInt = n) (v : Int32) : wn v 0 hi = 0 ∨ (wn v 0 hi = 1 ∧ ∃ i, i ≤ n ∧ v = nI i) := by
  by_cases h : 0 ≤ v ∧ v ≤ hi
  · exact Or.inr ⟨wn_1 h, q_num hh h⟩
  · exact Or.inl (wn_0 h)
def two (nb : Nat) (a b : Int32) : Int32 := if wn a 0 (nI (nb - 1)) = 0 then 0 else if wn b 0 (nI (nb - 1)) = 0 then 0 else if a = b then 0 else 1
theorem q_two {nb : Nat} {c : Mm} (h : c 4 0 = nI nb) (h1 : 1 ≤ nb) (a b : Int32) : X9_areTwo a b c = some (two nb a b, c) := by
  unfold X9_areTwo two
  rw [q_isBoat h h1, q_cal, q_isBoat h h1, q_cal]
  split
  · rfl
  · split
    · rfl
    · split <;> rfl
theorem q_twoM {nb : Nat} {d : Mm} (h : d 2 0 = nI nb) (h1 : 1 ≤ nb) (a b : Int32) : X10_areTwo a b d = some (two nb a b, d) := by
  unfold X10_areTwo two
  rw [q_isBoatM h h1, q_cal, q_isBoatM h h1, q_cal]
  split
  · rfl
  · split
    · rfl
    · split <;> rfl
theorem two_cases {nb : Nat} (h1 : 1 ≤ nb) (h6 : nb ≤ 6) (a b : Int32) : two nb a b = 0 ∨ (two nb a b = 1 ∧ ∃ i j, i < nb ∧ j < nb ∧ i ≠ j ∧ a = nI i ∧ b = nI j) := by
  unfold two
  rcases q_boat h1 h6 a with ha | ⟨ha, i, hi, rfl⟩
  · rw [if_pos ha]; exact Or.inl rfl
  · rw [if_neg (by rw [ha]; decide)]
    rcases q_boat h1 h6 b with hb | ⟨hb, j, hj, rfl⟩
    · rw [if_pos hb]; exact Or.inl rfl
    · rw [if_neg (by rw [hb]; decide)]
      by_cases h : nI i = nI j
      · rw [if_pos h]; exact Or.inl rfl
      · rw [if_neg h]
        exact Or.inr ⟨rfl, i, j, hi, hj, fun e => h (by rw [e]), rfl, rfl⟩
theorem ne10 : ¬ (1 : Int32) = 0 := by decide
theorem fin_ {x y : Option (Int32 × Mm)} {r r' : Int32} {c1 d1 : Mm} (h1 : x = some (r, c1)) (h2 : y = some (r', d1)) (hr : r = r') (hR : Rel c1 d1) : ∃ (r : Int32) (c1 d1 : Mm), x = some (r, c1) ∧ y = some (r, d1) ∧ Rel c1 d1 := by
  subst hr
  exact ⟨r, c1, d1, h1, h2, hR⟩
