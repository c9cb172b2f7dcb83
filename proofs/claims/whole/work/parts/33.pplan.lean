/-! loads, delays: changed, undone, kept -/
theorem q_gc {β : Type} {sp dp k : Int32} {n0 n1 : Nat} {K : Option β} (a b e : Nat) (hs : sp = nI a) (hd : dp = nI b) (hk : k = nI e) (ha : a < 2147483648) (hb : b < 2147483648) (he : e < 2147483648) (h1 : a + e ≤ n0) (h2 : b + e ≤ n1) : m_gc sp dp k n0 n1 K = K := by
  unfold m_gc
  rw [if_neg]
  rw [hs, hd, hk, q_ix ha, q_ix hb, q_ix he]
  rintro (h | h | h | h | h)
  · exact nI_pos (by omega) h
  · exact nI_pos (by omega) h
  · exact nI_pos (by omega) h
  · omega
  · omega
theorem q_cp {c : Mm} {a sp b dp n z i : Nat} : m_cp c a sp b dp n z i = if z = b then (if dp ≤ i ∧ i < dp + n then c a (sp + (i - dp)) else c b i) else c z i := by
  unfold m_cp
  split
  · rfl
  · rfl
theorem q_cpr {c : Mm} {a sp b dp n z : Nat} (h : z ≠ b) : m_cp c a sp b dp n z = c z := m_cp_n h
theorem ix0 : m_ix (0 : Int32) = 0 := q_ix (n := 0) (by omega)
theorem ix3 : m_ix (3 : Int32) = 3 := q_ix (n := 3) (by omega)
theorem ix6 : m_ix (6 : Int32) = 6 := q_ix (n := 6) (by omega)
theorem q_x6 (n : Nat) : nI n * (6 : Int32) = nI (n * 6) := pk_mul n 6
theorem nar0 : vp_nar .boolean (0 : Int32) = 0 := by decide
theorem nar1 : vp_nar .boolean (1 : Int32) = 1 := by decide
theorem note_push {u : Nat} {c : Mm} {a b w : Int32} (hu : u < 8) (e : c 9 3 = nI u) : X0_note_j13 a b w c = some (m_st (m_st (m_st (m_st c 43 u a) 44 u (vp_nar .boolean b)) 45 u w) 9 3 (nI (u + 1))) := by
  have g : ∀ {k : Option Mm}, m_gi (nI u) 8 k = k := q_gi hu (by omega)
  simp only [X0_note_j13, q_bnd, q_st, e, g, q_ix (show u < 2147483648 by omega), q_1]
  simp [q_st, e, g, q_ix (show u < 2147483648 by omega), q_1]
theorem note_pushM {u : Nat} {d : Mm} (hu : u < 8) (e : d 0 14 = nI u) : ∃ d1, X10_note_j48 d = some d1 ∧ d1 0 14 = nI (u + 1) ∧ (∀ j, j ≠ 14 → d1 0 j = d 0 j) ∧ (∀ a, a ≠ 13 → a ≠ 0 → d1 a = d a) ∧ ∀ x, d1 13 x = if 12 * u ≤ x ∧ x < 12 * u + 12 then d 12 (x - 12 * u) else d 13 x := by
  have key := q_for (ρ := Unit) (F := fun _ => X10_note_b50) (k := fun _ => X10_note_j82) 12 (fun i d' => (∀ a, a ≠ 13 → d' a = d a) ∧ ∀ x, d' 13 x = if 12 * u ≤ x ∧ x < 12 * u + i then d 12 (x - 12 * u) else d 13 x) ?_ ?_ 12 0 d 1000 (by omega) (by omega) ⟨fun _ _ => rfl, fun x => by rw [if_neg (by omega)]⟩
  · obtain ⟨d', ⟨h1, h2⟩, h3⟩ := key
    unfold X10_note_j48
    refine ⟨_, (h3 ()).trans rfl, ?_, ?_, ?_, ?_⟩
    · simp [q_bnd, q_st, h1 0 (by omega), e, q_1]
    · intro j hj
      simp [q_st, hj, h1 0 (by omega)]
    · intro a h13 h0
      rw [q_str h0, h1 a h13]
    · intro x
      rw [q_str (by omega)]
      exact h2 x
  · rintro i d' hi ⟨h1, h2⟩
    refine ⟨m_st d' 13 (12 * u + i) (d' 12 i), ⟨fun a ha => by rw [q_str ha]; exact h1 a ha, fun x => ?_⟩, fun _ r => ?_⟩
    · rw [q_st, if_pos rfl, h2, h1 12 (by omega)]
      by_cases hx : x = 12 * u + i
      · rw [if_pos hx, if_pos (by omega), hx]; congr 1; omega
      · rw [if_neg hx]
        by_cases hy : 12 * u ≤ x ∧ x < 12 * u + i
        · rw [if_pos hy, if_pos (by omega)]
        · rw [if_neg hy, if_neg (by omega)]
    · have hn : ¬ (12 : Int32) ≤ nI i := fun h => absurd ((q_leX 12 i rfl rfl (by omega) (by omega)).mp h) (by omega)
      show X10_note_b50 r (nI i) d' = _
      unfold X10_note_b50
      rw [if_neg hn, q_gi (by omega) (by omega), h1 0 (by omega), e, q_12, q_gi (by omega) (by omega), q_bnd, q_bnd, q_ix (by omega), q_ix (by omega), q_1]
  · rintro d' - _ r
    show X10_note_b50 r (nI 12) d' = _
    unfold X10_note_b50
    rw [if_pos (by decide)]
theorem note_drop {c : Mm} (hz : ∀ k, k < 8 → c 44 k = 0 ∨ c 44 k = 1) : ∃ c1, X0_dropOldest c = some c1 ∧ c1 9 3 = nI 7 ∧ (∀ a, a ≠ 9 → a ≠ 43 → a ≠ 44 → a ≠ 45 → c1 a = c a) ∧ ∀ k, k < 7 → c1 43 k = c 43 (k + 1) ∧ c1 44 k = c 44 (k + 1) ∧ c1 45 k = c 45 (k + 1) := by
  have key := q_for (ρ := Unit) (F := fun _ => X0_dropOldest_b2) (k := fun _ => X0_dropOldest_j56) 8 (fun i c' => 1 ≤ i ∧ (∀ a, a ≠ 43 → a ≠ 44 → a ≠ 45 → c' a = c a) ∧ ∀ k, (k + 1 < i → c' 43 k = c 43 (k + 1) ∧ c' 44 k = c 44 (k + 1) ∧ c' 45 k = c 45 (k + 1)) ∧ (i ≤ k + 1 → c' 43 k = c 43 k ∧ c' 44 k = c 44 k ∧ c' 45 k = c 45 k)) ?_ ?_ 7 1 c 1000 (by omega) (by omega) ⟨by omega, fun _ _ _ _ => rfl, fun k => ⟨fun h => absurd h (by omega), fun _ => ⟨rfl, rfl, rfl⟩⟩⟩
  · obtain ⟨c', ⟨-, h1, h2⟩, h3⟩ := key
    unfold X0_dropOldest
    refine ⟨_, (h3 ()).trans rfl, ?_, ?_, ?_⟩
    · rw [q_st, if_pos rfl, if_pos rfl]; rfl
    · intro a g1 g2 g3 g4
      rw [q_str g1]; exact h1 a g2 g3 g4
    · intro k hk
      rw [q_str (by omega), q_str (by omega), q_str (by omega)]
      exact (h2 k).1 (by omega)
  · rintro i c' hi ⟨hi0, h1, h2⟩
    · refine ⟨m_st (m_st (m_st c' 43 (i - 1) (c' 43 i)) 44 (i - 1) (c' 44 i)) 45 (i - 1) (c' 45 i), ⟨by omega, fun a g1 g2 g3 => by rw [q_str g3, q_str g2, q_str g1]; exact h1 a g1 g2 g3, fun k => ?_⟩, fun _ r => ?_⟩
      · obtain ⟨w1, w2, w3⟩ := (h2 i).2 (by omega)
        by_cases hk : k = i - 1
        · subst hk
          refine ⟨fun _ => ?_, fun h => absurd h (by omega)⟩
          rw [show i - 1 + 1 = i by omega]
          simp [q_st, w1, w2, w3]
        · simp only [q_st, hk]
          simp
          exact ⟨fun h => (h2 k).1 (by omega), fun h => (h2 k).2 (by omega)⟩
      · have hn : ¬ (8 : Int32) ≤ nI i := fun h => absurd ((q_leX 8 i rfl rfl (by omega) (by omega)).mp h) (by omega)
        have hnar : vp_nar .boolean (c' 44 i) = c' 44 i := by
          rw [((h2 i).2 (by omega)).2.1]
          rcases hz i (by omega) with h | h <;> rw [h] <;> decide
        show X0_dropOldest_b2 r (nI i) c' = _
        unfold X0_dropOldest_b2
        simp only [if_neg hn, q_m1 (show 1 ≤ i by omega), q_gi (show i < 8 by omega) (show 8 < 2147483648 by omega), q_gi (show i - 1 < 8 by omega) (show 8 < 2147483648 by omega), q_bnd, q_ix (show i < 2147483648 by omega), q_ix (show i - 1 < 2147483648 by omega), q_1]
        simp [q_st, hnar]
  · rintro c' - _ r
    show X0_dropOldest_b2 r (nI 8) c' = _
    unfold X0_dropOldest_b2
    rw [if_pos (by decide)]
theorem note_dropM {d : Mm} (e : d 0 14 = nI 8) : ∃ d1, X10_note d = X10_note_j48 d1 ∧ d1 0 14 = nI 7 ∧ (∀ j, j ≠ 14 → d1 0 j = d 0 j) ∧ (∀ a, a ≠ 13 → a ≠ 0 → d1 a = d a) ∧ ∀ x, x < 84 → d1 13 x = d 13 (12 + x) := by
  have key := q_for (ρ := Unit) (F := fun _ => X10_note_b11) (k := fun _ => X10_note_j38) 84 (fun i d' => (∀ a, a ≠ 13 → d' a = d a) ∧ ∀ x, d' 13 x = if x < i then d 13 (12 + x) else d 13 x) ?_ ?_ 84 0 d 1000 (by omega) (by omega) ⟨fun _ _ => rfl, fun x => by rw [if_neg (by omega)]⟩
  · obtain ⟨d', ⟨h1, h2⟩, h3⟩ := key
    unfold X10_note
    rw [e, if_pos (show nI 8 = (8 : Int32) from rfl)]
    refine ⟨m_st d' 0 14 (d' 0 14 - 1), (h3 ()).trans rfl, ?_, ?_, ?_, ?_⟩
    · rw [q_st, if_pos rfl, if_pos rfl, h1 0 (by omega), e]; rfl
    · intro j hj
      simp [q_st, hj, h1 0 (by omega)]
    · intro a h13 h0
      rw [q_str h0, h1 a h13]
    · intro x hx
      rw [q_str (by omega), h2, if_pos hx]
  · rintro i d' hi ⟨h1, h2⟩
    refine ⟨m_st d' 13 i (d' 13 (12 + i)), ⟨fun a ha => by rw [q_str ha]; exact h1 a ha, fun x => ?_⟩, fun _ r => ?_⟩
    · rw [q_st, if_pos rfl, h2, h2]
      by_cases hx : x = i
      · rw [if_pos hx, if_neg (by omega), if_pos (by omega), hx]
      · rw [if_neg hx]
        by_cases hy : x < i
        · rw [if_pos hy, if_pos (by omega)]
        · rw [if_neg hy, if_neg (by omega)]
    · have hn : ¬ (84 : Int32) ≤ nI i := fun h => absurd ((q_leX 84 i rfl rfl (by omega) (by omega)).mp h) (by omega)
      show X10_note_b11 r (nI i) d' = _
      unfold X10_note_b11
      rw [if_neg hn, show (12 : Int32) + nI i = nI (12 + i) from nI_add 12 i, q_gi (by omega) (by omega), q_gi (by omega) (by omega), q_bnd, q_bnd, q_ix (by omega), q_ix (by omega), q_1]
  · rintro d' - _ r
    show X10_note_b11 r (nI 84) d' = _
    unfold X10_note_b11
    rw [if_pos (by decide)]
/-- the common end of load and later: note, then set -/
theorem note_both {nb : Nat} {c d : Mm} (hu : uRel nb c d) (i : Nat) (hi : i < nb) (h6 : nb ≤ 6) (b : Int32) (hb : b = 0 ∨ b = 1) (w v : Int32)
    (hw : w = if b = 1 then d 12 i else d 12 (6 + i)) (hr9 : ∀ i, i < nb → rg (d 12 i) 0 9 ∧ rg (d 12 (6 + i)) 0 30) :
    ∃ c1 d1, X0_note (nI i) b w c = some c1 ∧ X10_note d = some d1 ∧ (∀ a, a ≠ 9 → a ≠ 43 → a ≠ 44 → a ≠ 45 → c1 a = c a) ∧ (∀ j, j ≠ 14 → d1 0 j = d 0 j) ∧ (∀ a, a ≠ 13 → a ≠ 0 → d1 a = d a) ∧
      uRel nb (m_st c1 (if b = 1 then 28 else 29) i v) (m_st d1 12 (if b = 1 then i else 6 + i) v) := by
  -- first to a state with fewer than 8
  have red : ∃ u c0 d0, u < 8 ∧ X0_note (nI i) b w c = X0_note_j13 (nI i) b w c0 ∧ X10_note d = X10_note_j48 d0 ∧ c0 9 3 = nI u ∧ d0 0 14 = nI u ∧ (∀ a, a ≠ 9 → a ≠ 43 → a ≠ 44 → a ≠ 45 → c0 a = c a) ∧ (∀ j, j ≠ 14 → d0 0 j = d 0 j) ∧ (∀ a, a ≠ 13 → a ≠ 0 → d0 a = d a) ∧ ∀ k, k < u → (∃ w, w < nb ∧ c0 43 k = nI w ∧ (c0 44 k = 0 ∨ c0 44 k = 1) ∧ ∀ i, i < nb → (sn d0 u k i = if c0 44 k = 1 ∧ i = w then c0 45 k else sn d0 u (k + 1) i) ∧ (sn d0 u k (6 + i) = if c0 44 k = 0 ∧ i = w then c0 45 k else sn d0 u (k + 1) (6 + i))) ∧ ∀ i, i < nb → rg (sn d0 u k i) 0 9 ∧ rg (sn d0 u k (6 + i)) 0 30 := by
    obtain ⟨u, hu8, e1, e2, hk⟩ := hu
    by_cases h8 : u = 8
    · subst h8
      obtain ⟨c0, g1, g2, g3, g4⟩ := note_drop (c := c) (fun k hk8 => by obtain ⟨⟨w, -, -, h, -⟩, -⟩ := hk k hk8; exact h)
      obtain ⟨d0, f1, f2, f3, f4, f5⟩ := note_dropM (d := d) e2
      refine ⟨7, c0, d0, by omega, ?_, f1, g2, f2, g3, f3, f4, ?_⟩
      · unfold X0_note
        rw [e1, if_neg (by decide), g1, q_cav]
      · have hsn : ∀ k j, k ≤ 7 → j < 12 → sn d0 7 k j = sn d 8 (k + 1) j := by
          intro k j hk7 hj
          unfold sn
          by_cases h : k < 7
          · rw [if_pos h, if_pos (by omega), f5 _ (by omega)]; congr 1; omega
          · rw [if_neg h, if_neg (by omega), f4 12 (by omega) (by omega)]
        intro k hk7
        obtain ⟨⟨w, q1, q2, q3, q4⟩, q5⟩ := hk (k + 1) (by omega)
        obtain ⟨z1, z2, z3⟩ := g4 k (by omega)
        refine ⟨⟨w, q1, by rw [z1]; exact q2, by rw [z2]; exact q3, fun i hi => ?_⟩, fun i hi => ?_⟩
        · rw [z2, z3, hsn k i (by omega) (by omega), hsn k (6 + i) (by omega) (by omega), hsn (k + 1) i (by omega) (by omega), hsn (k + 1) (6 + i) (by omega) (by omega)]
          exact q4 i hi
        · rw [hsn k i (by omega) (by omega), hsn k (6 + i) (by omega) (by omega)]
          exact q5 i hi
    · refine ⟨u, c, d, by omega, ?_, ?_, e1, e2, fun _ _ _ _ _ => rfl, fun _ _ => rfl, fun _ _ _ => rfl, hk⟩
      · unfold X0_note
        rw [e1, if_pos (show nI u < (8 : Int32) from (q_ltX u 8 rfl rfl (by omega) (by omega)).mpr (by omega))]
      · unfold X10_note
        rw [e2, if_neg (show ¬ nI u = (8 : Int32) from fun e => h8 ((q_eqX u 8 rfl rfl (by omega) (by omega)).mp e))]
  obtain ⟨u, c0, d0, hu8, n1, n2, e1, e2, fc, fd0, fd, hk⟩ := red
  obtain ⟨d1, m1, m2, m3, m4, m5⟩ := note_pushM hu8 e2
  rw [n1, n2, note_push hu8 e1, m1]
  have hnar : vp_nar .boolean b = b := by rcases hb with rfl | rfl <;> decide
  have hnow : d0 12 = d 12 := fd 12 (by omega) (by omega)
  refine ⟨_, d1, rfl, rfl, ?_, ?_, ?_, ?_⟩
  · intro a h1 h2 h3 h4
    rw [q_str h1, q_str h4, q_str h3, q_str h2]
    exact fc a h1 h2 h3 h4
  · intro j hj
    rw [m3 j hj, fd0 j hj]
  · intro a h1 h2
    rw [m4 a h1 h2, fd a h1 h2]
  · -- the new stack
    have hd12 : d1 12 = d 12 := by rw [m4 12 (by omega) (by omega), hnow]
    have snL : ∀ k j, k < u → j < 12 → sn (m_st d1 12 (if b = 1 then i else 6 + i) v) (u + 1) k j = sn d0 u k j := by
      intro k j h1 h2
      unfold sn
      rw [if_pos (by omega), if_pos h1, q_str (by omega), m5, if_neg (by omega)]
    have snU : ∀ j, j < 12 → sn (m_st d1 12 (if b = 1 then i else 6 + i) v) (u + 1) u j = d 12 j := by
      intro j h2
      unfold sn
      rw [if_pos (by omega), q_str (by omega), m5, if_pos (by omega), hnow]; congr 1; omega
    have snT : ∀ j, sn (m_st d1 12 (if b = 1 then i else 6 + i) v) (u + 1) (u + 1) j = if j = (if b = 1 then i else 6 + i) then v else d 12 j := by
      intro j
      unfold sn
      rw [if_neg (by omega), q_st, if_pos rfl, hd12]
    have snE : ∀ j, j < 12 → sn d0 u u j = d 12 j := by
      intro j _
      unfold sn
      rw [if_neg (by omega), hnow]
    have c28 : (if b = 1 then 28 else 29) ≠ 9 ∧ (if b = 1 then 28 else 29) ≠ 43 ∧ (if b = 1 then 28 else 29) ≠ 44 ∧ (if b = 1 then 28 else 29) ≠ 45 := by split <;> decide
    refine ⟨u + 1, by omega, ?_, ?_, ?_⟩
    · rw [q_str (Ne.symm c28.1), q_st, if_pos rfl, if_pos rfl]
    · rw [q_str (by omega), m2]
    · intro k hk1
      rw [q_str (Ne.symm c28.2.1), q_str (Ne.symm c28.2.2.1), q_str (Ne.symm c28.2.2.2)]
      by_cases hku : k = u
      · subst hku
        have z1 : m_st (m_st (m_st (m_st c0 43 k (nI i)) 44 k (vp_nar .boolean b)) 45 k w) 9 3 (nI (k + 1)) 43 k = nI i := by simp [q_st]
        have z2 : m_st (m_st (m_st (m_st c0 43 k (nI i)) 44 k (vp_nar .boolean b)) 45 k w) 9 3 (nI (k + 1)) 44 k = b := by simp [q_st, hnar]
        have z3 : m_st (m_st (m_st (m_st c0 43 k (nI i)) 44 k (vp_nar .boolean b)) 45 k w) 9 3 (nI (k + 1)) 45 k = w := by simp [q_st]
        rw [z1, z2, z3]
        refine ⟨⟨i, hi, rfl, hb, fun x hx => ?_⟩, fun x hx => ?_⟩
        · rw [snU x (by omega), snU (6 + x) (by omega), snT, snT, hw]
          rcases hb with rfl | rfl
          · simp
            constructor
            · intro h; exact absurd h (by omega)
            · by_cases hxi : x = i
              · subst hxi; simp
              · rw [if_neg hxi, if_neg (by omega)]
          · simp
            constructor
            · by_cases hxi : x = i
              · subst hxi; simp
              · simp [hxi]
            · intro h; exact absurd h (by omega)
        · rw [snU x (by omega), snU (6 + x) (by omega)]
          exact hr9 x hx
      · have hku : k < u := by omega
        obtain ⟨⟨w0, q1, q2, q3, q4⟩, q5⟩ := hk k hku
        have z1 : m_st (m_st (m_st (m_st c0 43 u (nI i)) 44 u (vp_nar .boolean b)) 45 u w) 9 3 (nI (u + 1)) 43 k = c0 43 k := by simp [q_st]; intro h; omega
        have z2 : m_st (m_st (m_st (m_st c0 43 u (nI i)) 44 u (vp_nar .boolean b)) 45 u w) 9 3 (nI (u + 1)) 44 k = c0 44 k := by simp [q_st]; intro h; omega
        have z3 : m_st (m_st (m_st (m_st c0 43 u (nI i)) 44 u (vp_nar .boolean b)) 45 u w) 9 3 (nI (u + 1)) 45 k = c0 45 k := by simp [q_st]; intro h; omega
        rw [z1, z2, z3]
        have snK : ∀ j, j < 12 → sn (m_st d1 12 (if b = 1 then i else 6 + i) v) (u + 1) (k + 1) j = sn d0 u (k + 1) j := by
          intro j hj
          by_cases h : k + 1 < u
          · exact snL _ _ h hj
          · rw [show k + 1 = u by omega, snU j hj, snE j hj]
        refine ⟨⟨w0, q1, q2, q3, fun x hx => ?_⟩, fun x hx => ?_⟩
        · rw [snL k x hku (by omega), snL k (6 + x) hku (by omega), snK x (by omega), snK (6 + x) (by omega)]
          exact q4 x hx
        · rw [snL k x hku (by omega), snL k (6 + x) hku (by omega)]
          exact q5 x hx
