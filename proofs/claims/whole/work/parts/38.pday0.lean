/-! the day: small things -/
theorem q_sts {c : Mm} {a j : Nat} : m_st c a j (c a j) = c := by
  funext b i
  rw [q_st]
  by_cases h : b = a
  · subst h
    rw [if_pos rfl]
    by_cases h2 : i = j
    · rw [if_pos h2, h2]
    · rw [if_neg h2]
  · rw [if_neg h]
def frC (c c' : Mm) : Prop := ∀ a, a ≠ 8 → (a < 32 ∨ 42 < a) → c' a = c a
def frD (d d' : Mm) : Prop := (∀ a, 1 ≤ a → (a < 18 ∨ 27 < a) → d' a = d a) ∧ ∀ j, j ≠ 28 → d' 0 j = d 0 j
theorem frC.tr {a b c : Mm} (h1 : frC a b) (h2 : frC b c) : frC a c := fun x hx hy => (h2 x hx hy).trans (h1 x hx hy)
theorem frD.tr {a b c : Mm} (h1 : frD a b) (h2 : frD b c) : frD a c := ⟨fun x hx hy => (h2.1 x hx hy).trans (h1.1 x hx hy), fun j hj => (h2.2 j hj).trans (h1.2 j hj)⟩
theorem frC.rf {a : Mm} : frC a a := fun _ _ _ => rfl
theorem frD.rf {a : Mm} : frD a a := ⟨fun _ _ _ => rfl, fun _ _ => rfl⟩
theorem cRel.fd {nb : Nat} {c c' d d' : Mm} (h : cRel nb c d) (hc : frC c c') (hd : frD d d') : cRel nb c' d' :=
  h.fr (fun a ha => hc a (by simp at ha; omega) (by simp at ha; omega)) (fun a ha => hd.1 a (by simp at ha; omega) (by simp at ha; omega))
theorem pRel.fd {pk nb : Nat} {c c' d d' : Mm} (hp : pk = 5 ∨ pk = 6) (h : pRel pk nb c d) (hc : frC c c') (hd : frD d d') : pRel pk nb c' d' := by
  refine h.fr (hc _ ?_ ?_) (hc _ ?_ ?_) (hd.1 12 (by omega) (by omega)) <;> rcases hp with rfl | rfl <;> decide
theorem Rel.fd {c c' d d' : Mm} (h : Rel c d) (hc : ∀ a, a ≠ 8 → (a < 30 ∨ 42 < a) → c' a = c a) (hd : frD d d') : Rel c' d' :=
  h.fr (fun a ha => hc a (by omega) (by omega)) (fun a h1 h2 => hd.1 a h1 (Or.inl h2)) (fun j hj => hd.2 j (by omega))
/-! sums -/
def sm (g : Nat → Nat) : Nat → Nat
  | 0 => 0
  | n + 1 => sm g n + g n
theorem sm_up {g : Nat → Nat} {p n : Nat} (hg : g p = 1) : (p < n → sm (fun x => if x = p then 0 else g x) n + 1 = sm g n) ∧ (n ≤ p → sm (fun x => if x = p then 0 else g x) n = sm g n) := by
  induction n with
  | zero => exact ⟨fun h => absurd h (by omega), fun _ => rfl⟩
  | succ n ih =>
    refine ⟨fun h => ?_, fun h => ?_⟩
    · show sm _ n + (if n = p then 0 else g n) + 1 = sm g n + g n
      by_cases hnp : n = p
      · rw [if_pos hnp, (ih.2 (by omega)), hnp, hg]
      · rw [if_neg hnp]
        have := ih.1 (by omega)
        omega
    · show sm _ n + (if n = p then 0 else g n) = sm g n + g n
      rw [if_neg (by omega), ih.2 (by omega)]
def isum (f : Nat → Int32) : Nat → Int32
  | 0 => 0
  | n + 1 => isum f n + f n
theorem isum_eq {f f' : Nat → Int32} {n : Nat} (h : ∀ x, x < n → f' x = f x) : isum f' n = isum f n := by
  induction n with
  | zero => rfl
  | succ n ih =>
    show isum f' n + f' n = isum f n + f n
    rw [ih (fun x hx => h x (by omega)), h n (by omega)]
theorem q_add3 (a b c : Int32) : a + b + c = a + c + b := by rw [Int32.add_assoc, Int32.add_comm b c, ← Int32.add_assoc]
theorem isum_up {f f' : Nat → Int32} {i n : Nat} {v : Int32} (hi : i < n) (h1 : f' i = f i + v) (h2 : ∀ x, x < n → x ≠ i → f' x = f x) : isum f' n = isum f n + v := by
  induction n with
  | zero => exact absurd hi (by omega)
  | succ n ih =>
    show isum f' n + f' n = isum f n + f n + v
    by_cases hin : i = n
    · rw [isum_eq (f := f) (fun x hx => h2 x (by omega) (by omega)), ← hin, h1, Int32.add_assoc]
    · rw [ih (by omega) (fun x hx => h2 x (by omega)), h2 n (by omega) (fun h => hin h.symm), q_add3]
def cn (f : Nat → Int32) : Nat → Nat
  | 0 => 0
  | n + 1 => cn f n + (if f n = -4 then 1 else 0)
theorem cn_eq {f f' : Nat → Int32} {n : Nat} (h : ∀ x, x < n → f' x = f x) : cn f' n = cn f n := by
  induction n with
  | zero => rfl
  | succ n ih =>
    show cn f' n + (if f' n = -4 then 1 else 0) = cn f n + (if f n = -4 then 1 else 0)
    rw [ih (fun x hx => h x (by omega)), h n (by omega)]
theorem cn_le {f : Nat → Int32} {n : Nat} : cn f n ≤ n := by
  induction n with
  | zero => exact Nat.le_refl 0
  | succ n ih =>
    show cn f n + (if f n = -4 then 1 else 0) ≤ n + 1
    split <;> omega
theorem cn_0 {f : Nat → Int32} {n : Nat} (h : cn f n = 0) : ∀ x, x < n → f x ≠ -4 := by
  induction n with
  | zero => intro x hx; exact absurd hx (by omega)
  | succ n ih =>
    have h' : cn f n + (if f n = -4 then 1 else 0) = 0 := h
    intro x hx
    by_cases hn : f n = -4
    · rw [if_pos hn] at h'; exact absurd h' (by omega)
    · by_cases hxn : x = n
      · rw [hxn]; exact hn
      · exact ih (by omega) x (by omega)
theorem cn_up {f f' : Nat → Int32} {i n : Nat} (hi : i < n) (h0 : f i = -4) (h1 : f' i ≠ -4) (h2 : ∀ x, x < n → x ≠ i → f' x = f x) : cn f' n + 1 = cn f n := by
  induction n with
  | zero => exact absurd hi (by omega)
  | succ n ih =>
    show cn f' n + (if f' n = -4 then 1 else 0) + 1 = cn f n + (if f n = -4 then 1 else 0)
    by_cases hin : i = n
    · subst hin
      rw [cn_eq (f := f) (fun x hx => h2 x (by omega) (by omega)), if_pos h0, if_neg h1]
    · rw [h2 n (by omega) (fun h => hin h.symm)]
      have := ih (by omega) (fun x hx => h2 x (by omega))
      omega
theorem cn_all {f : Nat → Int32} {n : Nat} (h : ∀ x, x < n → f x = -4) : cn f n = n := by
  induction n with
  | zero => rfl
  | succ n ih =>
    show cn f n + (if f n = -4 then 1 else 0) = n + 1
    rw [ih (fun x hx => h x (by omega)), if_pos (h n (by omega))]
/-! ends of the water -/
def en (w : Int32) : Int32 := if w = 0 then 60 else 0
theorem q_atEnd {i : Nat} {c : Mm} (hi : i < 6) : X2_isAtEnd (nI i) c = some (if c 33 i = en (c 22 i) then 1 else 0, c) := by
  unfold X2_isAtEnd X2_isAtEnd_j24 en
  rw [q_gi (by omega) (by omega), q_gi (by omega) (by omega), q_ix (by omega)]
  by_cases h : c 22 i = 0
  · simp only [if_pos h]
    by_cases h2 : c 33 i = 60
    · rw [if_pos h2, if_pos h2]
    · rw [if_neg h2, if_neg h2]
  · simp only [if_neg h]
    by_cases h2 : c 33 i = 0
    · rw [if_pos h2, if_pos h2]
    · rw [if_neg h2, if_neg h2]
theorem q_endOf {i : Nat} {d : Mm} (hi : i < 6) : X10_endOf (nI i) d = some (en (d 4 i), d) := by
  unfold X10_endOf en
  rw [q_gi (by omega) (by omega), q_ix (by omega)]
  by_cases h : d 4 i = 0
  · rw [if_pos h, if_pos h]
  · rw [if_neg h, if_neg h]
theorem ar_iff {x : Int32} (h : x = -4 ∨ rg x 0 120) : (0 : Int32) ≤ x ↔ ¬ x = -4 := by
  rcases h with rfl | ⟨n, -, h1, rfl⟩
  · decide
  · exact ⟨fun _ => q_m4 (by omega), fun _ => q_ge0 (by omega)⟩
