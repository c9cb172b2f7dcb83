/-! the first state -/
def i9m : Mm := fun a j => if a = 1 then (if j = 1 then nI 66 else 0) else if a = 12 then (if j < 66 then m_ch (nI j) else 0) else 0
theorem i9_text : X9_init (fun _ _ => 0) = X9_init_j176 i9m := by
  have key := q_for (ρ := Unit) (F := fun _ => X9_init_b147) (k := fun _ => X9_init_j176) 66 (fun i c => c = fun a j => if a = 1 then (if j = 1 then nI i else 0) else if a = 12 then (if j < i then m_ch (nI j) else 0) else 0) ?_ ?_ 66 0 (fun _ _ => 0) 1000 (by omega) (by omega) ?_
  · obtain ⟨c, rfl, h⟩ := key
    exact h ()
  · intro i c hi hc
    refine ⟨_, rfl, fun _ r => ?_⟩
    show X9_init_b147 r (nI i) c = _
    have e66 : nI m_strN >>> ((0 : Int32) &&& 31) = nI 66 := by decide
    have e1 : c 1 1 = nI i := by rw [hc]; rfl
    unfold X9_init_b147 X8_add
    rw [e66, if_neg (q_lez hi (by omega)), if_neg (nI_pos (by omega)), if_pos (show nI i < nI m_strN from nI_lt hi (by decide)), e1]
    rw [if_pos (show nI i < (200 : Int32) from (q_ltX i 200 rfl rfl (by omega) (by omega)).mpr (by omega)), q_gi (by omega) (by omega), q_ix (by omega), q_bnd, q_bnd, q_cal, q_bnd, q_1, q_str (b := 1) (by omega), e1, q_1, hc]
    congr 1
    funext a j
    simp only [q_st]
    by_cases h1 : a = 1
    · subst h1
      by_cases hj : j = 1
      · simp [hj]
      · simp [hj]
    · by_cases h12 : a = 12
      · subst h12
        simp
        by_cases hj : j = i
        · subst hj; simp
        · simp [hj]
          by_cases hji : j < i
          · simp [hji, show j < i + 1 by omega]
          · simp [hji, show ¬ j < i + 1 by omega]
      · simp [h1, h12]
  · rintro c rfl _ r
    show X9_init_b147 r (nI 66) _ = _
    unfold X9_init_b147
    rw [if_pos (by decide)]
  · funext a j
    by_cases h1 : a = 1
    · subst h1; by_cases hj : j = 1 <;> simp [hj]; rfl
    · by_cases h12 : a = 12
      · simp [h12]
      · simp [h1, h12]
def cel9 (c : Mm) : List Int32 := [c 1 1, c 4 0, c 4 1, c 4 2, c 4 3, c 4 4, c 4 5, c 26 0, c 27 0, c 9 3, c 10 2, c 11 2, c 21 0, c 21 1, c 21 2, c 21 3, c 22 0, c 22 1, c 22 2, c 22 3, c 23 0, c 23 1, c 23 2, c 23 3, c 25 0, c 25 1, c 25 2, c 25 3, c 28 0, c 28 1, c 28 2, c 28 3, c 29 0, c 29 1, c 29 2, c 29 3]
set_option maxRecDepth 100000 in
theorem i9_fin : (X9_init_j176 i9m).map cel9 = some [0, 4, 1, 4, 10, 2, 4, 28, 32, 0, 0, 0, 0, 60, 50, 10, 0, 1, 1, 0, 2, 2, 1, 1, 0, 0, 1, 2, 3, 0, 5, 9, 0, 0, 0, 0] := by decide +kernel

def cel10 (d : Mm) : List Int32 := [d 0 0, d 2 0, d 8 0, d 11 0, d 11 1, d 11 2, d 11 3, d 9 0, d 10 0, d 0 14, d 0 17, d 0 16, d 3 0, d 3 1, d 3 2, d 3 3, d 4 0, d 4 1, d 4 2, d 4 3, d 5 0, d 5 1, d 5 2, d 5 3, d 7 0, d 7 1, d 7 2, d 7 3, d 12 0, d 12 1, d 12 2, d 12 3, d 12 6, d 12 7, d 12 8, d 12 9]
set_option maxRecDepth 100000 in
theorem i10_fin : (X10_init (fun _ _ => 0)).map cel10 = some [0, 4, 1, 4, 10, 2, 4, 28, 32, 0, 0, 0, 0, 60, 50, 10, 0, 1, 1, 0, 2, 2, 1, 1, 0, 0, 1, 2, 3, 0, 5, 9, 0, 0, 0, 0] := by decide +kernel
theorem ex9 : ∃ c, X9_init (fun _ _ => 0) = some c ∧ cel9 c = [0, 4, 1, 4, 10, 2, 4, 28, 32, 0, 0, 0, 0, 60, 50, 10, 0, 1, 1, 0, 2, 2, 1, 1, 0, 0, 1, 2, 3, 0, 5, 9, 0, 0, 0, 0] := by
  have h := i9_fin
  rw [← i9_text] at h
  obtain ⟨c, h1, h2⟩ := Option.map_eq_some_iff.mp h
  exact ⟨c, h1, h2⟩
theorem ex10 : ∃ d, X10_init (fun _ _ => 0) = some d ∧ cel10 d = [0, 4, 1, 4, 10, 2, 4, 28, 32, 0, 0, 0, 0, 60, 50, 10, 0, 1, 1, 0, 2, 2, 1, 1, 0, 0, 1, 2, 3, 0, 5, 9, 0, 0, 0, 0] := by
  obtain ⟨d, h1, h2⟩ := Option.map_eq_some_iff.mp i10_fin
  exact ⟨d, h1, h2⟩
noncomputable def Rel_c9 : Mm := ex9.choose
noncomputable def Rel_c10 : Mm := ex10.choose
theorem Rel_i9 : X9_init (fun _ _ => 0) = some Rel_c9 := ex9.choose_spec.1
theorem Rel_i10 : X10_init (fun _ _ => 0) = some Rel_c10 := ex10.choose_spec.1
theorem rgD {x : Int32} (n lo hi : Nat) (e : x = nI n) (h1 : lo ≤ n) (h2 : n ≤ hi) : rg x lo hi := ⟨n, h1, h2, e⟩
theorem Rel_init : Rel Rel_c9 Rel_c10 := by
  have h9 : cel9 Rel_c9 = _ := ex9.choose_spec.2
  have h10 : cel10 Rel_c10 = _ := ex10.choose_spec.2
  generalize Rel_c9 = c at h9 ⊢
  generalize Rel_c10 = d at h10 ⊢
  simp only [cel9, cel10, List.cons.injEq, and_true] at h9 h10
  obtain ⟨a1, a2, a3, a4, a5, a6, a7, a8, a9, a10, a11, a12, a13, a14, a15, a16, a17, a18, a19, a20, a21, a22, a23, a24, a25, a26, a27, a28, a29, a30, a31, a32, a33, a34, a35, a36⟩ := h9
  obtain ⟨b1, b2, b3, b4, b5, b6, b7, b8, b9, b10, b11, b12, b13, b14, b15, b16, b17, b18, b19, b20, b21, b22, b23, b24, b25, b26, b27, b28, b29, b30, b31, b32, b33, b34, b35, b36⟩ := h10
  refine ⟨⟨0, by omega, a1, b1, fun j hj => absurd hj (by omega)⟩, 4, ⟨⟨by omega, by omega, a2, b2⟩, ⟨1, by omega, a3, b3, fun k hk => ?_⟩, ⟨a4.trans b4.symm, rgD 4 _ _ b4 (by omega) (by omega)⟩, ⟨a5.trans b5.symm, rgD 10 _ _ b5 (by omega) (by omega)⟩, ⟨a6.trans b6.symm, rgD 2 _ _ b6 (by omega) (by omega)⟩, ⟨a7.trans b7.symm, rgD 4 _ _ b7 (by omega) (by omega)⟩, fun i hi => ?_⟩, fun i hi => ?_, ⟨0, by omega, a10, b10, fun k hk => absurd hk (by omega)⟩, ⟨0, by omega, a11, b11, fun k hk => absurd hk (by omega)⟩, ⟨0, by omega, a12, b12, fun k i hk => absurd hk (by omega)⟩⟩
  · obtain rfl : k = 0 := by omega
    exact ⟨a8.trans b8.symm, a9.trans b9.symm⟩
  · match i, hi with
    | 0, _ => exact ⟨⟨a13.trans b13.symm, rgD 0 _ _ b13 (by omega) (by omega)⟩, ⟨a17.trans b17.symm, rgD 0 _ _ b17 (by omega) (by omega)⟩, ⟨a21.trans b21.symm, rgD 2 _ _ b21 (by omega) (by omega)⟩, ⟨a25.trans b25.symm, rgD 0 _ _ b25 (by omega) (by omega)⟩⟩
    | 1, _ => exact ⟨⟨a14.trans b14.symm, rgD 60 _ _ b14 (by omega) (by omega)⟩, ⟨a18.trans b18.symm, rgD 1 _ _ b18 (by omega) (by omega)⟩, ⟨a22.trans b22.symm, rgD 2 _ _ b22 (by omega) (by omega)⟩, ⟨a26.trans b26.symm, rgD 0 _ _ b26 (by omega) (by omega)⟩⟩
    | 2, _ => exact ⟨⟨a15.trans b15.symm, rgD 50 _ _ b15 (by omega) (by omega)⟩, ⟨a19.trans b19.symm, rgD 1 _ _ b19 (by omega) (by omega)⟩, ⟨a23.trans b23.symm, rgD 1 _ _ b23 (by omega) (by omega)⟩, ⟨a27.trans b27.symm, rgD 1 _ _ b27 (by omega) (by omega)⟩⟩
    | 3, _ => exact ⟨⟨a16.trans b16.symm, rgD 10 _ _ b16 (by omega) (by omega)⟩, ⟨a20.trans b20.symm, rgD 0 _ _ b20 (by omega) (by omega)⟩, ⟨a24.trans b24.symm, rgD 1 _ _ b24 (by omega) (by omega)⟩, ⟨a28.trans b28.symm, rgD 2 _ _ b28 (by omega) (by omega)⟩⟩
    | i + 4, h => exact absurd h (by omega)
  · match i, hi with
    | 0, _ => exact ⟨⟨a29.trans b29.symm, rgD 3 _ _ b29 (by omega) (by omega)⟩, ⟨a33.trans b33.symm, rgD 0 _ _ b33 (by omega) (by omega)⟩⟩
    | 1, _ => exact ⟨⟨a30.trans b30.symm, rgD 0 _ _ b30 (by omega) (by omega)⟩, ⟨a34.trans b34.symm, rgD 0 _ _ b34 (by omega) (by omega)⟩⟩
    | 2, _ => exact ⟨⟨a31.trans b31.symm, rgD 5 _ _ b31 (by omega) (by omega)⟩, ⟨a35.trans b35.symm, rgD 0 _ _ b35 (by omega) (by omega)⟩⟩
    | 3, _ => exact ⟨⟨a32.trans b32.symm, rgD 9 _ _ b32 (by omega) (by omega)⟩, ⟨a36.trans b36.symm, rgD 0 _ _ b36 (by omega) (by omega)⟩⟩
    | i + 4, h => exact absurd h (by omega)
theorem Rel_steps : lw_steps Rel := ⟨s_write, s_wipe, s_fault, s_lay, s_boat, s_where, s_there, s_stands, s_yields, s_meetings, s_meeting, s_load, s_later, s_undo, s_who, s_best, s_custom, s_send, s_swap, s_fall, s_caught, s_rests, s_seen, s_forget, s_fits, s_starts, s_bears, s_day, s_keep, s_back, s_count⟩
