theorem lw_nest {args : Array Value} {s : State} (hts : ∀ w ∈ lw_tbl, w.before args s = true) : va_Nw m_nR s ∧ va_Nw m_nC s ∧ m_N9 s := by
  exact ⟨va_Nw.of rfl (hts m_nR (List.mem_append_right _ (List.mem_append_right _ (List.mem_append_left _ (List.mem_of_getElem? (i := 136) rfl))))), va_Nw.of rfl (hts m_nC (List.mem_append_right _ (List.mem_append_right _ (List.mem_append_right _ (List.mem_append_left _ (List.mem_of_getElem? (i := 63) rfl)))))), ⟨va_Nw.of rfl (hts (.methodLinkNest RX9 9 yX8_init RX9) (List.mem_append_right _ (List.mem_append_left _ (List.mem_of_getElem? (i := 28) rfl)))), va_Nw.of rfl (hts (.methodLinkNest RX9 18 yX1_init RX9) (List.mem_append_right _ (List.mem_append_left _ (List.mem_of_getElem? (i := 44) rfl)))), va_Nw.of rfl (hts (.methodLinkNest RX9 37 yX3_init RX9) (List.mem_append_right _ (List.mem_append_left _ (List.mem_of_getElem? (i := 140) rfl)))), va_Nw.of rfl (hts (.methodLinkNest RX9 65 yX0_init RX9) (List.mem_append_right _ (List.mem_append_left _ (List.mem_of_getElem? (i := 237) rfl)))), va_Nw.of rfl (hts (.methodLinkNest RX9 72 yX6_init RX9) (List.mem_append_right _ (List.mem_append_right _ (List.mem_append_left _ (List.mem_of_getElem? (i := 18) rfl))))), va_Nw.of rfl (hts (.methodLinkNest RX9 79 yX7_init RX9) (List.mem_append_right _ (List.mem_append_right _ (List.mem_append_left _ (List.mem_of_getElem? (i := 37) rfl)))))⟩⟩
set_option maxRecDepth 100000 in
theorem lw_str {args : Array Value} {s : State} (hts : ∀ w ∈ lw_tbl, w.before args s = true) (hgv : (Jvm.Cond.and given_1 narrow_1).before args s = true) : ∃ aS aV : Nat, m_Js aS aV (fun a : Nat => s.heap.size ≤ a) s s.heap ∧ vk_R RX9 84 m_tx aS s := by
  have hs := flat_of_before _ hgv
  have hA : ∀ a : Nat, a < s.heap.size → ¬ (fun a : Nat => s.heap.size ≤ a) a := fun a h => Nat.not_le.mpr h
  have hel : ∀ j : Nat, j < 66 → (Cond.eq (.elem (.field (Term.string RX9 84) "java/lang/String" "value" "[B") (.int (Int32.ofNat j))) (.int (m_str.getD j 0))).before args s = true := by
    intro j hj
    match j, hj with
    | 0, _ => exact hs _ (by decide +kernel)
    | 1, _ => exact hs _ (by decide +kernel)
    | 2, _ => exact hs _ (by decide +kernel)
    | 3, _ => exact hs _ (by decide +kernel)
    | 4, _ => exact hs _ (by decide +kernel)
    | 5, _ => exact hs _ (by decide +kernel)
    | 6, _ => exact hs _ (by decide +kernel)
    | 7, _ => exact hs _ (by decide +kernel)
    | 8, _ => exact hs _ (by decide +kernel)
    | 9, _ => exact hs _ (by decide +kernel)
    | 10, _ => exact hs _ (by decide +kernel)
    | 11, _ => exact hs _ (by decide +kernel)
    | 12, _ => exact hs _ (by decide +kernel)
    | 13, _ => exact hs _ (by decide +kernel)
    | 14, _ => exact hs _ (by decide +kernel)
    | 15, _ => exact hs _ (by decide +kernel)
    | 16, _ => exact hs _ (by decide +kernel)
    | 17, _ => exact hs _ (by decide +kernel)
    | 18, _ => exact hs _ (by decide +kernel)
    | 19, _ => exact hs _ (by decide +kernel)
    | 20, _ => exact hs _ (by decide +kernel)
    | 21, _ => exact hs _ (by decide +kernel)
    | 22, _ => exact hs _ (by decide +kernel)
    | 23, _ => exact hs _ (by decide +kernel)
    | 24, _ => exact hs _ (by decide +kernel)
    | 25, _ => exact hs _ (by decide +kernel)
    | 26, _ => exact hs _ (by decide +kernel)
    | 27, _ => exact hs _ (by decide +kernel)
    | 28, _ => exact hs _ (by decide +kernel)
    | 29, _ => exact hs _ (by decide +kernel)
    | 30, _ => exact hs _ (by decide +kernel)
    | 31, _ => exact hs _ (by decide +kernel)
    | 32, _ => exact hs _ (by decide +kernel)
    | 33, _ => exact hs _ (by decide +kernel)
    | 34, _ => exact hs _ (by decide +kernel)
    | 35, _ => exact hs _ (by decide +kernel)
    | 36, _ => exact hs _ (by decide +kernel)
    | 37, _ => exact hs _ (by decide +kernel)
    | 38, _ => exact hs _ (by decide +kernel)
    | 39, _ => exact hs _ (by decide +kernel)
    | 40, _ => exact hs _ (by decide +kernel)
    | 41, _ => exact hs _ (by decide +kernel)
    | 42, _ => exact hs _ (by decide +kernel)
    | 43, _ => exact hs _ (by decide +kernel)
    | 44, _ => exact hs _ (by decide +kernel)
    | 45, _ => exact hs _ (by decide +kernel)
    | 46, _ => exact hs _ (by decide +kernel)
    | 47, _ => exact hs _ (by decide +kernel)
    | 48, _ => exact hs _ (by decide +kernel)
    | 49, _ => exact hs _ (by decide +kernel)
    | 50, _ => exact hs _ (by decide +kernel)
    | 51, _ => exact hs _ (by decide +kernel)
    | 52, _ => exact hs _ (by decide +kernel)
    | 53, _ => exact hs _ (by decide +kernel)
    | 54, _ => exact hs _ (by decide +kernel)
    | 55, _ => exact hs _ (by decide +kernel)
    | 56, _ => exact hs _ (by decide +kernel)
    | 57, _ => exact hs _ (by decide +kernel)
    | 58, _ => exact hs _ (by decide +kernel)
    | 59, _ => exact hs _ (by decide +kernel)
    | 60, _ => exact hs _ (by decide +kernel)
    | 61, _ => exact hs _ (by decide +kernel)
    | 62, _ => exact hs _ (by decide +kernel)
    | 63, _ => exact hs _ (by decide +kernel)
    | 64, _ => exact hs _ (by decide +kernel)
    | 65, _ => exact hs _ (by decide +kernel)
    | j + 66, hj => exact absurd hj (by omega)
  obtain ⟨adK, adV, hV, hE⟩ := vk_Sof (args := args) (s := s) (N := 1) (tm := fun _ => Term.string RX9 84) (len := [66]) (byt := [m_str]) (A := fun a : Nat => s.heap.size ≤ a)
    (fun i hi => by obtain rfl : i = 0 := by omega
                    decide) (fun i hi => hs _ (by decide +kernel)) (fun i hi => hs _ (by decide +kernel)) (fun i hi => hs _ (by decide +kernel))
    (fun i hi => by obtain rfl : i = 0 := by omega
                    exact hs _ (by decide +kernel))
    (fun i hi j hj => by obtain rfl : i = 0 := by omega
                         exact hel j hj) (fun i j hi hj hij => absurd (by omega) hij) hA
  obtain ⟨h1, h2, h3, h4⟩ := hV.1 0 (by decide)
  have hZ : va_Z RJ0 "COMPACT_STRINGS" "Z" (.int 1) (fun a : Nat => s.heap.size ≤ a) s s.heap := va_Zof (hts (.laysStatic RJ0 "COMPACT_STRINGS" "Z") (List.mem_append_right _ (List.mem_append_right _ (List.mem_append_left _ (List.mem_of_getElem? (i := 62) rfl))))) (hts (.initialized RJ0) (List.mem_append_right _ (List.mem_append_left _ (List.mem_of_getElem? (i := 11) rfl)))) (va_eqt (hs _ (by decide +kernel))) hA
  have hq : va_Zq RJ3 "SIOOBE_FORMATTER" "Ljava/util/function/BiFunction;" (fun a : Nat => s.heap.size ≤ a) s s.heap := va_Zqof (hts (.laysStatic RJ3 "SIOOBE_FORMATTER" "Ljava/util/function/BiFunction;") (List.mem_append_right _ (List.mem_append_right _ (List.mem_append_left _ (List.mem_of_getElem? (i := 78) rfl))))) (hts (.initialized RJ3) (List.mem_append_right _ (List.mem_append_left _ (List.mem_of_getElem? (i := 13) rfl)))) (hs _ (by decide +kernel)) hA
  exact ⟨adK 0, adV 0, ⟨h1, h2, h3, h4, hZ, hq⟩, vk_R.of (hts (.stringRef RX9 84 m_tx) (List.mem_append_right _ (List.mem_append_right _ (List.mem_append_left _ (List.mem_of_getElem? (i := 52) rfl))))) (hE 0 (by decide))⟩
theorem lw_arr {args : Array Value} {s : State} {ty : FieldType} (h : (Cond.arrayClass ty).before args s = true) (hp : ty = .int ∨ ty = .boolean) : ∃ cA : ClassId, ArrOfT s cA ty ∧ va_RA s cA ty := by
  obtain ⟨c, k, comp, h1, h2, h3⟩ := Cond.arrayClass_spec h
  refine ⟨c, fun n z => ⟨fun k h => (by cases h), k, h2, comp, h3⟩, ?_⟩
  rcases hp with rfl | rfl
  · exact h1
  · exact h1
set_option maxHeartbeats 4000000 in
set_option maxRecDepth 100000 in
theorem lw_known {args : Array Value} {s : State} (hts : ∀ w ∈ lw_tbl, w.before args s = true) : ∃ (D : va_G) (cI cZ : ClassId), m_K D cI cZ s := by
  have hts2 : ∀ w ∈ WS, w.before args s = true := fun w h => hts w (List.mem_filter.mp h).1
  obtain ⟨c0, i0, h0⟩ := u_known (C := RX0) (T := TX0) (N := 4) (n := 4) hts2 inX0 (hts2 (.instantiable RX0 4) (m_t1 236 rfl rfl))
  obtain ⟨c1, i1, h1⟩ := u_known (C := RX1) (T := TX1) (N := 13) (n := 13) hts2 inX1 (hts2 (.instantiable RX1 13) (m_t1 43 rfl rfl))
  obtain ⟨c2, i2, h2⟩ := u_known (C := RX2) (T := TX2) (N := 16) (n := 16) hts2 inX2 (hts2 (.instantiable RX2 16) (m_t1 171 rfl rfl))
  obtain ⟨c3, i3, h3⟩ := u_known (C := RX3) (T := TX3) (N := 2) (n := 2) hts2 inX3 (hts2 (.instantiable RX3 2) (m_t1 139 rfl rfl))
  obtain ⟨c4, i4, h4⟩ := u_known (C := RX4) (T := TX4) (N := 3) (n := 3) hts2 inX4 (hts2 (.instantiable RX4 3) (m_t1 123 rfl rfl))
  obtain ⟨c5, i5, h5⟩ := u_known (C := RX5) (T := TX5) (N := 1) (n := 1) hts2 inX5 (hts2 (.instantiable RX5 1) (m_t1 161 rfl rfl))
  obtain ⟨c6, i6, h6⟩ := u_known (C := RX6) (T := TX6) (N := 3) (n := 3) hts2 inX6 (hts2 (.instantiable RX6 3) (m_t2 17 rfl rfl))
  obtain ⟨c7, i7, h7⟩ := u_known (C := RX7) (T := TX7) (N := 3) (n := 3) hts2 inX7 (hts2 (.instantiable RX7 3) (m_t2 36 rfl rfl))
  obtain ⟨c8, i8, h8⟩ := u_known (C := RX8) (T := TX8) (N := 2) (n := 2) hts2 inX8 (hts2 (.instantiable RX8 2) (m_t1 27 rfl rfl))
  obtain ⟨c9, i9, h9⟩ := u_known (C := RX9) (T := TX9) (N := 11) (n := 11) hts2 inX9 (hts2 (.instantiable RX9 11) (m_t1 19 rfl rfl))
  obtain ⟨c10, i10, h10⟩ := u_known (C := RX10) (T := TX10) (N := 34) (n := 34) hts2 inX10 (hts2 (.instantiable RX10 34) (m_t4 10 rfl rfl))
  obtain ⟨cI, hI1, hI2⟩ := lw_arr (hts2 _ m_wI) (Or.inl rfl)
  obtain ⟨cZ, hZ1, hZ2⟩ := lw_arr (hts2 _ m_wZ) (Or.inr rfl)
  refine ⟨(fun k => [c0, c1, c2, c3, c4, c5, c6, c7, c8, c9, c10].getD k 0, fun k => [i0, i1, i2, i3, i4, i5, i6, i7, i8, i9, i10].getD k (fun _ => 0)), cI, cZ, ⟨?_, ?_⟩, (lw_nest hts).1, (lw_nest hts).2.1⟩
  · intro k z hz
    match k, hz with
    | 0, hz => cases hz; exact h0
    | 1, hz => cases hz; exact h1
    | 2, hz => cases hz; exact h2
    | 3, hz => cases hz; exact h3
    | 4, hz => cases hz; exact h4
    | 5, hz => cases hz; exact h5
    | 6, hz => cases hz; exact h6
    | 7, hz => cases hz; exact h7
    | 8, hz => cases hz; exact h8
    | 9, hz => cases hz; exact h9
    | 10, hz => cases hz; exact h10
    | k + 11, hz => simp [vwCl] at hz
  · intro k z hz
    match k, hz with
    | 0, hz => cases hz; exact ⟨hI1, hI2⟩
    | 1, hz => cases hz; exact ⟨hZ1, hZ2⟩
    | k + 2, hz => simp at hz
set_option maxHeartbeats 40000000 in
set_option maxRecDepth 100000 in
/-- THE LAW, from its entry, over any relation that the calls keep -/
theorem whole_open {p : Program} {e : Env} {s : State} {m : MethodId} {below : List Frame} {meth : Method} {c : Code} (l : Launch) {b L : Nat} {xs : Nat → Int32} (Rel : Mm → Mm → Prop) (hst : lw_steps Rel) (c9 c10 : Mm) (hi9 : X9_init (fun _ _ => 0) = some c9) (hi10 : X10_init (fun _ _ => 0) = some c10) (hrel : Rel c9 c10) (hL : L ≤ 2560) (C0 : lw_At p s m meth c b L xs) : W p l e room_1 s m #[Value.ref b] below meth c s.heap [] 0 0 (lw_Z below #[Value.ref b] s) (entryFrame m ([Value.ref b] : List Value).toArray 4) := by
  obtain ⟨hx, hb, hr, hml, hown, hts, hX, hbl, hlocks, hgv⟩ := id C0
  obtain ⟨D, cI, cZ, hK⟩ := lw_known hts
  obtain ⟨aS, aV, hJ, hV⟩ := lw_str hts hgv
  have hN := (lw_nest hts).2.2
  have hA : ∀ a : Nat, s.heap.size ≤ a → (fun a : Nat => s.heap.size ≤ a) a := fun _ h => h
  have X : m_Cx p s m #[Value.ref b] meth c RL cL_law 4 ret D cI cZ := ⟨hx, hb, hml, hown, fun w h => hts w (List.mem_filter.mp h).1, hr, hlocks, hK⟩
  have hS : va_S (fun a : Nat => s.heap.size ≤ a) s.heap s.heap [] := va_S.rf
  have hP : va_P D vwCl [] s.heap := fun k q h => by simp at h
  have hD : va_D (fun a : Nat => s.heap.size ≤ a) [] := ⟨fun i j p q h => by simp at h, fun k q h => by simp at h⟩
  have hl := lv_entry ([.ref b]) (n := 4) (Nat.le_of_ble_eq_true rfl)
  rw [lg_entry_eq]
  generalize (lg_sl ([.ref b]) ++ List.replicate (4 - (lg_sl ([.ref b])).length) Slot.unset).toArray = ls at hl ⊢
  have hl : lv_has ls 4 [(0, .ref b)] := hl
  refine m_lnew X hP hD hS hA fn_L_7 (Nat.le_of_ble_eq_true rfl) (Nat.le_of_ble_eq_true rfl) dL_law_0 (fun a H hP hD hS => ?_)
  refine lv_dup hx hb dL_law_3 rfl ?_
  have hJ1 : m_Js aS aV (va_A [(a, .inr (9, [.null, .null, .null, .null, .null, .null, .null, .null, .null, .null, .null]))] H.size) s H := (hJ.kept (fun z h1 h2 => hS.2.1 z h1 h2)).narrow (fun z h => by
    rcases m_A1.mp h with rfl | h
    · exact hD.2 0 _ rfl
    · exact Nat.le_trans hS.1 h)
  refine m_lctor (wr := []) (rest := [.ref a]) X hP hD hS hA hl.1 (E := m_E9 aS aV (va_A [(a, .inr (9, [.null, .null, .null, .null, .null, .null, .null, .null, .null, .null, .null]))] H.size)) (fun U hU hW => ⟨hN.warm hW, by rw [hU]; exact hJ1.moved hW.alike, hV.warm hW⟩) (fun U g mk a h => ⟨m_N9.same rfl h.1, m_Js.moved (u := U) (U := U.calling g mk a) (Vm.Alike.refl U.vm) h.2.1, vk_R.same rfl h.2.2⟩) (c_X9_init l D cI cZ a H.size aS aV c9 hi9) ci_L_9 rfl ⟨Nat.le_of_ble_eq_true rfl, Nat.le_of_ble_eq_true rfl⟩ ⟨Nat.le_of_ble_eq_true rfl, Nat.le_of_ble_eq_true rfl⟩ (Nat.le_of_ble_eq_true rfl) dL_law_4 (fun q H locs hq hP hD hS => ?_)
  rw [← hq]
  refine W.widen (k := 50) (n := 540) (Nat.le_of_ble_eq_true rfl) (Nat.le_of_ble_eq_true rfl) ?_
  refine lv_astore_n (lv' := [(1, .ref (q 0)), (0, .ref b)]) hx hb dL_law_7 rfl hl (by decide) rfl (fun ls hl => ?_)
  refine m_lnew X hP hD hS hA fn_L_10 (Nat.le_of_ble_eq_true rfl) (Nat.le_of_ble_eq_true rfl) dL_law_8 (fun a2 H hP hD hS => ?_)
  refine lv_dup hx hb dL_law_11 rfl ?_
  refine m_lctor (wr := m_wO (mkC q cI cZ) 50 q c9) (rest := [.ref a2]) X hP hD hS hA hl.1 (E := fun _ => True) (fun U hU hW => trivial) (fun U g mk a h => trivial) (c_X10_init l D cI cZ a2 H.size c10 hi10) ci_L_12 rfl ⟨Nat.le_of_ble_eq_true rfl, Nat.le_of_ble_eq_true rfl⟩ ⟨Nat.le_of_ble_eq_true rfl, Nat.le_of_ble_eq_true rfl⟩ (Nat.le_of_ble_eq_true rfl) dL_law_12 (fun w H locs hw hP hD hS => ?_)
  rw [← hw]
  refine W.widen (k := 79) (n := 1839) (Nat.le_of_ble_eq_true rfl) (Nat.le_of_ble_eq_true rfl) ?_
  refine lv_astore_n (lv' := [(2, .ref (w 0)), (1, .ref (q 0)), (0, .ref b)]) hx hb dL_law_15 rfl hl (by decide) rfl (fun ls hl => ?_)
  refine lv_iconst (v := (0 : Int32)) hx hb dL_law_16 (by decide) ?_
  refine lv_istore_n (lv' := [(3, .int 0), (2, .ref (w 0)), (1, .ref (q 0)), (0, .ref b)]) hx hb dL_law_17 rfl hl (by decide) rfl (fun ls hl => ?_)
  exact law_loop Rel hst hL C0 X q w (L + 1) 0 0 (Nat.zero_le L) (by omega) nI_0.symm c9 c10 hrel H locs ls hP hD hS (lv_sub hl [3, 2, 1, 0] rfl)
