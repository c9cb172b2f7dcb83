set_option maxHeartbeats 40000000 in
set_option maxRecDepth 100000 in
theorem c_X8_add (l : Launch) (D : va_G) (cI cZ : ClassId) (q : Nat → Nat) (c : Mm) (sz : Nat) (v1 : Int32) (R : Int32 × Mm) (hf : X8_add v1 c = some R) : m_Mi l yX8_add cX8_add 2 (some .boolean) 0 0 D cI cZ (mkC q cI cZ) 50 q [.ref (q 1), .int v1] c sz R := by
  refine m_enter_z (own := RX8) (by decide) rfl (Nat.le_of_ble_eq_true rfl) ?_
  intro p e s m args below meth cd Q X ret
  have hx := X.1
  have hb := X.2.1
  intro H locs ls hS hl
  have hl : lv_has ls 2 [(0, .ref (q 1)), (1, .int v1)] := hl
  unfold X8_add at hf
  refine lv_aload_n hx hb dX8_add_0 rfl (lv_at hl 0 rfl) ?_
  refine m_get X hS fl_8_15 (vC_1_1 q cI cZ _) dX8_add_1 ?_
  refine lv_sipush (v := (200 : Int32)) hx hb dX8_add_4 (by decide) ?_
  refine lv_icmp_lt (tgt := 12) hx hb dX8_add_7 (by decide) (fun hc => ?_) (fun hc => ?_)
  · have hf := o_t hc hf
    refine lv_aload_n hx hb dX8_add_12 rfl (lv_at hl 0 rfl) ?_
    refine m_get X hS fl_8_9 (vC_1_0 q cI cZ _) dX8_add_13 ?_
    refine lv_aload_n hx hb dX8_add_16 rfl (lv_at hl 0 rfl) ?_
    refine m_get X hS fl_8_15 (vC_1_1 q cI cZ _) dX8_add_17 ?_
    refine lv_iload_n hx hb dX8_add_20 rfl (lv_at hl 1 rfl) ?_
    obtain ⟨hg, hf⟩ := o_gi hf
    refine m_ist X hS (aC_12 q cI cZ) hg dX8_add_21 (fun c1 ec H locs hS => ?_)
    have hf := o_bnd hf c1 ec
    refine lv_aload_n hx hb dX8_add_22 rfl (lv_at hl 0 rfl) ?_
    refine lv_dup hx hb dX8_add_23 rfl ?_
    refine m_get X hS fl_8_15 (vC_1_1 q cI cZ _) dX8_add_24 ?_
    refine lv_iconst (v := (1 : Int32)) hx hb dX8_add_27 (by decide) ?_
    refine lv_iadd hx hb dX8_add_28 ?_
    refine m_put X hS fp_8_15 (pC_1_1 q cI cZ) dX8_add_29 (fun c2 ec H locs hS => ?_)
    have hf := o_bnd hf c2 ec
    refine lv_iconst (v := (1 : Int32)) hx hb dX8_add_32 (by decide) ?_
    exact ret (Or.inr rfl) hf hS dX8_add_33
  · have hf := o_f hc hf
    refine lv_iconst (v := (0 : Int32)) hx hb dX8_add_10 (by decide) ?_
    exact ret (Or.inl rfl) hf hS dX8_add_11

set_option maxHeartbeats 40000000 in
set_option maxRecDepth 100000 in
theorem c_X1_clear (l : Launch) (D : va_G) (cI cZ : ClassId) (q : Nat → Nat) (c : Mm) (sz : Nat) (R : Mm) (hf : X1_clear c = some R) : m_Mv l yX1_clear cX1_clear 1 0 0 D cI cZ (mkC q cI cZ) 50 q [.ref (q 2)] c sz R := by
  refine m_enter_v (own := RX1) (by decide) rfl (Nat.le_of_ble_eq_true rfl) ?_
  intro p e s m args below meth cd Q X ret
  have hx := X.1
  have hb := X.2.1
  intro H locs ls hS hl
  have hl : lv_has ls 1 [(0, .ref (q 2))] := hl
  unfold X1_clear at hf
  refine lv_aload_n hx hb dX1_clear_0 rfl (lv_at hl 0 rfl) ?_
  refine lv_iconst (v := (0 : Int32)) hx hb dX1_clear_1 (by decide) ?_
  refine m_put X hS fp_1_33 (pC_2_0 q cI cZ) dX1_clear_2 (fun c1 ec H locs hS => ?_)
  have hf := o_bnd hf c1 ec
  refine lv_aload_n hx hb dX1_clear_5 rfl (lv_at hl 0 rfl) ?_
  refine lv_iconst (v := (0 : Int32)) hx hb dX1_clear_6 (by decide) ?_
  refine m_put X hS fp_1_37 (pC_2_1 q cI cZ) dX1_clear_7 (fun c2 ec H locs hS => ?_)
  have hf := o_bnd hf c2 ec
  refine lv_aload_n hx hb dX1_clear_10 rfl (lv_at hl 0 rfl) ?_
  refine lv_iconst (v := (4 : Int32)) hx hb dX1_clear_11 (by decide) ?_
  refine m_put X hS fp_1_40 (pC_2_2 q cI cZ) dX1_clear_12 (fun c3 ec H locs hS => ?_)
  have hf := o_bnd hf c3 ec
  refine lv_aload_n hx hb dX1_clear_15 rfl (lv_at hl 0 rfl) ?_
  refine lv_bipush (v := (10 : Int32)) hx hb dX1_clear_16 (by decide) ?_
  refine m_put X hS fp_1_43 (pC_2_3 q cI cZ) dX1_clear_18 (fun c4 ec H locs hS => ?_)
  have hf := o_bnd hf c4 ec
  refine lv_aload_n hx hb dX1_clear_21 rfl (lv_at hl 0 rfl) ?_
  refine lv_iconst (v := (2 : Int32)) hx hb dX1_clear_22 (by decide) ?_
  refine m_put X hS fp_1_46 (pC_2_4 q cI cZ) dX1_clear_23 (fun c5 ec H locs hS => ?_)
  have hf := o_bnd hf c5 ec
  refine lv_aload_n hx hb dX1_clear_26 rfl (lv_at hl 0 rfl) ?_
  refine lv_iconst (v := (4 : Int32)) hx hb dX1_clear_27 (by decide) ?_
  refine m_put X hS fp_1_49 (pC_2_5 q cI cZ) dX1_clear_28 (fun c6 ec H locs hS => ?_)
  have hf := o_bnd hf c6 ec
  exact ret hf hS dX1_clear_31

set_option maxHeartbeats 40000000 in
set_option maxRecDepth 100000 in
theorem c_X8_letterAt (l : Launch) (D : va_G) (cI cZ : ClassId) (q : Nat → Nat) (c : Mm) (sz : Nat) (v1 : Int32) (R : Int32 × Mm) (hf : X8_letterAt v1 c = some R) : m_Mi l yX8_letterAt cX8_letterAt 2 (some .int) 0 0 D cI cZ (mkC q cI cZ) 50 q [.ref (q 1), .int v1] c sz R := by
  refine m_enter_i (own := RX8) (by decide) rfl (Nat.le_of_ble_eq_true rfl) ?_
  intro p e s m args below meth cd Q X ret
  have hx := X.1
  have hb := X.2.1
  intro H locs ls hS hl
  have hl : lv_has ls 2 [(0, .ref (q 1)), (1, .int v1)] := hl
  unfold X8_letterAt at hf
  refine lv_iload_n hx hb dX8_letterAt_0 rfl (lv_at hl 1 rfl) ?_
  refine lv_if_lt (tgt := 21) hx hb dX8_letterAt_1 (by decide) (fun hc => ?_) (fun hc => ?_)
  · have hf := o_t hc hf
    refine lv_bipush (v := (-4 : Int32)) hx hb dX8_letterAt_21 (by decide) ?_
    exact ret hf hS dX8_letterAt_23
  · have hf := o_f hc hf
    refine lv_iload_n hx hb dX8_letterAt_4 rfl (lv_at hl 1 rfl) ?_
    refine lv_aload_n hx hb dX8_letterAt_5 rfl (lv_at hl 0 rfl) ?_
    refine m_get X hS fl_8_15 (vC_1_1 q cI cZ _) dX8_letterAt_6 ?_
    refine lv_icmp_ge (tgt := 21) hx hb dX8_letterAt_9 (by decide) (fun hc => ?_) (fun hc => ?_)
    · have hf := o_t hc hf
      refine lv_bipush (v := (-4 : Int32)) hx hb dX8_letterAt_21 (by decide) ?_
      exact ret hf hS dX8_letterAt_23
    · have hf := o_f hc hf
      refine lv_aload_n hx hb dX8_letterAt_12 rfl (lv_at hl 0 rfl) ?_
      refine m_get X hS fl_8_9 (vC_1_0 q cI cZ _) dX8_letterAt_13 ?_
      refine lv_iload_n hx hb dX8_letterAt_16 rfl (lv_at hl 1 rfl) ?_
      obtain ⟨hg, hf⟩ := o_gi hf
      refine m_ild X hS (aC_12 q cI cZ) hg dX8_letterAt_17 ?_
      refine lv_goto (tgt := 23) hx hb dX8_letterAt_18 (by decide) ?_
      exact ret hf hS dX8_letterAt_23

set_option maxHeartbeats 40000000 in
set_option maxRecDepth 100000 in
theorem c_X4_numbersOf (l : Launch) (D : va_G) (cI cZ : ClassId) (q : Nat → Nat) (c : Mm) (sz : Nat) (v0 : Int32) (R : Int32 × Mm) (hf : X4_numbersOf v0 c = some R) : m_Mi l yX4_numbersOf cX4_numbersOf 1 (some .int) 0 0 D cI cZ (mkC q cI cZ) 50 q [.int v0] c sz R := by
  refine m_enter_i (own := RX4) (by decide) rfl (Nat.le_of_ble_eq_true rfl) ?_
  intro p e s m args below meth cd Q X ret
  have hx := X.1
  have hb := X.2.1
  intro H locs ls hS hl
  have hl : lv_has ls 1 [(0, .int v0)] := hl
  unfold X4_numbersOf at hf
  refine lv_iload_n hx hb dX4_numbersOf_0 rfl (lv_at hl 0 rfl) ?_
  by_cases h_98 : v0 = (98 : Int32)
  · have hf := o_t h_98 hf
    refine lv_lookup (off := 51) (tgt := 52) hx hb dX4_numbersOf_1 (by decide) (by rw [h_98]; decide) (by decide) ?_
    refine lv_iconst (v := (5 : Int32)) hx hb dX4_numbersOf_52 (by decide) ?_
    exact ret hf hS dX4_numbersOf_53
  have hf := o_f h_98 hf
  by_cases h_104 : v0 = (104 : Int32)
  · have hf := o_t h_104 hf
    refine lv_lookup (off := 57) (tgt := 58) hx hb dX4_numbersOf_1 (by decide) (by rw [h_104]; decide) (by decide) ?_
    refine lv_iconst (v := (1 : Int32)) hx hb dX4_numbersOf_58 (by decide) ?_
    exact ret hf hS dX4_numbersOf_59
  have hf := o_f h_104 hf
  by_cases h_108 : v0 = (108 : Int32)
  · have hf := o_t h_108 hf
    refine lv_lookup (off := 59) (tgt := 60) hx hb dX4_numbersOf_1 (by decide) (by rw [h_108]; decide) (by decide) ?_
    refine lv_iconst (v := (2 : Int32)) hx hb dX4_numbersOf_60 (by decide) ?_
    exact ret hf hS dX4_numbersOf_61
  have hf := o_f h_108 hf
  by_cases h_110 : v0 = (110 : Int32)
  · have hf := o_t h_110 hf
    refine lv_lookup (off := 53) (tgt := 54) hx hb dX4_numbersOf_1 (by decide) (by rw [h_110]; decide) (by decide) ?_
    refine lv_iconst (v := (2 : Int32)) hx hb dX4_numbersOf_54 (by decide) ?_
    exact ret hf hS dX4_numbersOf_55
  have hf := o_f h_110 hf
  by_cases h_121 : v0 = (121 : Int32)
  · have hf := o_t h_121 hf
    refine lv_lookup (off := 55) (tgt := 56) hx hb dX4_numbersOf_1 (by decide) (by rw [h_121]; decide) (by decide) ?_
    refine lv_iconst (v := (1 : Int32)) hx hb dX4_numbersOf_56 (by decide) ?_
    exact ret hf hS dX4_numbersOf_57
  have hf := o_f h_121 hf
  refine lv_lookup (off := 61) (tgt := 62) hx hb dX4_numbersOf_1 (by decide) ((lv_osw h_98 (by decide)).trans ((lv_osw h_104 (by decide)).trans ((lv_osw h_108 (by decide)).trans ((lv_osw h_110 (by decide)).trans ((lv_osw h_121 (by decide)).trans rfl))))) (by decide) ?_
  refine lv_iconst (v := (0 : Int32)) hx hb dX4_numbersOf_62 (by decide) ?_
  exact ret hf hS dX4_numbersOf_63

set_option maxHeartbeats 40000000 in
set_option maxRecDepth 100000 in
theorem c_X9_isWithin (l : Launch) (D : va_G) (cI cZ : ClassId) (q : Nat → Nat) (c : Mm) (sz : Nat) (v0 : Int32) (v1 : Int32) (v2 : Int32) (R : Int32 × Mm) (hf : X9_isWithin v0 v1 v2 c = some R) : m_Mi l yX9_isWithin cX9_isWithin 3 (some .boolean) 0 0 D cI cZ (mkC q cI cZ) 50 q [.int v0, .int v1, .int v2] c sz R := by
  refine m_enter_z (own := RX9) (by decide) rfl (Nat.le_of_ble_eq_true rfl) ?_
  intro p e s m args below meth cd Q X ret
  have hx := X.1
  have hb := X.2.1
  intro H locs ls hS hl
  have hl : lv_has ls 3 [(0, .int v0), (1, .int v1), (2, .int v2)] := hl
  unfold X9_isWithin at hf
  refine lv_iload_n hx hb dX9_isWithin_0 rfl (lv_at hl 0 rfl) ?_
  refine lv_iload_n hx hb dX9_isWithin_1 rfl (lv_at hl 1 rfl) ?_
  refine lv_icmp_lt (tgt := 14) hx hb dX9_isWithin_2 (by decide) (fun hc => ?_) (fun hc => ?_)
  · have hf := o_t hc hf
    refine lv_iconst (v := (0 : Int32)) hx hb dX9_isWithin_14 (by decide) ?_
    exact ret (Or.inl rfl) hf hS dX9_isWithin_15
  · have hf := o_f hc hf
    refine lv_iload_n hx hb dX9_isWithin_5 rfl (lv_at hl 0 rfl) ?_
    refine lv_iload_n hx hb dX9_isWithin_6 rfl (lv_at hl 2 rfl) ?_
    refine lv_icmp_gt (tgt := 14) hx hb dX9_isWithin_7 (by decide) (fun hc => ?_) (fun hc => ?_)
    · have hf := o_t hc hf
      refine lv_iconst (v := (0 : Int32)) hx hb dX9_isWithin_14 (by decide) ?_
      exact ret (Or.inl rfl) hf hS dX9_isWithin_15
    · have hf := o_f hc hf
      refine lv_iconst (v := (1 : Int32)) hx hb dX9_isWithin_10 (by decide) ?_
      refine lv_goto (tgt := 15) hx hb dX9_isWithin_11 (by decide) ?_
      exact ret (Or.inr rfl) hf hS dX9_isWithin_15

set_option maxHeartbeats 40000000 in
set_option maxRecDepth 100000 in
theorem c_X4_figureAt (l : Launch) (D : va_G) (cI cZ : ClassId) (q : Nat → Nat) (c : Mm) (sz : Nat) (v1 : Int32) (R : Int32 × Mm) (hf : X4_figureAt v1 c = some R) : m_Mi l yX4_figureAt cX4_figureAt 3 (some .int) 1 22 D cI cZ (mkC q cI cZ) 50 q [.ref (q 3), .int v1] c sz R := by
  refine m_enter_i (own := RX4) (by decide) rfl (Nat.le_of_ble_eq_true rfl) ?_
  intro p e s m args below meth cd Q X ret
  have hx := X.1
  have hb := X.2.1
  intro H locs ls hS hl
  have hl : lv_has ls 3 [(0, .ref (q 3)), (1, .int v1)] := hl
  unfold X4_figureAt at hf
  refine lv_aload_n hx hb dX4_figureAt_0 rfl (lv_at hl 0 rfl) ?_
  refine m_get X hS fl_4_15 (vC_3_0 q cI cZ _) dX4_figureAt_1 ?_
  refine lv_iload_n hx hb dX4_figureAt_4 rfl (lv_at hl 1 rfl) ?_
  obtain ⟨r1, c2, hq, hf⟩ := o_cal hf
  refine m_calli (rest := []) X hS hl.1 (c_X8_letterAt l D cI cZ q _ _ v1 _ hq) cv_4_38 (oC_1 q cI cZ _) rfl rfl ⟨Nat.le_of_ble_eq_true rfl, Nat.le_of_ble_eq_true rfl⟩ ⟨Nat.zero_le _, Nat.zero_le _⟩ (Nat.le_of_ble_eq_true rfl) dX4_figureAt_5 (fun H locs hS => ?_)
  refine lv_istore_n (lv' := [(2, .int r1), (0, .ref (q 3)), (1, .int v1)]) hx hb dX4_figureAt_8 rfl hl (by decide) rfl (fun ls hl => ?_)
  refine lv_iload_n hx hb dX4_figureAt_9 rfl (lv_at hl 0 rfl) ?_
  refine lv_bipush (v := (48 : Int32)) hx hb dX4_figureAt_10 (by decide) ?_
  refine lv_bipush (v := (57 : Int32)) hx hb dX4_figureAt_12 (by decide) ?_
  obtain ⟨r3, c4, hq, hf⟩ := o_cal hf
  refine m_calln (rest := []) X hS hl.1 X.2.2.2.2.2.2.2.2.1 (c_X9_isWithin l D cI cZ q _ _ r1 (48 : Int32) (57 : Int32) _ hq) cn_X9_isWithin rfl rfl ⟨Nat.le_of_ble_eq_true rfl, Nat.le_of_ble_eq_true rfl⟩ ⟨Nat.zero_le _, Nat.zero_le _⟩ (Nat.le_of_ble_eq_true rfl) dX4_figureAt_14 (fun H locs hS => ?_)
  refine lv_if_eq (tgt := 27) hx hb dX4_figureAt_17 (by decide) (fun hc => ?_) (fun hc => ?_)
  · have hf := o_t hc hf
    refine lv_bipush (v := (-4 : Int32)) hx hb dX4_figureAt_27 (by decide) ?_
    exact ret hf hS dX4_figureAt_29
  · have hf := o_f hc hf
    refine lv_iload_n hx hb dX4_figureAt_20 rfl (lv_at hl 0 rfl) ?_
    refine lv_bipush (v := (48 : Int32)) hx hb dX4_figureAt_21 (by decide) ?_
    refine lv_isub hx hb dX4_figureAt_23 ?_
    refine lv_goto (tgt := 29) hx hb dX4_figureAt_24 (by decide) ?_
    exact ret hf hS dX4_figureAt_29

set_option maxHeartbeats 40000000 in
set_option maxRecDepth 100000 in
theorem c_X4_readNumber (l : Launch) (D : va_G) (cI cZ : ClassId) (q : Nat → Nat) (c : Mm) (sz : Nat) (v1 : Int32) (v2 : Int32) (v3 : Int32) (R : Int32 × Mm) (hf : X4_readNumber v1 v2 v3 c = some R) : m_Mi l yX4_readNumber cX4_readNumber 8 (some .int) 2 44 D cI cZ (mkC q cI cZ) 50 q [.ref (q 3), .int v1, .int v2, .int v3] c sz R := by
  refine m_enter_i (own := RX4) (by decide) rfl (Nat.le_of_ble_eq_true rfl) ?_
  intro p e s m args below meth cd Q X ret
  have hx := X.1
  have hb := X.2.1
  have k63 : ∀ (v2 : Int32) (v3 : Int32) (v5 : Int32) (v6 : Int32) (c : Mm), X4_readNumber_j63 v2 v3 v5 v6 c = some R → m_G p l e (m_rm 2 44) s m args below meth cd Q D (mkC q cI cZ) 50 q 8 63 [(0, .ref (q 3)), (2, .int v2), (3, .int v3), (5, .int v5), (6, .int v6)] [] c := by
    intro v2 v3 v5 v6 c hf H locs ls hS hl
    unfold X4_readNumber_j63 at hf
    refine lv_aload_n hx hb dX4_readNumber_63 rfl (lv_at hl 0 rfl) ?_
    refine m_get X hS fl_4_9 (vC_3_2 q cI cZ _) dX4_readNumber_64 ?_
    refine lv_iload_n hx hb dX4_readNumber_67 rfl (lv_at hl 1 rfl) ?_
    refine lv_iload hx hb dX4_readNumber_68 (lv_at hl 3 rfl) ?_
    obtain ⟨hg, hf⟩ := o_gi hf
    refine m_ist X hS (aC_20 q cI cZ) hg dX4_readNumber_70 (fun c1 ec H locs hS => ?_)
    have hf := o_bnd hf c1 ec
    refine lv_aload_n hx hb dX4_readNumber_71 rfl (lv_at hl 0 rfl) ?_
    refine m_get X hS fl_4_15 (vC_3_0 q cI cZ _) dX4_readNumber_72 ?_
    refine lv_iload hx hb dX4_readNumber_75 (lv_at hl 4 rfl) ?_
    obtain ⟨r2, c3, hq, hf⟩ := o_cal hf
    refine m_calli (rest := []) X hS hl.1 (c_X8_letterAt l D cI cZ q _ _ v6 _ hq) cv_4_38 (oC_1 q cI cZ _) rfl rfl ⟨Nat.le_of_ble_eq_true rfl, Nat.le_of_ble_eq_true rfl⟩ ⟨Nat.zero_le _, Nat.zero_le _⟩ (Nat.le_of_ble_eq_true rfl) dX4_readNumber_77 (fun H locs hS => ?_)
    refine lv_iload_n hx hb dX4_readNumber_80 rfl (lv_at hl 2 rfl) ?_
    refine lv_icmp_ne (tgt := 91) hx hb dX4_readNumber_81 (by decide) (fun hc => ?_) (fun hc => ?_)
    · have hf := o_f hc hf
      refine lv_bipush (v := (-4 : Int32)) hx hb dX4_readNumber_91 (by decide) ?_
      exact ret hf hS dX4_readNumber_93
    · have hf := o_t hc hf
      refine lv_iload hx hb dX4_readNumber_84 (lv_at hl 4 rfl) ?_
      refine lv_iconst (v := (1 : Int32)) hx hb dX4_readNumber_86 (by decide) ?_
      refine lv_iadd hx hb dX4_readNumber_87 ?_
      refine lv_goto (tgt := 93) hx hb dX4_readNumber_88 (by decide) ?_
      exact ret hf hS dX4_readNumber_93
  intro H locs ls hS hl
  have hl : lv_has ls 8 [(0, .ref (q 3)), (1, .int v1), (2, .int v2), (3, .int v3)] := hl
  unfold X4_readNumber at hf
  refine lv_aload_n hx hb dX4_readNumber_0 rfl (lv_at hl 0 rfl) ?_
  refine lv_iload_n hx hb dX4_readNumber_1 rfl (lv_at hl 1 rfl) ?_
  obtain ⟨r4, c5, hq, hf⟩ := o_cal hf
  refine m_calli (rest := []) X hS hl.1 (c_X4_figureAt l D cI cZ q _ _ v1 _ hq) cv_4_52 (oC_3 q cI cZ _) rfl rfl ⟨Nat.le_of_ble_eq_true rfl, Nat.le_of_ble_eq_true rfl⟩ ⟨Nat.zero_le _, Nat.zero_le _⟩ (Nat.le_of_ble_eq_true rfl) dX4_readNumber_2 (fun H locs hS => ?_)
  refine lv_istore (lv' := [(4, .int r4), (0, .ref (q 3)), (1, .int v1), (2, .int v2), (3, .int v3)]) hx hb dX4_readNumber_5 hl (by decide) rfl (fun ls hl => ?_)
  refine lv_iload hx hb dX4_readNumber_7 (lv_at hl 0 rfl) ?_
  refine lv_bipush (v := (-4 : Int32)) hx hb dX4_readNumber_9 (by decide) ?_
  refine lv_icmp_eq (tgt := 23) hx hb dX4_readNumber_11 (by decide) (fun hc => ?_) (fun hc => ?_)
  · have hf := o_t hc hf
    refine lv_bipush (v := (-4 : Int32)) hx hb dX4_readNumber_23 (by decide) ?_
    exact ret hf hS dX4_readNumber_25
  · have hf := o_f hc hf
    refine lv_iload_n hx hb dX4_readNumber_14 rfl (lv_at hl 3 rfl) ?_
    refine lv_if_lt (tgt := 23) hx hb dX4_readNumber_15 (by decide) (fun hc => ?_) (fun hc => ?_)
    · have hf := o_t hc hf
      refine lv_bipush (v := (-4 : Int32)) hx hb dX4_readNumber_23 (by decide) ?_
      exact ret hf hS dX4_readNumber_25
    · have hf := o_f hc hf
      refine lv_iload_n hx hb dX4_readNumber_18 rfl (lv_at hl 3 rfl) ?_
      refine lv_iconst (v := (5 : Int32)) hx hb dX4_readNumber_19 (by decide) ?_
      refine lv_icmp_lt (tgt := 26) hx hb dX4_readNumber_20 (by decide) (fun hc => ?_) (fun hc => ?_)
      · have hf := o_t hc hf
        refine lv_iload hx hb dX4_readNumber_26 (lv_at hl 0 rfl) ?_
        refine lv_istore (lv' := [(5, .int r4), (4, .int r4), (0, .ref (q 3)), (1, .int v1), (2, .int v2), (3, .int v3)]) hx hb dX4_readNumber_28 hl (by decide) rfl (fun ls hl => ?_)
        refine lv_iload_n hx hb dX4_readNumber_30 rfl (lv_at hl 3 rfl) ?_
        refine lv_iconst (v := (1 : Int32)) hx hb dX4_readNumber_31 (by decide) ?_
        refine lv_iadd hx hb dX4_readNumber_32 ?_
        refine lv_topi (fun x6 ex => ?_)
        have hf := o_bnd hf x6 ex
        refine lv_istore (lv' := [(6, .int x6), (5, .int r4), (4, .int r4), (0, .ref (q 3)), (1, .int v1), (2, .int v2), (3, .int v3)]) hx hb dX4_readNumber_33 hl (by decide) rfl (fun ls hl => ?_)
        refine lv_aload_n hx hb dX4_readNumber_35 rfl (lv_at hl 3 rfl) ?_
        refine lv_iload hx hb dX4_readNumber_36 (lv_at hl 0 rfl) ?_
        obtain ⟨r7, c8, hq, hf⟩ := o_cal hf
        refine m_calli (rest := []) X hS hl.1 (c_X4_figureAt l D cI cZ q _ _ x6 _ hq) cv_4_52 (oC_3 q cI cZ _) rfl rfl ⟨Nat.le_of_ble_eq_true rfl, Nat.le_of_ble_eq_true rfl⟩ ⟨Nat.zero_le _, Nat.zero_le _⟩ (Nat.le_of_ble_eq_true rfl) dX4_readNumber_38 (fun H locs hS => ?_)
        refine lv_istore (lv' := [(7, .int r7), (6, .int x6), (5, .int r4), (4, .int r4), (0, .ref (q 3)), (1, .int v1), (2, .int v2), (3, .int v3)]) hx hb dX4_readNumber_41 hl (by decide) rfl (fun ls hl => ?_)
        refine lv_iload hx hb dX4_readNumber_43 (lv_at hl 0 rfl) ?_
        refine lv_bipush (v := (-4 : Int32)) hx hb dX4_readNumber_45 (by decide) ?_
        refine lv_icmp_eq (tgt := 63) hx hb dX4_readNumber_47 (by decide) (fun hc => ?_) (fun hc => ?_)
        · have hf := o_t hc hf
          exact k63 v2 v3 r4 x6 _ hf H locs ls hS (lv_sub hl [4, 6, 7, 2, 1] rfl)
        · have hf := o_f hc hf
          refine lv_bipush (v := (10 : Int32)) hx hb dX4_readNumber_50 (by decide) ?_
          refine lv_iload hx hb dX4_readNumber_52 (lv_at hl 2 rfl) ?_
          refine lv_imul hx hb dX4_readNumber_54 ?_
          refine lv_iload hx hb dX4_readNumber_55 (lv_at hl 0 rfl) ?_
          refine lv_iadd hx hb dX4_readNumber_57 ?_
          refine lv_topi (fun x9 ex => ?_)
          have hf := o_bnd hf x9 ex
          refine lv_istore (lv' := [(5, .int x9), (7, .int r7), (6, .int x6), (4, .int r4), (0, .ref (q 3)), (1, .int v1), (2, .int v2), (3, .int v3)]) hx hb dX4_readNumber_58 hl (by decide) rfl (fun ls hl => ?_)
          obtain ⟨x10, ex⟩ : ∃ y : Int32, y = x6 + (1 : Int32) := ⟨_, rfl⟩
          have hf := o_bnd hf x10 ex
          refine lv_iinc (v := x10) (lv' := [(6, .int x10), (5, .int x9), (7, .int r7), (4, .int r4), (0, .ref (q 3)), (1, .int v1), (2, .int v2), (3, .int v3)]) hx hb dX4_readNumber_60 hl (k := 2) rfl (by rw [ex]; rfl) (by decide) rfl (fun ls hl => ?_)
          exact k63 v2 v3 x9 x10 _ hf H locs ls hS (lv_sub hl [4, 6, 7, 1, 0] rfl)
      · have hf := o_f hc hf
        refine lv_bipush (v := (-4 : Int32)) hx hb dX4_readNumber_23 (by decide) ?_
        exact ret hf hS dX4_readNumber_25

set_option maxHeartbeats 40000000 in
set_option maxRecDepth 100000 in
theorem c_X4_takeBoat (l : Launch) (D : va_G) (cI cZ : ClassId) (q : Nat → Nat) (c : Mm) (sz : Nat) (R : Int32 × Mm) (hf : X4_takeBoat c = some R) : m_Mi l yX4_takeBoat cX4_takeBoat 2 (some .boolean) 1 22 D cI cZ (mkC q cI cZ) 50 q [.ref (q 3)] c sz R := by
  refine m_enter_z (own := RX4) (by decide) rfl (Nat.le_of_ble_eq_true rfl) ?_
  intro p e s m args below meth cd Q X ret
  have hx := X.1
  have hb := X.2.1
  intro H locs ls hS hl
  have hl : lv_has ls 2 [(0, .ref (q 3))] := hl
  unfold X4_takeBoat at hf
  refine lv_aload_n hx hb dX4_takeBoat_0 rfl (lv_at hl 0 rfl) ?_
  refine m_get X hS fl_4_19 (vC_3_1 q cI cZ _) dX4_takeBoat_1 ?_
  refine m_get X hS fl_4_75 (vC_2_0 q cI cZ _) dX4_takeBoat_4 ?_
  refine lv_topi (fun x1 ex => ?_)
  have hf := o_bnd hf x1 ex
  refine lv_istore_n (lv' := [(1, .int x1), (0, .ref (q 3))]) hx hb dX4_takeBoat_7 rfl hl (by decide) rfl (fun ls hl => ?_)
  refine lv_iload_n hx hb dX4_takeBoat_8 rfl (lv_at hl 0 rfl) ?_
  refine lv_bipush (v := (6 : Int32)) hx hb dX4_takeBoat_9 (by decide) ?_
  refine lv_icmp_ge (tgt := 86) hx hb dX4_takeBoat_11 (by decide) (fun hc => ?_) (fun hc => ?_)
  · have hf := o_t hc hf
    refine lv_iconst (v := (0 : Int32)) hx hb dX4_takeBoat_86 (by decide) ?_
    exact ret (Or.inl rfl) hf hS dX4_takeBoat_87
  · have hf := o_f hc hf
    refine lv_aload_n hx hb dX4_takeBoat_14 rfl (lv_at hl 1 rfl) ?_
    refine m_get X hS fl_4_9 (vC_3_2 q cI cZ _) dX4_takeBoat_15 ?_
    refine lv_iconst (v := (0 : Int32)) hx hb dX4_takeBoat_18 (by decide) ?_
    refine m_ildN X hS 0 (by decide +kernel) (aC_20 q cI cZ) (by decide +kernel) dX4_takeBoat_19 ?_
    refine lv_iconst (v := (0 : Int32)) hx hb dX4_takeBoat_20 (by decide) ?_
    refine lv_bipush (v := (60 : Int32)) hx hb dX4_takeBoat_21 (by decide) ?_
    obtain ⟨r2, c3, hq, hf⟩ := o_cal hf
    refine m_calln (rest := []) X hS hl.1 X.2.2.2.2.2.2.2.2.1 (c_X9_isWithin l D cI cZ q _ _ (c 20 0) (0 : Int32) (60 : Int32) _ hq) cn_X9_isWithin rfl rfl ⟨Nat.le_of_ble_eq_true rfl, Nat.le_of_ble_eq_true rfl⟩ ⟨Nat.zero_le _, Nat.zero_le _⟩ (Nat.le_of_ble_eq_true rfl) dX4_takeBoat_23 (fun H locs hS => ?_)
    refine lv_if_eq (tgt := 86) hx hb dX4_takeBoat_26 (by decide) (fun hc => ?_) (fun hc => ?_)
    · have hf := o_t hc hf
      refine lv_iconst (v := (0 : Int32)) hx hb dX4_takeBoat_86 (by decide) ?_
      exact ret (Or.inl rfl) hf hS dX4_takeBoat_87
    · have hf := o_f hc hf
      refine lv_aload_n hx hb dX4_takeBoat_29 rfl (lv_at hl 1 rfl) ?_
      refine m_get X hS fl_4_9 (vC_3_2 q cI cZ _) dX4_takeBoat_30 ?_
      refine lv_iconst (v := (1 : Int32)) hx hb dX4_takeBoat_33 (by decide) ?_
      refine m_ildN X hS 1 (by decide +kernel) (aC_20 q cI cZ) (by decide +kernel) dX4_takeBoat_34 ?_
      refine lv_iconst (v := (0 : Int32)) hx hb dX4_takeBoat_35 (by decide) ?_
      refine lv_iconst (v := (1 : Int32)) hx hb dX4_takeBoat_36 (by decide) ?_
      obtain ⟨r4, c5, hq, hf⟩ := o_cal hf
      refine m_calln (rest := []) X hS hl.1 X.2.2.2.2.2.2.2.2.1 (c_X9_isWithin l D cI cZ q _ _ (c3 20 1) (0 : Int32) (1 : Int32) _ hq) cn_X9_isWithin rfl rfl ⟨Nat.le_of_ble_eq_true rfl, Nat.le_of_ble_eq_true rfl⟩ ⟨Nat.zero_le _, Nat.zero_le _⟩ (Nat.le_of_ble_eq_true rfl) dX4_takeBoat_37 (fun H locs hS => ?_)
      refine lv_if_eq (tgt := 86) hx hb dX4_takeBoat_40 (by decide) (fun hc => ?_) (fun hc => ?_)
      · have hf := o_t hc hf
        refine lv_iconst (v := (0 : Int32)) hx hb dX4_takeBoat_86 (by decide) ?_
        exact ret (Or.inl rfl) hf hS dX4_takeBoat_87
      · have hf := o_f hc hf
        refine lv_aload_n hx hb dX4_takeBoat_43 rfl (lv_at hl 1 rfl) ?_
        refine m_get X hS fl_4_9 (vC_3_2 q cI cZ _) dX4_takeBoat_44 ?_
        refine lv_iconst (v := (2 : Int32)) hx hb dX4_takeBoat_47 (by decide) ?_
        refine m_ildN X hS 2 (by decide +kernel) (aC_20 q cI cZ) (by decide +kernel) dX4_takeBoat_48 ?_
        refine lv_iconst (v := (1 : Int32)) hx hb dX4_takeBoat_49 (by decide) ?_
        refine lv_iconst (v := (3 : Int32)) hx hb dX4_takeBoat_50 (by decide) ?_
        obtain ⟨r6, c7, hq, hf⟩ := o_cal hf
        refine m_calln (rest := []) X hS hl.1 X.2.2.2.2.2.2.2.2.1 (c_X9_isWithin l D cI cZ q _ _ (c5 20 2) (1 : Int32) (3 : Int32) _ hq) cn_X9_isWithin rfl rfl ⟨Nat.le_of_ble_eq_true rfl, Nat.le_of_ble_eq_true rfl⟩ ⟨Nat.zero_le _, Nat.zero_le _⟩ (Nat.le_of_ble_eq_true rfl) dX4_takeBoat_51 (fun H locs hS => ?_)
        refine lv_if_eq (tgt := 86) hx hb dX4_takeBoat_54 (by decide) (fun hc => ?_) (fun hc => ?_)
        · have hf := o_t hc hf
          refine lv_iconst (v := (0 : Int32)) hx hb dX4_takeBoat_86 (by decide) ?_
          exact ret (Or.inl rfl) hf hS dX4_takeBoat_87
        · have hf := o_f hc hf
          refine lv_aload_n hx hb dX4_takeBoat_57 rfl (lv_at hl 1 rfl) ?_
          refine m_get X hS fl_4_9 (vC_3_2 q cI cZ _) dX4_takeBoat_58 ?_
          refine lv_iconst (v := (3 : Int32)) hx hb dX4_takeBoat_61 (by decide) ?_
          refine m_ildN X hS 3 (by decide +kernel) (aC_20 q cI cZ) (by decide +kernel) dX4_takeBoat_62 ?_
          refine lv_iconst (v := (0 : Int32)) hx hb dX4_takeBoat_63 (by decide) ?_
          refine lv_bipush (v := (9 : Int32)) hx hb dX4_takeBoat_64 (by decide) ?_
          obtain ⟨r8, c9, hq, hf⟩ := o_cal hf
          refine m_calln (rest := []) X hS hl.1 X.2.2.2.2.2.2.2.2.1 (c_X9_isWithin l D cI cZ q _ _ (c7 20 3) (0 : Int32) (9 : Int32) _ hq) cn_X9_isWithin rfl rfl ⟨Nat.le_of_ble_eq_true rfl, Nat.le_of_ble_eq_true rfl⟩ ⟨Nat.zero_le _, Nat.zero_le _⟩ (Nat.le_of_ble_eq_true rfl) dX4_takeBoat_66 (fun H locs hS => ?_)
          refine lv_if_eq (tgt := 86) hx hb dX4_takeBoat_69 (by decide) (fun hc => ?_) (fun hc => ?_)
          · have hf := o_t hc hf
            refine lv_iconst (v := (0 : Int32)) hx hb dX4_takeBoat_86 (by decide) ?_
            exact ret (Or.inl rfl) hf hS dX4_takeBoat_87
          · have hf := o_f hc hf
            refine lv_aload_n hx hb dX4_takeBoat_72 rfl (lv_at hl 1 rfl) ?_
            refine m_get X hS fl_4_9 (vC_3_2 q cI cZ _) dX4_takeBoat_73 ?_
            refine lv_iconst (v := (4 : Int32)) hx hb dX4_takeBoat_76 (by decide) ?_
            refine m_ildN X hS 4 (by decide +kernel) (aC_20 q cI cZ) (by decide +kernel) dX4_takeBoat_77 ?_
            refine lv_iconst (v := (0 : Int32)) hx hb dX4_takeBoat_78 (by decide) ?_
            refine lv_iconst (v := (3 : Int32)) hx hb dX4_takeBoat_79 (by decide) ?_
            obtain ⟨r10, c11, hq, hf⟩ := o_cal hf
            refine m_calln (rest := []) X hS hl.1 X.2.2.2.2.2.2.2.2.1 (c_X9_isWithin l D cI cZ q _ _ (c9 20 4) (0 : Int32) (3 : Int32) _ hq) cn_X9_isWithin rfl rfl ⟨Nat.le_of_ble_eq_true rfl, Nat.le_of_ble_eq_true rfl⟩ ⟨Nat.zero_le _, Nat.zero_le _⟩ (Nat.le_of_ble_eq_true rfl) dX4_takeBoat_80 (fun H locs hS => ?_)
            refine lv_if_ne (tgt := 88) hx hb dX4_takeBoat_83 (by decide) (fun hc => ?_) (fun hc => ?_)
            · have hf := o_f hc hf
              refine lv_aload_n hx hb dX4_takeBoat_88 rfl (lv_at hl 1 rfl) ?_
              refine m_get X hS fl_4_19 (vC_3_1 q cI cZ _) dX4_takeBoat_89 ?_
              refine m_get X hS fl_4_78 (vC_2_6 q cI cZ _) dX4_takeBoat_92 ?_
              refine lv_iload_n hx hb dX4_takeBoat_95 rfl (lv_at hl 0 rfl) ?_
              refine lv_aload_n hx hb dX4_takeBoat_96 rfl (lv_at hl 1 rfl) ?_
              refine m_get X hS fl_4_9 (vC_3_2 q cI cZ _) dX4_takeBoat_97 ?_
              refine lv_iconst (v := (0 : Int32)) hx hb dX4_takeBoat_100 (by decide) ?_
              refine m_ildN X hS 0 (by decide +kernel) (aC_20 q cI cZ) (by decide +kernel) dX4_takeBoat_101 ?_
              obtain ⟨hg, hf⟩ := o_gi hf
              refine m_ist X hS (aC_13 q cI cZ) hg dX4_takeBoat_102 (fun c12 ec H locs hS => ?_)
              have hf := o_bnd hf c12 ec
              refine lv_aload_n hx hb dX4_takeBoat_103 rfl (lv_at hl 1 rfl) ?_
              refine m_get X hS fl_4_19 (vC_3_1 q cI cZ _) dX4_takeBoat_104 ?_
              refine m_get X hS fl_4_81 (vC_2_7 q cI cZ _) dX4_takeBoat_107 ?_
              refine lv_iload_n hx hb dX4_takeBoat_110 rfl (lv_at hl 0 rfl) ?_
              refine lv_aload_n hx hb dX4_takeBoat_111 rfl (lv_at hl 1 rfl) ?_
              refine m_get X hS fl_4_9 (vC_3_2 q cI cZ _) dX4_takeBoat_112 ?_
              refine lv_iconst (v := (1 : Int32)) hx hb dX4_takeBoat_115 (by decide) ?_
              refine m_ildN X hS 1 (by decide +kernel) (aC_20 q cI cZ) (by decide +kernel) dX4_takeBoat_116 ?_
              obtain ⟨hg, hf⟩ := o_gi hf
              refine m_ist X hS (aC_14 q cI cZ) hg dX4_takeBoat_117 (fun c13 ec H locs hS => ?_)
              have hf := o_bnd hf c13 ec
              refine lv_aload_n hx hb dX4_takeBoat_118 rfl (lv_at hl 1 rfl) ?_
              refine m_get X hS fl_4_19 (vC_3_1 q cI cZ _) dX4_takeBoat_119 ?_
              refine m_get X hS fl_4_84 (vC_2_8 q cI cZ _) dX4_takeBoat_122 ?_
              refine lv_iload_n hx hb dX4_takeBoat_125 rfl (lv_at hl 0 rfl) ?_
              refine lv_aload_n hx hb dX4_takeBoat_126 rfl (lv_at hl 1 rfl) ?_
              refine m_get X hS fl_4_9 (vC_3_2 q cI cZ _) dX4_takeBoat_127 ?_
              refine lv_iconst (v := (2 : Int32)) hx hb dX4_takeBoat_130 (by decide) ?_
              refine m_ildN X hS 2 (by decide +kernel) (aC_20 q cI cZ) (by decide +kernel) dX4_takeBoat_131 ?_
              obtain ⟨hg, hf⟩ := o_gi hf
              refine m_ist X hS (aC_15 q cI cZ) hg dX4_takeBoat_132 (fun c14 ec H locs hS => ?_)
              have hf := o_bnd hf c14 ec
              refine lv_aload_n hx hb dX4_takeBoat_133 rfl (lv_at hl 1 rfl) ?_
              refine m_get X hS fl_4_19 (vC_3_1 q cI cZ _) dX4_takeBoat_134 ?_
              refine m_get X hS fl_4_87 (vC_2_9 q cI cZ _) dX4_takeBoat_137 ?_
              refine lv_iload_n hx hb dX4_takeBoat_140 rfl (lv_at hl 0 rfl) ?_
              refine lv_aload_n hx hb dX4_takeBoat_141 rfl (lv_at hl 1 rfl) ?_
              refine m_get X hS fl_4_9 (vC_3_2 q cI cZ _) dX4_takeBoat_142 ?_
              refine lv_iconst (v := (3 : Int32)) hx hb dX4_takeBoat_145 (by decide) ?_
              refine m_ildN X hS 3 (by decide +kernel) (aC_20 q cI cZ) (by decide +kernel) dX4_takeBoat_146 ?_
              obtain ⟨hg, hf⟩ := o_gi hf
              refine m_ist X hS (aC_16 q cI cZ) hg dX4_takeBoat_147 (fun c15 ec H locs hS => ?_)
              have hf := o_bnd hf c15 ec
              refine lv_aload_n hx hb dX4_takeBoat_148 rfl (lv_at hl 1 rfl) ?_
              refine m_get X hS fl_4_19 (vC_3_1 q cI cZ _) dX4_takeBoat_149 ?_
              refine m_get X hS fl_4_90 (vC_2_10 q cI cZ _) dX4_takeBoat_152 ?_
              refine lv_iload_n hx hb dX4_takeBoat_155 rfl (lv_at hl 0 rfl) ?_
              refine lv_aload_n hx hb dX4_takeBoat_156 rfl (lv_at hl 1 rfl) ?_
              refine m_get X hS fl_4_9 (vC_3_2 q cI cZ _) dX4_takeBoat_157 ?_
              refine lv_iconst (v := (4 : Int32)) hx hb dX4_takeBoat_160 (by decide) ?_
              refine m_ildN X hS 4 (by decide +kernel) (aC_20 q cI cZ) (by decide +kernel) dX4_takeBoat_161 ?_
              obtain ⟨hg, hf⟩ := o_gi hf
              refine m_ist X hS (aC_17 q cI cZ) hg dX4_takeBoat_162 (fun c16 ec H locs hS => ?_)
              have hf := o_bnd hf c16 ec
              refine lv_aload_n hx hb dX4_takeBoat_163 rfl (lv_at hl 1 rfl) ?_
              refine m_get X hS fl_4_19 (vC_3_1 q cI cZ _) dX4_takeBoat_164 ?_
              refine lv_iload_n hx hb dX4_takeBoat_167 rfl (lv_at hl 0 rfl) ?_
              refine lv_iconst (v := (1 : Int32)) hx hb dX4_takeBoat_168 (by decide) ?_
              refine lv_iadd hx hb dX4_takeBoat_169 ?_
              refine m_put X hS fp_4_75 (pC_2_0 q cI cZ) dX4_takeBoat_170 (fun c17 ec H locs hS => ?_)
              have hf := o_bnd hf c17 ec
              refine lv_iconst (v := (1 : Int32)) hx hb dX4_takeBoat_173 (by decide) ?_
              exact ret (Or.inr rfl) hf hS dX4_takeBoat_174
            · have hf := o_t hc hf
              refine lv_iconst (v := (0 : Int32)) hx hb dX4_takeBoat_86 (by decide) ?_
              exact ret (Or.inl rfl) hf hS dX4_takeBoat_87

set_option maxHeartbeats 40000000 in
set_option maxRecDepth 100000 in
theorem c_X4_takeNarrow (l : Launch) (D : va_G) (cI cZ : ClassId) (q : Nat → Nat) (c : Mm) (sz : Nat) (R : Int32 × Mm) (hf : X4_takeNarrow c = some R) : m_Mi l yX4_takeNarrow cX4_takeNarrow 2 (some .boolean) 0 0 D cI cZ (mkC q cI cZ) 50 q [.ref (q 3)] c sz R := by
  refine m_enter_z (own := RX4) (by decide) rfl (Nat.le_of_ble_eq_true rfl) ?_
  intro p e s m args below meth cd Q X ret
  have hx := X.1
  have hb := X.2.1
  intro H locs ls hS hl
  have hl : lv_has ls 2 [(0, .ref (q 3))] := hl
  unfold X4_takeNarrow at hf
  refine lv_aload_n hx hb dX4_takeNarrow_0 rfl (lv_at hl 0 rfl) ?_
  refine m_get X hS fl_4_19 (vC_3_1 q cI cZ _) dX4_takeNarrow_1 ?_
  refine m_get X hS fl_4_93 (vC_2_1 q cI cZ _) dX4_takeNarrow_4 ?_
  refine lv_topi (fun x1 ex => ?_)
  have hf := o_bnd hf x1 ex
  refine lv_istore_n (lv' := [(1, .int x1), (0, .ref (q 3))]) hx hb dX4_takeNarrow_7 rfl hl (by decide) rfl (fun ls hl => ?_)
  refine lv_iload_n hx hb dX4_takeNarrow_8 rfl (lv_at hl 0 rfl) ?_
  refine lv_iconst (v := (3 : Int32)) hx hb dX4_takeNarrow_9 (by decide) ?_
  refine lv_icmp_ge (tgt := 39) hx hb dX4_takeNarrow_10 (by decide) (fun hc => ?_) (fun hc => ?_)
  · have hf := o_t hc hf
    refine lv_iconst (v := (0 : Int32)) hx hb dX4_takeNarrow_39 (by decide) ?_
    exact ret (Or.inl rfl) hf hS dX4_takeNarrow_40
  · have hf := o_f hc hf
    refine lv_aload_n hx hb dX4_takeNarrow_13 rfl (lv_at hl 1 rfl) ?_
    refine m_get X hS fl_4_9 (vC_3_2 q cI cZ _) dX4_takeNarrow_14 ?_
    refine lv_iconst (v := (0 : Int32)) hx hb dX4_takeNarrow_17 (by decide) ?_
    refine m_ildN X hS 0 (by decide +kernel) (aC_20 q cI cZ) (by decide +kernel) dX4_takeNarrow_18 ?_
    refine lv_aload_n hx hb dX4_takeNarrow_19 rfl (lv_at hl 1 rfl) ?_
    refine m_get X hS fl_4_9 (vC_3_2 q cI cZ _) dX4_takeNarrow_20 ?_
    refine lv_iconst (v := (1 : Int32)) hx hb dX4_takeNarrow_23 (by decide) ?_
    refine m_ildN X hS 1 (by decide +kernel) (aC_20 q cI cZ) (by decide +kernel) dX4_takeNarrow_24 ?_
    refine lv_icmp_gt (tgt := 39) hx hb dX4_takeNarrow_25 (by decide) (fun hc => ?_) (fun hc => ?_)
    · have hf := o_t hc hf
      refine lv_iconst (v := (0 : Int32)) hx hb dX4_takeNarrow_39 (by decide) ?_
      exact ret (Or.inl rfl) hf hS dX4_takeNarrow_40
    · have hf := o_f hc hf
      refine lv_aload_n hx hb dX4_takeNarrow_28 rfl (lv_at hl 1 rfl) ?_
      refine m_get X hS fl_4_9 (vC_3_2 q cI cZ _) dX4_takeNarrow_29 ?_
      refine lv_iconst (v := (1 : Int32)) hx hb dX4_takeNarrow_32 (by decide) ?_
      refine m_ildN X hS 1 (by decide +kernel) (aC_20 q cI cZ) (by decide +kernel) dX4_takeNarrow_33 ?_
      refine lv_bipush (v := (60 : Int32)) hx hb dX4_takeNarrow_34 (by decide) ?_
      refine lv_icmp_le (tgt := 41) hx hb dX4_takeNarrow_36 (by decide) (fun hc => ?_) (fun hc => ?_)
      · have hf := o_t hc hf
        refine lv_aload_n hx hb dX4_takeNarrow_41 rfl (lv_at hl 1 rfl) ?_
        refine m_get X hS fl_4_19 (vC_3_1 q cI cZ _) dX4_takeNarrow_42 ?_
        refine m_get X hS fl_4_96 (vC_2_11 q cI cZ _) dX4_takeNarrow_45 ?_
        refine lv_iload_n hx hb dX4_takeNarrow_48 rfl (lv_at hl 0 rfl) ?_
        refine lv_aload_n hx hb dX4_takeNarrow_49 rfl (lv_at hl 1 rfl) ?_
        refine m_get X hS fl_4_9 (vC_3_2 q cI cZ _) dX4_takeNarrow_50 ?_
        refine lv_iconst (v := (0 : Int32)) hx hb dX4_takeNarrow_53 (by decide) ?_
        refine m_ildN X hS 0 (by decide +kernel) (aC_20 q cI cZ) (by decide +kernel) dX4_takeNarrow_54 ?_
        obtain ⟨hg, hf⟩ := o_gi hf
        refine m_ist X hS (aC_18 q cI cZ) hg dX4_takeNarrow_55 (fun c2 ec H locs hS => ?_)
        have hf := o_bnd hf c2 ec
        refine lv_aload_n hx hb dX4_takeNarrow_56 rfl (lv_at hl 1 rfl) ?_
        refine m_get X hS fl_4_19 (vC_3_1 q cI cZ _) dX4_takeNarrow_57 ?_
        refine m_get X hS fl_4_99 (vC_2_12 q cI cZ _) dX4_takeNarrow_60 ?_
        refine lv_iload_n hx hb dX4_takeNarrow_63 rfl (lv_at hl 0 rfl) ?_
        refine lv_aload_n hx hb dX4_takeNarrow_64 rfl (lv_at hl 1 rfl) ?_
        refine m_get X hS fl_4_9 (vC_3_2 q cI cZ _) dX4_takeNarrow_65 ?_
        refine lv_iconst (v := (1 : Int32)) hx hb dX4_takeNarrow_68 (by decide) ?_
        refine m_ildN X hS 1 (by decide +kernel) (aC_20 q cI cZ) (by decide +kernel) dX4_takeNarrow_69 ?_
        obtain ⟨hg, hf⟩ := o_gi hf
        refine m_ist X hS (aC_19 q cI cZ) hg dX4_takeNarrow_70 (fun c3 ec H locs hS => ?_)
        have hf := o_bnd hf c3 ec
        refine lv_aload_n hx hb dX4_takeNarrow_71 rfl (lv_at hl 1 rfl) ?_
        refine m_get X hS fl_4_19 (vC_3_1 q cI cZ _) dX4_takeNarrow_72 ?_
        refine lv_iload_n hx hb dX4_takeNarrow_75 rfl (lv_at hl 0 rfl) ?_
        refine lv_iconst (v := (1 : Int32)) hx hb dX4_takeNarrow_76 (by decide) ?_
        refine lv_iadd hx hb dX4_takeNarrow_77 ?_
        refine m_put X hS fp_4_93 (pC_2_1 q cI cZ) dX4_takeNarrow_78 (fun c4 ec H locs hS => ?_)
        have hf := o_bnd hf c4 ec
        refine lv_iconst (v := (1 : Int32)) hx hb dX4_takeNarrow_81 (by decide) ?_
        exact ret (Or.inr rfl) hf hS dX4_takeNarrow_82
      · have hf := o_f hc hf
        refine lv_iconst (v := (0 : Int32)) hx hb dX4_takeNarrow_39 (by decide) ?_
        exact ret (Or.inl rfl) hf hS dX4_takeNarrow_40

set_option maxHeartbeats 40000000 in
set_option maxRecDepth 100000 in
theorem c_X4_takeYield (l : Launch) (D : va_G) (cI cZ : ClassId) (q : Nat → Nat) (c : Mm) (sz : Nat) (R : Int32 × Mm) (hf : X4_takeYield c = some R) : m_Mi l yX4_takeYield cX4_takeYield 1 (some .boolean) 1 22 D cI cZ (mkC q cI cZ) 50 q [.ref (q 3)] c sz R := by
  refine m_enter_z (own := RX4) (by decide) rfl (Nat.le_of_ble_eq_true rfl) ?_
  intro p e s m args below meth cd Q X ret
  have hx := X.1
  have hb := X.2.1
  intro H locs ls hS hl
  have hl : lv_has ls 1 [(0, .ref (q 3))] := hl
  unfold X4_takeYield at hf
  refine lv_aload_n hx hb dX4_takeYield_0 rfl (lv_at hl 0 rfl) ?_
  refine m_get X hS fl_4_19 (vC_3_1 q cI cZ _) dX4_takeYield_1 ?_
  refine lv_aload_n hx hb dX4_takeYield_4 rfl (lv_at hl 0 rfl) ?_
  refine m_get X hS fl_4_9 (vC_3_2 q cI cZ _) dX4_takeYield_5 ?_
  refine lv_iconst (v := (0 : Int32)) hx hb dX4_takeYield_8 (by decide) ?_
  refine m_ildN X hS 0 (by decide +kernel) (aC_20 q cI cZ) (by decide +kernel) dX4_takeYield_9 ?_
  refine m_put X hS fp_4_102 (pC_2_2 q cI cZ) dX4_takeYield_10 (fun c1 ec H locs hS => ?_)
  have hf := o_bnd hf c1 ec
  refine lv_aload_n hx hb dX4_takeYield_13 rfl (lv_at hl 0 rfl) ?_
  refine m_get X hS fl_4_9 (vC_3_2 q cI cZ _) dX4_takeYield_14 ?_
  refine lv_iconst (v := (0 : Int32)) hx hb dX4_takeYield_17 (by decide) ?_
  refine m_ildN X hS 0 (by decide +kernel) (aC_20 q cI cZ) (by decide +kernel) dX4_takeYield_18 ?_
  refine lv_iconst (v := (1 : Int32)) hx hb dX4_takeYield_19 (by decide) ?_
  refine lv_bipush (v := (9 : Int32)) hx hb dX4_takeYield_20 (by decide) ?_
  obtain ⟨r2, c3, hq, hf⟩ := o_cal hf
  refine m_calln (rest := []) X hS hl.1 X.2.2.2.2.2.2.2.2.1 (c_X9_isWithin l D cI cZ q _ _ (c1 20 0) (1 : Int32) (9 : Int32) _ hq) cn_X9_isWithin rfl rfl ⟨Nat.le_of_ble_eq_true rfl, Nat.le_of_ble_eq_true rfl⟩ ⟨Nat.zero_le _, Nat.zero_le _⟩ (Nat.le_of_ble_eq_true rfl) dX4_takeYield_22 (fun H locs hS => ?_)
  obtain ⟨hz, hf⟩ := o_gb hf
  exact ret hz hf hS dX4_takeYield_25

set_option maxHeartbeats 40000000 in
set_option maxRecDepth 100000 in
theorem c_X4_takeHeld (l : Launch) (D : va_G) (cI cZ : ClassId) (q : Nat → Nat) (c : Mm) (sz : Nat) (R : Int32 × Mm) (hf : X4_takeHeld c = some R) : m_Mi l yX4_takeHeld cX4_takeHeld 1 (some .boolean) 1 22 D cI cZ (mkC q cI cZ) 50 q [.ref (q 3)] c sz R := by
  refine m_enter_z (own := RX4) (by decide) rfl (Nat.le_of_ble_eq_true rfl) ?_
  intro p e s m args below meth cd Q X ret
  have hx := X.1
  have hb := X.2.1
  intro H locs ls hS hl
  have hl : lv_has ls 1 [(0, .ref (q 3))] := hl
  unfold X4_takeHeld at hf
  refine lv_aload_n hx hb dX4_takeHeld_0 rfl (lv_at hl 0 rfl) ?_
  refine m_get X hS fl_4_19 (vC_3_1 q cI cZ _) dX4_takeHeld_1 ?_
  refine lv_aload_n hx hb dX4_takeHeld_4 rfl (lv_at hl 0 rfl) ?_
  refine m_get X hS fl_4_9 (vC_3_2 q cI cZ _) dX4_takeHeld_5 ?_
  refine lv_iconst (v := (0 : Int32)) hx hb dX4_takeHeld_8 (by decide) ?_
  refine m_ildN X hS 0 (by decide +kernel) (aC_20 q cI cZ) (by decide +kernel) dX4_takeHeld_9 ?_
  refine m_put X hS fp_4_105 (pC_2_3 q cI cZ) dX4_takeHeld_10 (fun c1 ec H locs hS => ?_)
  have hf := o_bnd hf c1 ec
  refine lv_aload_n hx hb dX4_takeHeld_13 rfl (lv_at hl 0 rfl) ?_
  refine m_get X hS fl_4_9 (vC_3_2 q cI cZ _) dX4_takeHeld_14 ?_
  refine lv_iconst (v := (0 : Int32)) hx hb dX4_takeHeld_17 (by decide) ?_
  refine m_ildN X hS 0 (by decide +kernel) (aC_20 q cI cZ) (by decide +kernel) dX4_takeHeld_18 ?_
  refine lv_iconst (v := (1 : Int32)) hx hb dX4_takeHeld_19 (by decide) ?_
  refine lv_bipush (v := (30 : Int32)) hx hb dX4_takeHeld_20 (by decide) ?_
  obtain ⟨r2, c3, hq, hf⟩ := o_cal hf
  refine m_calln (rest := []) X hS hl.1 X.2.2.2.2.2.2.2.2.1 (c_X9_isWithin l D cI cZ q _ _ (c1 20 0) (1 : Int32) (30 : Int32) _ hq) cn_X9_isWithin rfl rfl ⟨Nat.le_of_ble_eq_true rfl, Nat.le_of_ble_eq_true rfl⟩ ⟨Nat.zero_le _, Nat.zero_le _⟩ (Nat.le_of_ble_eq_true rfl) dX4_takeHeld_22 (fun H locs hS => ?_)
  obtain ⟨hz, hf⟩ := o_gb hf
  exact ret hz hf hS dX4_takeHeld_25

set_option maxHeartbeats 40000000 in
set_option maxRecDepth 100000 in
theorem c_X4_takeLine (l : Launch) (D : va_G) (cI cZ : ClassId) (q : Nat → Nat) (c : Mm) (sz : Nat) (R : Int32 × Mm) (hf : X4_takeLine c = some R) : m_Mi l yX4_takeLine cX4_takeLine 1 (some .boolean) 1 22 D cI cZ (mkC q cI cZ) 50 q [.ref (q 3)] c sz R := by
  refine m_enter_z (own := RX4) (by decide) rfl (Nat.le_of_ble_eq_true rfl) ?_
  intro p e s m args below meth cd Q X ret
  have hx := X.1
  have hb := X.2.1
  intro H locs ls hS hl
  have hl : lv_has ls 1 [(0, .ref (q 3))] := hl
  unfold X4_takeLine at hf
  refine lv_aload_n hx hb dX4_takeLine_0 rfl (lv_at hl 0 rfl) ?_
  refine m_get X hS fl_4_19 (vC_3_1 q cI cZ _) dX4_takeLine_1 ?_
  refine lv_aload_n hx hb dX4_takeLine_4 rfl (lv_at hl 0 rfl) ?_
  refine m_get X hS fl_4_9 (vC_3_2 q cI cZ _) dX4_takeLine_5 ?_
  refine lv_iconst (v := (0 : Int32)) hx hb dX4_takeLine_8 (by decide) ?_
  refine m_ildN X hS 0 (by decide +kernel) (aC_20 q cI cZ) (by decide +kernel) dX4_takeLine_9 ?_
  refine m_put X hS fp_4_108 (pC_2_4 q cI cZ) dX4_takeLine_10 (fun c1 ec H locs hS => ?_)
  have hf := o_bnd hf c1 ec
  refine lv_aload_n hx hb dX4_takeLine_13 rfl (lv_at hl 0 rfl) ?_
  refine m_get X hS fl_4_19 (vC_3_1 q cI cZ _) dX4_takeLine_14 ?_
  refine lv_aload_n hx hb dX4_takeLine_17 rfl (lv_at hl 0 rfl) ?_
  refine m_get X hS fl_4_9 (vC_3_2 q cI cZ _) dX4_takeLine_18 ?_
  refine lv_iconst (v := (1 : Int32)) hx hb dX4_takeLine_21 (by decide) ?_
  refine m_ildN X hS 1 (by decide +kernel) (aC_20 q cI cZ) (by decide +kernel) dX4_takeLine_22 ?_
  refine m_put X hS fp_4_111 (pC_2_5 q cI cZ) dX4_takeLine_23 (fun c2 ec H locs hS => ?_)
  have hf := o_bnd hf c2 ec
  refine lv_aload_n hx hb dX4_takeLine_26 rfl (lv_at hl 0 rfl) ?_
  refine m_get X hS fl_4_9 (vC_3_2 q cI cZ _) dX4_takeLine_27 ?_
  refine lv_iconst (v := (0 : Int32)) hx hb dX4_takeLine_30 (by decide) ?_
  refine m_ildN X hS 0 (by decide +kernel) (aC_20 q cI cZ) (by decide +kernel) dX4_takeLine_31 ?_
  refine lv_iconst (v := (1 : Int32)) hx hb dX4_takeLine_32 (by decide) ?_
  refine lv_iconst (v := (5 : Int32)) hx hb dX4_takeLine_33 (by decide) ?_
  obtain ⟨r3, c4, hq, hf⟩ := o_cal hf
  refine m_calln (rest := []) X hS hl.1 X.2.2.2.2.2.2.2.2.1 (c_X9_isWithin l D cI cZ q _ _ (c2 20 0) (1 : Int32) (5 : Int32) _ hq) cn_X9_isWithin rfl rfl ⟨Nat.le_of_ble_eq_true rfl, Nat.le_of_ble_eq_true rfl⟩ ⟨Nat.zero_le _, Nat.zero_le _⟩ (Nat.le_of_ble_eq_true rfl) dX4_takeLine_34 (fun H locs hS => ?_)
  refine lv_if_eq (tgt := 59) hx hb dX4_takeLine_37 (by decide) (fun hc => ?_) (fun hc => ?_)
  · have hf := o_t hc hf
    refine lv_iconst (v := (0 : Int32)) hx hb dX4_takeLine_59 (by decide) ?_
    exact ret (Or.inl rfl) hf hS dX4_takeLine_60
  · have hf := o_f hc hf
    refine lv_aload_n hx hb dX4_takeLine_40 rfl (lv_at hl 0 rfl) ?_
    refine m_get X hS fl_4_9 (vC_3_2 q cI cZ _) dX4_takeLine_41 ?_
    refine lv_iconst (v := (1 : Int32)) hx hb dX4_takeLine_44 (by decide) ?_
    refine m_ildN X hS 1 (by decide +kernel) (aC_20 q cI cZ) (by decide +kernel) dX4_takeLine_45 ?_
    refine lv_iconst (v := (1 : Int32)) hx hb dX4_takeLine_46 (by decide) ?_
    refine lv_bipush (v := (9 : Int32)) hx hb dX4_takeLine_47 (by decide) ?_
    obtain ⟨r5, c6, hq, hf⟩ := o_cal hf
    refine m_calln (rest := []) X hS hl.1 X.2.2.2.2.2.2.2.2.1 (c_X9_isWithin l D cI cZ q _ _ (c4 20 1) (1 : Int32) (9 : Int32) _ hq) cn_X9_isWithin rfl rfl ⟨Nat.le_of_ble_eq_true rfl, Nat.le_of_ble_eq_true rfl⟩ ⟨Nat.zero_le _, Nat.zero_le _⟩ (Nat.le_of_ble_eq_true rfl) dX4_takeLine_49 (fun H locs hS => ?_)
    refine lv_if_eq (tgt := 59) hx hb dX4_takeLine_52 (by decide) (fun hc => ?_) (fun hc => ?_)
    · have hf := o_t hc hf
      refine lv_iconst (v := (0 : Int32)) hx hb dX4_takeLine_59 (by decide) ?_
      exact ret (Or.inl rfl) hf hS dX4_takeLine_60
    · have hf := o_f hc hf
      refine lv_iconst (v := (1 : Int32)) hx hb dX4_takeLine_55 (by decide) ?_
      refine lv_goto (tgt := 60) hx hb dX4_takeLine_56 (by decide) ?_
      exact ret (Or.inr rfl) hf hS dX4_takeLine_60

set_option maxHeartbeats 40000000 in
set_option maxRecDepth 100000 in
theorem c_X4_takeItem (l : Launch) (D : va_G) (cI cZ : ClassId) (q : Nat → Nat) (c : Mm) (sz : Nat) (v1 : Int32) (R : Int32 × Mm) (hf : X4_takeItem v1 c = some R) : m_Mi l yX4_takeItem cX4_takeItem 2 (some .boolean) 2 43 D cI cZ (mkC q cI cZ) 50 q [.ref (q 3), .int v1] c sz R := by
  refine m_enter_z (own := RX4) (by decide) rfl (Nat.le_of_ble_eq_true rfl) ?_
  intro p e s m args below meth cd Q X ret
  have hx := X.1
  have hb := X.2.1
  intro H locs ls hS hl
  have hl : lv_has ls 2 [(0, .ref (q 3)), (1, .int v1)] := hl
  unfold X4_takeItem at hf
  refine lv_iload_n hx hb dX4_takeItem_0 rfl (lv_at hl 1 rfl) ?_
  by_cases h_98 : v1 = (98 : Int32)
  · have hf := o_t h_98 hf
    refine lv_lookup (off := 51) (tgt := 52) hx hb dX4_takeItem_1 (by decide) (by rw [h_98]; decide) (by decide) ?_
    refine lv_aload_n hx hb dX4_takeItem_52 rfl (lv_at hl 0 rfl) ?_
    obtain ⟨r1, c2, hq, hf⟩ := o_cal hf
    refine m_calli (rest := []) X hS hl.1 (c_X4_takeBoat l D cI cZ q _ _ _ hq) cv_4_59 (oC_3 q cI cZ _) rfl rfl ⟨Nat.le_of_ble_eq_true rfl, Nat.le_of_ble_eq_true rfl⟩ ⟨Nat.zero_le _, Nat.zero_le _⟩ (Nat.le_of_ble_eq_true rfl) dX4_takeItem_53 (fun H locs hS => ?_)
    obtain ⟨hz, hf⟩ := o_gb hf
    exact ret hz hf hS dX4_takeItem_56
  have hf := o_f h_98 hf
  by_cases h_104 : v1 = (104 : Int32)
  · have hf := o_t h_104 hf
    refine lv_lookup (off := 66) (tgt := 67) hx hb dX4_takeItem_1 (by decide) (by rw [h_104]; decide) (by decide) ?_
    refine lv_aload_n hx hb dX4_takeItem_67 rfl (lv_at hl 0 rfl) ?_
    obtain ⟨r3, c4, hq, hf⟩ := o_cal hf
    refine m_calli (rest := []) X hS hl.1 (c_X4_takeHeld l D cI cZ q _ _ _ hq) cv_4_69 (oC_3 q cI cZ _) rfl rfl ⟨Nat.le_of_ble_eq_true rfl, Nat.le_of_ble_eq_true rfl⟩ ⟨Nat.zero_le _, Nat.zero_le _⟩ (Nat.le_of_ble_eq_true rfl) dX4_takeItem_68 (fun H locs hS => ?_)
    obtain ⟨hz, hf⟩ := o_gb hf
    exact ret hz hf hS dX4_takeItem_71
  have hf := o_f h_104 hf
  by_cases h_108 : v1 = (108 : Int32)
  · have hf := o_t h_108 hf
    refine lv_lookup (off := 71) (tgt := 72) hx hb dX4_takeItem_1 (by decide) (by rw [h_108]; decide) (by decide) ?_
    refine lv_aload_n hx hb dX4_takeItem_72 rfl (lv_at hl 0 rfl) ?_
    obtain ⟨r5, c6, hq, hf⟩ := o_cal hf
    refine m_calli (rest := []) X hS hl.1 (c_X4_takeLine l D cI cZ q _ _ _ hq) cv_4_72 (oC_3 q cI cZ _) rfl rfl ⟨Nat.le_of_ble_eq_true rfl, Nat.le_of_ble_eq_true rfl⟩ ⟨Nat.zero_le _, Nat.zero_le _⟩ (Nat.le_of_ble_eq_true rfl) dX4_takeItem_73 (fun H locs hS => ?_)
    obtain ⟨hz, hf⟩ := o_gb hf
    exact ret hz hf hS dX4_takeItem_76
  have hf := o_f h_108 hf
  by_cases h_110 : v1 = (110 : Int32)
  · have hf := o_t h_110 hf
    refine lv_lookup (off := 56) (tgt := 57) hx hb dX4_takeItem_1 (by decide) (by rw [h_110]; decide) (by decide) ?_
    refine lv_aload_n hx hb dX4_takeItem_57 rfl (lv_at hl 0 rfl) ?_
    obtain ⟨r7, c8, hq, hf⟩ := o_cal hf
    refine m_calli (rest := []) X hS hl.1 (c_X4_takeNarrow l D cI cZ q _ _ _ hq) cv_4_63 (oC_3 q cI cZ _) rfl rfl ⟨Nat.le_of_ble_eq_true rfl, Nat.le_of_ble_eq_true rfl⟩ ⟨Nat.zero_le _, Nat.zero_le _⟩ (Nat.le_of_ble_eq_true rfl) dX4_takeItem_58 (fun H locs hS => ?_)
    obtain ⟨hz, hf⟩ := o_gb hf
    exact ret hz hf hS dX4_takeItem_61
  have hf := o_f h_110 hf
  by_cases h_121 : v1 = (121 : Int32)
  · have hf := o_t h_121 hf
    refine lv_lookup (off := 61) (tgt := 62) hx hb dX4_takeItem_1 (by decide) (by rw [h_121]; decide) (by decide) ?_
    refine lv_aload_n hx hb dX4_takeItem_62 rfl (lv_at hl 0 rfl) ?_
    obtain ⟨r9, c10, hq, hf⟩ := o_cal hf
    refine m_calli (rest := []) X hS hl.1 (c_X4_takeYield l D cI cZ q _ _ _ hq) cv_4_66 (oC_3 q cI cZ _) rfl rfl ⟨Nat.le_of_ble_eq_true rfl, Nat.le_of_ble_eq_true rfl⟩ ⟨Nat.zero_le _, Nat.zero_le _⟩ (Nat.le_of_ble_eq_true rfl) dX4_takeItem_63 (fun H locs hS => ?_)
    obtain ⟨hz, hf⟩ := o_gb hf
    exact ret hz hf hS dX4_takeItem_66
  have hf := o_f h_121 hf
  refine lv_lookup (off := 76) (tgt := 77) hx hb dX4_takeItem_1 (by decide) ((lv_osw h_98 (by decide)).trans ((lv_osw h_104 (by decide)).trans ((lv_osw h_108 (by decide)).trans ((lv_osw h_110 (by decide)).trans ((lv_osw h_121 (by decide)).trans rfl))))) (by decide) ?_
  refine lv_iconst (v := (0 : Int32)) hx hb dX4_takeItem_77 (by decide) ?_
  exact ret (Or.inl rfl) hf hS dX4_takeItem_78

set_option maxHeartbeats 40000000 in
set_option maxRecDepth 100000 in
theorem c_X4_readItem (l : Launch) (D : va_G) (cI cZ : ClassId) (q : Nat → Nat) (c : Mm) (sz : Nat) (v1 : Int32) (R : Int32 × Mm) (hf : X4_readItem v1 c = some R) : m_Mi l yX4_readItem cX4_readItem 6 (some .int) 3 71 D cI cZ (mkC q cI cZ) 50 q [.ref (q 3), .int v1] c sz R := by
  refine m_enter_i (own := RX4) (by decide) rfl (Nat.le_of_ble_eq_true rfl) ?_
  intro p e s m args below meth cd Q X ret
  have hx := X.1
  have hb := X.2.1
  have k69 : ∀ (v2 : Int32) (v4 : Int32) (c : Mm), X4_readItem_j69 v2 v4 c = some R → m_G p l e (m_rm 3 71) s m args below meth cd Q D (mkC q cI cZ) 50 q 6 69 [(0, .ref (q 3)), (2, .int v2), (4, .int v4)] [] c := by
    intro v2 v4 c hf H locs ls hS hl
    unfold X4_readItem_j69 at hf
    refine lv_aload_n hx hb dX4_readItem_69 rfl (lv_at hl 0 rfl) ?_
    refine lv_iload_n hx hb dX4_readItem_70 rfl (lv_at hl 1 rfl) ?_
    obtain ⟨r1, c2, hq, hf⟩ := o_cal hf
    refine m_calli (rest := []) X hS hl.1 (c_X4_takeItem l D cI cZ q _ _ v2 _ hq) cv_4_48 (oC_3 q cI cZ _) rfl rfl ⟨Nat.le_of_ble_eq_true rfl, Nat.le_of_ble_eq_true rfl⟩ ⟨Nat.zero_le _, Nat.zero_le _⟩ (Nat.le_of_ble_eq_true rfl) dX4_readItem_71 (fun H locs hS => ?_)
    refine lv_if_eq (tgt := 82) hx hb dX4_readItem_74 (by decide) (fun hc => ?_) (fun hc => ?_)
    · have hf := o_t hc hf
      refine lv_bipush (v := (-4 : Int32)) hx hb dX4_readItem_82 (by decide) ?_
      exact ret hf hS dX4_readItem_84
    · have hf := o_f hc hf
      refine lv_iload hx hb dX4_readItem_77 (lv_at hl 2 rfl) ?_
      refine lv_goto (tgt := 84) hx hb dX4_readItem_79 (by decide) ?_
      exact ret hf hS dX4_readItem_84
  have k48 : ∀ (v2 : Int32) (v3 : Int32) (v5 : Int32) (s1 : Int32) (s2 : Int32) (s3 : Int32) (rc22 : Int32 → Int32 → Mm → Option (Int32 × Mm)) (hrc22 : ∀ (w4 : Int32) (w5 : Int32) (c : Mm), rc22 w4 w5 c = some R → m_G p l e (m_rm 3 71) s m args below meth cd Q D (mkC q cI cZ) 50 q 6 22 [(0, .ref (q 3)), (2, .int v2), (3, .int v3), (4, .int w4), (5, .int w5)] [] c) (c : Mm), X4_readItem_j48 rc22 v2 v3 v5 s1 s2 s3 c = some R → m_G p l e (m_rm 3 71) s m args below meth cd Q D (mkC q cI cZ) 50 q 6 48 [(0, .ref (q 3)), (2, .int v2), (3, .int v3), (5, .int v5)] [.int s3, .int s2, .int s1, .ref (q 3)] c := by
    intro v2 v3 v5 s1 s2 s3 rc22 hrc22 c hf H locs ls hS hl
    unfold X4_readItem_j48 at hf
    obtain ⟨r3, c4, hq, hf⟩ := o_cal hf
    refine m_calli (rest := []) X hS hl.1 (c_X4_readNumber l D cI cZ q _ _ s1 s2 s3 _ hq) cv_4_44 (oC_3 q cI cZ _) rfl rfl ⟨Nat.le_of_ble_eq_true rfl, Nat.le_of_ble_eq_true rfl⟩ ⟨Nat.zero_le _, Nat.zero_le _⟩ (Nat.le_of_ble_eq_true rfl) dX4_readItem_48 (fun H locs hS => ?_)
    refine lv_istore (lv' := [(4, .int r3), (0, .ref (q 3)), (2, .int v2), (3, .int v3), (5, .int v5)]) hx hb dX4_readItem_51 hl (by decide) rfl (fun ls hl => ?_)
    refine lv_iload hx hb dX4_readItem_53 (lv_at hl 0 rfl) ?_
    refine lv_bipush (v := (-4 : Int32)) hx hb dX4_readItem_55 (by decide) ?_
    refine lv_icmp_ne (tgt := 63) hx hb dX4_readItem_57 (by decide) (fun hc => ?_) (fun hc => ?_)
    · have hf := o_f hc hf
      obtain ⟨x5, ex⟩ : ∃ y : Int32, y = v5 + (1 : Int32) := ⟨_, rfl⟩
      have hf := o_bnd hf x5 ex
      refine lv_iinc (v := x5) (lv' := [(5, .int x5), (4, .int r3), (0, .ref (q 3)), (2, .int v2), (3, .int v3)]) hx hb dX4_readItem_63 hl (k := 4) rfl (by rw [ex]; rfl) (by decide) rfl (fun ls hl => ?_)
      refine lv_goto (tgt := 22) hx hb dX4_readItem_66 (by decide) ?_
      exact hrc22 r3 x5 _ hf H locs ls hS (lv_sub hl [2, 3, 4, 1, 0] rfl)
    · have hf := o_t hc hf
      refine lv_bipush (v := (-4 : Int32)) hx hb dX4_readItem_60 (by decide) ?_
      exact ret hf hS dX4_readItem_62
  have k22 : ∀ (v2 : Int32) (v3 : Int32), ∀ (n : Nat) (v4 : Int32) (v5 : Int32) (c : Mm), m_lp2 (X4_readItem_b22 v2 v3) n v4 v5 c = some R → m_G p l e (m_rm 3 71) s m args below meth cd Q D (mkC q cI cZ) 50 q 6 22 [(0, .ref (q 3)), (2, .int v2), (3, .int v3), (4, .int v4), (5, .int v5)] [] c := by
    intro v2 v3
    refine m_lp2_i ?_
    intro rc22 hrc22 v4 v5 c hf H locs ls hS hl
    unfold X4_readItem_b22 at hf
    refine lv_iload hx hb dX4_readItem_22 (lv_at hl 4 rfl) ?_
    refine lv_iload_n hx hb dX4_readItem_24 rfl (lv_at hl 2 rfl) ?_
    refine lv_icmp_ge (tgt := 69) hx hb dX4_readItem_25 (by decide) (fun hc => ?_) (fun hc => ?_)
    · have hf := o_t hc hf
      exact k69 v2 v4 _ hf H locs ls hS (lv_sub hl [0, 1, 3] rfl)
    · have hf := o_f hc hf
      refine lv_aload_n hx hb dX4_readItem_28 rfl (lv_at hl 0 rfl) ?_
      refine lv_iload hx hb dX4_readItem_29 (lv_at hl 3 rfl) ?_
      refine lv_iload hx hb dX4_readItem_31 (lv_at hl 4 rfl) ?_
      refine lv_iload hx hb dX4_readItem_33 (lv_at hl 4 rfl) ?_
      refine lv_iconst (v := (1 : Int32)) hx hb dX4_readItem_35 (by decide) ?_
      refine lv_iadd hx hb dX4_readItem_36 ?_
      refine lv_iload_n hx hb dX4_readItem_37 rfl (lv_at hl 2 rfl) ?_
      refine lv_icmp_ge (tgt := 46) hx hb dX4_readItem_38 (by decide) (fun hc => ?_) (fun hc => ?_)
      · have hf := o_t hc hf
        refine lv_bipush (v := (59 : Int32)) hx hb dX4_readItem_46 (by decide) ?_
        exact k48 v2 v3 v5 v4 v5 (59 : Int32) rc22 hrc22 _ hf H locs ls hS (lv_sub hl [0, 1, 2, 4] rfl)
      · have hf := o_f hc hf
        refine lv_bipush (v := (44 : Int32)) hx hb dX4_readItem_41 (by decide) ?_
        refine lv_goto (tgt := 48) hx hb dX4_readItem_43 (by decide) ?_
        exact k48 v2 v3 v5 v4 v5 (44 : Int32) rc22 hrc22 _ hf H locs ls hS (lv_sub hl [0, 1, 2, 4] rfl)
  intro H locs ls hS hl
  have hl : lv_has ls 6 [(0, .ref (q 3)), (1, .int v1)] := hl
  unfold X4_readItem at hf
  refine lv_aload_n hx hb dX4_readItem_0 rfl (lv_at hl 0 rfl) ?_
  refine m_get X hS fl_4_15 (vC_3_0 q cI cZ _) dX4_readItem_1 ?_
  refine lv_iload_n hx hb dX4_readItem_4 rfl (lv_at hl 1 rfl) ?_
  obtain ⟨r6, c7, hq, hf⟩ := o_cal hf
  refine m_calli (rest := []) X hS hl.1 (c_X8_letterAt l D cI cZ q _ _ v1 _ hq) cv_4_38 (oC_1 q cI cZ _) rfl rfl ⟨Nat.le_of_ble_eq_true rfl, Nat.le_of_ble_eq_true rfl⟩ ⟨Nat.zero_le _, Nat.zero_le _⟩ (Nat.le_of_ble_eq_true rfl) dX4_readItem_5 (fun H locs hS => ?_)
  refine lv_istore_n (lv' := [(2, .int r6), (0, .ref (q 3)), (1, .int v1)]) hx hb dX4_readItem_8 rfl hl (by decide) rfl (fun ls hl => ?_)
  refine lv_iload_n hx hb dX4_readItem_9 rfl (lv_at hl 0 rfl) ?_
  obtain ⟨r8, c9, hq, hf⟩ := o_cal hf
  refine m_calls (rest := []) X hS hl.1 (c_X4_numbersOf l D cI cZ q _ _ r6 _ hq) cs_4_41 rfl rfl ⟨Nat.le_of_ble_eq_true rfl, Nat.le_of_ble_eq_true rfl⟩ ⟨Nat.zero_le _, Nat.zero_le _⟩ (Nat.le_of_ble_eq_true rfl) dX4_readItem_10 (fun H locs hS => ?_)
  refine lv_istore_n (lv' := [(3, .int r8), (2, .int r6), (0, .ref (q 3)), (1, .int v1)]) hx hb dX4_readItem_13 rfl hl (by decide) rfl (fun ls hl => ?_)
  refine lv_iload_n hx hb dX4_readItem_14 rfl (lv_at hl 3 rfl) ?_
  refine lv_iconst (v := (1 : Int32)) hx hb dX4_readItem_15 (by decide) ?_
  refine lv_iadd hx hb dX4_readItem_16 ?_
  refine lv_topi (fun x10 ex => ?_)
  have hf := o_bnd hf x10 ex
  refine lv_istore (lv' := [(4, .int x10), (3, .int r8), (2, .int r6), (0, .ref (q 3)), (1, .int v1)]) hx hb dX4_readItem_17 hl (by decide) rfl (fun ls hl => ?_)
  refine lv_iconst (v := (0 : Int32)) hx hb dX4_readItem_19 (by decide) ?_
  refine lv_istore (lv' := [(5, .int (0 : Int32)), (4, .int x10), (3, .int r8), (2, .int r6), (0, .ref (q 3)), (1, .int v1)]) hx hb dX4_readItem_20 hl (by decide) rfl (fun ls hl => ?_)
  exact k22 r6 r8 _ x10 (0 : Int32) _ hf H locs ls hS (lv_sub hl [4, 3, 2, 1, 0] rfl)

set_option maxHeartbeats 40000000 in
set_option maxRecDepth 100000 in
theorem c_X4_firstFault (l : Launch) (D : va_G) (cI cZ : ClassId) (q : Nat → Nat) (c : Mm) (sz : Nat) (R : Int32 × Mm) (hf : X4_firstFault c = some R) : m_Mi l yX4_firstFault cX4_firstFault 4 (some .int) 4 96 D cI cZ (mkC q cI cZ) 50 q [.ref (q 3)] c sz R := by
  refine m_enter_i (own := RX4) (by decide) rfl (Nat.le_of_ble_eq_true rfl) ?_
  intro p e s m args below meth cd Q X ret
  have hx := X.1
  have hb := X.2.1
  have k11 : ∀ (n : Nat) (v1 : Int32) (v2 : Int32) (c : Mm), m_lp2 (X4_firstFault_b11) n v1 v2 c = some R → m_G p l e (m_rm 4 96) s m args below meth cd Q D (mkC q cI cZ) 50 q 4 11 [(0, .ref (q 3)), (1, .int v1), (2, .int v2)] [] c := by
    refine m_lp2_i ?_
    intro rc11 hrc11 v1 v2 c hf H locs ls hS hl
    unfold X4_firstFault_b11 at hf
    refine lv_iload_n hx hb dX4_firstFault_11 rfl (lv_at hl 2 rfl) ?_
    refine lv_sipush (v := (200 : Int32)) hx hb dX4_firstFault_12 (by decide) ?_
    refine lv_icmp_ge (tgt := 51) hx hb dX4_firstFault_15 (by decide) (fun hc => ?_) (fun hc => ?_)
    · have hf := o_t hc hf
      refine lv_bipush (v := (-4 : Int32)) hx hb dX4_firstFault_51 (by decide) ?_
      exact ret hf hS dX4_firstFault_53
    · have hf := o_f hc hf
      refine lv_iload_n hx hb dX4_firstFault_18 rfl (lv_at hl 1 rfl) ?_
      refine lv_aload_n hx hb dX4_firstFault_19 rfl (lv_at hl 0 rfl) ?_
      refine m_get X hS fl_4_15 (vC_3_0 q cI cZ _) dX4_firstFault_20 ?_
      refine m_get X hS fl_4_28 (vC_1_1 q cI cZ _) dX4_firstFault_23 ?_
      refine lv_icmp_ge (tgt := 51) hx hb dX4_firstFault_26 (by decide) (fun hc => ?_) (fun hc => ?_)
      · have hf := o_t hc hf
        refine lv_bipush (v := (-4 : Int32)) hx hb dX4_firstFault_51 (by decide) ?_
        exact ret hf hS dX4_firstFault_53
      · have hf := o_f hc hf
        refine lv_aload_n hx hb dX4_firstFault_29 rfl (lv_at hl 0 rfl) ?_
        refine lv_iload_n hx hb dX4_firstFault_30 rfl (lv_at hl 1 rfl) ?_
        obtain ⟨r1, c2, hq, hf⟩ := o_cal hf
        refine m_calli (rest := []) X hS hl.1 (c_X4_readItem l D cI cZ q _ _ v1 _ hq) cv_4_34 (oC_3 q cI cZ _) rfl rfl ⟨Nat.le_of_ble_eq_true rfl, Nat.le_of_ble_eq_true rfl⟩ ⟨Nat.zero_le _, Nat.zero_le _⟩ (Nat.le_of_ble_eq_true rfl) dX4_firstFault_31 (fun H locs hS => ?_)
        refine lv_istore_n (lv' := [(3, .int r1), (0, .ref (q 3)), (1, .int v1), (2, .int v2)]) hx hb dX4_firstFault_34 rfl hl (by decide) rfl (fun ls hl => ?_)
        refine lv_iload_n hx hb dX4_firstFault_35 rfl (lv_at hl 0 rfl) ?_
        refine lv_bipush (v := (-4 : Int32)) hx hb dX4_firstFault_36 (by decide) ?_
        refine lv_icmp_ne (tgt := 43) hx hb dX4_firstFault_38 (by decide) (fun hc => ?_) (fun hc => ?_)
        · have hf := o_f hc hf
          refine lv_iload_n hx hb dX4_firstFault_43 rfl (lv_at hl 0 rfl) ?_
          refine lv_istore_n (lv' := [(1, .int r1), (3, .int r1), (0, .ref (q 3)), (2, .int v2)]) hx hb dX4_firstFault_44 rfl hl (by decide) rfl (fun ls hl => ?_)
          obtain ⟨x3, ex⟩ : ∃ y : Int32, y = v2 + (1 : Int32) := ⟨_, rfl⟩
          have hf := o_bnd hf x3 ex
          refine lv_iinc (v := x3) (lv' := [(2, .int x3), (1, .int r1), (3, .int r1), (0, .ref (q 3))]) hx hb dX4_firstFault_45 hl (k := 3) rfl (by rw [ex]; rfl) (by decide) rfl (fun ls hl => ?_)
          refine lv_goto (tgt := 11) hx hb dX4_firstFault_48 (by decide) ?_
          exact hrc11 r1 x3 _ hf H locs ls hS (lv_sub hl [3, 1, 0] rfl)
        · have hf := o_t hc hf
          refine lv_iload_n hx hb dX4_firstFault_41 rfl (lv_at hl 2 rfl) ?_
          exact ret hf hS dX4_firstFault_42
  intro H locs ls hS hl
  have hl : lv_has ls 4 [(0, .ref (q 3))] := hl
  unfold X4_firstFault at hf
  refine lv_aload_n hx hb dX4_firstFault_0 rfl (lv_at hl 0 rfl) ?_
  refine m_get X hS fl_4_19 (vC_3_1 q cI cZ _) dX4_firstFault_1 ?_
  obtain ⟨c4, hq, hf⟩ := o_cav hf
  refine m_callv (rest := []) X hS hl.1 (c_X1_clear l D cI cZ q _ _ _ hq) cv_4_23 (oC_2 q cI cZ _) rfl rfl ⟨Nat.le_of_ble_eq_true rfl, Nat.le_of_ble_eq_true rfl⟩ ⟨Nat.zero_le _, Nat.zero_le _⟩ (Nat.le_of_ble_eq_true rfl) dX4_firstFault_4 (fun H locs hS => ?_)
  refine lv_iconst (v := (0 : Int32)) hx hb dX4_firstFault_7 (by decide) ?_
  refine lv_istore_n (lv' := [(1, .int (0 : Int32)), (0, .ref (q 3))]) hx hb dX4_firstFault_8 rfl hl (by decide) rfl (fun ls hl => ?_)
  refine lv_iconst (v := (0 : Int32)) hx hb dX4_firstFault_9 (by decide) ?_
  refine lv_istore_n (lv' := [(2, .int (0 : Int32)), (1, .int (0 : Int32)), (0, .ref (q 3))]) hx hb dX4_firstFault_10 rfl hl (by decide) rfl (fun ls hl => ?_)
  exact k11 _ (0 : Int32) (0 : Int32) _ hf H locs ls hS (lv_sub hl [2, 1, 0] rfl)

set_option maxHeartbeats 40000000 in
set_option maxRecDepth 100000 in
theorem c_X1_copy (l : Launch) (D : va_G) (cI cZ : ClassId) (q : Nat → Nat) (c : Mm) (sz : Nat) (R : Mm) (hf : X1_copy c = some R) : m_Mv l yX1_copy cX1_copy 2 1 26 D cI cZ (mkC q cI cZ) 50 q [.ref (q 4), .ref (q 2)] c sz R := by
  refine m_enter_v (own := RX1) (by decide) rfl (Nat.le_of_ble_eq_true rfl) ?_
  intro p e s m args below meth cd Q X ret
  have hx := X.1
  have hb := X.2.1
  intro H locs ls hS hl
  have hl : lv_has ls 2 [(0, .ref (q 4)), (1, .ref (q 2))] := hl
  unfold X1_copy at hf
  refine lv_aload_n hx hb dX1_copy_0 rfl (lv_at hl 0 rfl) ?_
  refine lv_aload_n hx hb dX1_copy_1 rfl (lv_at hl 1 rfl) ?_
  refine m_get X hS fl_1_33 (vC_2_0 q cI cZ _) dX1_copy_2 ?_
  refine m_put X hS fp_1_33 (pC_4_0 q cI cZ) dX1_copy_5 (fun c1 ec H locs hS => ?_)
  have hf := o_bnd hf c1 ec
  refine lv_aload_n hx hb dX1_copy_8 rfl (lv_at hl 0 rfl) ?_
  refine lv_aload_n hx hb dX1_copy_9 rfl (lv_at hl 1 rfl) ?_
  refine m_get X hS fl_1_37 (vC_2_1 q cI cZ _) dX1_copy_10 ?_
  refine m_put X hS fp_1_37 (pC_4_1 q cI cZ) dX1_copy_13 (fun c2 ec H locs hS => ?_)
  have hf := o_bnd hf c2 ec
  refine lv_aload_n hx hb dX1_copy_16 rfl (lv_at hl 0 rfl) ?_
  refine lv_aload_n hx hb dX1_copy_17 rfl (lv_at hl 1 rfl) ?_
  refine m_get X hS fl_1_40 (vC_2_2 q cI cZ _) dX1_copy_18 ?_
  refine m_put X hS fp_1_40 (pC_4_2 q cI cZ) dX1_copy_21 (fun c3 ec H locs hS => ?_)
  have hf := o_bnd hf c3 ec
  refine lv_aload_n hx hb dX1_copy_24 rfl (lv_at hl 0 rfl) ?_
  refine lv_aload_n hx hb dX1_copy_25 rfl (lv_at hl 1 rfl) ?_
  refine m_get X hS fl_1_43 (vC_2_3 q cI cZ _) dX1_copy_26 ?_
  refine m_put X hS fp_1_43 (pC_4_3 q cI cZ) dX1_copy_29 (fun c4 ec H locs hS => ?_)
  have hf := o_bnd hf c4 ec
  refine lv_aload_n hx hb dX1_copy_32 rfl (lv_at hl 0 rfl) ?_
  refine lv_aload_n hx hb dX1_copy_33 rfl (lv_at hl 1 rfl) ?_
  refine m_get X hS fl_1_46 (vC_2_4 q cI cZ _) dX1_copy_34 ?_
  refine m_put X hS fp_1_46 (pC_4_4 q cI cZ) dX1_copy_37 (fun c5 ec H locs hS => ?_)
  have hf := o_bnd hf c5 ec
  refine lv_aload_n hx hb dX1_copy_40 rfl (lv_at hl 0 rfl) ?_
  refine lv_aload_n hx hb dX1_copy_41 rfl (lv_at hl 1 rfl) ?_
  refine m_get X hS fl_1_49 (vC_2_5 q cI cZ _) dX1_copy_42 ?_
  refine m_put X hS fp_1_49 (pC_4_5 q cI cZ) dX1_copy_45 (fun c6 ec H locs hS => ?_)
  have hf := o_bnd hf c6 ec
  refine lv_aload_n hx hb dX1_copy_48 rfl (lv_at hl 1 rfl) ?_
  refine m_get X hS fl_1_9 (vC_2_6 q cI cZ _) dX1_copy_49 ?_
  refine lv_iconst (v := (0 : Int32)) hx hb dX1_copy_52 (by decide) ?_
  refine lv_aload_n hx hb dX1_copy_53 rfl (lv_at hl 0 rfl) ?_
  refine m_get X hS fl_1_9 (vC_4_6 q cI cZ _) dX1_copy_54 ?_
  refine lv_iconst (v := (0 : Int32)) hx hb dX1_copy_57 (by decide) ?_
  refine lv_bipush (v := (6 : Int32)) hx hb dX1_copy_58 (by decide) ?_
  obtain ⟨hg, hf⟩ := o_gc hf
  refine m_copy X hS hl.1 cc_1_52 (aC_13 q cI cZ) (aC_21 q cI cZ) hg (Nat.le_of_ble_eq_true rfl) (Nat.le_of_ble_eq_true rfl) dX1_copy_60 (fun c7 ec H locs hS => ?_)
  have hf := o_bnd hf c7 ec
  refine lv_aload_n hx hb dX1_copy_63 rfl (lv_at hl 1 rfl) ?_
  refine m_get X hS fl_1_15 (vC_2_7 q cI cZ _) dX1_copy_64 ?_
  refine lv_iconst (v := (0 : Int32)) hx hb dX1_copy_67 (by decide) ?_
  refine lv_aload_n hx hb dX1_copy_68 rfl (lv_at hl 0 rfl) ?_
  refine m_get X hS fl_1_15 (vC_4_7 q cI cZ _) dX1_copy_69 ?_
  refine lv_iconst (v := (0 : Int32)) hx hb dX1_copy_72 (by decide) ?_
  refine lv_bipush (v := (6 : Int32)) hx hb dX1_copy_73 (by decide) ?_
  obtain ⟨hg, hf⟩ := o_gc hf
  refine m_copy X hS hl.1 cc_1_52 (aC_14 q cI cZ) (aC_22 q cI cZ) hg (Nat.le_of_ble_eq_true rfl) (Nat.le_of_ble_eq_true rfl) dX1_copy_75 (fun c8 ec H locs hS => ?_)
  have hf := o_bnd hf c8 ec
  refine lv_aload_n hx hb dX1_copy_78 rfl (lv_at hl 1 rfl) ?_
  refine m_get X hS fl_1_18 (vC_2_8 q cI cZ _) dX1_copy_79 ?_
  refine lv_iconst (v := (0 : Int32)) hx hb dX1_copy_82 (by decide) ?_
  refine lv_aload_n hx hb dX1_copy_83 rfl (lv_at hl 0 rfl) ?_
  refine m_get X hS fl_1_18 (vC_4_8 q cI cZ _) dX1_copy_84 ?_
  refine lv_iconst (v := (0 : Int32)) hx hb dX1_copy_87 (by decide) ?_
  refine lv_bipush (v := (6 : Int32)) hx hb dX1_copy_88 (by decide) ?_
  obtain ⟨hg, hf⟩ := o_gc hf
  refine m_copy X hS hl.1 cc_1_52 (aC_15 q cI cZ) (aC_23 q cI cZ) hg (Nat.le_of_ble_eq_true rfl) (Nat.le_of_ble_eq_true rfl) dX1_copy_90 (fun c9 ec H locs hS => ?_)
  have hf := o_bnd hf c9 ec
  refine lv_aload_n hx hb dX1_copy_93 rfl (lv_at hl 1 rfl) ?_
  refine m_get X hS fl_1_21 (vC_2_9 q cI cZ _) dX1_copy_94 ?_
  refine lv_iconst (v := (0 : Int32)) hx hb dX1_copy_97 (by decide) ?_
  refine lv_aload_n hx hb dX1_copy_98 rfl (lv_at hl 0 rfl) ?_
  refine m_get X hS fl_1_21 (vC_4_9 q cI cZ _) dX1_copy_99 ?_
  refine lv_iconst (v := (0 : Int32)) hx hb dX1_copy_102 (by decide) ?_
  refine lv_bipush (v := (6 : Int32)) hx hb dX1_copy_103 (by decide) ?_
  obtain ⟨hg, hf⟩ := o_gc hf
  refine m_copy X hS hl.1 cc_1_52 (aC_16 q cI cZ) (aC_24 q cI cZ) hg (Nat.le_of_ble_eq_true rfl) (Nat.le_of_ble_eq_true rfl) dX1_copy_105 (fun c10 ec H locs hS => ?_)
  have hf := o_bnd hf c10 ec
  refine lv_aload_n hx hb dX1_copy_108 rfl (lv_at hl 1 rfl) ?_
  refine m_get X hS fl_1_24 (vC_2_10 q cI cZ _) dX1_copy_109 ?_
  refine lv_iconst (v := (0 : Int32)) hx hb dX1_copy_112 (by decide) ?_
  refine lv_aload_n hx hb dX1_copy_113 rfl (lv_at hl 0 rfl) ?_
  refine m_get X hS fl_1_24 (vC_4_10 q cI cZ _) dX1_copy_114 ?_
  refine lv_iconst (v := (0 : Int32)) hx hb dX1_copy_117 (by decide) ?_
  refine lv_bipush (v := (6 : Int32)) hx hb dX1_copy_118 (by decide) ?_
  obtain ⟨hg, hf⟩ := o_gc hf
  refine m_copy X hS hl.1 cc_1_52 (aC_17 q cI cZ) (aC_25 q cI cZ) hg (Nat.le_of_ble_eq_true rfl) (Nat.le_of_ble_eq_true rfl) dX1_copy_120 (fun c11 ec H locs hS => ?_)
  have hf := o_bnd hf c11 ec
  refine lv_aload_n hx hb dX1_copy_123 rfl (lv_at hl 1 rfl) ?_
  refine m_get X hS fl_1_27 (vC_2_11 q cI cZ _) dX1_copy_124 ?_
  refine lv_iconst (v := (0 : Int32)) hx hb dX1_copy_127 (by decide) ?_
  refine lv_aload_n hx hb dX1_copy_128 rfl (lv_at hl 0 rfl) ?_
  refine m_get X hS fl_1_27 (vC_4_11 q cI cZ _) dX1_copy_129 ?_
  refine lv_iconst (v := (0 : Int32)) hx hb dX1_copy_132 (by decide) ?_
  refine lv_iconst (v := (3 : Int32)) hx hb dX1_copy_133 (by decide) ?_
  obtain ⟨hg, hf⟩ := o_gc hf
  refine m_copy X hS hl.1 cc_1_52 (aC_18 q cI cZ) (aC_26 q cI cZ) hg (Nat.le_of_ble_eq_true rfl) (Nat.le_of_ble_eq_true rfl) dX1_copy_134 (fun c12 ec H locs hS => ?_)
  have hf := o_bnd hf c12 ec
  refine lv_aload_n hx hb dX1_copy_137 rfl (lv_at hl 1 rfl) ?_
  refine m_get X hS fl_1_30 (vC_2_12 q cI cZ _) dX1_copy_138 ?_
  refine lv_iconst (v := (0 : Int32)) hx hb dX1_copy_141 (by decide) ?_
  refine lv_aload_n hx hb dX1_copy_142 rfl (lv_at hl 0 rfl) ?_
  refine m_get X hS fl_1_30 (vC_4_12 q cI cZ _) dX1_copy_143 ?_
  refine lv_iconst (v := (0 : Int32)) hx hb dX1_copy_146 (by decide) ?_
  refine lv_iconst (v := (3 : Int32)) hx hb dX1_copy_147 (by decide) ?_
  obtain ⟨hg, hf⟩ := o_gc hf
  refine m_copy X hS hl.1 cc_1_52 (aC_19 q cI cZ) (aC_27 q cI cZ) hg (Nat.le_of_ble_eq_true rfl) (Nat.le_of_ble_eq_true rfl) dX1_copy_148 (fun c13 ec H locs hS => ?_)
  have hf := o_bnd hf c13 ec
  exact ret hf hS dX1_copy_151

set_option maxHeartbeats 40000000 in
set_option maxRecDepth 100000 in
theorem c_X3_begin (l : Launch) (D : va_G) (cI cZ : ClassId) (q : Nat → Nat) (c : Mm) (sz : Nat) (R : Mm) (hf : X3_begin c = some R) : m_Mv l yX3_begin cX3_begin 3 0 0 D cI cZ (mkC q cI cZ) 50 q [.ref (q 5), .ref (q 4)] c sz R := by
  refine m_enter_v (own := RX3) (by decide) rfl (Nat.le_of_ble_eq_true rfl) ?_
  intro p e s m args below meth cd Q X ret
  have hx := X.1
  have hb := X.2.1
  have k2 : ∀ (n : Nat) (v2 : Int32) (c : Mm), m_lp1 (X3_begin_b2) n v2 c = some R → m_G p l e (m_rm 0 0) s m args below meth cd Q D (mkC q cI cZ) 50 q 3 2 [(0, .ref (q 5)), (1, .ref (q 4)), (2, .int v2)] [] c := by
    refine m_lp1_i ?_
    intro rc2 hrc2 v2 c hf H locs ls hS hl
    unfold X3_begin_b2 at hf
    refine lv_iload_n hx hb dX3_begin_2 rfl (lv_at hl 2 rfl) ?_
    refine lv_bipush (v := (6 : Int32)) hx hb dX3_begin_3 (by decide) ?_
    refine lv_icmp_ge (tgt := 33) hx hb dX3_begin_5 (by decide) (fun hc => ?_) (fun hc => ?_)
    · have hf := o_t hc hf
      exact ret hf hS dX3_begin_33
    · have hf := o_f hc hf
      refine lv_aload_n hx hb dX3_begin_8 rfl (lv_at hl 0 rfl) ?_
      refine m_get X hS fl_3_9 (vC_5_0 q cI cZ _) dX3_begin_9 ?_
      refine lv_iload_n hx hb dX3_begin_12 rfl (lv_at hl 2 rfl) ?_
      refine lv_aload_n hx hb dX3_begin_13 rfl (lv_at hl 1 rfl) ?_
      refine m_get X hS fl_3_18 (vC_4_9 q cI cZ _) dX3_begin_14 ?_
      refine lv_iload_n hx hb dX3_begin_17 rfl (lv_at hl 2 rfl) ?_
      obtain ⟨hg, hf⟩ := o_gi hf
      refine m_ild X hS (aC_24 q cI cZ) hg dX3_begin_18 ?_
      obtain ⟨hg, hf⟩ := o_gi hf
      refine m_ist X hS (aC_28 q cI cZ) hg dX3_begin_19 (fun c1 ec H locs hS => ?_)
      have hf := o_bnd hf c1 ec
      refine lv_aload_n hx hb dX3_begin_20 rfl (lv_at hl 0 rfl) ?_
      refine m_get X hS fl_3_15 (vC_5_1 q cI cZ _) dX3_begin_21 ?_
      refine lv_iload_n hx hb dX3_begin_24 rfl (lv_at hl 2 rfl) ?_
      refine lv_iconst (v := (0 : Int32)) hx hb dX3_begin_25 (by decide) ?_
      obtain ⟨hg, hf⟩ := o_gi hf
      refine m_ist X hS (aC_29 q cI cZ) hg dX3_begin_26 (fun c2 ec H locs hS => ?_)
      have hf := o_bnd hf c2 ec
      obtain ⟨x3, ex⟩ : ∃ y : Int32, y = v2 + (1 : Int32) := ⟨_, rfl⟩
      have hf := o_bnd hf x3 ex
      refine lv_iinc (v := x3) (lv' := [(2, .int x3), (0, .ref (q 5)), (1, .ref (q 4))]) hx hb dX3_begin_27 hl (k := 2) rfl (by rw [ex]; rfl) (by decide) rfl (fun ls hl => ?_)
      refine lv_goto (tgt := 2) hx hb dX3_begin_30 (by decide) ?_
      exact hrc2 x3 _ hf H locs ls hS (lv_sub hl [1, 2, 0] rfl)
  intro H locs ls hS hl
  have hl : lv_has ls 3 [(0, .ref (q 5)), (1, .ref (q 4))] := hl
  unfold X3_begin at hf
  refine lv_iconst (v := (0 : Int32)) hx hb dX3_begin_0 (by decide) ?_
  refine lv_istore_n (lv' := [(2, .int (0 : Int32)), (0, .ref (q 5)), (1, .ref (q 4))]) hx hb dX3_begin_1 rfl hl (by decide) rfl (fun ls hl => ?_)
  exact k2 _ (0 : Int32) _ hf H locs ls hS (lv_sub hl [1, 2, 0] rfl)

set_option maxHeartbeats 40000000 in
set_option maxRecDepth 100000 in
theorem c_X6_empty (l : Launch) (D : va_G) (cI cZ : ClassId) (q : Nat → Nat) (c : Mm) (sz : Nat) (R : Int32 × Mm) (hf : X6_empty c = some R) : m_Mi l yX6_empty cX6_empty 2 (some .int) 0 0 D cI cZ (mkC q cI cZ) 50 q [.ref (q 10)] c sz R := by
  refine m_enter_i (own := RX6) (by decide) rfl (Nat.le_of_ble_eq_true rfl) ?_
  intro p e s m args below meth cd Q X ret
  have hx := X.1
  have hb := X.2.1
  intro H locs ls hS hl
  have hl : lv_has ls 2 [(0, .ref (q 10))] := hl
  unfold X6_empty at hf
  refine lv_aload_n hx hb dX6_empty_0 rfl (lv_at hl 0 rfl) ?_
  refine m_get X hS fl_6_18 (vC_10_2 q cI cZ _) dX6_empty_1 ?_
  refine lv_topi (fun x1 ex => ?_)
  have hf := o_bnd hf x1 ex
  refine lv_istore_n (lv' := [(1, .int x1), (0, .ref (q 10))]) hx hb dX6_empty_4 rfl hl (by decide) rfl (fun ls hl => ?_)
  refine lv_aload_n hx hb dX6_empty_5 rfl (lv_at hl 1 rfl) ?_
  refine lv_iconst (v := (0 : Int32)) hx hb dX6_empty_6 (by decide) ?_
  refine m_put X hS fp_6_18 (pC_10_2 q cI cZ) dX6_empty_7 (fun c2 ec H locs hS => ?_)
  have hf := o_bnd hf c2 ec
  refine lv_iload_n hx hb dX6_empty_10 rfl (lv_at hl 0 rfl) ?_
  exact ret hf hS dX6_empty_11

set_option maxHeartbeats 40000000 in
set_option maxRecDepth 100000 in
theorem c_X9_layText (l : Launch) (D : va_G) (cI cZ : ClassId) (q : Nat → Nat) (c : Mm) (sz : Nat) (R : Int32 × Mm) (hf : X9_layText c = some R) : m_Mi l yX9_layText cX9_layText 1 (some .boolean) 5 119 D cI cZ (mkC q cI cZ) 50 q [.ref (q 0)] c sz R := by
  refine m_enter_z (own := RX9) (by decide) rfl (Nat.le_of_ble_eq_true rfl) ?_
  intro p e s m args below meth cd Q X ret
  have hx := X.1
  have hb := X.2.1
  intro H locs ls hS hl
  have hl : lv_has ls 1 [(0, .ref (q 0))] := hl
  unfold X9_layText at hf
  refine lv_aload_n hx hb dX9_layText_0 rfl (lv_at hl 0 rfl) ?_
  refine m_get X hS fl_9_28 (vC_0_2 q cI cZ _) dX9_layText_1 ?_
  obtain ⟨r1, c2, hq, hf⟩ := o_cal hf
  refine m_calli (rest := []) X hS hl.1 (c_X4_firstFault l D cI cZ q _ _ _ hq) cv_9_114 (oC_3 q cI cZ _) rfl rfl ⟨Nat.le_of_ble_eq_true rfl, Nat.le_of_ble_eq_true rfl⟩ ⟨Nat.zero_le _, Nat.zero_le _⟩ (Nat.le_of_ble_eq_true rfl) dX9_layText_4 (fun H locs hS => ?_)
  refine lv_bipush (v := (-4 : Int32)) hx hb dX9_layText_7 (by decide) ?_
  refine lv_icmp_ne (tgt := 22) hx hb dX9_layText_9 (by decide) (fun hc => ?_) (fun hc => ?_)
  · have hf := o_f hc hf
    refine lv_iconst (v := (0 : Int32)) hx hb dX9_layText_22 (by decide) ?_
    exact ret (Or.inl rfl) hf hS dX9_layText_23
  · have hf := o_t hc hf
    refine lv_aload_n hx hb dX9_layText_12 rfl (lv_at hl 0 rfl) ?_
    refine m_get X hS fl_9_19 (vC_0_1 q cI cZ _) dX9_layText_13 ?_
    refine m_get X hS fl_9_117 (vC_2_0 q cI cZ _) dX9_layText_16 ?_
    refine lv_if_ne (tgt := 24) hx hb dX9_layText_19 (by decide) (fun hc => ?_) (fun hc => ?_)
    · have hf := o_f hc hf
      refine lv_aload_n hx hb dX9_layText_24 rfl (lv_at hl 0 rfl) ?_
      refine m_get X hS fl_9_32 (vC_0_3 q cI cZ _) dX9_layText_25 ?_
      refine lv_aload_n hx hb dX9_layText_28 rfl (lv_at hl 0 rfl) ?_
      refine m_get X hS fl_9_19 (vC_0_1 q cI cZ _) dX9_layText_29 ?_
      obtain ⟨c3, hq, hf⟩ := o_cav hf
      refine m_callv (rest := []) X hS hl.1 (c_X1_copy l D cI cZ q _ _ _ hq) cv_9_254 (oC_4 q cI cZ _) rfl rfl ⟨Nat.le_of_ble_eq_true rfl, Nat.le_of_ble_eq_true rfl⟩ ⟨Nat.zero_le _, Nat.zero_le _⟩ (Nat.le_of_ble_eq_true rfl) dX9_layText_32 (fun H locs hS => ?_)
      refine lv_aload_n hx hb dX9_layText_35 rfl (lv_at hl 0 rfl) ?_
      refine m_get X hS fl_9_38 (vC_0_4 q cI cZ _) dX9_layText_36 ?_
      refine lv_aload_n hx hb dX9_layText_39 rfl (lv_at hl 0 rfl) ?_
      refine m_get X hS fl_9_32 (vC_0_3 q cI cZ _) dX9_layText_40 ?_
      obtain ⟨c4, hq, hf⟩ := o_cav hf
      refine m_callv (rest := []) X hS hl.1 (c_X3_begin l D cI cZ q _ _ _ hq) cv_9_256 (oC_5 q cI cZ _) rfl rfl ⟨Nat.le_of_ble_eq_true rfl, Nat.le_of_ble_eq_true rfl⟩ ⟨Nat.zero_le _, Nat.zero_le _⟩ (Nat.le_of_ble_eq_true rfl) dX9_layText_43 (fun H locs hS => ?_)
      refine lv_aload_n hx hb dX9_layText_46 rfl (lv_at hl 0 rfl) ?_
      refine m_get X hS fl_9_66 (vC_0_8 q cI cZ _) dX9_layText_47 ?_
      refine lv_iconst (v := (0 : Int32)) hx hb dX9_layText_50 (by decide) ?_
      refine m_put X hS fp_9_184 (pC_9_3 q cI cZ) dX9_layText_51 (fun c5 ec H locs hS => ?_)
      have hf := o_bnd hf c5 ec
      refine lv_aload_n hx hb dX9_layText_54 rfl (lv_at hl 0 rfl) ?_
      refine m_get X hS fl_9_73 (vC_0_9 q cI cZ _) dX9_layText_55 ?_
      obtain ⟨r6, c7, hq, hf⟩ := o_cal hf
      refine m_calli (rest := []) X hS hl.1 (c_X6_empty l D cI cZ q _ _ _ hq) cv_9_234 (oC_10 q cI cZ _) rfl rfl ⟨Nat.le_of_ble_eq_true rfl, Nat.le_of_ble_eq_true rfl⟩ ⟨Nat.zero_le _, Nat.zero_le _⟩ (Nat.le_of_ble_eq_true rfl) dX9_layText_58 (fun H locs hS => ?_)
      refine lv_pop hx hb dX9_layText_61 rfl ?_
      refine lv_aload_n hx hb dX9_layText_62 rfl (lv_at hl 0 rfl) ?_
      refine m_get X hS fl_9_80 (vC_0_10 q cI cZ _) dX9_layText_63 ?_
      refine lv_iconst (v := (0 : Int32)) hx hb dX9_layText_66 (by decide) ?_
      refine m_put X hS fp_9_247 (pC_11_2 q cI cZ) dX9_layText_67 (fun c8 ec H locs hS => ?_)
      have hf := o_bnd hf c8 ec
      refine lv_iconst (v := (1 : Int32)) hx hb dX9_layText_70 (by decide) ?_
      exact ret (Or.inr rfl) hf hS dX9_layText_71
    · have hf := o_t hc hf
      refine lv_iconst (v := (0 : Int32)) hx hb dX9_layText_22 (by decide) ?_
      exact ret (Or.inl rfl) hf hS dX9_layText_23

set_option maxHeartbeats 40000000 in
set_option maxRecDepth 100000 in
theorem c_X8_empty (l : Launch) (D : va_G) (cI cZ : ClassId) (q : Nat → Nat) (c : Mm) (sz : Nat) (R : Int32 × Mm) (hf : X8_empty c = some R) : m_Mi l yX8_empty cX8_empty 2 (some .int) 0 0 D cI cZ (mkC q cI cZ) 50 q [.ref (q 1)] c sz R := by
  refine m_enter_i (own := RX8) (by decide) rfl (Nat.le_of_ble_eq_true rfl) ?_
  intro p e s m args below meth cd Q X ret
  have hx := X.1
  have hb := X.2.1
  intro H locs ls hS hl
  have hl : lv_has ls 2 [(0, .ref (q 1))] := hl
  unfold X8_empty at hf
  refine lv_aload_n hx hb dX8_empty_0 rfl (lv_at hl 0 rfl) ?_
  refine m_get X hS fl_8_15 (vC_1_1 q cI cZ _) dX8_empty_1 ?_
  refine lv_topi (fun x1 ex => ?_)
  have hf := o_bnd hf x1 ex
  refine lv_istore_n (lv' := [(1, .int x1), (0, .ref (q 1))]) hx hb dX8_empty_4 rfl hl (by decide) rfl (fun ls hl => ?_)
  refine lv_aload_n hx hb dX8_empty_5 rfl (lv_at hl 1 rfl) ?_
  refine lv_iconst (v := (0 : Int32)) hx hb dX8_empty_6 (by decide) ?_
  refine m_put X hS fp_8_15 (pC_1_1 q cI cZ) dX8_empty_7 (fun c2 ec H locs hS => ?_)
  have hf := o_bnd hf c2 ec
  refine lv_iload_n hx hb dX8_empty_10 rfl (lv_at hl 0 rfl) ?_
  exact ret hf hS dX8_empty_11

set_option maxHeartbeats 40000000 in
set_option maxRecDepth 100000 in
theorem c_X9_write (l : Launch) (D : va_G) (cI cZ : ClassId) (q : Nat → Nat) (c : Mm) (sz : Nat) (v1 : Int32) (R : Int32 × Mm) (hf : X9_write v1 c = some R) : m_Mi l yX9_write cX9_write 2 (some .int) 1 22 D cI cZ (mkC q cI cZ) 50 q [.ref (q 0), .int v1] c sz R := by
  refine m_enter_i (own := RX9) (by decide) rfl (Nat.le_of_ble_eq_true rfl) ?_
  intro p e s m args below meth cd Q X ret
  have hx := X.1
  have hb := X.2.1
  intro H locs ls hS hl
  have hl : lv_has ls 2 [(0, .ref (q 0)), (1, .int v1)] := hl
  unfold X9_write at hf
  refine lv_iload_n hx hb dX9_write_0 rfl (lv_at hl 1 rfl) ?_
  refine lv_bipush (v := (32 : Int32)) hx hb dX9_write_1 (by decide) ?_
  refine lv_bipush (v := (126 : Int32)) hx hb dX9_write_3 (by decide) ?_
  obtain ⟨r1, c2, hq, hf⟩ := o_cal hf
  refine m_calls (rest := []) X hS hl.1 (c_X9_isWithin l D cI cZ q _ _ v1 (32 : Int32) (126 : Int32) _ hq) cs_9_107 rfl rfl ⟨Nat.le_of_ble_eq_true rfl, Nat.le_of_ble_eq_true rfl⟩ ⟨Nat.zero_le _, Nat.zero_le _⟩ (Nat.le_of_ble_eq_true rfl) dX9_write_5 (fun H locs hS => ?_)
  refine lv_if_ne (tgt := 13) hx hb dX9_write_8 (by decide) (fun hc => ?_) (fun hc => ?_)
  · have hf := o_f hc hf
    refine lv_aload_n hx hb dX9_write_13 rfl (lv_at hl 0 rfl) ?_
    refine m_get X hS fl_9_10 (vC_0_0 q cI cZ _) dX9_write_14 ?_
    refine lv_iload_n hx hb dX9_write_17 rfl (lv_at hl 1 rfl) ?_
    obtain ⟨r3, c4, hq, hf⟩ := o_cal hf
    refine m_calli (rest := []) X hS hl.1 (c_X8_add l D cI cZ q _ _ v1 _ hq) cv_9_96 (oC_1 q cI cZ _) rfl rfl ⟨Nat.le_of_ble_eq_true rfl, Nat.le_of_ble_eq_true rfl⟩ ⟨Nat.zero_le _, Nat.zero_le _⟩ (Nat.le_of_ble_eq_true rfl) dX9_write_18 (fun H locs hS => ?_)
    refine lv_if_eq (tgt := 34) hx hb dX9_write_21 (by decide) (fun hc => ?_) (fun hc => ?_)
    · have hf := o_t hc hf
      refine lv_bipush (v := (-3 : Int32)) hx hb dX9_write_34 (by decide) ?_
      exact ret hf hS dX9_write_36
    · have hf := o_f hc hf
      refine lv_aload_n hx hb dX9_write_24 rfl (lv_at hl 0 rfl) ?_
      refine m_get X hS fl_9_10 (vC_0_0 q cI cZ _) dX9_write_25 ?_
      refine m_get X hS fl_9_111 (vC_1_1 q cI cZ _) dX9_write_28 ?_
      refine lv_goto (tgt := 36) hx hb dX9_write_31 (by decide) ?_
      exact ret hf hS dX9_write_36
  · have hf := o_t hc hf
    refine lv_iconst (v := (-1 : Int32)) hx hb dX9_write_11 (by decide) ?_
    exact ret hf hS dX9_write_12

set_option maxHeartbeats 40000000 in
set_option maxRecDepth 100000 in
theorem c_X9_wipe (l : Launch) (D : va_G) (cI cZ : ClassId) (q : Nat → Nat) (c : Mm) (sz : Nat) (R : Int32 × Mm) (hf : X9_wipe c = some R) : m_Mi l yX9_wipe cX9_wipe 1 (some .int) 1 21 D cI cZ (mkC q cI cZ) 50 q [.ref (q 0)] c sz R := by
  refine m_enter_i (own := RX9) (by decide) rfl (Nat.le_of_ble_eq_true rfl) ?_
  intro p e s m args below meth cd Q X ret
  have hx := X.1
  have hb := X.2.1
  intro H locs ls hS hl
  have hl : lv_has ls 1 [(0, .ref (q 0))] := hl
  unfold X9_wipe at hf
  refine lv_aload_n hx hb dX9_wipe_0 rfl (lv_at hl 0 rfl) ?_
  refine m_get X hS fl_9_10 (vC_0_0 q cI cZ _) dX9_wipe_1 ?_
  obtain ⟨r1, c2, hq, hf⟩ := o_cal hf
  refine m_calli (rest := []) X hS hl.1 (c_X8_empty l D cI cZ q _ _ _ hq) cv_9_104 (oC_1 q cI cZ _) rfl rfl ⟨Nat.le_of_ble_eq_true rfl, Nat.le_of_ble_eq_true rfl⟩ ⟨Nat.zero_le _, Nat.zero_le _⟩ (Nat.le_of_ble_eq_true rfl) dX9_wipe_4 (fun H locs hS => ?_)
  exact ret hf hS dX9_wipe_7

set_option maxHeartbeats 40000000 in
set_option maxRecDepth 100000 in
theorem c_X9_fault (l : Launch) (D : va_G) (cI cZ : ClassId) (q : Nat → Nat) (c : Mm) (sz : Nat) (R : Int32 × Mm) (hf : X9_fault c = some R) : m_Mi l yX9_fault cX9_fault 1 (some .int) 5 119 D cI cZ (mkC q cI cZ) 50 q [.ref (q 0)] c sz R := by
  refine m_enter_i (own := RX9) (by decide) rfl (Nat.le_of_ble_eq_true rfl) ?_
  intro p e s m args below meth cd Q X ret
  have hx := X.1
  have hb := X.2.1
  intro H locs ls hS hl
  have hl : lv_has ls 1 [(0, .ref (q 0))] := hl
  unfold X9_fault at hf
  refine lv_aload_n hx hb dX9_fault_0 rfl (lv_at hl 0 rfl) ?_
  refine m_get X hS fl_9_28 (vC_0_2 q cI cZ _) dX9_fault_1 ?_
  obtain ⟨r1, c2, hq, hf⟩ := o_cal hf
  refine m_calli (rest := []) X hS hl.1 (c_X4_firstFault l D cI cZ q _ _ _ hq) cv_9_114 (oC_3 q cI cZ _) rfl rfl ⟨Nat.le_of_ble_eq_true rfl, Nat.le_of_ble_eq_true rfl⟩ ⟨Nat.zero_le _, Nat.zero_le _⟩ (Nat.le_of_ble_eq_true rfl) dX9_fault_4 (fun H locs hS => ?_)
  exact ret hf hS dX9_fault_7

set_option maxHeartbeats 40000000 in
set_option maxRecDepth 100000 in
theorem c_X9_lay (l : Launch) (D : va_G) (cI cZ : ClassId) (q : Nat → Nat) (c : Mm) (sz : Nat) (R : Int32 × Mm) (hf : X9_lay c = some R) : m_Mi l yX9_lay cX9_lay 1 (some .int) 6 139 D cI cZ (mkC q cI cZ) 50 q [.ref (q 0)] c sz R := by
  refine m_enter_i (own := RX9) (by decide) rfl (Nat.le_of_ble_eq_true rfl) ?_
  intro p e s m args below meth cd Q X ret
  have hx := X.1
  have hb := X.2.1
  intro H locs ls hS hl
  have hl : lv_has ls 1 [(0, .ref (q 0))] := hl
  unfold X9_lay at hf
  refine lv_aload_n hx hb dX9_lay_0 rfl (lv_at hl 0 rfl) ?_
  obtain ⟨r1, c2, hq, hf⟩ := o_cal hf
  refine m_calli (rest := []) X hS hl.1 (c_X9_layText l D cI cZ q _ _ _ hq) cv_9_100 (oC_0 q cI cZ _) rfl rfl ⟨Nat.le_of_ble_eq_true rfl, Nat.le_of_ble_eq_true rfl⟩ ⟨Nat.zero_le _, Nat.zero_le _⟩ (Nat.le_of_ble_eq_true rfl) dX9_lay_1 (fun H locs hS => ?_)
  refine lv_if_eq (tgt := 17) hx hb dX9_lay_4 (by decide) (fun hc => ?_) (fun hc => ?_)
  · have hf := o_t hc hf
    refine lv_bipush (v := (-2 : Int32)) hx hb dX9_lay_17 (by decide) ?_
    exact ret hf hS dX9_lay_19
  · have hf := o_f hc hf
    refine lv_aload_n hx hb dX9_lay_7 rfl (lv_at hl 0 rfl) ?_
    refine m_get X hS fl_9_32 (vC_0_3 q cI cZ _) dX9_lay_8 ?_
    refine m_get X hS fl_9_117 (vC_4_0 q cI cZ _) dX9_lay_11 ?_
    refine lv_goto (tgt := 19) hx hb dX9_lay_14 (by decide) ?_
    exact ret hf hS dX9_lay_19

set_option maxHeartbeats 40000000 in
set_option maxRecDepth 100000 in
theorem c_X9_isBoat (l : Launch) (D : va_G) (cI cZ : ClassId) (q : Nat → Nat) (c : Mm) (sz : Nat) (v1 : Int32) (R : Int32 × Mm) (hf : X9_isBoat v1 c = some R) : m_Mi l yX9_isBoat cX9_isBoat 2 (some .boolean) 1 22 D cI cZ (mkC q cI cZ) 50 q [.ref (q 0), .int v1] c sz R := by
  refine m_enter_z (own := RX9) (by decide) rfl (Nat.le_of_ble_eq_true rfl) ?_
  intro p e s m args below meth cd Q X ret
  have hx := X.1
  have hb := X.2.1
  intro H locs ls hS hl
  have hl : lv_has ls 2 [(0, .ref (q 0)), (1, .int v1)] := hl
  unfold X9_isBoat at hf
  refine lv_iload_n hx hb dX9_isBoat_0 rfl (lv_at hl 1 rfl) ?_
  refine lv_iconst (v := (0 : Int32)) hx hb dX9_isBoat_1 (by decide) ?_
  refine lv_aload_n hx hb dX9_isBoat_2 rfl (lv_at hl 0 rfl) ?_
  refine m_get X hS fl_9_32 (vC_0_3 q cI cZ _) dX9_isBoat_3 ?_
  refine m_get X hS fl_9_117 (vC_4_0 q cI cZ _) dX9_isBoat_6 ?_
  refine lv_iconst (v := (1 : Int32)) hx hb dX9_isBoat_9 (by decide) ?_
  refine lv_isub hx hb dX9_isBoat_10 ?_
  obtain ⟨r1, c2, hq, hf⟩ := o_cal hf
  refine m_calls (rest := []) X hS hl.1 (c_X9_isWithin l D cI cZ q _ _ v1 (0 : Int32) ((c 4 0) - (1 : Int32)) _ hq) cs_9_107 rfl rfl ⟨Nat.le_of_ble_eq_true rfl, Nat.le_of_ble_eq_true rfl⟩ ⟨Nat.zero_le _, Nat.zero_le _⟩ (Nat.le_of_ble_eq_true rfl) dX9_isBoat_11 (fun H locs hS => ?_)
  obtain ⟨hz, hf⟩ := o_gb hf
  exact ret hz hf hS dX9_isBoat_14

set_option maxHeartbeats 40000000 in
set_option maxRecDepth 100000 in
theorem c_X9_boat (l : Launch) (D : va_G) (cI cZ : ClassId) (q : Nat → Nat) (c : Mm) (sz : Nat) (v1 : Int32) (v2 : Int32) (R : Int32 × Mm) (hf : X9_boat v1 v2 c = some R) : m_Mi l yX9_boat cX9_boat 3 (some .int) 2 43 D cI cZ (mkC q cI cZ) 50 q [.ref (q 0), .int v1, .int v2] c sz R := by
  refine m_enter_i (own := RX9) (by decide) rfl (Nat.le_of_ble_eq_true rfl) ?_
  intro p e s m args below meth cd Q X ret
  have hx := X.1
  have hb := X.2.1
  intro H locs ls hS hl
  have hl : lv_has ls 3 [(0, .ref (q 0)), (1, .int v1), (2, .int v2)] := hl
  unfold X9_boat at hf
  refine lv_aload_n hx hb dX9_boat_0 rfl (lv_at hl 0 rfl) ?_
  refine lv_iload_n hx hb dX9_boat_1 rfl (lv_at hl 1 rfl) ?_
  obtain ⟨r1, c2, hq, hf⟩ := o_cal hf
  refine m_calli (rest := []) X hS hl.1 (c_X9_isBoat l D cI cZ q _ _ v1 _ hq) cv_9_120 (oC_0 q cI cZ _) rfl rfl ⟨Nat.le_of_ble_eq_true rfl, Nat.le_of_ble_eq_true rfl⟩ ⟨Nat.zero_le _, Nat.zero_le _⟩ (Nat.le_of_ble_eq_true rfl) dX9_boat_2 (fun H locs hS => ?_)
  refine lv_if_ne (tgt := 10) hx hb dX9_boat_5 (by decide) (fun hc => ?_) (fun hc => ?_)
  · have hf := o_f hc hf
    refine lv_iload_n hx hb dX9_boat_10 rfl (lv_at hl 2 rfl) ?_
    by_cases h_0 : v2 = (0 : Int32)
    · have hf := o_t h_0 hf
      refine lv_tableIn (off := 37) (tgt := 48) hx hb dX9_boat_11 (by rw [h_0]; decide) (by rw [h_0]; decide) (by rw [h_0]; decide) (by decide) ?_
      refine lv_aload_n hx hb dX9_boat_48 rfl (lv_at hl 0 rfl) ?_
      refine m_get X hS fl_9_32 (vC_0_3 q cI cZ _) dX9_boat_49 ?_
      refine m_get X hS fl_9_123 (vC_4_6 q cI cZ _) dX9_boat_52 ?_
      refine lv_iload_n hx hb dX9_boat_55 rfl (lv_at hl 1 rfl) ?_
      obtain ⟨hg, hf⟩ := o_gi hf
      refine m_ild X hS (aC_21 q cI cZ) hg dX9_boat_56 ?_
      exact ret hf hS dX9_boat_57
    have hf := o_f h_0 hf
    by_cases h_1 : v2 = (1 : Int32)
    · have hf := o_t h_1 hf
      refine lv_tableIn (off := 47) (tgt := 58) hx hb dX9_boat_11 (by rw [h_1]; decide) (by rw [h_1]; decide) (by rw [h_1]; decide) (by decide) ?_
      refine lv_aload_n hx hb dX9_boat_58 rfl (lv_at hl 0 rfl) ?_
      refine m_get X hS fl_9_32 (vC_0_3 q cI cZ _) dX9_boat_59 ?_
      refine m_get X hS fl_9_127 (vC_4_7 q cI cZ _) dX9_boat_62 ?_
      refine lv_iload_n hx hb dX9_boat_65 rfl (lv_at hl 1 rfl) ?_
      obtain ⟨hg, hf⟩ := o_gi hf
      refine m_ild X hS (aC_22 q cI cZ) hg dX9_boat_66 ?_
      exact ret hf hS dX9_boat_67
    have hf := o_f h_1 hf
    by_cases h_2 : v2 = (2 : Int32)
    · have hf := o_t h_2 hf
      refine lv_tableIn (off := 57) (tgt := 68) hx hb dX9_boat_11 (by rw [h_2]; decide) (by rw [h_2]; decide) (by rw [h_2]; decide) (by decide) ?_
      refine lv_aload_n hx hb dX9_boat_68 rfl (lv_at hl 0 rfl) ?_
      refine m_get X hS fl_9_32 (vC_0_3 q cI cZ _) dX9_boat_69 ?_
      refine m_get X hS fl_9_130 (vC_4_8 q cI cZ _) dX9_boat_72 ?_
      refine lv_iload_n hx hb dX9_boat_75 rfl (lv_at hl 1 rfl) ?_
      obtain ⟨hg, hf⟩ := o_gi hf
      refine m_ild X hS (aC_23 q cI cZ) hg dX9_boat_76 ?_
      exact ret hf hS dX9_boat_77
    have hf := o_f h_2 hf
    by_cases h_3 : v2 = (3 : Int32)
    · have hf := o_t h_3 hf
      refine lv_tableIn (off := 67) (tgt := 78) hx hb dX9_boat_11 (by rw [h_3]; decide) (by rw [h_3]; decide) (by rw [h_3]; decide) (by decide) ?_
      refine lv_aload_n hx hb dX9_boat_78 rfl (lv_at hl 0 rfl) ?_
      refine m_get X hS fl_9_38 (vC_0_4 q cI cZ _) dX9_boat_79 ?_
      refine m_get X hS fl_9_133 (vC_5_0 q cI cZ _) dX9_boat_82 ?_
      refine lv_iload_n hx hb dX9_boat_85 rfl (lv_at hl 1 rfl) ?_
      obtain ⟨hg, hf⟩ := o_gi hf
      refine m_ild X hS (aC_28 q cI cZ) hg dX9_boat_86 ?_
      exact ret hf hS dX9_boat_87
    have hf := o_f h_3 hf
    by_cases h_4 : v2 = (4 : Int32)
    · have hf := o_t h_4 hf
      refine lv_tableIn (off := 77) (tgt := 88) hx hb dX9_boat_11 (by rw [h_4]; decide) (by rw [h_4]; decide) (by rw [h_4]; decide) (by decide) ?_
      refine lv_aload_n hx hb dX9_boat_88 rfl (lv_at hl 0 rfl) ?_
      refine m_get X hS fl_9_32 (vC_0_3 q cI cZ _) dX9_boat_89 ?_
      refine m_get X hS fl_9_136 (vC_4_10 q cI cZ _) dX9_boat_92 ?_
      refine lv_iload_n hx hb dX9_boat_95 rfl (lv_at hl 1 rfl) ?_
      obtain ⟨hg, hf⟩ := o_gi hf
      refine m_ild X hS (aC_25 q cI cZ) hg dX9_boat_96 ?_
      exact ret hf hS dX9_boat_97
    have hf := o_f h_4 hf
    by_cases h_5 : v2 = (5 : Int32)
    · have hf := o_t h_5 hf
      refine lv_tableIn (off := 87) (tgt := 98) hx hb dX9_boat_11 (by rw [h_5]; decide) (by rw [h_5]; decide) (by rw [h_5]; decide) (by decide) ?_
      refine lv_aload_n hx hb dX9_boat_98 rfl (lv_at hl 0 rfl) ?_
      refine m_get X hS fl_9_38 (vC_0_4 q cI cZ _) dX9_boat_99 ?_
      refine m_get X hS fl_9_139 (vC_5_1 q cI cZ _) dX9_boat_102 ?_
      refine lv_iload_n hx hb dX9_boat_105 rfl (lv_at hl 1 rfl) ?_
      obtain ⟨hg, hf⟩ := o_gi hf
      refine m_ild X hS (aC_29 q cI cZ) hg dX9_boat_106 ?_
      exact ret hf hS dX9_boat_107
    have hf := o_f h_5 hf
    refine lv_tableOut (tgt := 108) hx hb dX9_boat_11 (by have := lv_neT h_0 (by decide : ((0 : Int32)).toInt = 0); have := lv_neT h_1 (by decide : ((1 : Int32)).toInt = 1); have := lv_neT h_2 (by decide : ((2 : Int32)).toInt = 2); have := lv_neT h_3 (by decide : ((3 : Int32)).toInt = 3); have := lv_neT h_4 (by decide : ((4 : Int32)).toInt = 4); have := lv_neT h_5 (by decide : ((5 : Int32)).toInt = 5); omega) (by decide) ?_
    refine lv_iconst (v := (-1 : Int32)) hx hb dX9_boat_108 (by decide) ?_
    exact ret hf hS dX9_boat_109
  · have hf := o_t hc hf
    refine lv_iconst (v := (-1 : Int32)) hx hb dX9_boat_8 (by decide) ?_
    exact ret hf hS dX9_boat_9

set_option maxHeartbeats 40000000 in
set_option maxRecDepth 100000 in
theorem c_X9_isRule (l : Launch) (D : va_G) (cI cZ : ClassId) (q : Nat → Nat) (c : Mm) (sz : Nat) (v0 : Int32) (R : Int32 × Mm) (hf : X9_isRule v0 c = some R) : m_Mi l yX9_isRule cX9_isRule 1 (some .boolean) 1 22 D cI cZ (mkC q cI cZ) 50 q [.int v0] c sz R := by
  refine m_enter_z (own := RX9) (by decide) rfl (Nat.le_of_ble_eq_true rfl) ?_
  intro p e s m args below meth cd Q X ret
  have hx := X.1
  have hb := X.2.1
  intro H locs ls hS hl
  have hl : lv_has ls 1 [(0, .int v0)] := hl
  unfold X9_isRule at hf
  refine lv_iload_n hx hb dX9_isRule_0 rfl (lv_at hl 0 rfl) ?_
  refine lv_iconst (v := (0 : Int32)) hx hb dX9_isRule_1 (by decide) ?_
  refine lv_iconst (v := (3 : Int32)) hx hb dX9_isRule_2 (by decide) ?_
  obtain ⟨r1, c2, hq, hf⟩ := o_cal hf
  refine m_calls (rest := []) X hS hl.1 (c_X9_isWithin l D cI cZ q _ _ v0 (0 : Int32) (3 : Int32) _ hq) cs_9_107 rfl rfl ⟨Nat.le_of_ble_eq_true rfl, Nat.le_of_ble_eq_true rfl⟩ ⟨Nat.zero_le _, Nat.zero_le _⟩ (Nat.le_of_ble_eq_true rfl) dX9_isRule_3 (fun H locs hS => ?_)
  obtain ⟨hz, hf⟩ := o_gb hf
  exact ret hz hf hS dX9_isRule_6

set_option maxHeartbeats 40000000 in
set_option maxRecDepth 100000 in
theorem c_X2_isAtEnd (l : Launch) (D : va_G) (cI cZ : ClassId) (q : Nat → Nat) (c : Mm) (sz : Nat) (v1 : Int32) (R : Int32 × Mm) (hf : X2_isAtEnd v1 c = some R) : m_Mi l yX2_isAtEnd cX2_isAtEnd 2 (some .boolean) 0 0 D cI cZ (mkC q cI cZ) 50 q [.ref (q 8), .int v1] c sz R := by
  refine m_enter_z (own := RX2) (by decide) rfl (Nat.le_of_ble_eq_true rfl) ?_
  intro p e s m args below meth cd Q X ret
  have hx := X.1
  have hb := X.2.1
  have k24 : ∀ (s0 : Int32) (s1 : Int32) (c : Mm), X2_isAtEnd_j24 s0 s1 c = some R → m_G p l e (m_rm 0 0) s m args below meth cd Q D (mkC q cI cZ) 50 q 2 24 [] [.int s1, .int s0] c := by
    intro s0 s1 c hf H locs ls hS hl
    unfold X2_isAtEnd_j24 at hf
    refine lv_icmp_ne (tgt := 31) hx hb dX2_isAtEnd_24 (by decide) (fun hc => ?_) (fun hc => ?_)
    · have hf := o_f hc hf
      refine lv_iconst (v := (0 : Int32)) hx hb dX2_isAtEnd_31 (by decide) ?_
      exact ret (Or.inl rfl) hf hS dX2_isAtEnd_32
    · have hf := o_t hc hf
      refine lv_iconst (v := (1 : Int32)) hx hb dX2_isAtEnd_27 (by decide) ?_
      refine lv_goto (tgt := 32) hx hb dX2_isAtEnd_28 (by decide) ?_
      exact ret (Or.inr rfl) hf hS dX2_isAtEnd_32
  intro H locs ls hS hl
  have hl : lv_has ls 2 [(0, .ref (q 8)), (1, .int v1)] := hl
  unfold X2_isAtEnd at hf
  refine lv_aload_n hx hb dX2_isAtEnd_0 rfl (lv_at hl 0 rfl) ?_
  refine m_get X hS fl_2_15 (vC_8_3 q cI cZ _) dX2_isAtEnd_1 ?_
  refine lv_iload_n hx hb dX2_isAtEnd_4 rfl (lv_at hl 1 rfl) ?_
  obtain ⟨hg, hf⟩ := o_gi hf
  refine m_ild X hS (aC_33 q cI cZ) hg dX2_isAtEnd_5 ?_
  refine lv_aload_n hx hb dX2_isAtEnd_6 rfl (lv_at hl 0 rfl) ?_
  refine m_get X hS fl_2_45 (vC_8_0 q cI cZ _) dX2_isAtEnd_7 ?_
  refine m_get X hS fl_2_95 (vC_4_7 q cI cZ _) dX2_isAtEnd_10 ?_
  refine lv_iload_n hx hb dX2_isAtEnd_13 rfl (lv_at hl 1 rfl) ?_
  obtain ⟨hg, hf⟩ := o_gi hf
  refine m_ild X hS (aC_22 q cI cZ) hg dX2_isAtEnd_14 ?_
  refine lv_if_ne (tgt := 23) hx hb dX2_isAtEnd_15 (by decide) (fun hc => ?_) (fun hc => ?_)
  · have hf := o_f hc hf
    refine lv_iconst (v := (0 : Int32)) hx hb dX2_isAtEnd_23 (by decide) ?_
    exact k24 (c 33 (m_ix v1)) (0 : Int32) _ hf H locs ls hS (lv_sub hl [] rfl)
  · have hf := o_t hc hf
    refine lv_bipush (v := (60 : Int32)) hx hb dX2_isAtEnd_18 (by decide) ?_
    refine lv_goto (tgt := 24) hx hb dX2_isAtEnd_20 (by decide) ?_
    exact k24 (c 33 (m_ix v1)) (60 : Int32) _ hf H locs ls hS (lv_sub hl [] rfl)

set_option maxHeartbeats 40000000 in
set_option maxRecDepth 100000 in
theorem c_X2_arrive (l : Launch) (D : va_G) (cI cZ : ClassId) (q : Nat → Nat) (c : Mm) (sz : Nat) (v1 : Int32) (R : Mm) (hf : X2_arrive v1 c = some R) : m_Mv l yX2_arrive cX2_arrive 3 1 21 D cI cZ (mkC q cI cZ) 50 q [.ref (q 8), .int v1] c sz R := by
  refine m_enter_v (own := RX2) (by decide) rfl (Nat.le_of_ble_eq_true rfl) ?_
  intro p e s m args below meth cd Q X ret
  have hx := X.1
  have hb := X.2.1
  have k49 : ∀ (v1 : Int32) (v2 : Int32) (rc2 : Int32 → Mm → Option (Mm)) (hrc2 : ∀ (w2 : Int32) (c : Mm), rc2 w2 c = some R → m_G p l e (m_rm 1 21) s m args below meth cd Q D (mkC q cI cZ) 50 q 3 2 [(0, .ref (q 8)), (1, .int v1), (2, .int w2)] [] c) (c : Mm), X2_arrive_j49 rc2 v1 v2 c = some R → m_G p l e (m_rm 1 21) s m args below meth cd Q D (mkC q cI cZ) 50 q 3 49 [(0, .ref (q 8)), (1, .int v1), (2, .int v2)] [] c := by
    intro v1 v2 rc2 hrc2 c hf H locs ls hS hl
    unfold X2_arrive_j49 at hf
    obtain ⟨x1, ex⟩ : ∃ y : Int32, y = v2 + (1 : Int32) := ⟨_, rfl⟩
    have hf := o_bnd hf x1 ex
    refine lv_iinc (v := x1) (lv' := [(2, .int x1), (0, .ref (q 8)), (1, .int v1)]) hx hb dX2_arrive_49 hl (k := 2) rfl (by rw [ex]; rfl) (by decide) rfl (fun ls hl => ?_)
    refine lv_goto (tgt := 2) hx hb dX2_arrive_52 (by decide) ?_
    exact hrc2 x1 _ hf H locs ls hS (lv_sub hl [1, 2, 0] rfl)
  have k2 : ∀ (v1 : Int32), ∀ (n : Nat) (v2 : Int32) (c : Mm), m_lp1 (X2_arrive_b2 v1) n v2 c = some R → m_G p l e (m_rm 1 21) s m args below meth cd Q D (mkC q cI cZ) 50 q 3 2 [(0, .ref (q 8)), (1, .int v1), (2, .int v2)] [] c := by
    intro v1
    refine m_lp1_i ?_
    intro rc2 hrc2 v2 c hf H locs ls hS hl
    unfold X2_arrive_b2 at hf
    refine lv_iload_n hx hb dX2_arrive_2 rfl (lv_at hl 2 rfl) ?_
    refine lv_aload_n hx hb dX2_arrive_3 rfl (lv_at hl 0 rfl) ?_
    refine m_get X hS fl_2_45 (vC_8_0 q cI cZ _) dX2_arrive_4 ?_
    refine m_get X hS fl_2_78 (vC_4_0 q cI cZ _) dX2_arrive_7 ?_
    refine lv_icmp_ge (tgt := 55) hx hb dX2_arrive_10 (by decide) (fun hc => ?_) (fun hc => ?_)
    · have hf := o_t hc hf
      exact ret hf hS dX2_arrive_55
    · have hf := o_f hc hf
      refine lv_aload_n hx hb dX2_arrive_13 rfl (lv_at hl 0 rfl) ?_
      refine m_get X hS fl_2_21 (vC_8_5 q cI cZ _) dX2_arrive_14 ?_
      refine lv_iload_n hx hb dX2_arrive_17 rfl (lv_at hl 2 rfl) ?_
      obtain ⟨hg, hf⟩ := o_gi hf
      refine m_ild X hS (aC_35 q cI cZ) hg dX2_arrive_18 ?_
      refine lv_bipush (v := (-4 : Int32)) hx hb dX2_arrive_19 (by decide) ?_
      refine lv_icmp_ne (tgt := 49) hx hb dX2_arrive_21 (by decide) (fun hc => ?_) (fun hc => ?_)
      · have hf := o_f hc hf
        exact k49 v1 v2 rc2 hrc2 _ hf H locs ls hS (lv_sub hl [0, 1, 2] rfl)
      · have hf := o_t hc hf
        refine lv_aload_n hx hb dX2_arrive_24 rfl (lv_at hl 0 rfl) ?_
        refine lv_iload_n hx hb dX2_arrive_25 rfl (lv_at hl 2 rfl) ?_
        obtain ⟨r2, c3, hq, hf⟩ := o_cal hf
        refine m_calli (rest := []) X hS hl.1 (c_X2_isAtEnd l D cI cZ q _ _ v2 _ hq) cv_2_91 (oC_8 q cI cZ _) rfl rfl ⟨Nat.le_of_ble_eq_true rfl, Nat.le_of_ble_eq_true rfl⟩ ⟨Nat.zero_le _, Nat.zero_le _⟩ (Nat.le_of_ble_eq_true rfl) dX2_arrive_26 (fun H locs hS => ?_)
        refine lv_if_eq (tgt := 49) hx hb dX2_arrive_29 (by decide) (fun hc => ?_) (fun hc => ?_)
        · have hf := o_t hc hf
          exact k49 v1 v2 rc2 hrc2 _ hf H locs ls hS (lv_sub hl [0, 1, 2] rfl)
        · have hf := o_f hc hf
          refine lv_aload_n hx hb dX2_arrive_32 rfl (lv_at hl 0 rfl) ?_
          refine m_get X hS fl_2_21 (vC_8_5 q cI cZ _) dX2_arrive_33 ?_
          refine lv_iload_n hx hb dX2_arrive_36 rfl (lv_at hl 2 rfl) ?_
          refine lv_iload_n hx hb dX2_arrive_37 rfl (lv_at hl 1 rfl) ?_
          obtain ⟨hg, hf⟩ := o_gi hf
          refine m_ist X hS (aC_35 q cI cZ) hg dX2_arrive_38 (fun c4 ec H locs hS => ?_)
          have hf := o_bnd hf c4 ec
          refine lv_aload_n hx hb dX2_arrive_39 rfl (lv_at hl 0 rfl) ?_
          refine lv_dup hx hb dX2_arrive_40 rfl ?_
          refine m_get X hS fl_2_57 (vC_8_10 q cI cZ _) dX2_arrive_41 ?_
          refine lv_iconst (v := (1 : Int32)) hx hb dX2_arrive_44 (by decide) ?_
          refine lv_isub hx hb dX2_arrive_45 ?_
          refine m_put X hS fp_2_57 (pC_8_10 q cI cZ) dX2_arrive_46 (fun c5 ec H locs hS => ?_)
          have hf := o_bnd hf c5 ec
          exact k49 v1 v2 rc2 hrc2 _ hf H locs ls hS (lv_sub hl [0, 1, 2] rfl)
  intro H locs ls hS hl
  have hl : lv_has ls 3 [(0, .ref (q 8)), (1, .int v1)] := hl
  unfold X2_arrive at hf
  refine lv_iconst (v := (0 : Int32)) hx hb dX2_arrive_0 (by decide) ?_
  refine lv_istore_n (lv' := [(2, .int (0 : Int32)), (0, .ref (q 8)), (1, .int v1)]) hx hb dX2_arrive_1 rfl hl (by decide) rfl (fun ls hl => ?_)
  exact k2 v1 _ (0 : Int32) _ hf H locs ls hS (lv_sub hl [1, 2, 0] rfl)
