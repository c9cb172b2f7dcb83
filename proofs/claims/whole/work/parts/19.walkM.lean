set_option maxHeartbeats 40000000 in
set_option maxRecDepth 100000 in
theorem c_X10_there (l : Launch) (D : va_G) (cI cZ : ClassId) (q : Nat → Nat) (c : Mm) (sz : Nat) (v1 : Int32) (v2 : Int32) (R : Int32 × Mm) (hf : X10_there v1 v2 c = some R) : m_Mi l yX10_there cX10_there 3 (some .int) 7 168 D cI cZ (mkM q cI cZ) 29 q [.ref (q 0), .int v1, .int v2] c sz R := by
  refine m_enter_i (own := RX10) (by decide) rfl (Nat.le_of_ble_eq_true rfl) ?_
  intro p e s m args below meth cd Q X ret
  have hx := X.1
  have hb := X.2.1
  intro H locs ls hS hl
  have hl : lv_has ls 3 [(0, .ref (q 0)), (1, .int v1), (2, .int v2)] := hl
  unfold X10_there at hf
  refine lv_iload_n hx hb dX10_there_0 rfl (lv_at hl 1 rfl) ?_
  obtain ⟨r1, c2, hq, hf⟩ := o_cal hf
  refine m_calls (rest := []) X hS hl.1 (c_X10_isRule l D cI cZ q _ _ v1 _ hq) cs_10_209 rfl rfl ⟨Nat.le_of_ble_eq_true rfl, Nat.le_of_ble_eq_true rfl⟩ ⟨Nat.zero_le _, Nat.zero_le _⟩ (Nat.le_of_ble_eq_true rfl) dX10_there_1 (fun H locs hS => ?_)
  refine lv_if_eq (tgt := 15) hx hb dX10_there_4 (by decide) (fun hc => ?_) (fun hc => ?_)
  · have hf := o_t hc hf
    refine lv_iconst (v := (-1 : Int32)) hx hb dX10_there_15 (by decide) ?_
    exact ret hf hS dX10_there_16
  · have hf := o_f hc hf
    refine lv_aload_n hx hb dX10_there_7 rfl (lv_at hl 0 rfl) ?_
    refine lv_iload_n hx hb dX10_there_8 rfl (lv_at hl 2 rfl) ?_
    obtain ⟨r3, c4, hq, hf⟩ := o_cal hf
    refine m_calli (rest := []) X hS hl.1 (c_X10_isBoat l D cI cZ q _ _ v2 _ hq) cv_10_163 (oM_0 q cI cZ _) rfl rfl ⟨Nat.le_of_ble_eq_true rfl, Nat.le_of_ble_eq_true rfl⟩ ⟨Nat.zero_le _, Nat.zero_le _⟩ (Nat.le_of_ble_eq_true rfl) dX10_there_9 (fun H locs hS => ?_)
    refine lv_if_ne (tgt := 17) hx hb dX10_there_12 (by decide) (fun hc => ?_) (fun hc => ?_)
    · have hf := o_f hc hf
      refine lv_aload_n hx hb dX10_there_17 rfl (lv_at hl 0 rfl) ?_
      refine lv_iload_n hx hb dX10_there_18 rfl (lv_at hl 1 rfl) ?_
      obtain ⟨r5, c6, hq, hf⟩ := o_cal hf
      refine m_calli (rest := []) X hS hl.1 (c_X10_goDay l D cI cZ q _ _ v1 _ hq) cv_10_214 (oM_0 q cI cZ _) rfl rfl ⟨Nat.le_of_ble_eq_true rfl, Nat.le_of_ble_eq_true rfl⟩ ⟨Nat.zero_le _, Nat.zero_le _⟩ (Nat.le_of_ble_eq_true rfl) dX10_there_19 (fun H locs hS => ?_)
      refine lv_pop hx hb dX10_there_22 rfl ?_
      refine lv_aload_n hx hb dX10_there_23 rfl (lv_at hl 0 rfl) ?_
      refine m_get X hS fl_10_67 (vM_0_24 q cI cZ _) dX10_there_24 ?_
      refine lv_iload_n hx hb dX10_there_27 rfl (lv_at hl 2 rfl) ?_
      obtain ⟨hg, hf⟩ := o_gi hf
      refine m_ild X hS (aM_20 q cI cZ) hg dX10_there_28 ?_
      exact ret hf hS dX10_there_29
    · have hf := o_t hc hf
      refine lv_iconst (v := (-1 : Int32)) hx hb dX10_there_15 (by decide) ?_
      exact ret hf hS dX10_there_16

set_option maxHeartbeats 40000000 in
set_option maxRecDepth 100000 in
theorem c_X10_stands (l : Launch) (D : va_G) (cI cZ : ClassId) (q : Nat → Nat) (c : Mm) (sz : Nat) (v1 : Int32) (v2 : Int32) (R : Int32 × Mm) (hf : X10_stands v1 v2 c = some R) : m_Mi l yX10_stands cX10_stands 4 (some .int) 7 168 D cI cZ (mkM q cI cZ) 29 q [.ref (q 0), .int v1, .int v2] c sz R := by
  refine m_enter_i (own := RX10) (by decide) rfl (Nat.le_of_ble_eq_true rfl) ?_
  intro p e s m args below meth cd Q X ret
  have hx := X.1
  have hb := X.2.1
  have k22 : ∀ (v1 : Int32) (v2 : Int32) (c : Mm), X10_stands_j22 v1 v2 c = some R → m_G p l e (m_rm 7 168) s m args below meth cd Q D (mkM q cI cZ) 29 q 4 22 [(0, .ref (q 0)), (1, .int v1), (2, .int v2)] [] c := by
    intro v1 v2 c hf H locs ls hS hl
    unfold X10_stands_j22 at hf
    refine lv_aload_n hx hb dX10_stands_22 rfl (lv_at hl 0 rfl) ?_
    refine lv_iload_n hx hb dX10_stands_23 rfl (lv_at hl 1 rfl) ?_
    obtain ⟨r1, c2, hq, hf⟩ := o_cal hf
    refine m_calli (rest := []) X hS hl.1 (c_X10_goDay l D cI cZ q _ _ v1 _ hq) cv_10_214 (oM_0 q cI cZ _) rfl rfl ⟨Nat.le_of_ble_eq_true rfl, Nat.le_of_ble_eq_true rfl⟩ ⟨Nat.zero_le _, Nat.zero_le _⟩ (Nat.le_of_ble_eq_true rfl) dX10_stands_24 (fun H locs hS => ?_)
    refine lv_istore_n (lv' := [(3, .int r1), (0, .ref (q 0)), (1, .int v1), (2, .int v2)]) hx hb dX10_stands_27 rfl hl (by decide) rfl (fun ls hl => ?_)
    refine lv_iload_n hx hb dX10_stands_28 rfl (lv_at hl 3 rfl) ?_
    refine lv_if_ge (tgt := 36) hx hb dX10_stands_29 (by decide) (fun hc => ?_) (fun hc => ?_)
    · have hf := o_t hc hf
      refine lv_aload_n hx hb dX10_stands_36 rfl (lv_at hl 1 rfl) ?_
      refine m_get X hS fl_10_70 (vM_0_25 q cI cZ _) dX10_stands_37 ?_
      refine lv_iload_n hx hb dX10_stands_40 rfl (lv_at hl 3 rfl) ?_
      obtain ⟨hg, hf⟩ := o_gi hf
      refine m_ild X hS (aM_21 q cI cZ) hg dX10_stands_41 ?_
      exact ret hf hS dX10_stands_42
    · have hf := o_f hc hf
      refine lv_iload_n hx hb dX10_stands_32 rfl (lv_at hl 0 rfl) ?_
      refine lv_goto (tgt := 42) hx hb dX10_stands_33 (by decide) ?_
      exact ret hf hS dX10_stands_42
  intro H locs ls hS hl
  have hl : lv_has ls 4 [(0, .ref (q 0)), (1, .int v1), (2, .int v2)] := hl
  unfold X10_stands at hf
  refine lv_iload_n hx hb dX10_stands_0 rfl (lv_at hl 1 rfl) ?_
  obtain ⟨r3, c4, hq, hf⟩ := o_cal hf
  refine m_calls (rest := []) X hS hl.1 (c_X10_isRule l D cI cZ q _ _ v1 _ hq) cs_10_209 rfl rfl ⟨Nat.le_of_ble_eq_true rfl, Nat.le_of_ble_eq_true rfl⟩ ⟨Nat.zero_le _, Nat.zero_le _⟩ (Nat.le_of_ble_eq_true rfl) dX10_stands_1 (fun H locs hS => ?_)
  refine lv_if_eq (tgt := 20) hx hb dX10_stands_4 (by decide) (fun hc => ?_) (fun hc => ?_)
  · have hf := o_t hc hf
    refine lv_iconst (v := (-1 : Int32)) hx hb dX10_stands_20 (by decide) ?_
    exact ret hf hS dX10_stands_21
  · have hf := o_f hc hf
    refine lv_iload_n hx hb dX10_stands_7 rfl (lv_at hl 2 rfl) ?_
    refine lv_iconst (v := (-1 : Int32)) hx hb dX10_stands_8 (by decide) ?_
    refine lv_icmp_eq (tgt := 22) hx hb dX10_stands_9 (by decide) (fun hc => ?_) (fun hc => ?_)
    · have hf := o_t hc hf
      exact k22 v1 v2 _ hf H locs ls hS (lv_sub hl [0, 1, 2] rfl)
    · have hf := o_f hc hf
      refine lv_aload_n hx hb dX10_stands_12 rfl (lv_at hl 0 rfl) ?_
      refine lv_iload_n hx hb dX10_stands_13 rfl (lv_at hl 2 rfl) ?_
      obtain ⟨r5, c6, hq, hf⟩ := o_cal hf
      refine m_calli (rest := []) X hS hl.1 (c_X10_isBoat l D cI cZ q _ _ v2 _ hq) cv_10_163 (oM_0 q cI cZ _) rfl rfl ⟨Nat.le_of_ble_eq_true rfl, Nat.le_of_ble_eq_true rfl⟩ ⟨Nat.zero_le _, Nat.zero_le _⟩ (Nat.le_of_ble_eq_true rfl) dX10_stands_14 (fun H locs hS => ?_)
      refine lv_if_ne (tgt := 22) hx hb dX10_stands_17 (by decide) (fun hc => ?_) (fun hc => ?_)
      · have hf := o_f hc hf
        exact k22 v1 v2 _ hf H locs ls hS (lv_sub hl [0, 1, 2] rfl)
      · have hf := o_t hc hf
        refine lv_iconst (v := (-1 : Int32)) hx hb dX10_stands_20 (by decide) ?_
        exact ret hf hS dX10_stands_21

set_option maxHeartbeats 40000000 in
set_option maxRecDepth 100000 in
theorem c_X10_yields (l : Launch) (D : va_G) (cI cZ : ClassId) (q : Nat → Nat) (c : Mm) (sz : Nat) (v1 : Int32) (v2 : Int32) (R : Int32 × Mm) (hf : X10_yields v1 v2 c = some R) : m_Mi l yX10_yields cX10_yields 3 (some .int) 7 168 D cI cZ (mkM q cI cZ) 29 q [.ref (q 0), .int v1, .int v2] c sz R := by
  refine m_enter_i (own := RX10) (by decide) rfl (Nat.le_of_ble_eq_true rfl) ?_
  intro p e s m args below meth cd Q X ret
  have hx := X.1
  have hb := X.2.1
  intro H locs ls hS hl
  have hl : lv_has ls 3 [(0, .ref (q 0)), (1, .int v1), (2, .int v2)] := hl
  unfold X10_yields at hf
  refine lv_iload_n hx hb dX10_yields_0 rfl (lv_at hl 1 rfl) ?_
  obtain ⟨r1, c2, hq, hf⟩ := o_cal hf
  refine m_calls (rest := []) X hS hl.1 (c_X10_isRule l D cI cZ q _ _ v1 _ hq) cs_10_209 rfl rfl ⟨Nat.le_of_ble_eq_true rfl, Nat.le_of_ble_eq_true rfl⟩ ⟨Nat.zero_le _, Nat.zero_le _⟩ (Nat.le_of_ble_eq_true rfl) dX10_yields_1 (fun H locs hS => ?_)
  refine lv_if_eq (tgt := 15) hx hb dX10_yields_4 (by decide) (fun hc => ?_) (fun hc => ?_)
  · have hf := o_t hc hf
    refine lv_iconst (v := (-1 : Int32)) hx hb dX10_yields_15 (by decide) ?_
    exact ret hf hS dX10_yields_16
  · have hf := o_f hc hf
    refine lv_aload_n hx hb dX10_yields_7 rfl (lv_at hl 0 rfl) ?_
    refine lv_iload_n hx hb dX10_yields_8 rfl (lv_at hl 2 rfl) ?_
    obtain ⟨r3, c4, hq, hf⟩ := o_cal hf
    refine m_calli (rest := []) X hS hl.1 (c_X10_isBoat l D cI cZ q _ _ v2 _ hq) cv_10_163 (oM_0 q cI cZ _) rfl rfl ⟨Nat.le_of_ble_eq_true rfl, Nat.le_of_ble_eq_true rfl⟩ ⟨Nat.zero_le _, Nat.zero_le _⟩ (Nat.le_of_ble_eq_true rfl) dX10_yields_9 (fun H locs hS => ?_)
    refine lv_if_ne (tgt := 17) hx hb dX10_yields_12 (by decide) (fun hc => ?_) (fun hc => ?_)
    · have hf := o_f hc hf
      refine lv_aload_n hx hb dX10_yields_17 rfl (lv_at hl 0 rfl) ?_
      refine lv_iload_n hx hb dX10_yields_18 rfl (lv_at hl 1 rfl) ?_
      obtain ⟨r5, c6, hq, hf⟩ := o_cal hf
      refine m_calli (rest := []) X hS hl.1 (c_X10_goDay l D cI cZ q _ _ v1 _ hq) cv_10_214 (oM_0 q cI cZ _) rfl rfl ⟨Nat.le_of_ble_eq_true rfl, Nat.le_of_ble_eq_true rfl⟩ ⟨Nat.zero_le _, Nat.zero_le _⟩ (Nat.le_of_ble_eq_true rfl) dX10_yields_19 (fun H locs hS => ?_)
      refine lv_pop hx hb dX10_yields_22 rfl ?_
      refine lv_aload_n hx hb dX10_yields_23 rfl (lv_at hl 0 rfl) ?_
      refine m_get X hS fl_10_73 (vM_0_26 q cI cZ _) dX10_yields_24 ?_
      refine lv_iload_n hx hb dX10_yields_27 rfl (lv_at hl 2 rfl) ?_
      obtain ⟨hg, hf⟩ := o_gi hf
      refine m_ild X hS (aM_22 q cI cZ) hg dX10_yields_28 ?_
      exact ret hf hS dX10_yields_29
    · have hf := o_t hc hf
      refine lv_iconst (v := (-1 : Int32)) hx hb dX10_yields_15 (by decide) ?_
      exact ret hf hS dX10_yields_16

set_option maxHeartbeats 40000000 in
set_option maxRecDepth 100000 in
theorem c_X10_meetings (l : Launch) (D : va_G) (cI cZ : ClassId) (q : Nat → Nat) (c : Mm) (sz : Nat) (v1 : Int32) (R : Int32 × Mm) (hf : X10_meetings v1 c = some R) : m_Mi l yX10_meetings cX10_meetings 2 (some .int) 7 168 D cI cZ (mkM q cI cZ) 29 q [.ref (q 0), .int v1] c sz R := by
  refine m_enter_i (own := RX10) (by decide) rfl (Nat.le_of_ble_eq_true rfl) ?_
  intro p e s m args below meth cd Q X ret
  have hx := X.1
  have hb := X.2.1
  intro H locs ls hS hl
  have hl : lv_has ls 2 [(0, .ref (q 0)), (1, .int v1)] := hl
  unfold X10_meetings at hf
  refine lv_iload_n hx hb dX10_meetings_0 rfl (lv_at hl 1 rfl) ?_
  obtain ⟨r1, c2, hq, hf⟩ := o_cal hf
  refine m_calls (rest := []) X hS hl.1 (c_X10_isRule l D cI cZ q _ _ v1 _ hq) cs_10_209 rfl rfl ⟨Nat.le_of_ble_eq_true rfl, Nat.le_of_ble_eq_true rfl⟩ ⟨Nat.zero_le _, Nat.zero_le _⟩ (Nat.le_of_ble_eq_true rfl) dX10_meetings_1 (fun H locs hS => ?_)
  refine lv_if_ne (tgt := 9) hx hb dX10_meetings_4 (by decide) (fun hc => ?_) (fun hc => ?_)
  · have hf := o_f hc hf
    refine lv_aload_n hx hb dX10_meetings_9 rfl (lv_at hl 0 rfl) ?_
    refine lv_iload_n hx hb dX10_meetings_10 rfl (lv_at hl 1 rfl) ?_
    obtain ⟨r3, c4, hq, hf⟩ := o_cal hf
    refine m_calli (rest := []) X hS hl.1 (c_X10_goDay l D cI cZ q _ _ v1 _ hq) cv_10_214 (oM_0 q cI cZ _) rfl rfl ⟨Nat.le_of_ble_eq_true rfl, Nat.le_of_ble_eq_true rfl⟩ ⟨Nat.zero_le _, Nat.zero_le _⟩ (Nat.le_of_ble_eq_true rfl) dX10_meetings_11 (fun H locs hS => ?_)
    refine lv_pop hx hb dX10_meetings_14 rfl ?_
    refine lv_aload_n hx hb dX10_meetings_15 rfl (lv_at hl 0 rfl) ?_
    refine m_get X hS fl_10_195 (vM_0_28 q cI cZ _) dX10_meetings_16 ?_
    exact ret hf hS dX10_meetings_19
  · have hf := o_t hc hf
    refine lv_iconst (v := (-1 : Int32)) hx hb dX10_meetings_7 (by decide) ?_
    exact ret hf hS dX10_meetings_8

set_option maxHeartbeats 40000000 in
set_option maxRecDepth 100000 in
theorem c_X10_meeting (l : Launch) (D : va_G) (cI cZ : ClassId) (q : Nat → Nat) (c : Mm) (sz : Nat) (v1 : Int32) (v2 : Int32) (v3 : Int32) (R : Int32 × Mm) (hf : X10_meeting v1 v2 v3 c = some R) : m_Mi l yX10_meeting cX10_meeting 4 (some .int) 7 168 D cI cZ (mkM q cI cZ) 29 q [.ref (q 0), .int v1, .int v2, .int v3] c sz R := by
  refine m_enter_i (own := RX10) (by decide) rfl (Nat.le_of_ble_eq_true rfl) ?_
  intro p e s m args below meth cd Q X ret
  have hx := X.1
  have hb := X.2.1
  intro H locs ls hS hl
  have hl : lv_has ls 4 [(0, .ref (q 0)), (1, .int v1), (2, .int v2), (3, .int v3)] := hl
  unfold X10_meeting at hf
  refine lv_iload_n hx hb dX10_meeting_0 rfl (lv_at hl 1 rfl) ?_
  obtain ⟨r1, c2, hq, hf⟩ := o_cal hf
  refine m_calls (rest := []) X hS hl.1 (c_X10_isRule l D cI cZ q _ _ v1 _ hq) cs_10_209 rfl rfl ⟨Nat.le_of_ble_eq_true rfl, Nat.le_of_ble_eq_true rfl⟩ ⟨Nat.zero_le _, Nat.zero_le _⟩ (Nat.le_of_ble_eq_true rfl) dX10_meeting_1 (fun H locs hS => ?_)
  refine lv_if_eq (tgt := 19) hx hb dX10_meeting_4 (by decide) (fun hc => ?_) (fun hc => ?_)
  · have hf := o_t hc hf
    refine lv_iconst (v := (-1 : Int32)) hx hb dX10_meeting_19 (by decide) ?_
    exact ret hf hS dX10_meeting_20
  · have hf := o_f hc hf
    refine lv_iload_n hx hb dX10_meeting_7 rfl (lv_at hl 3 rfl) ?_
    refine lv_i2l hx hb dX10_meeting_8 rfl ?_
    refine lv_lconst (v := (0 : Int64)) hx hb dX10_meeting_9 (by decide) ?_
    refine lv_ldc2 hx hb X.2.2.2.1 (X.2.2.2.2.1 (.constantLong RX10 134 (3 : Int64)) (m_t4 170 rfl rfl)) dX10_meeting_10 ?_
    obtain ⟨r3, c4, hq, hf⟩ := o_cal hf
    refine m_calls (rest := []) X hS hl.1 (c_X10_in l D cI cZ q _ _ (Int32.toInt64 v3) (0 : Int64) (3 : Int64) _ hq) cs_10_109 rfl rfl ⟨Nat.le_of_ble_eq_true rfl, Nat.le_of_ble_eq_true rfl⟩ ⟨Nat.zero_le _, Nat.zero_le _⟩ (Nat.le_of_ble_eq_true rfl) dX10_meeting_13 (fun H locs hS => ?_)
    refine lv_if_ne (tgt := 21) hx hb dX10_meeting_16 (by decide) (fun hc => ?_) (fun hc => ?_)
    · have hf := o_f hc hf
      refine lv_aload_n hx hb dX10_meeting_21 rfl (lv_at hl 0 rfl) ?_
      refine lv_iload_n hx hb dX10_meeting_22 rfl (lv_at hl 1 rfl) ?_
      obtain ⟨r5, c6, hq, hf⟩ := o_cal hf
      refine m_calli (rest := []) X hS hl.1 (c_X10_goDay l D cI cZ q _ _ v1 _ hq) cv_10_214 (oM_0 q cI cZ _) rfl rfl ⟨Nat.le_of_ble_eq_true rfl, Nat.le_of_ble_eq_true rfl⟩ ⟨Nat.zero_le _, Nat.zero_le _⟩ (Nat.le_of_ble_eq_true rfl) dX10_meeting_23 (fun H locs hS => ?_)
      refine lv_pop hx hb dX10_meeting_26 rfl ?_
      refine lv_iload_n hx hb dX10_meeting_27 rfl (lv_at hl 2 rfl) ?_
      refine lv_i2l hx hb dX10_meeting_28 rfl ?_
      refine lv_lconst (v := (0 : Int64)) hx hb dX10_meeting_29 (by decide) ?_
      refine lv_aload_n hx hb dX10_meeting_30 rfl (lv_at hl 0 rfl) ?_
      refine m_get X hS fl_10_195 (vM_0_28 q cI cZ _) dX10_meeting_31 ?_
      refine lv_iconst (v := (1 : Int32)) hx hb dX10_meeting_34 (by decide) ?_
      refine lv_isub hx hb dX10_meeting_35 ?_
      refine lv_i2l hx hb dX10_meeting_36 rfl ?_
      obtain ⟨r7, c8, hq, hf⟩ := o_cal hf
      refine m_calls (rest := []) X hS hl.1 (c_X10_in l D cI cZ q _ _ (Int32.toInt64 v2) (0 : Int64) (Int32.toInt64 ((c6 0 28) - (1 : Int32))) _ hq) cs_10_109 rfl rfl ⟨Nat.le_of_ble_eq_true rfl, Nat.le_of_ble_eq_true rfl⟩ ⟨Nat.zero_le _, Nat.zero_le _⟩ (Nat.le_of_ble_eq_true rfl) dX10_meeting_37 (fun H locs hS => ?_)
      refine lv_if_ne (tgt := 45) hx hb dX10_meeting_40 (by decide) (fun hc => ?_) (fun hc => ?_)
      · have hf := o_f hc hf
        refine lv_iload_n hx hb dX10_meeting_45 rfl (lv_at hl 3 rfl) ?_
        refine lv_if_ne (tgt := 58) hx hb dX10_meeting_46 (by decide) (fun hc => ?_) (fun hc => ?_)
        · have hf := o_f hc hf
          refine lv_iload_n hx hb dX10_meeting_58 rfl (lv_at hl 3 rfl) ?_
          refine lv_iconst (v := (1 : Int32)) hx hb dX10_meeting_59 (by decide) ?_
          refine lv_icmp_ne (tgt := 72) hx hb dX10_meeting_60 (by decide) (fun hc => ?_) (fun hc => ?_)
          · have hf := o_f hc hf
            refine lv_iload_n hx hb dX10_meeting_72 rfl (lv_at hl 3 rfl) ?_
            refine lv_iconst (v := (2 : Int32)) hx hb dX10_meeting_73 (by decide) ?_
            refine lv_icmp_ne (tgt := 86) hx hb dX10_meeting_74 (by decide) (fun hc => ?_) (fun hc => ?_)
            · have hf := o_f hc hf
              refine lv_aload_n hx hb dX10_meeting_86 rfl (lv_at hl 0 rfl) ?_
              refine m_get X hS fl_10_88 (vM_0_32 q cI cZ _) dX10_meeting_87 ?_
              refine lv_iload_n hx hb dX10_meeting_90 rfl (lv_at hl 2 rfl) ?_
              obtain ⟨hg, hf⟩ := o_gi hf
              refine m_ild X hS (aM_27 q cI cZ) hg dX10_meeting_91 ?_
              exact ret hf hS dX10_meeting_92
            · have hf := o_t hc hf
              refine lv_aload_n hx hb dX10_meeting_77 rfl (lv_at hl 0 rfl) ?_
              refine m_get X hS fl_10_85 (vM_0_31 q cI cZ _) dX10_meeting_78 ?_
              refine lv_iload_n hx hb dX10_meeting_81 rfl (lv_at hl 2 rfl) ?_
              obtain ⟨hg, hf⟩ := o_gi hf
              refine m_ild X hS (aM_26 q cI cZ) hg dX10_meeting_82 ?_
              refine lv_goto (tgt := 92) hx hb dX10_meeting_83 (by decide) ?_
              exact ret hf hS dX10_meeting_92
          · have hf := o_t hc hf
            refine lv_aload_n hx hb dX10_meeting_63 rfl (lv_at hl 0 rfl) ?_
            refine m_get X hS fl_10_82 (vM_0_30 q cI cZ _) dX10_meeting_64 ?_
            refine lv_iload_n hx hb dX10_meeting_67 rfl (lv_at hl 2 rfl) ?_
            obtain ⟨hg, hf⟩ := o_gi hf
            refine m_ild X hS (aM_25 q cI cZ) hg dX10_meeting_68 ?_
            refine lv_goto (tgt := 92) hx hb dX10_meeting_69 (by decide) ?_
            exact ret hf hS dX10_meeting_92
        · have hf := o_t hc hf
          refine lv_aload_n hx hb dX10_meeting_49 rfl (lv_at hl 0 rfl) ?_
          refine m_get X hS fl_10_79 (vM_0_29 q cI cZ _) dX10_meeting_50 ?_
          refine lv_iload_n hx hb dX10_meeting_53 rfl (lv_at hl 2 rfl) ?_
          obtain ⟨hg, hf⟩ := o_gi hf
          refine m_ild X hS (aM_24 q cI cZ) hg dX10_meeting_54 ?_
          refine lv_goto (tgt := 92) hx hb dX10_meeting_55 (by decide) ?_
          exact ret hf hS dX10_meeting_92
      · have hf := o_t hc hf
        refine lv_iconst (v := (-1 : Int32)) hx hb dX10_meeting_43 (by decide) ?_
        exact ret hf hS dX10_meeting_44
    · have hf := o_t hc hf
      refine lv_iconst (v := (-1 : Int32)) hx hb dX10_meeting_19 (by decide) ?_
      exact ret hf hS dX10_meeting_20

set_option maxHeartbeats 40000000 in
set_option maxRecDepth 100000 in
theorem c_X10_note (l : Launch) (D : va_G) (cI cZ : ClassId) (q : Nat → Nat) (c : Mm) (sz : Nat) (R : Mm) (hf : X10_note c = some R) : m_Mv l yX10_note cX10_note 2 0 0 D cI cZ (mkM q cI cZ) 29 q [.ref (q 0)] c sz R := by
  refine m_enter_v (own := RX10) (by decide) rfl (Nat.le_of_ble_eq_true rfl) ?_
  intro p e s m args below meth cd Q X ret
  have hx := X.1
  have hb := X.2.1
  have k82 : ∀ (c : Mm), X10_note_j82 c = some R → m_G p l e (m_rm 0 0) s m args below meth cd Q D (mkM q cI cZ) 29 q 2 82 [(0, .ref (q 0))] [] c := by
    intro c hf H locs ls hS hl
    unfold X10_note_j82 at hf
    refine lv_aload_n hx hb dX10_note_82 rfl (lv_at hl 0 rfl) ?_
    refine lv_dup hx hb dX10_note_83 rfl ?_
    refine m_get X hS fl_10_154 (vM_0_14 q cI cZ _) dX10_note_84 ?_
    refine lv_iconst (v := (1 : Int32)) hx hb dX10_note_87 (by decide) ?_
    refine lv_iadd hx hb dX10_note_88 ?_
    refine m_put X hS fp_10_154 (pM_0_14 q cI cZ) dX10_note_89 (fun c1 ec H locs hS => ?_)
    have hf := o_bnd hf c1 ec
    exact ret hf hS dX10_note_92
  have k50 : ∀ (n : Nat) (v1 : Int32) (c : Mm), m_lp1 (X10_note_b50) n v1 c = some R → m_G p l e (m_rm 0 0) s m args below meth cd Q D (mkM q cI cZ) 29 q 2 50 [(0, .ref (q 0)), (1, .int v1)] [] c := by
    refine m_lp1_i ?_
    intro rc50 hrc50 v1 c hf H locs ls hS hl
    unfold X10_note_b50 at hf
    refine lv_iload_n hx hb dX10_note_50 rfl (lv_at hl 1 rfl) ?_
    refine lv_bipush (v := (12 : Int32)) hx hb dX10_note_51 (by decide) ?_
    refine lv_icmp_ge (tgt := 82) hx hb dX10_note_53 (by decide) (fun hc => ?_) (fun hc => ?_)
    · have hf := o_t hc hf
      exact k82 _ hf H locs ls hS (lv_sub hl [0] rfl)
    · have hf := o_f hc hf
      refine lv_aload_n hx hb dX10_note_56 rfl (lv_at hl 0 rfl) ?_
      refine m_get X hS fl_10_46 (vM_0_13 q cI cZ _) dX10_note_57 ?_
      refine lv_bipush (v := (12 : Int32)) hx hb dX10_note_60 (by decide) ?_
      refine lv_aload_n hx hb dX10_note_62 rfl (lv_at hl 0 rfl) ?_
      refine m_get X hS fl_10_154 (vM_0_14 q cI cZ _) dX10_note_63 ?_
      refine lv_imul hx hb dX10_note_66 ?_
      refine lv_iload_n hx hb dX10_note_67 rfl (lv_at hl 1 rfl) ?_
      refine lv_iadd hx hb dX10_note_68 ?_
      refine lv_aload_n hx hb dX10_note_69 rfl (lv_at hl 0 rfl) ?_
      refine m_get X hS fl_10_43 (vM_0_12 q cI cZ _) dX10_note_70 ?_
      refine lv_iload_n hx hb dX10_note_73 rfl (lv_at hl 1 rfl) ?_
      obtain ⟨hg, hf⟩ := o_gi hf
      refine m_ild X hS (aM_12 q cI cZ) hg dX10_note_74 ?_
      obtain ⟨hg, hf⟩ := o_gi hf
      refine m_ist X hS (aM_13 q cI cZ) hg dX10_note_75 (fun c2 ec H locs hS => ?_)
      have hf := o_bnd hf c2 ec
      obtain ⟨x3, ex⟩ : ∃ y : Int32, y = v1 + (1 : Int32) := ⟨_, rfl⟩
      have hf := o_bnd hf x3 ex
      refine lv_iinc (v := x3) (lv' := [(1, .int x3), (0, .ref (q 0))]) hx hb dX10_note_76 hl (k := 1) rfl (by rw [ex]; rfl) (by decide) rfl (fun ls hl => ?_)
      refine lv_goto (tgt := 50) hx hb dX10_note_79 (by decide) ?_
      exact hrc50 x3 _ hf H locs ls hS (lv_sub hl [1, 0] rfl)
  have k48 : ∀ (c : Mm), X10_note_j48 c = some R → m_G p l e (m_rm 0 0) s m args below meth cd Q D (mkM q cI cZ) 29 q 2 48 [(0, .ref (q 0))] [] c := by
    intro c hf H locs ls hS hl
    unfold X10_note_j48 at hf
    refine lv_iconst (v := (0 : Int32)) hx hb dX10_note_48 (by decide) ?_
    refine lv_istore_n (lv' := [(1, .int (0 : Int32)), (0, .ref (q 0))]) hx hb dX10_note_49 rfl hl (by decide) rfl (fun ls hl => ?_)
    exact k50 _ (0 : Int32) _ hf H locs ls hS (lv_sub hl [1, 0] rfl)
  have k38 : ∀ (c : Mm), X10_note_j38 c = some R → m_G p l e (m_rm 0 0) s m args below meth cd Q D (mkM q cI cZ) 29 q 2 38 [(0, .ref (q 0))] [] c := by
    intro c hf H locs ls hS hl
    unfold X10_note_j38 at hf
    refine lv_aload_n hx hb dX10_note_38 rfl (lv_at hl 0 rfl) ?_
    refine lv_dup hx hb dX10_note_39 rfl ?_
    refine m_get X hS fl_10_154 (vM_0_14 q cI cZ _) dX10_note_40 ?_
    refine lv_iconst (v := (1 : Int32)) hx hb dX10_note_43 (by decide) ?_
    refine lv_isub hx hb dX10_note_44 ?_
    refine m_put X hS fp_10_154 (pM_0_14 q cI cZ) dX10_note_45 (fun c4 ec H locs hS => ?_)
    have hf := o_bnd hf c4 ec
    exact k48 _ hf H locs ls hS (lv_sub hl [0] rfl)
  have k11 : ∀ (n : Nat) (v1 : Int32) (c : Mm), m_lp1 (X10_note_b11) n v1 c = some R → m_G p l e (m_rm 0 0) s m args below meth cd Q D (mkM q cI cZ) 29 q 2 11 [(0, .ref (q 0)), (1, .int v1)] [] c := by
    refine m_lp1_i ?_
    intro rc11 hrc11 v1 c hf H locs ls hS hl
    unfold X10_note_b11 at hf
    refine lv_iload_n hx hb dX10_note_11 rfl (lv_at hl 1 rfl) ?_
    refine lv_bipush (v := (84 : Int32)) hx hb dX10_note_12 (by decide) ?_
    refine lv_icmp_ge (tgt := 38) hx hb dX10_note_14 (by decide) (fun hc => ?_) (fun hc => ?_)
    · have hf := o_t hc hf
      exact k38 _ hf H locs ls hS (lv_sub hl [0] rfl)
    · have hf := o_f hc hf
      refine lv_aload_n hx hb dX10_note_17 rfl (lv_at hl 0 rfl) ?_
      refine m_get X hS fl_10_46 (vM_0_13 q cI cZ _) dX10_note_18 ?_
      refine lv_iload_n hx hb dX10_note_21 rfl (lv_at hl 1 rfl) ?_
      refine lv_aload_n hx hb dX10_note_22 rfl (lv_at hl 0 rfl) ?_
      refine m_get X hS fl_10_46 (vM_0_13 q cI cZ _) dX10_note_23 ?_
      refine lv_bipush (v := (12 : Int32)) hx hb dX10_note_26 (by decide) ?_
      refine lv_iload_n hx hb dX10_note_28 rfl (lv_at hl 1 rfl) ?_
      refine lv_iadd hx hb dX10_note_29 ?_
      obtain ⟨hg, hf⟩ := o_gi hf
      refine m_ild X hS (aM_13 q cI cZ) hg dX10_note_30 ?_
      obtain ⟨hg, hf⟩ := o_gi hf
      refine m_ist X hS (aM_13 q cI cZ) hg dX10_note_31 (fun c5 ec H locs hS => ?_)
      have hf := o_bnd hf c5 ec
      obtain ⟨x6, ex⟩ : ∃ y : Int32, y = v1 + (1 : Int32) := ⟨_, rfl⟩
      have hf := o_bnd hf x6 ex
      refine lv_iinc (v := x6) (lv' := [(1, .int x6), (0, .ref (q 0))]) hx hb dX10_note_32 hl (k := 1) rfl (by rw [ex]; rfl) (by decide) rfl (fun ls hl => ?_)
      refine lv_goto (tgt := 11) hx hb dX10_note_35 (by decide) ?_
      exact hrc11 x6 _ hf H locs ls hS (lv_sub hl [1, 0] rfl)
  intro H locs ls hS hl
  have hl : lv_has ls 2 [(0, .ref (q 0))] := hl
  unfold X10_note at hf
  refine lv_aload_n hx hb dX10_note_0 rfl (lv_at hl 0 rfl) ?_
  refine m_get X hS fl_10_154 (vM_0_14 q cI cZ _) dX10_note_1 ?_
  refine lv_bipush (v := (8 : Int32)) hx hb dX10_note_4 (by decide) ?_
  refine lv_icmp_ne (tgt := 48) hx hb dX10_note_6 (by decide) (fun hc => ?_) (fun hc => ?_)
  · have hf := o_f hc hf
    exact k48 _ hf H locs ls hS (lv_sub hl [0] rfl)
  · have hf := o_t hc hf
    refine lv_iconst (v := (0 : Int32)) hx hb dX10_note_9 (by decide) ?_
    refine lv_istore_n (lv' := [(1, .int (0 : Int32)), (0, .ref (q 0))]) hx hb dX10_note_10 rfl hl (by decide) rfl (fun ls hl => ?_)
    exact k11 _ (0 : Int32) _ hf H locs ls hS (lv_sub hl [1, 0] rfl)

set_option maxHeartbeats 40000000 in
set_option maxRecDepth 100000 in
theorem c_X10_load (l : Launch) (D : va_G) (cI cZ : ClassId) (q : Nat → Nat) (c : Mm) (sz : Nat) (v1 : Int32) (v2 : Int32) (R : Int32 × Mm) (hf : X10_load v1 v2 c = some R) : m_Mi l yX10_load cX10_load 4 (some .int) 2 46 D cI cZ (mkM q cI cZ) 29 q [.ref (q 0), .int v1, .int v2] c sz R := by
  refine m_enter_i (own := RX10) (by decide) rfl (Nat.le_of_ble_eq_true rfl) ?_
  intro p e s m args below meth cd Q X ret
  have hx := X.1
  have hb := X.2.1
  intro H locs ls hS hl
  have hl : lv_has ls 4 [(0, .ref (q 0)), (1, .int v1), (2, .int v2)] := hl
  unfold X10_load at hf
  refine lv_aload_n hx hb dX10_load_0 rfl (lv_at hl 0 rfl) ?_
  refine lv_iload_n hx hb dX10_load_1 rfl (lv_at hl 1 rfl) ?_
  obtain ⟨r1, c2, hq, hf⟩ := o_cal hf
  refine m_calli (rest := []) X hS hl.1 (c_X10_isBoat l D cI cZ q _ _ v1 _ hq) cv_10_163 (oM_0 q cI cZ _) rfl rfl ⟨Nat.le_of_ble_eq_true rfl, Nat.le_of_ble_eq_true rfl⟩ ⟨Nat.zero_le _, Nat.zero_le _⟩ (Nat.le_of_ble_eq_true rfl) dX10_load_2 (fun H locs hS => ?_)
  refine lv_if_eq (tgt := 20) hx hb dX10_load_5 (by decide) (fun hc => ?_) (fun hc => ?_)
  · have hf := o_t hc hf
    refine lv_iconst (v := (-1 : Int32)) hx hb dX10_load_20 (by decide) ?_
    exact ret hf hS dX10_load_21
  · have hf := o_f hc hf
    refine lv_iload_n hx hb dX10_load_8 rfl (lv_at hl 2 rfl) ?_
    refine lv_i2l hx hb dX10_load_9 rfl ?_
    refine lv_lconst (v := (0 : Int64)) hx hb dX10_load_10 (by decide) ?_
    refine lv_ldc2 hx hb X.2.2.2.1 (X.2.2.2.2.1 (.constantLong RX10 217 (9 : Int64)) (m_t5 32 rfl rfl)) dX10_load_11 ?_
    obtain ⟨r3, c4, hq, hf⟩ := o_cal hf
    refine m_calls (rest := []) X hS hl.1 (c_X10_in l D cI cZ q _ _ (Int32.toInt64 v2) (0 : Int64) (9 : Int64) _ hq) cs_10_109 rfl rfl ⟨Nat.le_of_ble_eq_true rfl, Nat.le_of_ble_eq_true rfl⟩ ⟨Nat.zero_le _, Nat.zero_le _⟩ (Nat.le_of_ble_eq_true rfl) dX10_load_14 (fun H locs hS => ?_)
    refine lv_if_ne (tgt := 22) hx hb dX10_load_17 (by decide) (fun hc => ?_) (fun hc => ?_)
    · have hf := o_f hc hf
      refine lv_aload_n hx hb dX10_load_22 rfl (lv_at hl 0 rfl) ?_
      obtain ⟨c5, hq, hf⟩ := o_cav hf
      refine m_callv (rest := []) X hS hl.1 (c_X10_note l D cI cZ q _ _ _ hq) cv_10_219 (oM_0 q cI cZ _) rfl rfl ⟨Nat.le_of_ble_eq_true rfl, Nat.le_of_ble_eq_true rfl⟩ ⟨Nat.zero_le _, Nat.zero_le _⟩ (Nat.le_of_ble_eq_true rfl) dX10_load_23 (fun H locs hS => ?_)
      refine lv_aload_n hx hb dX10_load_26 rfl (lv_at hl 0 rfl) ?_
      refine m_get X hS fl_10_43 (vM_0_12 q cI cZ _) dX10_load_27 ?_
      refine lv_iload_n hx hb dX10_load_30 rfl (lv_at hl 1 rfl) ?_
      obtain ⟨hg, hf⟩ := o_gi hf
      refine m_ild X hS (aM_12 q cI cZ) hg dX10_load_31 ?_
      refine lv_topi (fun x6 ex => ?_)
      have hf := o_bnd hf x6 ex
      refine lv_istore_n (lv' := [(3, .int x6), (0, .ref (q 0)), (1, .int v1), (2, .int v2)]) hx hb dX10_load_32 rfl hl (by decide) rfl (fun ls hl => ?_)
      refine lv_aload_n hx hb dX10_load_33 rfl (lv_at hl 1 rfl) ?_
      refine m_get X hS fl_10_43 (vM_0_12 q cI cZ _) dX10_load_34 ?_
      refine lv_iload_n hx hb dX10_load_37 rfl (lv_at hl 2 rfl) ?_
      refine lv_iload_n hx hb dX10_load_38 rfl (lv_at hl 3 rfl) ?_
      obtain ⟨hg, hf⟩ := o_gi hf
      refine m_ist X hS (aM_12 q cI cZ) hg dX10_load_39 (fun c7 ec H locs hS => ?_)
      have hf := o_bnd hf c7 ec
      refine lv_iload_n hx hb dX10_load_40 rfl (lv_at hl 0 rfl) ?_
      exact ret hf hS dX10_load_41
    · have hf := o_t hc hf
      refine lv_iconst (v := (-1 : Int32)) hx hb dX10_load_20 (by decide) ?_
      exact ret hf hS dX10_load_21

set_option maxHeartbeats 40000000 in
set_option maxRecDepth 100000 in
theorem c_X10_later (l : Launch) (D : va_G) (cI cZ : ClassId) (q : Nat → Nat) (c : Mm) (sz : Nat) (v1 : Int32) (v2 : Int32) (R : Int32 × Mm) (hf : X10_later v1 v2 c = some R) : m_Mi l yX10_later cX10_later 4 (some .int) 2 46 D cI cZ (mkM q cI cZ) 29 q [.ref (q 0), .int v1, .int v2] c sz R := by
  refine m_enter_i (own := RX10) (by decide) rfl (Nat.le_of_ble_eq_true rfl) ?_
  intro p e s m args below meth cd Q X ret
  have hx := X.1
  have hb := X.2.1
  intro H locs ls hS hl
  have hl : lv_has ls 4 [(0, .ref (q 0)), (1, .int v1), (2, .int v2)] := hl
  unfold X10_later at hf
  refine lv_aload_n hx hb dX10_later_0 rfl (lv_at hl 0 rfl) ?_
  refine lv_iload_n hx hb dX10_later_1 rfl (lv_at hl 1 rfl) ?_
  obtain ⟨r1, c2, hq, hf⟩ := o_cal hf
  refine m_calli (rest := []) X hS hl.1 (c_X10_isBoat l D cI cZ q _ _ v1 _ hq) cv_10_163 (oM_0 q cI cZ _) rfl rfl ⟨Nat.le_of_ble_eq_true rfl, Nat.le_of_ble_eq_true rfl⟩ ⟨Nat.zero_le _, Nat.zero_le _⟩ (Nat.le_of_ble_eq_true rfl) dX10_later_2 (fun H locs hS => ?_)
  refine lv_if_eq (tgt := 20) hx hb dX10_later_5 (by decide) (fun hc => ?_) (fun hc => ?_)
  · have hf := o_t hc hf
    refine lv_iconst (v := (-1 : Int32)) hx hb dX10_later_20 (by decide) ?_
    exact ret hf hS dX10_later_21
  · have hf := o_f hc hf
    refine lv_iload_n hx hb dX10_later_8 rfl (lv_at hl 2 rfl) ?_
    refine lv_i2l hx hb dX10_later_9 rfl ?_
    refine lv_lconst (v := (0 : Int64)) hx hb dX10_later_10 (by decide) ?_
    refine lv_ldc2 hx hb X.2.2.2.1 (X.2.2.2.2.1 (.constantLong RX10 222 (30 : Int64)) (m_t5 41 rfl rfl)) dX10_later_11 ?_
    obtain ⟨r3, c4, hq, hf⟩ := o_cal hf
    refine m_calls (rest := []) X hS hl.1 (c_X10_in l D cI cZ q _ _ (Int32.toInt64 v2) (0 : Int64) (30 : Int64) _ hq) cs_10_109 rfl rfl ⟨Nat.le_of_ble_eq_true rfl, Nat.le_of_ble_eq_true rfl⟩ ⟨Nat.zero_le _, Nat.zero_le _⟩ (Nat.le_of_ble_eq_true rfl) dX10_later_14 (fun H locs hS => ?_)
    refine lv_if_ne (tgt := 22) hx hb dX10_later_17 (by decide) (fun hc => ?_) (fun hc => ?_)
    · have hf := o_f hc hf
      refine lv_aload_n hx hb dX10_later_22 rfl (lv_at hl 0 rfl) ?_
      obtain ⟨c5, hq, hf⟩ := o_cav hf
      refine m_callv (rest := []) X hS hl.1 (c_X10_note l D cI cZ q _ _ _ hq) cv_10_219 (oM_0 q cI cZ _) rfl rfl ⟨Nat.le_of_ble_eq_true rfl, Nat.le_of_ble_eq_true rfl⟩ ⟨Nat.zero_le _, Nat.zero_le _⟩ (Nat.le_of_ble_eq_true rfl) dX10_later_23 (fun H locs hS => ?_)
      refine lv_aload_n hx hb dX10_later_26 rfl (lv_at hl 0 rfl) ?_
      refine m_get X hS fl_10_43 (vM_0_12 q cI cZ _) dX10_later_27 ?_
      refine lv_bipush (v := (6 : Int32)) hx hb dX10_later_30 (by decide) ?_
      refine lv_iload_n hx hb dX10_later_32 rfl (lv_at hl 1 rfl) ?_
      refine lv_iadd hx hb dX10_later_33 ?_
      obtain ⟨hg, hf⟩ := o_gi hf
      refine m_ild X hS (aM_12 q cI cZ) hg dX10_later_34 ?_
      refine lv_topi (fun x6 ex => ?_)
      have hf := o_bnd hf x6 ex
      refine lv_istore_n (lv' := [(3, .int x6), (0, .ref (q 0)), (1, .int v1), (2, .int v2)]) hx hb dX10_later_35 rfl hl (by decide) rfl (fun ls hl => ?_)
      refine lv_aload_n hx hb dX10_later_36 rfl (lv_at hl 1 rfl) ?_
      refine m_get X hS fl_10_43 (vM_0_12 q cI cZ _) dX10_later_37 ?_
      refine lv_bipush (v := (6 : Int32)) hx hb dX10_later_40 (by decide) ?_
      refine lv_iload_n hx hb dX10_later_42 rfl (lv_at hl 2 rfl) ?_
      refine lv_iadd hx hb dX10_later_43 ?_
      refine lv_iload_n hx hb dX10_later_44 rfl (lv_at hl 3 rfl) ?_
      obtain ⟨hg, hf⟩ := o_gi hf
      refine m_ist X hS (aM_12 q cI cZ) hg dX10_later_45 (fun c7 ec H locs hS => ?_)
      have hf := o_bnd hf c7 ec
      refine lv_iload_n hx hb dX10_later_46 rfl (lv_at hl 0 rfl) ?_
      exact ret hf hS dX10_later_47
    · have hf := o_t hc hf
      refine lv_iconst (v := (-1 : Int32)) hx hb dX10_later_20 (by decide) ?_
      exact ret hf hS dX10_later_21

set_option maxHeartbeats 40000000 in
set_option maxRecDepth 100000 in
theorem c_X10_undo (l : Launch) (D : va_G) (cI cZ : ClassId) (q : Nat → Nat) (c : Mm) (sz : Nat) (R : Int32 × Mm) (hf : X10_undo c = some R) : m_Mi l yX10_undo cX10_undo 2 (some .int) 0 0 D cI cZ (mkM q cI cZ) 29 q [.ref (q 0)] c sz R := by
  refine m_enter_i (own := RX10) (by decide) rfl (Nat.le_of_ble_eq_true rfl) ?_
  intro p e s m args below meth cd Q X ret
  have hx := X.1
  have hb := X.2.1
  have k54 : ∀ (c : Mm), X10_undo_j54 c = some R → m_G p l e (m_rm 0 0) s m args below meth cd Q D (mkM q cI cZ) 29 q 2 54 [(0, .ref (q 0))] [] c := by
    intro c hf H locs ls hS hl
    unfold X10_undo_j54 at hf
    refine lv_aload_n hx hb dX10_undo_54 rfl (lv_at hl 0 rfl) ?_
    refine m_get X hS fl_10_154 (vM_0_14 q cI cZ _) dX10_undo_55 ?_
    exact ret hf hS dX10_undo_58
  have k22 : ∀ (n : Nat) (v1 : Int32) (c : Mm), m_lp1 (X10_undo_b22) n v1 c = some R → m_G p l e (m_rm 0 0) s m args below meth cd Q D (mkM q cI cZ) 29 q 2 22 [(0, .ref (q 0)), (1, .int v1)] [] c := by
    refine m_lp1_i ?_
    intro rc22 hrc22 v1 c hf H locs ls hS hl
    unfold X10_undo_b22 at hf
    refine lv_iload_n hx hb dX10_undo_22 rfl (lv_at hl 1 rfl) ?_
    refine lv_bipush (v := (12 : Int32)) hx hb dX10_undo_23 (by decide) ?_
    refine lv_icmp_ge (tgt := 54) hx hb dX10_undo_25 (by decide) (fun hc => ?_) (fun hc => ?_)
    · have hf := o_t hc hf
      exact k54 _ hf H locs ls hS (lv_sub hl [0] rfl)
    · have hf := o_f hc hf
      refine lv_aload_n hx hb dX10_undo_28 rfl (lv_at hl 0 rfl) ?_
      refine m_get X hS fl_10_43 (vM_0_12 q cI cZ _) dX10_undo_29 ?_
      refine lv_iload_n hx hb dX10_undo_32 rfl (lv_at hl 1 rfl) ?_
      refine lv_aload_n hx hb dX10_undo_33 rfl (lv_at hl 0 rfl) ?_
      refine m_get X hS fl_10_46 (vM_0_13 q cI cZ _) dX10_undo_34 ?_
      refine lv_bipush (v := (12 : Int32)) hx hb dX10_undo_37 (by decide) ?_
      refine lv_aload_n hx hb dX10_undo_39 rfl (lv_at hl 0 rfl) ?_
      refine m_get X hS fl_10_154 (vM_0_14 q cI cZ _) dX10_undo_40 ?_
      refine lv_imul hx hb dX10_undo_43 ?_
      refine lv_iload_n hx hb dX10_undo_44 rfl (lv_at hl 1 rfl) ?_
      refine lv_iadd hx hb dX10_undo_45 ?_
      obtain ⟨hg, hf⟩ := o_gi hf
      refine m_ild X hS (aM_13 q cI cZ) hg dX10_undo_46 ?_
      obtain ⟨hg, hf⟩ := o_gi hf
      refine m_ist X hS (aM_12 q cI cZ) hg dX10_undo_47 (fun c1 ec H locs hS => ?_)
      have hf := o_bnd hf c1 ec
      obtain ⟨x2, ex⟩ : ∃ y : Int32, y = v1 + (1 : Int32) := ⟨_, rfl⟩
      have hf := o_bnd hf x2 ex
      refine lv_iinc (v := x2) (lv' := [(1, .int x2), (0, .ref (q 0))]) hx hb dX10_undo_48 hl (k := 1) rfl (by rw [ex]; rfl) (by decide) rfl (fun ls hl => ?_)
      refine lv_goto (tgt := 22) hx hb dX10_undo_51 (by decide) ?_
      exact hrc22 x2 _ hf H locs ls hS (lv_sub hl [1, 0] rfl)
  intro H locs ls hS hl
  have hl : lv_has ls 2 [(0, .ref (q 0))] := hl
  unfold X10_undo at hf
  refine lv_aload_n hx hb dX10_undo_0 rfl (lv_at hl 0 rfl) ?_
  refine m_get X hS fl_10_154 (vM_0_14 q cI cZ _) dX10_undo_1 ?_
  refine lv_if_ne (tgt := 10) hx hb dX10_undo_4 (by decide) (fun hc => ?_) (fun hc => ?_)
  · have hf := o_f hc hf
    refine lv_aload_n hx hb dX10_undo_10 rfl (lv_at hl 0 rfl) ?_
    refine lv_dup hx hb dX10_undo_11 rfl ?_
    refine m_get X hS fl_10_154 (vM_0_14 q cI cZ _) dX10_undo_12 ?_
    refine lv_iconst (v := (1 : Int32)) hx hb dX10_undo_15 (by decide) ?_
    refine lv_isub hx hb dX10_undo_16 ?_
    refine m_put X hS fp_10_154 (pM_0_14 q cI cZ) dX10_undo_17 (fun c3 ec H locs hS => ?_)
    have hf := o_bnd hf c3 ec
    refine lv_iconst (v := (0 : Int32)) hx hb dX10_undo_20 (by decide) ?_
    refine lv_istore_n (lv' := [(1, .int (0 : Int32)), (0, .ref (q 0))]) hx hb dX10_undo_21 rfl hl (by decide) rfl (fun ls hl => ?_)
    exact k22 _ (0 : Int32) _ hf H locs ls hS (lv_sub hl [1, 0] rfl)
  · have hf := o_t hc hf
    refine lv_bipush (v := (-2 : Int32)) hx hb dX10_undo_7 (by decide) ?_
    exact ret hf hS dX10_undo_9

set_option maxHeartbeats 40000000 in
set_option maxRecDepth 100000 in
theorem c_X10_areTwo (l : Launch) (D : va_G) (cI cZ : ClassId) (q : Nat → Nat) (c : Mm) (sz : Nat) (v1 : Int32) (v2 : Int32) (R : Int32 × Mm) (hf : X10_areTwo v1 v2 c = some R) : m_Mi l yX10_areTwo cX10_areTwo 3 (some .boolean) 2 46 D cI cZ (mkM q cI cZ) 29 q [.ref (q 0), .int v1, .int v2] c sz R := by
  refine m_enter_z (own := RX10) (by decide) rfl (Nat.le_of_ble_eq_true rfl) ?_
  intro p e s m args below meth cd Q X ret
  have hx := X.1
  have hb := X.2.1
  intro H locs ls hS hl
  have hl : lv_has ls 3 [(0, .ref (q 0)), (1, .int v1), (2, .int v2)] := hl
  unfold X10_areTwo at hf
  refine lv_aload_n hx hb dX10_areTwo_0 rfl (lv_at hl 0 rfl) ?_
  refine lv_iload_n hx hb dX10_areTwo_1 rfl (lv_at hl 1 rfl) ?_
  obtain ⟨r1, c2, hq, hf⟩ := o_cal hf
  refine m_calli (rest := []) X hS hl.1 (c_X10_isBoat l D cI cZ q _ _ v1 _ hq) cv_10_163 (oM_0 q cI cZ _) rfl rfl ⟨Nat.le_of_ble_eq_true rfl, Nat.le_of_ble_eq_true rfl⟩ ⟨Nat.zero_le _, Nat.zero_le _⟩ (Nat.le_of_ble_eq_true rfl) dX10_areTwo_2 (fun H locs hS => ?_)
  refine lv_if_eq (tgt := 25) hx hb dX10_areTwo_5 (by decide) (fun hc => ?_) (fun hc => ?_)
  · have hf := o_t hc hf
    refine lv_iconst (v := (0 : Int32)) hx hb dX10_areTwo_25 (by decide) ?_
    exact ret (Or.inl rfl) hf hS dX10_areTwo_26
  · have hf := o_f hc hf
    refine lv_aload_n hx hb dX10_areTwo_8 rfl (lv_at hl 0 rfl) ?_
    refine lv_iload_n hx hb dX10_areTwo_9 rfl (lv_at hl 2 rfl) ?_
    obtain ⟨r3, c4, hq, hf⟩ := o_cal hf
    refine m_calli (rest := []) X hS hl.1 (c_X10_isBoat l D cI cZ q _ _ v2 _ hq) cv_10_163 (oM_0 q cI cZ _) rfl rfl ⟨Nat.le_of_ble_eq_true rfl, Nat.le_of_ble_eq_true rfl⟩ ⟨Nat.zero_le _, Nat.zero_le _⟩ (Nat.le_of_ble_eq_true rfl) dX10_areTwo_10 (fun H locs hS => ?_)
    refine lv_if_eq (tgt := 25) hx hb dX10_areTwo_13 (by decide) (fun hc => ?_) (fun hc => ?_)
    · have hf := o_t hc hf
      refine lv_iconst (v := (0 : Int32)) hx hb dX10_areTwo_25 (by decide) ?_
      exact ret (Or.inl rfl) hf hS dX10_areTwo_26
    · have hf := o_f hc hf
      refine lv_iload_n hx hb dX10_areTwo_16 rfl (lv_at hl 1 rfl) ?_
      refine lv_iload_n hx hb dX10_areTwo_17 rfl (lv_at hl 2 rfl) ?_
      refine lv_icmp_eq (tgt := 25) hx hb dX10_areTwo_18 (by decide) (fun hc => ?_) (fun hc => ?_)
      · have hf := o_t hc hf
        refine lv_iconst (v := (0 : Int32)) hx hb dX10_areTwo_25 (by decide) ?_
        exact ret (Or.inl rfl) hf hS dX10_areTwo_26
      · have hf := o_f hc hf
        refine lv_iconst (v := (1 : Int32)) hx hb dX10_areTwo_21 (by decide) ?_
        refine lv_goto (tgt := 26) hx hb dX10_areTwo_22 (by decide) ?_
        exact ret (Or.inr rfl) hf hS dX10_areTwo_26

set_option maxHeartbeats 40000000 in
set_option maxRecDepth 100000 in
theorem c_X10_who (l : Launch) (D : va_G) (cI cZ : ClassId) (q : Nat → Nat) (c : Mm) (sz : Nat) (v1 : Int32) (v2 : Int32) (v3 : Int32) (R : Int32 × Mm) (hf : X10_who v1 v2 v3 c = some R) : m_Mi l yX10_who cX10_who 4 (some .int) 4 90 D cI cZ (mkM q cI cZ) 29 q [.ref (q 0), .int v1, .int v2, .int v3] c sz R := by
  refine m_enter_i (own := RX10) (by decide) rfl (Nat.le_of_ble_eq_true rfl) ?_
  intro p e s m args below meth cd Q X ret
  have hx := X.1
  have hb := X.2.1
  intro H locs ls hS hl
  have hl : lv_has ls 4 [(0, .ref (q 0)), (1, .int v1), (2, .int v2), (3, .int v3)] := hl
  unfold X10_who at hf
  refine lv_iload_n hx hb dX10_who_0 rfl (lv_at hl 1 rfl) ?_
  obtain ⟨r1, c2, hq, hf⟩ := o_cal hf
  refine m_calls (rest := []) X hS hl.1 (c_X10_isRule l D cI cZ q _ _ v1 _ hq) cs_10_209 rfl rfl ⟨Nat.le_of_ble_eq_true rfl, Nat.le_of_ble_eq_true rfl⟩ ⟨Nat.zero_le _, Nat.zero_le _⟩ (Nat.le_of_ble_eq_true rfl) dX10_who_1 (fun H locs hS => ?_)
  refine lv_if_eq (tgt := 16) hx hb dX10_who_4 (by decide) (fun hc => ?_) (fun hc => ?_)
  · have hf := o_t hc hf
    refine lv_iconst (v := (-1 : Int32)) hx hb dX10_who_16 (by decide) ?_
    exact ret hf hS dX10_who_17
  · have hf := o_f hc hf
    refine lv_aload_n hx hb dX10_who_7 rfl (lv_at hl 0 rfl) ?_
    refine lv_iload_n hx hb dX10_who_8 rfl (lv_at hl 2 rfl) ?_
    refine lv_iload_n hx hb dX10_who_9 rfl (lv_at hl 3 rfl) ?_
    obtain ⟨r3, c4, hq, hf⟩ := o_cal hf
    refine m_calli (rest := []) X hS hl.1 (c_X10_areTwo l D cI cZ q _ _ v2 v3 _ hq) cv_10_224 (oM_0 q cI cZ _) rfl rfl ⟨Nat.le_of_ble_eq_true rfl, Nat.le_of_ble_eq_true rfl⟩ ⟨Nat.zero_le _, Nat.zero_le _⟩ (Nat.le_of_ble_eq_true rfl) dX10_who_10 (fun H locs hS => ?_)
    refine lv_if_ne (tgt := 18) hx hb dX10_who_13 (by decide) (fun hc => ?_) (fun hc => ?_)
    · have hf := o_f hc hf
      refine lv_aload_n hx hb dX10_who_18 rfl (lv_at hl 0 rfl) ?_
      refine m_get X hS fl_10_19 (vM_0_4 q cI cZ _) dX10_who_19 ?_
      refine lv_iload_n hx hb dX10_who_22 rfl (lv_at hl 2 rfl) ?_
      obtain ⟨hg, hf⟩ := o_gi hf
      refine m_ild X hS (aM_4 q cI cZ) hg dX10_who_23 ?_
      refine lv_aload_n hx hb dX10_who_24 rfl (lv_at hl 0 rfl) ?_
      refine m_get X hS fl_10_19 (vM_0_4 q cI cZ _) dX10_who_25 ?_
      refine lv_iload_n hx hb dX10_who_28 rfl (lv_at hl 3 rfl) ?_
      obtain ⟨hg, hf⟩ := o_gi hf
      refine m_ild X hS (aM_4 q cI cZ) hg dX10_who_29 ?_
      refine lv_icmp_ne (tgt := 38) hx hb dX10_who_30 (by decide) (fun hc => ?_) (fun hc => ?_)
      · have hf := o_f hc hf
        refine lv_aload_n hx hb dX10_who_38 rfl (lv_at hl 0 rfl) ?_
        refine lv_iload_n hx hb dX10_who_39 rfl (lv_at hl 1 rfl) ?_
        refine lv_iload_n hx hb dX10_who_40 rfl (lv_at hl 2 rfl) ?_
        refine lv_iload_n hx hb dX10_who_41 rfl (lv_at hl 3 rfl) ?_
        obtain ⟨r5, c6, hq, hf⟩ := o_cal hf
        refine m_calli (rest := []) X hS hl.1 (c_X10_yielder l D cI cZ q _ _ v1 v2 v3 _ hq) cv_10_185 (oM_0 q cI cZ _) rfl rfl ⟨Nat.le_of_ble_eq_true rfl, Nat.le_of_ble_eq_true rfl⟩ ⟨Nat.zero_le _, Nat.zero_le _⟩ (Nat.le_of_ble_eq_true rfl) dX10_who_42 (fun H locs hS => ?_)
        exact ret hf hS dX10_who_45
      · have hf := o_t hc hf
        refine lv_bipush (v := (-2 : Int32)) hx hb dX10_who_33 (by decide) ?_
        refine lv_goto (tgt := 45) hx hb dX10_who_35 (by decide) ?_
        exact ret hf hS dX10_who_45
    · have hf := o_t hc hf
      refine lv_iconst (v := (-1 : Int32)) hx hb dX10_who_16 (by decide) ?_
      exact ret hf hS dX10_who_17

set_option maxHeartbeats 40000000 in
set_option maxRecDepth 100000 in
theorem c_X10_best (l : Launch) (D : va_G) (cI cZ : ClassId) (q : Nat → Nat) (c : Mm) (sz : Nat) (v1 : Int32) (R : Int32 × Mm) (hf : X10_best v1 c = some R) : m_Mi l yX10_best cX10_best 6 (some .int) 7 168 D cI cZ (mkM q cI cZ) 29 q [.ref (q 0), .int v1] c sz R := by
  refine m_enter_i (own := RX10) (by decide) rfl (Nat.le_of_ble_eq_true rfl) ?_
  intro p e s m args below meth cd Q X ret
  have hx := X.1
  have hb := X.2.1
  have k69 : ∀ (v1 : Int32) (v2 : Int32) (v3 : Int32) (c : Mm), X10_best_j69 v1 v2 v3 c = some R → m_G p l e (m_rm 7 168) s m args below meth cd Q D (mkM q cI cZ) 29 q 6 69 [(1, .int v1), (2, .int v2), (3, .int v3)] [] c := by
    intro v1 v2 v3 c hf H locs ls hS hl
    unfold X10_best_j69 at hf
    refine lv_iload_n hx hb dX10_best_69 rfl (lv_at hl 0 rfl) ?_
    refine lv_if_ne (tgt := 77) hx hb dX10_best_70 (by decide) (fun hc => ?_) (fun hc => ?_)
    · have hf := o_f hc hf
      refine lv_iload_n hx hb dX10_best_77 rfl (lv_at hl 2 rfl) ?_
      exact ret hf hS dX10_best_78
    · have hf := o_t hc hf
      refine lv_iload_n hx hb dX10_best_73 rfl (lv_at hl 1 rfl) ?_
      refine lv_goto (tgt := 78) hx hb dX10_best_74 (by decide) ?_
      exact ret hf hS dX10_best_78
  have k62 : ∀ (v1 : Int32) (v2 : Int32) (v4 : Int32) (s0 : Int32) (rc23 : Int32 → Int32 → Int32 → Mm → Option (Int32 × Mm)) (hrc23 : ∀ (w2 : Int32) (w3 : Int32) (w4 : Int32) (c : Mm), rc23 w2 w3 w4 c = some R → m_G p l e (m_rm 7 168) s m args below meth cd Q D (mkM q cI cZ) 29 q 6 23 [(0, .ref (q 0)), (1, .int v1), (2, .int w2), (3, .int w3), (4, .int w4)] [] c) (c : Mm), X10_best_j62 rc23 v1 v2 v4 s0 c = some R → m_G p l e (m_rm 7 168) s m args below meth cd Q D (mkM q cI cZ) 29 q 6 62 [(0, .ref (q 0)), (1, .int v1), (2, .int v2), (4, .int v4)] [.int s0] c := by
    intro v1 v2 v4 s0 rc23 hrc23 c hf H locs ls hS hl
    unfold X10_best_j62 at hf
    refine lv_istore_n (lv' := [(3, .int s0), (0, .ref (q 0)), (1, .int v1), (2, .int v2), (4, .int v4)]) hx hb dX10_best_62 rfl hl (by decide) rfl (fun ls hl => ?_)
    obtain ⟨x1, ex⟩ : ∃ y : Int32, y = v4 + (1 : Int32) := ⟨_, rfl⟩
    have hf := o_bnd hf x1 ex
    refine lv_iinc (v := x1) (lv' := [(4, .int x1), (3, .int s0), (0, .ref (q 0)), (1, .int v1), (2, .int v2)]) hx hb dX10_best_63 hl (k := 4) rfl (by rw [ex]; rfl) (by decide) rfl (fun ls hl => ?_)
    refine lv_goto (tgt := 23) hx hb dX10_best_66 (by decide) ?_
    exact hrc23 v2 s0 x1 _ hf H locs ls hS (lv_sub hl [2, 3, 4, 1, 0] rfl)
  have k49 : ∀ (v1 : Int32) (v3 : Int32) (v4 : Int32) (v5 : Int32) (s0 : Int32) (rc23 : Int32 → Int32 → Int32 → Mm → Option (Int32 × Mm)) (hrc23 : ∀ (w2 : Int32) (w3 : Int32) (w4 : Int32) (c : Mm), rc23 w2 w3 w4 c = some R → m_G p l e (m_rm 7 168) s m args below meth cd Q D (mkM q cI cZ) 29 q 6 23 [(0, .ref (q 0)), (1, .int v1), (2, .int w2), (3, .int w3), (4, .int w4)] [] c) (c : Mm), X10_best_j49 rc23 v1 v3 v4 v5 s0 c = some R → m_G p l e (m_rm 7 168) s m args below meth cd Q D (mkM q cI cZ) 29 q 6 49 [(0, .ref (q 0)), (1, .int v1), (3, .int v3), (4, .int v4), (5, .int v5)] [.int s0] c := by
    intro v1 v3 v4 v5 s0 rc23 hrc23 c hf H locs ls hS hl
    unfold X10_best_j49 at hf
    refine lv_istore_n (lv' := [(2, .int s0), (0, .ref (q 0)), (1, .int v1), (3, .int v3), (4, .int v4), (5, .int v5)]) hx hb dX10_best_49 rfl hl (by decide) rfl (fun ls hl => ?_)
    refine lv_iload hx hb dX10_best_50 (lv_at hl 5 rfl) ?_
    refine lv_iload_n hx hb dX10_best_52 rfl (lv_at hl 3 rfl) ?_
    refine lv_icmp_ge (tgt := 61) hx hb dX10_best_53 (by decide) (fun hc => ?_) (fun hc => ?_)
    · have hf := o_t hc hf
      refine lv_iload_n hx hb dX10_best_61 rfl (lv_at hl 3 rfl) ?_
      exact k62 v1 s0 v4 v3 rc23 hrc23 _ hf H locs ls hS (lv_sub hl [1, 2, 0, 4] rfl)
    · have hf := o_f hc hf
      refine lv_iload hx hb dX10_best_56 (lv_at hl 5 rfl) ?_
      refine lv_goto (tgt := 62) hx hb dX10_best_58 (by decide) ?_
      exact k62 v1 s0 v4 v5 rc23 hrc23 _ hf H locs ls hS (lv_sub hl [1, 2, 0, 4] rfl)
  have k23 : ∀ (v1 : Int32), ∀ (n : Nat) (v2 : Int32) (v3 : Int32) (v4 : Int32) (c : Mm), m_lp3 (X10_best_b23 v1) n v2 v3 v4 c = some R → m_G p l e (m_rm 7 168) s m args below meth cd Q D (mkM q cI cZ) 29 q 6 23 [(0, .ref (q 0)), (1, .int v1), (2, .int v2), (3, .int v3), (4, .int v4)] [] c := by
    intro v1
    refine m_lp3_i ?_
    intro rc23 hrc23 v2 v3 v4 c hf H locs ls hS hl
    unfold X10_best_b23 at hf
    refine lv_iload hx hb dX10_best_23 (lv_at hl 4 rfl) ?_
    refine lv_iconst (v := (4 : Int32)) hx hb dX10_best_25 (by decide) ?_
    refine lv_icmp_ge (tgt := 69) hx hb dX10_best_26 (by decide) (fun hc => ?_) (fun hc => ?_)
    · have hf := o_t hc hf
      exact k69 v1 v2 v3 _ hf H locs ls hS (lv_sub hl [1, 2, 3] rfl)
    · have hf := o_f hc hf
      refine lv_aload_n hx hb dX10_best_29 rfl (lv_at hl 0 rfl) ?_
      refine lv_iload hx hb dX10_best_30 (lv_at hl 4 rfl) ?_
      obtain ⟨r2, c3, hq, hf⟩ := o_cal hf
      refine m_calli (rest := []) X hS hl.1 (c_X10_goDay l D cI cZ q _ _ v4 _ hq) cv_10_214 (oM_0 q cI cZ _) rfl rfl ⟨Nat.le_of_ble_eq_true rfl, Nat.le_of_ble_eq_true rfl⟩ ⟨Nat.zero_le _, Nat.zero_le _⟩ (Nat.le_of_ble_eq_true rfl) dX10_best_32 (fun H locs hS => ?_)
      refine lv_istore (lv' := [(5, .int r2), (0, .ref (q 0)), (1, .int v1), (2, .int v2), (3, .int v3), (4, .int v4)]) hx hb dX10_best_35 hl (by decide) rfl (fun ls hl => ?_)
      refine lv_iload hx hb dX10_best_37 (lv_at hl 0 rfl) ?_
      refine lv_iload_n hx hb dX10_best_39 rfl (lv_at hl 4 rfl) ?_
      refine lv_icmp_ge (tgt := 48) hx hb dX10_best_40 (by decide) (fun hc => ?_) (fun hc => ?_)
      · have hf := o_t hc hf
        refine lv_iload_n hx hb dX10_best_48 rfl (lv_at hl 3 rfl) ?_
        exact k49 v1 v3 v4 r2 v2 rc23 hrc23 _ hf H locs ls hS (lv_sub hl [1, 2, 4, 5, 0] rfl)
      · have hf := o_f hc hf
        refine lv_iload hx hb dX10_best_43 (lv_at hl 5 rfl) ?_
        refine lv_goto (tgt := 49) hx hb dX10_best_45 (by decide) ?_
        exact k49 v1 v3 v4 r2 v4 rc23 hrc23 _ hf H locs ls hS (lv_sub hl [1, 2, 4, 5, 0] rfl)
  intro H locs ls hS hl
  have hl : lv_has ls 6 [(0, .ref (q 0)), (1, .int v1)] := hl
  unfold X10_best at hf
  refine lv_iload_n hx hb dX10_best_0 rfl (lv_at hl 1 rfl) ?_
  refine lv_i2l hx hb dX10_best_1 rfl ?_
  refine lv_lconst (v := (0 : Int64)) hx hb dX10_best_2 (by decide) ?_
  refine lv_lconst (v := (1 : Int64)) hx hb dX10_best_3 (by decide) ?_
  obtain ⟨r4, c5, hq, hf⟩ := o_cal hf
  refine m_calls (rest := []) X hS hl.1 (c_X10_in l D cI cZ q _ _ (Int32.toInt64 v1) (0 : Int64) (1 : Int64) _ hq) cs_10_109 rfl rfl ⟨Nat.le_of_ble_eq_true rfl, Nat.le_of_ble_eq_true rfl⟩ ⟨Nat.zero_le _, Nat.zero_le _⟩ (Nat.le_of_ble_eq_true rfl) dX10_best_4 (fun H locs hS => ?_)
  refine lv_if_ne (tgt := 12) hx hb dX10_best_7 (by decide) (fun hc => ?_) (fun hc => ?_)
  · have hf := o_f hc hf
    refine lv_iconst (v := (0 : Int32)) hx hb dX10_best_12 (by decide) ?_
    refine lv_istore_n (lv' := [(2, .int (0 : Int32)), (0, .ref (q 0)), (1, .int v1)]) hx hb dX10_best_13 rfl hl (by decide) rfl (fun ls hl => ?_)
    refine lv_aload_n hx hb dX10_best_14 rfl (lv_at hl 1 rfl) ?_
    refine lv_iconst (v := (0 : Int32)) hx hb dX10_best_15 (by decide) ?_
    obtain ⟨r6, c7, hq, hf⟩ := o_cal hf
    refine m_calli (rest := []) X hS hl.1 (c_X10_goDay l D cI cZ q _ _ (0 : Int32) _ hq) cv_10_214 (oM_0 q cI cZ _) rfl rfl ⟨Nat.le_of_ble_eq_true rfl, Nat.le_of_ble_eq_true rfl⟩ ⟨Nat.zero_le _, Nat.zero_le _⟩ (Nat.le_of_ble_eq_true rfl) dX10_best_16 (fun H locs hS => ?_)
    refine lv_istore_n (lv' := [(3, .int r6), (2, .int (0 : Int32)), (0, .ref (q 0)), (1, .int v1)]) hx hb dX10_best_19 rfl hl (by decide) rfl (fun ls hl => ?_)
    refine lv_iconst (v := (1 : Int32)) hx hb dX10_best_20 (by decide) ?_
    refine lv_istore (lv' := [(4, .int (1 : Int32)), (3, .int r6), (2, .int (0 : Int32)), (0, .ref (q 0)), (1, .int v1)]) hx hb dX10_best_21 hl (by decide) rfl (fun ls hl => ?_)
    exact k23 v1 _ (0 : Int32) r6 (1 : Int32) _ hf H locs ls hS (lv_sub hl [3, 4, 2, 1, 0] rfl)
  · have hf := o_t hc hf
    refine lv_iconst (v := (-1 : Int32)) hx hb dX10_best_10 (by decide) ?_
    exact ret hf hS dX10_best_11

set_option maxHeartbeats 40000000 in
set_option maxRecDepth 100000 in
theorem c_X10_custom (l : Launch) (D : va_G) (cI cZ : ClassId) (q : Nat → Nat) (c : Mm) (sz : Nat) (R : Int32 × Mm) (hf : X10_custom c = some R) : m_Mi l yX10_custom cX10_custom 1 (some .int) 8 193 D cI cZ (mkM q cI cZ) 29 q [.ref (q 0)] c sz R := by
  refine m_enter_i (own := RX10) (by decide) rfl (Nat.le_of_ble_eq_true rfl) ?_
  intro p e s m args below meth cd Q X ret
  have hx := X.1
  have hb := X.2.1
  intro H locs ls hS hl
  have hl : lv_has ls 1 [(0, .ref (q 0))] := hl
  unfold X10_custom at hf
  refine lv_aload_n hx hb dX10_custom_0 rfl (lv_at hl 0 rfl) ?_
  refine lv_iconst (v := (0 : Int32)) hx hb dX10_custom_1 (by decide) ?_
  obtain ⟨r1, c2, hq, hf⟩ := o_cal hf
  refine m_calli (rest := []) X hS hl.1 (c_X10_goDay l D cI cZ q _ _ (0 : Int32) _ hq) cv_10_214 (oM_0 q cI cZ _) rfl rfl ⟨Nat.le_of_ble_eq_true rfl, Nat.le_of_ble_eq_true rfl⟩ ⟨Nat.zero_le _, Nat.zero_le _⟩ (Nat.le_of_ble_eq_true rfl) dX10_custom_2 (fun H locs hS => ?_)
  refine lv_aload_n hx hb dX10_custom_5 rfl (lv_at hl 0 rfl) ?_
  refine lv_iconst (v := (1 : Int32)) hx hb dX10_custom_6 (by decide) ?_
  obtain ⟨r3, c4, hq, hf⟩ := o_cal hf
  refine m_calli (rest := [.int r1]) X hS hl.1 (c_X10_best l D cI cZ q _ _ (1 : Int32) _ hq) cv_10_228 (oM_0 q cI cZ _) rfl rfl ⟨Nat.le_of_ble_eq_true rfl, Nat.le_of_ble_eq_true rfl⟩ ⟨Nat.zero_le _, Nat.zero_le _⟩ (Nat.le_of_ble_eq_true rfl) dX10_custom_7 (fun H locs hS => ?_)
  refine lv_isub hx hb dX10_custom_10 ?_
  exact ret hf hS dX10_custom_11

set_option maxHeartbeats 40000000 in
set_option maxRecDepth 100000 in
theorem c_X10_send (l : Launch) (D : va_G) (cI cZ : ClassId) (q : Nat → Nat) (c : Mm) (sz : Nat) (v1 : Int32) (v2 : Int32) (v3 : Int32) (R : Int32 × Mm) (hf : X10_send v1 v2 v3 c = some R) : m_Mi l yX10_send cX10_send 9 (some .int) 7 168 D cI cZ (mkM q cI cZ) 29 q [.ref (q 0), .int v1, .int v2, .int v3] c sz R := by
  refine m_enter_i (own := RX10) (by decide) rfl (Nat.le_of_ble_eq_true rfl) ?_
  intro p e s m args below meth cd Q X ret
  have hx := X.1
  have hb := X.2.1
  have k99 : ∀ (v2 : Int32) (v3 : Int32) (v4 : Int32) (v5 : Int32) (v6 : Int32) (c : Mm), X10_send_j99 v2 v3 v4 v5 v6 c = some R → m_G p l e (m_rm 7 168) s m args below meth cd Q D (mkM q cI cZ) 29 q 9 99 [(0, .ref (q 0)), (2, .int v2), (3, .int v3), (4, .int v4), (5, .int v5), (6, .int v6)] [] c := by
    intro v2 v3 v4 v5 v6 c hf H locs ls hS hl
    unfold X10_send_j99 at hf
    refine lv_aload_n hx hb dX10_send_99 rfl (lv_at hl 0 rfl) ?_
    refine m_get X hS fl_10_43 (vM_0_12 q cI cZ _) dX10_send_100 ?_
    refine lv_bipush (v := (6 : Int32)) hx hb dX10_send_103 (by decide) ?_
    refine lv_iload_n hx hb dX10_send_105 rfl (lv_at hl 1 rfl) ?_
    refine lv_iadd hx hb dX10_send_106 ?_
    refine lv_iload hx hb dX10_send_107 (lv_at hl 3 rfl) ?_
    obtain ⟨hg, hf⟩ := o_gi hf
    refine m_ist X hS (aM_12 q cI cZ) hg dX10_send_109 (fun c1 ec H locs hS => ?_)
    have hf := o_bnd hf c1 ec
    refine lv_iload_n hx hb dX10_send_110 rfl (lv_at hl 2 rfl) ?_
    refine lv_if_ne (tgt := 119) hx hb dX10_send_111 (by decide) (fun hc => ?_) (fun hc => ?_)
    · have hf := o_f hc hf
      refine lv_iload hx hb dX10_send_119 (lv_at hl 5 rfl) ?_
      exact ret hf hS dX10_send_121
    · have hf := o_t hc hf
      refine lv_iload hx hb dX10_send_114 (lv_at hl 4 rfl) ?_
      refine lv_goto (tgt := 121) hx hb dX10_send_116 (by decide) ?_
      exact ret hf hS dX10_send_121
  have k93 : ∀ (v1 : Int32) (v2 : Int32) (v3 : Int32) (v4 : Int32) (v5 : Int32) (v6 : Int32) (v7 : Int32) (rc48 : Int32 → Int32 → Int32 → Mm → Option (Int32 × Mm)) (hrc48 : ∀ (w5 : Int32) (w6 : Int32) (w7 : Int32) (c : Mm), rc48 w5 w6 w7 c = some R → m_G p l e (m_rm 7 168) s m args below meth cd Q D (mkM q cI cZ) 29 q 9 48 [(0, .ref (q 0)), (1, .int v1), (2, .int v2), (3, .int v3), (4, .int v4), (5, .int w5), (6, .int w6), (7, .int w7)] [] c) (c : Mm), X10_send_j93 rc48 v1 v2 v3 v4 v5 v6 v7 c = some R → m_G p l e (m_rm 7 168) s m args below meth cd Q D (mkM q cI cZ) 29 q 9 93 [(0, .ref (q 0)), (1, .int v1), (2, .int v2), (3, .int v3), (4, .int v4), (5, .int v5), (6, .int v6), (7, .int v7)] [] c := by
    intro v1 v2 v3 v4 v5 v6 v7 rc48 hrc48 c hf H locs ls hS hl
    unfold X10_send_j93 at hf
    obtain ⟨x2, ex⟩ : ∃ y : Int32, y = v7 + (1 : Int32) := ⟨_, rfl⟩
    have hf := o_bnd hf x2 ex
    refine lv_iinc (v := x2) (lv' := [(7, .int x2), (0, .ref (q 0)), (1, .int v1), (2, .int v2), (3, .int v3), (4, .int v4), (5, .int v5), (6, .int v6)]) hx hb dX10_send_93 hl (k := 7) rfl (by rw [ex]; rfl) (by decide) rfl (fun ls hl => ?_)
    refine lv_goto (tgt := 48) hx hb dX10_send_96 (by decide) ?_
    exact hrc48 v5 v6 x2 _ hf H locs ls hS (lv_sub hl [1, 2, 3, 4, 5, 6, 7, 0] rfl)
  have k85 : ∀ (v1 : Int32) (v2 : Int32) (v3 : Int32) (v4 : Int32) (v7 : Int32) (v8 : Int32) (rc48 : Int32 → Int32 → Int32 → Mm → Option (Int32 × Mm)) (hrc48 : ∀ (w5 : Int32) (w6 : Int32) (w7 : Int32) (c : Mm), rc48 w5 w6 w7 c = some R → m_G p l e (m_rm 7 168) s m args below meth cd Q D (mkM q cI cZ) 29 q 9 48 [(0, .ref (q 0)), (1, .int v1), (2, .int v2), (3, .int v3), (4, .int v4), (5, .int w5), (6, .int w6), (7, .int w7)] [] c) (c : Mm), X10_send_j85 rc48 v1 v2 v3 v4 v7 v8 c = some R → m_G p l e (m_rm 7 168) s m args below meth cd Q D (mkM q cI cZ) 29 q 9 85 [(0, .ref (q 0)), (1, .int v1), (2, .int v2), (3, .int v3), (4, .int v4), (7, .int v7), (8, .int v8)] [] c := by
    intro v1 v2 v3 v4 v7 v8 rc48 hrc48 c hf H locs ls hS hl
    unfold X10_send_j85 at hf
    refine lv_iload hx hb dX10_send_85 (lv_at hl 5 rfl) ?_
    refine lv_istore (lv' := [(5, .int v7), (0, .ref (q 0)), (1, .int v1), (2, .int v2), (3, .int v3), (4, .int v4), (7, .int v7), (8, .int v8)]) hx hb dX10_send_87 hl (by decide) rfl (fun ls hl => ?_)
    refine lv_iload hx hb dX10_send_89 (lv_at hl 7 rfl) ?_
    refine lv_istore (lv' := [(6, .int v8), (5, .int v7), (0, .ref (q 0)), (1, .int v1), (2, .int v2), (3, .int v3), (4, .int v4), (7, .int v7), (8, .int v8)]) hx hb dX10_send_91 hl (by decide) rfl (fun ls hl => ?_)
    exact k93 v1 v2 v3 v4 v7 v8 v7 rc48 hrc48 _ hf H locs ls hS (lv_sub hl [2, 3, 4, 5, 6, 1, 0, 7] rfl)
  have k48 : ∀ (v1 : Int32) (v2 : Int32) (v3 : Int32) (v4 : Int32), ∀ (n : Nat) (v5 : Int32) (v6 : Int32) (v7 : Int32) (c : Mm), m_lp3 (X10_send_b48 v1 v2 v3 v4) n v5 v6 v7 c = some R → m_G p l e (m_rm 7 168) s m args below meth cd Q D (mkM q cI cZ) 29 q 9 48 [(0, .ref (q 0)), (1, .int v1), (2, .int v2), (3, .int v3), (4, .int v4), (5, .int v5), (6, .int v6), (7, .int v7)] [] c := by
    intro v1 v2 v3 v4
    refine m_lp3_i ?_
    intro rc48 hrc48 v5 v6 v7 c hf H locs ls hS hl
    unfold X10_send_b48 at hf
    refine lv_iload hx hb dX10_send_48 (lv_at hl 7 rfl) ?_
    refine lv_bipush (v := (30 : Int32)) hx hb dX10_send_50 (by decide) ?_
    refine lv_icmp_gt (tgt := 99) hx hb dX10_send_52 (by decide) (fun hc => ?_) (fun hc => ?_)
    · have hf := o_t hc hf
      exact k99 v2 v3 v4 v5 v6 _ hf H locs ls hS (lv_sub hl [0, 2, 3, 4, 5, 6] rfl)
    · have hf := o_f hc hf
      refine lv_aload_n hx hb dX10_send_55 rfl (lv_at hl 0 rfl) ?_
      refine m_get X hS fl_10_43 (vM_0_12 q cI cZ _) dX10_send_56 ?_
      refine lv_bipush (v := (6 : Int32)) hx hb dX10_send_59 (by decide) ?_
      refine lv_iload_n hx hb dX10_send_61 rfl (lv_at hl 2 rfl) ?_
      refine lv_iadd hx hb dX10_send_62 ?_
      refine lv_iload hx hb dX10_send_63 (lv_at hl 7 rfl) ?_
      obtain ⟨hg, hf⟩ := o_gi hf
      refine m_ist X hS (aM_12 q cI cZ) hg dX10_send_65 (fun c3 ec H locs hS => ?_)
      have hf := o_bnd hf c3 ec
      refine lv_aload_n hx hb dX10_send_66 rfl (lv_at hl 0 rfl) ?_
      refine lv_iload_n hx hb dX10_send_67 rfl (lv_at hl 1 rfl) ?_
      obtain ⟨r4, c5, hq, hf⟩ := o_cal hf
      refine m_calli (rest := []) X hS hl.1 (c_X10_goDay l D cI cZ q _ _ v1 _ hq) cv_10_214 (oM_0 q cI cZ _) rfl rfl ⟨Nat.le_of_ble_eq_true rfl, Nat.le_of_ble_eq_true rfl⟩ ⟨Nat.zero_le _, Nat.zero_le _⟩ (Nat.le_of_ble_eq_true rfl) dX10_send_68 (fun H locs hS => ?_)
      refine lv_istore (lv' := [(8, .int r4), (0, .ref (q 0)), (1, .int v1), (2, .int v2), (3, .int v3), (4, .int v4), (5, .int v5), (6, .int v6), (7, .int v7)]) hx hb dX10_send_71 hl (by decide) rfl (fun ls hl => ?_)
      refine lv_iload hx hb dX10_send_73 (lv_at hl 6 rfl) ?_
      refine lv_if_lt (tgt := 85) hx hb dX10_send_75 (by decide) (fun hc => ?_) (fun hc => ?_)
      · have hf := o_t hc hf
        exact k85 v1 v2 v3 v4 v7 r4 rc48 hrc48 _ hf H locs ls hS (lv_sub hl [1, 2, 3, 4, 5, 8, 0] rfl)
      · have hf := o_f hc hf
        refine lv_iload hx hb dX10_send_78 (lv_at hl 0 rfl) ?_
        refine lv_iload hx hb dX10_send_80 (lv_at hl 7 rfl) ?_
        refine lv_icmp_ge (tgt := 93) hx hb dX10_send_82 (by decide) (fun hc => ?_) (fun hc => ?_)
        · have hf := o_t hc hf
          exact k93 v1 v2 v3 v4 v5 v6 v7 rc48 hrc48 _ hf H locs ls hS (lv_sub hl [1, 2, 3, 4, 5, 6, 7, 8] rfl)
        · have hf := o_f hc hf
          exact k85 v1 v2 v3 v4 v7 r4 rc48 hrc48 _ hf H locs ls hS (lv_sub hl [1, 2, 3, 4, 5, 8, 0] rfl)
  intro H locs ls hS hl
  have hl : lv_has ls 9 [(0, .ref (q 0)), (1, .int v1), (2, .int v2), (3, .int v3)] := hl
  unfold X10_send at hf
  refine lv_iload_n hx hb dX10_send_0 rfl (lv_at hl 1 rfl) ?_
  obtain ⟨r6, c7, hq, hf⟩ := o_cal hf
  refine m_calls (rest := []) X hS hl.1 (c_X10_isRule l D cI cZ q _ _ v1 _ hq) cs_10_209 rfl rfl ⟨Nat.le_of_ble_eq_true rfl, Nat.le_of_ble_eq_true rfl⟩ ⟨Nat.zero_le _, Nat.zero_le _⟩ (Nat.le_of_ble_eq_true rfl) dX10_send_1 (fun H locs hS => ?_)
  refine lv_if_eq (tgt := 25) hx hb dX10_send_4 (by decide) (fun hc => ?_) (fun hc => ?_)
  · have hf := o_t hc hf
    refine lv_iconst (v := (-1 : Int32)) hx hb dX10_send_25 (by decide) ?_
    exact ret hf hS dX10_send_26
  · have hf := o_f hc hf
    refine lv_aload_n hx hb dX10_send_7 rfl (lv_at hl 0 rfl) ?_
    refine lv_iload_n hx hb dX10_send_8 rfl (lv_at hl 2 rfl) ?_
    obtain ⟨r8, c9, hq, hf⟩ := o_cal hf
    refine m_calli (rest := []) X hS hl.1 (c_X10_isBoat l D cI cZ q _ _ v2 _ hq) cv_10_163 (oM_0 q cI cZ _) rfl rfl ⟨Nat.le_of_ble_eq_true rfl, Nat.le_of_ble_eq_true rfl⟩ ⟨Nat.zero_le _, Nat.zero_le _⟩ (Nat.le_of_ble_eq_true rfl) dX10_send_9 (fun H locs hS => ?_)
    refine lv_if_eq (tgt := 25) hx hb dX10_send_12 (by decide) (fun hc => ?_) (fun hc => ?_)
    · have hf := o_t hc hf
      refine lv_iconst (v := (-1 : Int32)) hx hb dX10_send_25 (by decide) ?_
      exact ret hf hS dX10_send_26
    · have hf := o_f hc hf
      refine lv_iload_n hx hb dX10_send_15 rfl (lv_at hl 3 rfl) ?_
      refine lv_i2l hx hb dX10_send_16 rfl ?_
      refine lv_lconst (v := (0 : Int64)) hx hb dX10_send_17 (by decide) ?_
      refine lv_lconst (v := (1 : Int64)) hx hb dX10_send_18 (by decide) ?_
      obtain ⟨r10, c11, hq, hf⟩ := o_cal hf
      refine m_calls (rest := []) X hS hl.1 (c_X10_in l D cI cZ q _ _ (Int32.toInt64 v3) (0 : Int64) (1 : Int64) _ hq) cs_10_109 rfl rfl ⟨Nat.le_of_ble_eq_true rfl, Nat.le_of_ble_eq_true rfl⟩ ⟨Nat.zero_le _, Nat.zero_le _⟩ (Nat.le_of_ble_eq_true rfl) dX10_send_19 (fun H locs hS => ?_)
      refine lv_if_ne (tgt := 27) hx hb dX10_send_22 (by decide) (fun hc => ?_) (fun hc => ?_)
      · have hf := o_f hc hf
        refine lv_aload_n hx hb dX10_send_27 rfl (lv_at hl 0 rfl) ?_
        refine m_get X hS fl_10_43 (vM_0_12 q cI cZ _) dX10_send_28 ?_
        refine lv_bipush (v := (6 : Int32)) hx hb dX10_send_31 (by decide) ?_
        refine lv_iload_n hx hb dX10_send_33 rfl (lv_at hl 2 rfl) ?_
        refine lv_iadd hx hb dX10_send_34 ?_
        obtain ⟨hg, hf⟩ := o_gi hf
        refine m_ild X hS (aM_12 q cI cZ) hg dX10_send_35 ?_
        refine lv_topi (fun x12 ex => ?_)
        have hf := o_bnd hf x12 ex
        refine lv_istore (lv' := [(4, .int x12), (0, .ref (q 0)), (1, .int v1), (2, .int v2), (3, .int v3)]) hx hb dX10_send_36 hl (by decide) rfl (fun ls hl => ?_)
        refine lv_bipush (v := (-4 : Int32)) hx hb dX10_send_38 (by decide) ?_
        refine lv_istore (lv' := [(5, .int (-4 : Int32)), (4, .int x12), (0, .ref (q 0)), (1, .int v1), (2, .int v2), (3, .int v3)]) hx hb dX10_send_40 hl (by decide) rfl (fun ls hl => ?_)
        refine lv_iconst (v := (0 : Int32)) hx hb dX10_send_42 (by decide) ?_
        refine lv_istore (lv' := [(6, .int (0 : Int32)), (5, .int (-4 : Int32)), (4, .int x12), (0, .ref (q 0)), (1, .int v1), (2, .int v2), (3, .int v3)]) hx hb dX10_send_43 hl (by decide) rfl (fun ls hl => ?_)
        refine lv_iconst (v := (0 : Int32)) hx hb dX10_send_45 (by decide) ?_
        refine lv_istore (lv' := [(7, .int (0 : Int32)), (6, .int (0 : Int32)), (5, .int (-4 : Int32)), (4, .int x12), (0, .ref (q 0)), (1, .int v1), (2, .int v2), (3, .int v3)]) hx hb dX10_send_46 hl (by decide) rfl (fun ls hl => ?_)
        exact k48 v1 v2 v3 x12 _ (-4 : Int32) (0 : Int32) (0 : Int32) _ hf H locs ls hS (lv_sub hl [4, 5, 6, 7, 3, 2, 1, 0] rfl)
      · have hf := o_t hc hf
        refine lv_iconst (v := (-1 : Int32)) hx hb dX10_send_25 (by decide) ?_
        exact ret hf hS dX10_send_26

set_option maxHeartbeats 40000000 in
set_option maxRecDepth 100000 in
theorem c_X10_change (l : Launch) (D : va_G) (cI cZ : ClassId) (q : Nat → Nat) (c : Mm) (sz : Nat) (v1 : Int32) (v2 : Int32) (R : Mm) (hf : X10_change v1 v2 c = some R) : m_Mv l yX10_change cX10_change 4 0 0 D cI cZ (mkM q cI cZ) 29 q [.ref (q 0), .int v1, .int v2] c sz R := by
  refine m_enter_v (own := RX10) (by decide) rfl (Nat.le_of_ble_eq_true rfl) ?_
  intro p e s m args below meth cd Q X ret
  have hx := X.1
  have hb := X.2.1
  intro H locs ls hS hl
  have hl : lv_has ls 4 [(0, .ref (q 0)), (1, .int v1), (2, .int v2)] := hl
  unfold X10_change at hf
  refine lv_aload_n hx hb dX10_change_0 rfl (lv_at hl 0 rfl) ?_
  refine m_get X hS fl_10_43 (vM_0_12 q cI cZ _) dX10_change_1 ?_
  refine lv_iload_n hx hb dX10_change_4 rfl (lv_at hl 1 rfl) ?_
  obtain ⟨hg, hf⟩ := o_gi hf
  refine m_ild X hS (aM_12 q cI cZ) hg dX10_change_5 ?_
  refine lv_topi (fun x1 ex => ?_)
  have hf := o_bnd hf x1 ex
  refine lv_istore_n (lv' := [(3, .int x1), (0, .ref (q 0)), (1, .int v1), (2, .int v2)]) hx hb dX10_change_6 rfl hl (by decide) rfl (fun ls hl => ?_)
  refine lv_aload_n hx hb dX10_change_7 rfl (lv_at hl 1 rfl) ?_
  refine m_get X hS fl_10_43 (vM_0_12 q cI cZ _) dX10_change_8 ?_
  refine lv_iload_n hx hb dX10_change_11 rfl (lv_at hl 2 rfl) ?_
  refine lv_aload_n hx hb dX10_change_12 rfl (lv_at hl 1 rfl) ?_
  refine m_get X hS fl_10_43 (vM_0_12 q cI cZ _) dX10_change_13 ?_
  refine lv_iload_n hx hb dX10_change_16 rfl (lv_at hl 3 rfl) ?_
  obtain ⟨hg, hf⟩ := o_gi hf
  refine m_ild X hS (aM_12 q cI cZ) hg dX10_change_17 ?_
  obtain ⟨hg, hf⟩ := o_gi hf
  refine m_ist X hS (aM_12 q cI cZ) hg dX10_change_18 (fun c2 ec H locs hS => ?_)
  have hf := o_bnd hf c2 ec
  refine lv_aload_n hx hb dX10_change_19 rfl (lv_at hl 1 rfl) ?_
  refine m_get X hS fl_10_43 (vM_0_12 q cI cZ _) dX10_change_20 ?_
  refine lv_iload_n hx hb dX10_change_23 rfl (lv_at hl 3 rfl) ?_
  refine lv_iload_n hx hb dX10_change_24 rfl (lv_at hl 0 rfl) ?_
  obtain ⟨hg, hf⟩ := o_gi hf
  refine m_ist X hS (aM_12 q cI cZ) hg dX10_change_25 (fun c3 ec H locs hS => ?_)
  have hf := o_bnd hf c3 ec
  exact ret hf hS dX10_change_26

set_option maxHeartbeats 40000000 in
set_option maxRecDepth 100000 in
theorem c_X10_swap (l : Launch) (D : va_G) (cI cZ : ClassId) (q : Nat → Nat) (c : Mm) (sz : Nat) (v1 : Int32) (v2 : Int32) (R : Int32 × Mm) (hf : X10_swap v1 v2 c = some R) : m_Mi l yX10_swap cX10_swap 8 (some .int) 7 168 D cI cZ (mkM q cI cZ) 29 q [.ref (q 0), .int v1, .int v2] c sz R := by
  refine m_enter_i (own := RX10) (by decide) rfl (Nat.le_of_ble_eq_true rfl) ?_
  intro p e s m args below meth cd Q X ret
  have hx := X.1
  have hb := X.2.1
  have k139 : ∀ (v3 : Int32) (c : Mm), X10_swap_j139 v3 c = some R → m_G p l e (m_rm 7 168) s m args below meth cd Q D (mkM q cI cZ) 29 q 8 139 [(3, .int v3)] [] c := by
    intro v3 c hf H locs ls hS hl
    unfold X10_swap_j139 at hf
    refine lv_iload_n hx hb dX10_swap_139 rfl (lv_at hl 0 rfl) ?_
    refine lv_goto (tgt := 145) hx hb dX10_swap_140 (by decide) ?_
    exact ret hf hS dX10_swap_145
  have k131 : ∀ (v2 : Int32) (v3 : Int32) (v4 : Int32) (c : Mm), X10_swap_j131 v2 v3 v4 c = some R → m_G p l e (m_rm 7 168) s m args below meth cd Q D (mkM q cI cZ) 29 q 8 131 [(2, .int v2), (3, .int v3), (4, .int v4)] [] c := by
    intro v2 v3 v4 c hf H locs ls hS hl
    unfold X10_swap_j131 at hf
    refine lv_iload_n hx hb dX10_swap_131 rfl (lv_at hl 1 rfl) ?_
    refine lv_if_lt (tgt := 139) hx hb dX10_swap_132 (by decide) (fun hc => ?_) (fun hc => ?_)
    · have hf := o_t hc hf
      exact k139 v3 _ hf H locs ls hS (lv_sub hl [1] rfl)
    · have hf := o_f hc hf
      refine lv_iload_n hx hb dX10_swap_135 rfl (lv_at hl 0 rfl) ?_
      refine lv_if_ne (tgt := 143) hx hb dX10_swap_136 (by decide) (fun hc => ?_) (fun hc => ?_)
      · have hf := o_f hc hf
        refine lv_iload hx hb dX10_swap_143 (lv_at hl 2 rfl) ?_
        exact ret hf hS dX10_swap_145
      · have hf := o_t hc hf
        exact k139 v3 _ hf H locs ls hS (lv_sub hl [1] rfl)
  have k125 : ∀ (v1 : Int32) (v2 : Int32) (v3 : Int32) (v4 : Int32) (v5 : Int32) (rc32 : Int32 → Int32 → Int32 → Mm → Option (Int32 × Mm)) (hrc32 : ∀ (w3 : Int32) (w4 : Int32) (w5 : Int32) (c : Mm), rc32 w3 w4 w5 c = some R → m_G p l e (m_rm 7 168) s m args below meth cd Q D (mkM q cI cZ) 29 q 8 32 [(0, .ref (q 0)), (1, .int v1), (2, .int v2), (3, .int w3), (4, .int w4), (5, .int w5)] [] c) (c : Mm), X10_swap_j125 rc32 v1 v2 v3 v4 v5 c = some R → m_G p l e (m_rm 7 168) s m args below meth cd Q D (mkM q cI cZ) 29 q 8 125 [(0, .ref (q 0)), (1, .int v1), (2, .int v2), (3, .int v3), (4, .int v4), (5, .int v5)] [] c := by
    intro v1 v2 v3 v4 v5 rc32 hrc32 c hf H locs ls hS hl
    unfold X10_swap_j125 at hf
    obtain ⟨x1, ex⟩ : ∃ y : Int32, y = v5 + (1 : Int32) := ⟨_, rfl⟩
    have hf := o_bnd hf x1 ex
    refine lv_iinc (v := x1) (lv' := [(5, .int x1), (0, .ref (q 0)), (1, .int v1), (2, .int v2), (3, .int v3), (4, .int v4)]) hx hb dX10_swap_125 hl (k := 5) rfl (by rw [ex]; rfl) (by decide) rfl (fun ls hl => ?_)
    refine lv_goto (tgt := 32) hx hb dX10_swap_128 (by decide) ?_
    exact hrc32 v3 v4 x1 _ hf H locs ls hS (lv_sub hl [1, 2, 3, 4, 5, 0] rfl)
  have k117 : ∀ (v1 : Int32) (v2 : Int32) (v3 : Int32) (v5 : Int32) (v6 : Int32) (s0 : Int32) (rc32 : Int32 → Int32 → Int32 → Mm → Option (Int32 × Mm)) (hrc32 : ∀ (w3 : Int32) (w4 : Int32) (w5 : Int32) (c : Mm), rc32 w3 w4 w5 c = some R → m_G p l e (m_rm 7 168) s m args below meth cd Q D (mkM q cI cZ) 29 q 8 32 [(0, .ref (q 0)), (1, .int v1), (2, .int v2), (3, .int w3), (4, .int w4), (5, .int w5)] [] c) (rc49 : Int32 → Int32 → Int32 → Mm → Option (Int32 × Mm)) (hrc49 : ∀ (w3 : Int32) (w4 : Int32) (w6 : Int32) (c : Mm), rc49 w3 w4 w6 c = some R → m_G p l e (m_rm 7 168) s m args below meth cd Q D (mkM q cI cZ) 29 q 8 49 [(0, .ref (q 0)), (1, .int v1), (2, .int v2), (3, .int w3), (4, .int w4), (5, .int v5), (6, .int w6)] [] c) (c : Mm), X10_swap_j117 rc32 rc49 v1 v2 v3 v5 v6 s0 c = some R → m_G p l e (m_rm 7 168) s m args below meth cd Q D (mkM q cI cZ) 29 q 8 117 [(0, .ref (q 0)), (1, .int v1), (2, .int v2), (3, .int v3), (5, .int v5), (6, .int v6)] [.int s0] c := by
    intro v1 v2 v3 v5 v6 s0 rc32 hrc32 rc49 hrc49 c hf H locs ls hS hl
    unfold X10_swap_j117 at hf
    refine lv_istore (lv' := [(4, .int s0), (0, .ref (q 0)), (1, .int v1), (2, .int v2), (3, .int v3), (5, .int v5), (6, .int v6)]) hx hb dX10_swap_117 hl (by decide) rfl (fun ls hl => ?_)
    obtain ⟨x2, ex⟩ : ∃ y : Int32, y = v6 + (1 : Int32) := ⟨_, rfl⟩
    have hf := o_bnd hf x2 ex
    refine lv_iinc (v := x2) (lv' := [(6, .int x2), (4, .int s0), (0, .ref (q 0)), (1, .int v1), (2, .int v2), (3, .int v3), (5, .int v5)]) hx hb dX10_swap_119 hl (k := 6) rfl (by rw [ex]; rfl) (by decide) rfl (fun ls hl => ?_)
    refine lv_goto (tgt := 49) hx hb dX10_swap_122 (by decide) ?_
    exact hrc49 v3 s0 x2 _ hf H locs ls hS (lv_sub hl [2, 3, 4, 5, 1, 6, 0] rfl)
  have k102 : ∀ (v1 : Int32) (v2 : Int32) (v4 : Int32) (v5 : Int32) (v6 : Int32) (v7 : Int32) (s0 : Int32) (rc32 : Int32 → Int32 → Int32 → Mm → Option (Int32 × Mm)) (hrc32 : ∀ (w3 : Int32) (w4 : Int32) (w5 : Int32) (c : Mm), rc32 w3 w4 w5 c = some R → m_G p l e (m_rm 7 168) s m args below meth cd Q D (mkM q cI cZ) 29 q 8 32 [(0, .ref (q 0)), (1, .int v1), (2, .int v2), (3, .int w3), (4, .int w4), (5, .int w5)] [] c) (rc49 : Int32 → Int32 → Int32 → Mm → Option (Int32 × Mm)) (hrc49 : ∀ (w3 : Int32) (w4 : Int32) (w6 : Int32) (c : Mm), rc49 w3 w4 w6 c = some R → m_G p l e (m_rm 7 168) s m args below meth cd Q D (mkM q cI cZ) 29 q 8 49 [(0, .ref (q 0)), (1, .int v1), (2, .int v2), (3, .int w3), (4, .int w4), (5, .int v5), (6, .int w6)] [] c) (c : Mm), X10_swap_j102 rc32 rc49 v1 v2 v4 v5 v6 v7 s0 c = some R → m_G p l e (m_rm 7 168) s m args below meth cd Q D (mkM q cI cZ) 29 q 8 102 [(0, .ref (q 0)), (1, .int v1), (2, .int v2), (4, .int v4), (5, .int v5), (6, .int v6), (7, .int v7)] [.int s0] c := by
    intro v1 v2 v4 v5 v6 v7 s0 rc32 hrc32 rc49 hrc49 c hf H locs ls hS hl
    unfold X10_swap_j102 at hf
    refine lv_istore_n (lv' := [(3, .int s0), (0, .ref (q 0)), (1, .int v1), (2, .int v2), (4, .int v4), (5, .int v5), (6, .int v6), (7, .int v7)]) hx hb dX10_swap_102 rfl hl (by decide) rfl (fun ls hl => ?_)
    refine lv_iload hx hb dX10_swap_103 (lv_at hl 7 rfl) ?_
    refine lv_iload hx hb dX10_swap_105 (lv_at hl 4 rfl) ?_
    refine lv_icmp_ge (tgt := 115) hx hb dX10_swap_107 (by decide) (fun hc => ?_) (fun hc => ?_)
    · have hf := o_t hc hf
      refine lv_iload hx hb dX10_swap_115 (lv_at hl 4 rfl) ?_
      exact k117 v1 v2 s0 v5 v6 v4 rc32 hrc32 rc49 hrc49 _ hf H locs ls hS (lv_sub hl [1, 2, 3, 0, 5, 6] rfl)
    · have hf := o_f hc hf
      refine lv_iload hx hb dX10_swap_110 (lv_at hl 7 rfl) ?_
      refine lv_goto (tgt := 117) hx hb dX10_swap_112 (by decide) ?_
      exact k117 v1 v2 s0 v5 v6 v7 rc32 hrc32 rc49 hrc49 _ hf H locs ls hS (lv_sub hl [1, 2, 3, 0, 5, 6] rfl)
  have k49 : ∀ (v1 : Int32) (v2 : Int32) (v5 : Int32) (rc32 : Int32 → Int32 → Int32 → Mm → Option (Int32 × Mm)) (hrc32 : ∀ (w3 : Int32) (w4 : Int32) (w5 : Int32) (c : Mm), rc32 w3 w4 w5 c = some R → m_G p l e (m_rm 7 168) s m args below meth cd Q D (mkM q cI cZ) 29 q 8 32 [(0, .ref (q 0)), (1, .int v1), (2, .int v2), (3, .int w3), (4, .int w4), (5, .int w5)] [] c), ∀ (n : Nat) (v3 : Int32) (v4 : Int32) (v6 : Int32) (c : Mm), m_lp3 (X10_swap_b49 rc32 v1 v2 v5) n v3 v4 v6 c = some R → m_G p l e (m_rm 7 168) s m args below meth cd Q D (mkM q cI cZ) 29 q 8 49 [(0, .ref (q 0)), (1, .int v1), (2, .int v2), (3, .int v3), (4, .int v4), (5, .int v5), (6, .int v6)] [] c := by
    intro v1 v2 v5 rc32 hrc32
    refine m_lp3_i ?_
    intro rc49 hrc49 v3 v4 v6 c hf H locs ls hS hl
    unfold X10_swap_b49 at hf
    refine lv_iload hx hb dX10_swap_49 (lv_at hl 6 rfl) ?_
    refine lv_aload_n hx hb dX10_swap_51 rfl (lv_at hl 0 rfl) ?_
    refine m_get X hS fl_10_13 (vM_0_2 q cI cZ _) dX10_swap_52 ?_
    refine lv_iconst (v := (0 : Int32)) hx hb dX10_swap_55 (by decide) ?_
    refine m_ildN X hS 0 (by decide +kernel) (aM_2 q cI cZ) (by decide +kernel) dX10_swap_56 ?_
    refine lv_icmp_ge (tgt := 125) hx hb dX10_swap_57 (by decide) (fun hc => ?_) (fun hc => ?_)
    · have hf := o_t hc hf
      exact k125 v1 v2 v3 v4 v5 rc32 hrc32 _ hf H locs ls hS (lv_sub hl [0, 1, 2, 3, 4, 5] rfl)
    · have hf := o_f hc hf
      refine lv_aload_n hx hb dX10_swap_60 rfl (lv_at hl 0 rfl) ?_
      refine lv_iload hx hb dX10_swap_61 (lv_at hl 5 rfl) ?_
      refine lv_iload hx hb dX10_swap_63 (lv_at hl 6 rfl) ?_
      obtain ⟨c3, hq, hf⟩ := o_cav hf
      refine m_callv (rest := []) X hS hl.1 (c_X10_change l D cI cZ q _ _ v5 v6 _ hq) cv_10_231 (oM_0 q cI cZ _) rfl rfl ⟨Nat.le_of_ble_eq_true rfl, Nat.le_of_ble_eq_true rfl⟩ ⟨Nat.zero_le _, Nat.zero_le _⟩ (Nat.le_of_ble_eq_true rfl) dX10_swap_65 (fun H locs hS => ?_)
      refine lv_aload_n hx hb dX10_swap_68 rfl (lv_at hl 0 rfl) ?_
      refine lv_iload_n hx hb dX10_swap_69 rfl (lv_at hl 1 rfl) ?_
      obtain ⟨r4, c5, hq, hf⟩ := o_cal hf
      refine m_calli (rest := []) X hS hl.1 (c_X10_goDay l D cI cZ q _ _ v1 _ hq) cv_10_214 (oM_0 q cI cZ _) rfl rfl ⟨Nat.le_of_ble_eq_true rfl, Nat.le_of_ble_eq_true rfl⟩ ⟨Nat.zero_le _, Nat.zero_le _⟩ (Nat.le_of_ble_eq_true rfl) dX10_swap_70 (fun H locs hS => ?_)
      refine lv_istore (lv' := [(7, .int r4), (0, .ref (q 0)), (1, .int v1), (2, .int v2), (3, .int v3), (4, .int v4), (5, .int v5), (6, .int v6)]) hx hb dX10_swap_73 hl (by decide) rfl (fun ls hl => ?_)
      refine lv_aload_n hx hb dX10_swap_75 rfl (lv_at hl 1 rfl) ?_
      refine lv_iload hx hb dX10_swap_76 (lv_at hl 6 rfl) ?_
      refine lv_iload hx hb dX10_swap_78 (lv_at hl 7 rfl) ?_
      obtain ⟨c6, hq, hf⟩ := o_cav hf
      refine m_callv (rest := []) X hS hl.1 (c_X10_change l D cI cZ q _ _ v5 v6 _ hq) cv_10_231 (oM_0 q cI cZ _) rfl rfl ⟨Nat.le_of_ble_eq_true rfl, Nat.le_of_ble_eq_true rfl⟩ ⟨Nat.zero_le _, Nat.zero_le _⟩ (Nat.le_of_ble_eq_true rfl) dX10_swap_80 (fun H locs hS => ?_)
      refine lv_iload hx hb dX10_swap_83 (lv_at hl 0 rfl) ?_
      refine lv_iload hx hb dX10_swap_85 (lv_at hl 5 rfl) ?_
      refine lv_icmp_ge (tgt := 101) hx hb dX10_swap_87 (by decide) (fun hc => ?_) (fun hc => ?_)
      · have hf := o_t hc hf
        refine lv_iload_n hx hb dX10_swap_101 rfl (lv_at hl 4 rfl) ?_
        exact k102 v1 v2 v4 v5 v6 r4 v3 rc32 hrc32 rc49 hrc49 _ hf H locs ls hS (lv_sub hl [1, 2, 3, 5, 6, 7, 0] rfl)
      · have hf := o_f hc hf
        refine lv_bipush (v := (8 : Int32)) hx hb dX10_swap_90 (by decide) ?_
        refine lv_iload hx hb dX10_swap_92 (lv_at hl 6 rfl) ?_
        refine lv_imul hx hb dX10_swap_94 ?_
        refine lv_iload hx hb dX10_swap_95 (lv_at hl 7 rfl) ?_
        refine lv_iadd hx hb dX10_swap_97 ?_
        refine lv_goto (tgt := 102) hx hb dX10_swap_98 (by decide) ?_
        exact k102 v1 v2 v4 v5 v6 r4 (((8 : Int32) * v5) + v6) rc32 hrc32 rc49 hrc49 _ hf H locs ls hS (lv_sub hl [1, 2, 3, 5, 6, 7, 0] rfl)
  have k32 : ∀ (v1 : Int32) (v2 : Int32), ∀ (n : Nat) (v3 : Int32) (v4 : Int32) (v5 : Int32) (c : Mm), m_lp3 (X10_swap_b32 v1 v2) n v3 v4 v5 c = some R → m_G p l e (m_rm 7 168) s m args below meth cd Q D (mkM q cI cZ) 29 q 8 32 [(0, .ref (q 0)), (1, .int v1), (2, .int v2), (3, .int v3), (4, .int v4), (5, .int v5)] [] c := by
    intro v1 v2
    refine m_lp3_i ?_
    intro rc32 hrc32 v3 v4 v5 c hf H locs ls hS hl
    unfold X10_swap_b32 at hf
    refine lv_iload hx hb dX10_swap_32 (lv_at hl 5 rfl) ?_
    refine lv_aload_n hx hb dX10_swap_34 rfl (lv_at hl 0 rfl) ?_
    refine m_get X hS fl_10_13 (vM_0_2 q cI cZ _) dX10_swap_35 ?_
    refine lv_iconst (v := (0 : Int32)) hx hb dX10_swap_38 (by decide) ?_
    refine m_ildN X hS 0 (by decide +kernel) (aM_2 q cI cZ) (by decide +kernel) dX10_swap_39 ?_
    refine lv_icmp_ge (tgt := 131) hx hb dX10_swap_40 (by decide) (fun hc => ?_) (fun hc => ?_)
    · have hf := o_t hc hf
      exact k131 v2 v3 v4 _ hf H locs ls hS (lv_sub hl [2, 3, 4] rfl)
    · have hf := o_f hc hf
      refine lv_iload hx hb dX10_swap_43 (lv_at hl 5 rfl) ?_
      refine lv_iconst (v := (1 : Int32)) hx hb dX10_swap_45 (by decide) ?_
      refine lv_iadd hx hb dX10_swap_46 ?_
      refine lv_topi (fun x7 ex => ?_)
      have hf := o_bnd hf x7 ex
      refine lv_istore (lv' := [(6, .int x7), (0, .ref (q 0)), (1, .int v1), (2, .int v2), (3, .int v3), (4, .int v4), (5, .int v5)]) hx hb dX10_swap_47 hl (by decide) rfl (fun ls hl => ?_)
      exact k49 v1 v2 v5 rc32 hrc32 _ v3 v4 x7 _ hf H locs ls hS (lv_sub hl [1, 2, 3, 4, 5, 6, 0] rfl)
  intro H locs ls hS hl
  have hl : lv_has ls 8 [(0, .ref (q 0)), (1, .int v1), (2, .int v2)] := hl
  unfold X10_swap at hf
  refine lv_iload_n hx hb dX10_swap_0 rfl (lv_at hl 1 rfl) ?_
  obtain ⟨r8, c9, hq, hf⟩ := o_cal hf
  refine m_calls (rest := []) X hS hl.1 (c_X10_isRule l D cI cZ q _ _ v1 _ hq) cs_10_209 rfl rfl ⟨Nat.le_of_ble_eq_true rfl, Nat.le_of_ble_eq_true rfl⟩ ⟨Nat.zero_le _, Nat.zero_le _⟩ (Nat.le_of_ble_eq_true rfl) dX10_swap_1 (fun H locs hS => ?_)
  refine lv_if_eq (tgt := 17) hx hb dX10_swap_4 (by decide) (fun hc => ?_) (fun hc => ?_)
  · have hf := o_t hc hf
    refine lv_iconst (v := (-1 : Int32)) hx hb dX10_swap_17 (by decide) ?_
    exact ret hf hS dX10_swap_18
  · have hf := o_f hc hf
    refine lv_iload_n hx hb dX10_swap_7 rfl (lv_at hl 2 rfl) ?_
    refine lv_i2l hx hb dX10_swap_8 rfl ?_
    refine lv_lconst (v := (0 : Int64)) hx hb dX10_swap_9 (by decide) ?_
    refine lv_lconst (v := (1 : Int64)) hx hb dX10_swap_10 (by decide) ?_
    obtain ⟨r10, c11, hq, hf⟩ := o_cal hf
    refine m_calls (rest := []) X hS hl.1 (c_X10_in l D cI cZ q _ _ (Int32.toInt64 v2) (0 : Int64) (1 : Int64) _ hq) cs_10_109 rfl rfl ⟨Nat.le_of_ble_eq_true rfl, Nat.le_of_ble_eq_true rfl⟩ ⟨Nat.zero_le _, Nat.zero_le _⟩ (Nat.le_of_ble_eq_true rfl) dX10_swap_11 (fun H locs hS => ?_)
    refine lv_if_ne (tgt := 19) hx hb dX10_swap_14 (by decide) (fun hc => ?_) (fun hc => ?_)
    · have hf := o_f hc hf
      refine lv_bipush (v := (-4 : Int32)) hx hb dX10_swap_19 (by decide) ?_
      refine lv_istore_n (lv' := [(3, .int (-4 : Int32)), (0, .ref (q 0)), (1, .int v1), (2, .int v2)]) hx hb dX10_swap_21 rfl hl (by decide) rfl (fun ls hl => ?_)
      refine lv_aload_n hx hb dX10_swap_22 rfl (lv_at hl 1 rfl) ?_
      refine lv_iload_n hx hb dX10_swap_23 rfl (lv_at hl 2 rfl) ?_
      obtain ⟨r12, c13, hq, hf⟩ := o_cal hf
      refine m_calli (rest := []) X hS hl.1 (c_X10_goDay l D cI cZ q _ _ v1 _ hq) cv_10_214 (oM_0 q cI cZ _) rfl rfl ⟨Nat.le_of_ble_eq_true rfl, Nat.le_of_ble_eq_true rfl⟩ ⟨Nat.zero_le _, Nat.zero_le _⟩ (Nat.le_of_ble_eq_true rfl) dX10_swap_24 (fun H locs hS => ?_)
      refine lv_istore (lv' := [(4, .int r12), (3, .int (-4 : Int32)), (0, .ref (q 0)), (1, .int v1), (2, .int v2)]) hx hb dX10_swap_27 hl (by decide) rfl (fun ls hl => ?_)
      refine lv_iconst (v := (0 : Int32)) hx hb dX10_swap_29 (by decide) ?_
      refine lv_istore (lv' := [(5, .int (0 : Int32)), (4, .int r12), (3, .int (-4 : Int32)), (0, .ref (q 0)), (1, .int v1), (2, .int v2)]) hx hb dX10_swap_30 hl (by decide) rfl (fun ls hl => ?_)
      exact k32 v1 v2 _ (-4 : Int32) r12 (0 : Int32) _ hf H locs ls hS (lv_sub hl [3, 4, 5, 2, 1, 0] rfl)
    · have hf := o_t hc hf
      refine lv_iconst (v := (-1 : Int32)) hx hb dX10_swap_17 (by decide) ?_
      exact ret hf hS dX10_swap_18

set_option maxHeartbeats 40000000 in
set_option maxRecDepth 100000 in
theorem c_X10_sinksIn (l : Launch) (D : va_G) (cI cZ : ClassId) (q : Nat → Nat) (c : Mm) (sz : Nat) (v1 : Int32) (R : Int32 × Mm) (hf : X10_sinksIn v1 c = some R) : m_Mi l yX10_sinksIn cX10_sinksIn 2 (some .int) 0 0 D cI cZ (mkM q cI cZ) 29 q [.ref (q 0), .int v1] c sz R := by
  refine m_enter_i (own := RX10) (by decide) rfl (Nat.le_of_ble_eq_true rfl) ?_
  intro p e s m args below meth cd Q X ret
  have hx := X.1
  have hb := X.2.1
  intro H locs ls hS hl
  have hl : lv_has ls 2 [(0, .ref (q 0)), (1, .int v1)] := hl
  unfold X10_sinksIn at hf
  refine lv_aload_n hx hb dX10_sinksIn_0 rfl (lv_at hl 0 rfl) ?_
  refine m_get X hS fl_10_43 (vM_0_12 q cI cZ _) dX10_sinksIn_1 ?_
  refine lv_iload_n hx hb dX10_sinksIn_4 rfl (lv_at hl 1 rfl) ?_
  obtain ⟨hg, hf⟩ := o_gi hf
  refine m_ild X hS (aM_12 q cI cZ) hg dX10_sinksIn_5 ?_
  refine lv_aload_n hx hb dX10_sinksIn_6 rfl (lv_at hl 0 rfl) ?_
  refine m_get X hS fl_10_40 (vM_0_11 q cI cZ _) dX10_sinksIn_7 ?_
  refine lv_iconst (v := (2 : Int32)) hx hb dX10_sinksIn_10 (by decide) ?_
  refine m_ildN X hS 2 (by decide +kernel) (aM_11 q cI cZ) (by decide +kernel) dX10_sinksIn_11 ?_
  refine lv_iadd hx hb dX10_sinksIn_12 ?_
  refine lv_aload_n hx hb dX10_sinksIn_13 rfl (lv_at hl 0 rfl) ?_
  refine m_get X hS fl_10_40 (vM_0_11 q cI cZ _) dX10_sinksIn_14 ?_
  refine lv_iconst (v := (2 : Int32)) hx hb dX10_sinksIn_17 (by decide) ?_
  refine m_ildN X hS 2 (by decide +kernel) (aM_11 q cI cZ) (by decide +kernel) dX10_sinksIn_18 ?_
  obtain ⟨hz, hf⟩ := o_gz hf
  refine lv_idiv hx hb dX10_sinksIn_19 hz ?_
  exact ret hf hS dX10_sinksIn_20

set_option maxHeartbeats 40000000 in
set_option maxRecDepth 100000 in
theorem c_X10_fall (l : Launch) (D : va_G) (cI cZ : ClassId) (q : Nat → Nat) (c : Mm) (sz : Nat) (v1 : Int32) (v2 : Int32) (v3 : Int32) (R : Int32 × Mm) (hf : X10_fall v1 v2 v3 c = some R) : m_Mi l yX10_fall cX10_fall 4 (some .int) 3 68 D cI cZ (mkM q cI cZ) 29 q [.ref (q 0), .int v1, .int v2, .int v3] c sz R := by
  refine m_enter_i (own := RX10) (by decide) rfl (Nat.le_of_ble_eq_true rfl) ?_
  intro p e s m args below meth cd Q X ret
  have hx := X.1
  have hb := X.2.1
  intro H locs ls hS hl
  have hl : lv_has ls 4 [(0, .ref (q 0)), (1, .int v1), (2, .int v2), (3, .int v3)] := hl
  unfold X10_fall at hf
  refine lv_aload_n hx hb dX10_fall_0 rfl (lv_at hl 0 rfl) ?_
  refine lv_iload_n hx hb dX10_fall_1 rfl (lv_at hl 1 rfl) ?_
  refine lv_iload_n hx hb dX10_fall_2 rfl (lv_at hl 2 rfl) ?_
  obtain ⟨r1, c2, hq, hf⟩ := o_cal hf
  refine m_calli (rest := []) X hS hl.1 (c_X10_areTwo l D cI cZ q _ _ v1 v2 _ hq) cv_10_224 (oM_0 q cI cZ _) rfl rfl ⟨Nat.le_of_ble_eq_true rfl, Nat.le_of_ble_eq_true rfl⟩ ⟨Nat.zero_le _, Nat.zero_le _⟩ (Nat.le_of_ble_eq_true rfl) dX10_fall_3 (fun H locs hS => ?_)
  refine lv_if_eq (tgt := 19) hx hb dX10_fall_6 (by decide) (fun hc => ?_) (fun hc => ?_)
  · have hf := o_t hc hf
    refine lv_iconst (v := (-1 : Int32)) hx hb dX10_fall_19 (by decide) ?_
    exact ret hf hS dX10_fall_20
  · have hf := o_f hc hf
    refine lv_iload_n hx hb dX10_fall_9 rfl (lv_at hl 3 rfl) ?_
    refine lv_i2l hx hb dX10_fall_10 rfl ?_
    refine lv_lconst (v := (0 : Int64)) hx hb dX10_fall_11 (by decide) ?_
    refine lv_lconst (v := (1 : Int64)) hx hb dX10_fall_12 (by decide) ?_
    obtain ⟨r3, c4, hq, hf⟩ := o_cal hf
    refine m_calls (rest := []) X hS hl.1 (c_X10_in l D cI cZ q _ _ (Int32.toInt64 v3) (0 : Int64) (1 : Int64) _ hq) cs_10_109 rfl rfl ⟨Nat.le_of_ble_eq_true rfl, Nat.le_of_ble_eq_true rfl⟩ ⟨Nat.zero_le _, Nat.zero_le _⟩ (Nat.le_of_ble_eq_true rfl) dX10_fall_13 (fun H locs hS => ?_)
    refine lv_if_ne (tgt := 21) hx hb dX10_fall_16 (by decide) (fun hc => ?_) (fun hc => ?_)
    · have hf := o_f hc hf
      refine lv_aload_n hx hb dX10_fall_21 rfl (lv_at hl 0 rfl) ?_
      refine lv_iload_n hx hb dX10_fall_22 rfl (lv_at hl 2 rfl) ?_
      obtain ⟨r5, c6, hq, hf⟩ := o_cal hf
      refine m_calli (rest := []) X hS hl.1 (c_X10_sinksIn l D cI cZ q _ _ v2 _ hq) cv_10_234 (oM_0 q cI cZ _) rfl rfl ⟨Nat.le_of_ble_eq_true rfl, Nat.le_of_ble_eq_true rfl⟩ ⟨Nat.zero_le _, Nat.zero_le _⟩ (Nat.le_of_ble_eq_true rfl) dX10_fall_23 (fun H locs hS => ?_)
      refine lv_aload_n hx hb dX10_fall_26 rfl (lv_at hl 0 rfl) ?_
      refine m_get X hS fl_10_40 (vM_0_11 q cI cZ _) dX10_fall_27 ?_
      refine lv_iconst (v := (3 : Int32)) hx hb dX10_fall_30 (by decide) ?_
      refine m_ildN X hS 3 (by decide +kernel) (aM_11 q cI cZ) (by decide +kernel) dX10_fall_31 ?_
      refine lv_icmp_le (tgt := 40) hx hb dX10_fall_32 (by decide) (fun hc => ?_) (fun hc => ?_)
      · have hf := o_t hc hf
        refine lv_iload_n hx hb dX10_fall_40 rfl (lv_at hl 3 rfl) ?_
        refine lv_if_ne (tgt := 52) hx hb dX10_fall_41 (by decide) (fun hc => ?_) (fun hc => ?_)
        · have hf := o_f hc hf
          refine lv_aload_n hx hb dX10_fall_52 rfl (lv_at hl 0 rfl) ?_
          refine m_get X hS fl_10_40 (vM_0_11 q cI cZ _) dX10_fall_53 ?_
          refine lv_iconst (v := (3 : Int32)) hx hb dX10_fall_56 (by decide) ?_
          refine m_ildN X hS 3 (by decide +kernel) (aM_11 q cI cZ) (by decide +kernel) dX10_fall_57 ?_
          exact ret hf hS dX10_fall_58
        · have hf := o_t hc hf
          refine lv_aload_n hx hb dX10_fall_44 rfl (lv_at hl 0 rfl) ?_
          refine lv_iload_n hx hb dX10_fall_45 rfl (lv_at hl 2 rfl) ?_
          obtain ⟨r7, c8, hq, hf⟩ := o_cal hf
          refine m_calli (rest := []) X hS hl.1 (c_X10_sinksIn l D cI cZ q _ _ v2 _ hq) cv_10_234 (oM_0 q cI cZ _) rfl rfl ⟨Nat.le_of_ble_eq_true rfl, Nat.le_of_ble_eq_true rfl⟩ ⟨Nat.zero_le _, Nat.zero_le _⟩ (Nat.le_of_ble_eq_true rfl) dX10_fall_46 (fun H locs hS => ?_)
          refine lv_goto (tgt := 58) hx hb dX10_fall_49 (by decide) ?_
          exact ret hf hS dX10_fall_58
      · have hf := o_f hc hf
        refine lv_bipush (v := (-4 : Int32)) hx hb dX10_fall_35 (by decide) ?_
        refine lv_goto (tgt := 58) hx hb dX10_fall_37 (by decide) ?_
        exact ret hf hS dX10_fall_58
    · have hf := o_t hc hf
      refine lv_iconst (v := (-1 : Int32)) hx hb dX10_fall_19 (by decide) ?_
      exact ret hf hS dX10_fall_20

set_option maxHeartbeats 40000000 in
set_option maxRecDepth 100000 in
theorem c_X10_common (l : Launch) (D : va_G) (cI cZ : ClassId) (q : Nat → Nat) (c : Mm) (sz : Nat) (v0 : Int32) (v1 : Int32) (R : Int32 × Mm) (hf : X10_common v0 v1 c = some R) : m_Mi l yX10_common cX10_common 5 (some .int) 0 0 D cI cZ (mkM q cI cZ) 29 q [.int v0, .int v1] c sz R := by
  refine m_enter_i (own := RX10) (by decide) rfl (Nat.le_of_ble_eq_true rfl) ?_
  intro p e s m args below meth cd Q X ret
  have hx := X.1
  have hb := X.2.1
  have k4 : ∀ (n : Nat) (v2 : Int32) (v3 : Int32) (c : Mm), m_lp2 (X10_common_b4) n v2 v3 c = some R → m_G p l e (m_rm 0 0) s m args below meth cd Q D (mkM q cI cZ) 29 q 5 4 [(2, .int v2), (3, .int v3)] [] c := by
    refine m_lp2_i ?_
    intro rc4 hrc4 v2 v3 c hf H locs ls hS hl
    unfold X10_common_b4 at hf
    refine lv_iload_n hx hb dX10_common_4 rfl (lv_at hl 1 rfl) ?_
    refine lv_if_eq (tgt := 21) hx hb dX10_common_5 (by decide) (fun hc => ?_) (fun hc => ?_)
    · have hf := o_t hc hf
      refine lv_iload_n hx hb dX10_common_21 rfl (lv_at hl 0 rfl) ?_
      exact ret hf hS dX10_common_22
    · have hf := o_f hc hf
      refine lv_iload_n hx hb dX10_common_8 rfl (lv_at hl 0 rfl) ?_
      refine lv_iload_n hx hb dX10_common_9 rfl (lv_at hl 1 rfl) ?_
      obtain ⟨hz, hf⟩ := o_gz hf
      refine lv_irem hx hb dX10_common_10 hz ?_
      refine lv_topi (fun x1 ex => ?_)
      have hf := o_bnd hf x1 ex
      refine lv_istore (lv' := [(4, .int x1), (2, .int v2), (3, .int v3)]) hx hb dX10_common_11 hl (by decide) rfl (fun ls hl => ?_)
      refine lv_iload_n hx hb dX10_common_13 rfl (lv_at hl 2 rfl) ?_
      refine lv_istore_n (lv' := [(2, .int v3), (4, .int x1), (3, .int v3)]) hx hb dX10_common_14 rfl hl (by decide) rfl (fun ls hl => ?_)
      refine lv_iload hx hb dX10_common_15 (lv_at hl 1 rfl) ?_
      refine lv_istore_n (lv' := [(3, .int x1), (2, .int v3), (4, .int x1)]) hx hb dX10_common_17 rfl hl (by decide) rfl (fun ls hl => ?_)
      refine lv_goto (tgt := 4) hx hb dX10_common_18 (by decide) ?_
      exact hrc4 v3 x1 _ hf H locs ls hS (lv_sub hl [1, 0] rfl)
  intro H locs ls hS hl
  have hl : lv_has ls 5 [(0, .int v0), (1, .int v1)] := hl
  unfold X10_common at hf
  refine lv_iload_n hx hb dX10_common_0 rfl (lv_at hl 0 rfl) ?_
  refine lv_istore_n (lv' := [(2, .int v0), (0, .int v0), (1, .int v1)]) hx hb dX10_common_1 rfl hl (by decide) rfl (fun ls hl => ?_)
  refine lv_iload_n hx hb dX10_common_2 rfl (lv_at hl 2 rfl) ?_
  refine lv_istore_n (lv' := [(3, .int v1), (2, .int v0), (0, .int v0), (1, .int v1)]) hx hb dX10_common_3 rfl hl (by decide) rfl (fun ls hl => ?_)
  exact k4 _ v0 v1 _ hf H locs ls hS (lv_sub hl [1, 0] rfl)

set_option maxHeartbeats 40000000 in
set_option maxRecDepth 100000 in
theorem c_X10_caught (l : Launch) (D : va_G) (cI cZ : ClassId) (q : Nat → Nat) (c : Mm) (sz : Nat) (v1 : Int32) (v2 : Int32) (v3 : Int32) (v4 : Int32) (R : Int32 × Mm) (hf : X10_caught v1 v2 v3 v4 c = some R) : m_Mi l yX10_caught cX10_caught 11 (some .int) 2 46 D cI cZ (mkM q cI cZ) 29 q [.ref (q 0), .int v1, .int v2, .int v3, .int v4] c sz R := by
  refine m_enter_i (own := RX10) (by decide) rfl (Nat.le_of_ble_eq_true rfl) ?_
  intro p e s m args below meth cd Q X ret
  have hx := X.1
  have hb := X.2.1
  have k168 : ∀ (v4 : Int32) (v5 : Int32) (v6 : Int32) (c : Mm), X10_caught_j168 v4 v5 v6 c = some R → m_G p l e (m_rm 2 46) s m args below meth cd Q D (mkM q cI cZ) 29 q 11 168 [(4, .int v4), (5, .int v5), (6, .int v6)] [] c := by
    intro v4 v5 v6 c hf H locs ls hS hl
    unfold X10_caught_j168 at hf
    refine lv_iload hx hb dX10_caught_168 (lv_at hl 1 rfl) ?_
    refine lv_iload hx hb dX10_caught_170 (lv_at hl 2 rfl) ?_
    obtain ⟨r1, c2, hq, hf⟩ := o_cal hf
    refine m_calls (rest := []) X hS hl.1 (c_X10_common l D cI cZ q _ _ v5 v6 _ hq) cs_10_241 rfl rfl ⟨Nat.le_of_ble_eq_true rfl, Nat.le_of_ble_eq_true rfl⟩ ⟨Nat.zero_le _, Nat.zero_le _⟩ (Nat.le_of_ble_eq_true rfl) dX10_caught_172 (fun H locs hS => ?_)
    refine lv_istore (lv' := [(7, .int r1), (4, .int v4), (5, .int v5), (6, .int v6)]) hx hb dX10_caught_175 hl (by decide) rfl (fun ls hl => ?_)
    refine lv_iload hx hb dX10_caught_177 (lv_at hl 1 rfl) ?_
    refine lv_if_ne (tgt := 190) hx hb dX10_caught_179 (by decide) (fun hc => ?_) (fun hc => ?_)
    · have hf := o_f hc hf
      refine lv_iload hx hb dX10_caught_190 (lv_at hl 3 rfl) ?_
      refine lv_iload hx hb dX10_caught_192 (lv_at hl 0 rfl) ?_
      obtain ⟨hz, hf⟩ := o_gz hf
      refine lv_idiv hx hb dX10_caught_194 hz ?_
      exact ret hf hS dX10_caught_195
    · have hf := o_t hc hf
      refine lv_iload hx hb dX10_caught_182 (lv_at hl 2 rfl) ?_
      refine lv_iload hx hb dX10_caught_184 (lv_at hl 0 rfl) ?_
      obtain ⟨hz, hf⟩ := o_gz hf
      refine lv_idiv hx hb dX10_caught_186 hz ?_
      refine lv_goto (tgt := 195) hx hb dX10_caught_187 (by decide) ?_
      exact ret hf hS dX10_caught_195
  have k149 : ∀ (v2 : Int32) (v4 : Int32) (v5 : Int32), ∀ (n : Nat) (v6 : Int32) (v7 : Int32) (c : Mm), m_lp2 (X10_caught_b149 v2 v4 v5) n v6 v7 c = some R → m_G p l e (m_rm 2 46) s m args below meth cd Q D (mkM q cI cZ) 29 q 11 149 [(2, .int v2), (4, .int v4), (5, .int v5), (6, .int v6), (7, .int v7)] [] c := by
    intro v2 v4 v5
    refine m_lp2_i ?_
    intro rc149 hrc149 v6 v7 c hf H locs ls hS hl
    unfold X10_caught_b149 at hf
    refine lv_iload hx hb dX10_caught_149 (lv_at hl 4 rfl) ?_
    refine lv_iload_n hx hb dX10_caught_151 rfl (lv_at hl 0 rfl) ?_
    refine lv_icmp_ge (tgt := 168) hx hb dX10_caught_152 (by decide) (fun hc => ?_) (fun hc => ?_)
    · have hf := o_t hc hf
      exact k168 v4 v5 v6 _ hf H locs ls hS (lv_sub hl [1, 2, 3] rfl)
    · have hf := o_f hc hf
      refine lv_iload hx hb dX10_caught_155 (lv_at hl 3 rfl) ?_
      refine lv_bipush (v := (10 : Int32)) hx hb dX10_caught_157 (by decide) ?_
      refine lv_imul hx hb dX10_caught_159 ?_
      refine lv_topi (fun x3 ex => ?_)
      have hf := o_bnd hf x3 ex
      refine lv_istore (lv' := [(6, .int x3), (2, .int v2), (4, .int v4), (5, .int v5), (7, .int v7)]) hx hb dX10_caught_160 hl (by decide) rfl (fun ls hl => ?_)
      obtain ⟨x4, ex⟩ : ∃ y : Int32, y = v7 + (1 : Int32) := ⟨_, rfl⟩
      have hf := o_bnd hf x4 ex
      refine lv_iinc (v := x4) (lv' := [(7, .int x4), (6, .int x3), (2, .int v2), (4, .int v4), (5, .int v5)]) hx hb dX10_caught_162 hl (k := 4) rfl (by rw [ex]; rfl) (by decide) rfl (fun ls hl => ?_)
      refine lv_goto (tgt := 149) hx hb dX10_caught_165 (by decide) ?_
      exact hrc149 x3 x4 _ hf H locs ls hS (lv_sub hl [2, 3, 4, 1, 0] rfl)
  have k146 : ∀ (v2 : Int32) (v4 : Int32) (v5 : Int32) (v6 : Int32) (c : Mm), X10_caught_j146 v2 v4 v5 v6 c = some R → m_G p l e (m_rm 2 46) s m args below meth cd Q D (mkM q cI cZ) 29 q 11 146 [(2, .int v2), (4, .int v4), (5, .int v5), (6, .int v6)] [] c := by
    intro v2 v4 v5 v6 c hf H locs ls hS hl
    unfold X10_caught_j146 at hf
    refine lv_iconst (v := (0 : Int32)) hx hb dX10_caught_146 (by decide) ?_
    refine lv_istore (lv' := [(7, .int (0 : Int32)), (2, .int v2), (4, .int v4), (5, .int v5), (6, .int v6)]) hx hb dX10_caught_147 hl (by decide) rfl (fun ls hl => ?_)
    exact k149 v2 v4 v5 _ v6 (0 : Int32) _ hf H locs ls hS (lv_sub hl [1, 2, 3, 4, 0] rfl)
  have k137 : ∀ (v1 : Int32) (v2 : Int32) (v3 : Int32) (v4 : Int32) (v6 : Int32) (v7 : Int32) (s0 : Int32) (s1 : Int32) (rc54 : Int32 → Int32 → Mm → Option (Int32 × Mm)) (hrc54 : ∀ (w5 : Int32) (w7 : Int32) (c : Mm), rc54 w5 w7 c = some R → m_G p l e (m_rm 2 46) s m args below meth cd Q D (mkM q cI cZ) 29 q 11 54 [(0, .ref (q 0)), (1, .int v1), (2, .int v2), (3, .int v3), (4, .int v4), (5, .int w5), (6, .int v6), (7, .int w7)] [] c) (c : Mm), X10_caught_j137 rc54 v1 v2 v3 v4 v6 v7 s0 s1 c = some R → m_G p l e (m_rm 2 46) s m args below meth cd Q D (mkM q cI cZ) 29 q 11 137 [(0, .ref (q 0)), (1, .int v1), (2, .int v2), (3, .int v3), (4, .int v4), (6, .int v6), (7, .int v7)] [.int s1, .int s0] c := by
    intro v1 v2 v3 v4 v6 v7 s0 s1 rc54 hrc54 c hf H locs ls hS hl
    unfold X10_caught_j137 at hf
    refine lv_iadd hx hb dX10_caught_137 ?_
    refine lv_topi (fun x5 ex => ?_)
    have hf := o_bnd hf x5 ex
    refine lv_istore (lv' := [(5, .int x5), (0, .ref (q 0)), (1, .int v1), (2, .int v2), (3, .int v3), (4, .int v4), (6, .int v6), (7, .int v7)]) hx hb dX10_caught_138 hl (by decide) rfl (fun ls hl => ?_)
    obtain ⟨x6, ex⟩ : ∃ y : Int32, y = v7 + (1 : Int32) := ⟨_, rfl⟩
    have hf := o_bnd hf x6 ex
    refine lv_iinc (v := x6) (lv' := [(7, .int x6), (5, .int x5), (0, .ref (q 0)), (1, .int v1), (2, .int v2), (3, .int v3), (4, .int v4), (6, .int v6)]) hx hb dX10_caught_140 hl (k := 7) rfl (by rw [ex]; rfl) (by decide) rfl (fun ls hl => ?_)
    refine lv_goto (tgt := 54) hx hb dX10_caught_143 (by decide) ?_
    exact hrc54 x5 x6 _ hf H locs ls hS (lv_sub hl [2, 3, 4, 5, 6, 1, 7, 0] rfl)
  have k119 : ∀ (v1 : Int32) (v2 : Int32) (v3 : Int32) (v4 : Int32) (v5 : Int32) (v6 : Int32) (v7 : Int32) (v8 : Int32) (v9 : Int32) (rc54 : Int32 → Int32 → Mm → Option (Int32 × Mm)) (hrc54 : ∀ (w5 : Int32) (w7 : Int32) (c : Mm), rc54 w5 w7 c = some R → m_G p l e (m_rm 2 46) s m args below meth cd Q D (mkM q cI cZ) 29 q 11 54 [(0, .ref (q 0)), (1, .int v1), (2, .int v2), (3, .int v3), (4, .int v4), (5, .int w5), (6, .int v6), (7, .int w7)] [] c) (c : Mm), X10_caught_j119 rc54 v1 v2 v3 v4 v5 v6 v7 v8 v9 c = some R → m_G p l e (m_rm 2 46) s m args below meth cd Q D (mkM q cI cZ) 29 q 11 119 [(0, .ref (q 0)), (1, .int v1), (2, .int v2), (3, .int v3), (4, .int v4), (5, .int v5), (6, .int v6), (7, .int v7), (8, .int v8), (9, .int v9)] [] c := by
    intro v1 v2 v3 v4 v5 v6 v7 v8 v9 rc54 hrc54 c hf H locs ls hS hl
    unfold X10_caught_j119 at hf
    refine lv_iload hx hb dX10_caught_119 (lv_at hl 5 rfl) ?_
    refine lv_iload hx hb dX10_caught_121 (lv_at hl 8 rfl) ?_
    refine lv_aload_n hx hb dX10_caught_123 rfl (lv_at hl 0 rfl) ?_
    refine lv_iload_n hx hb dX10_caught_124 rfl (lv_at hl 1 rfl) ?_
    obtain ⟨r7, c8, hq, hf⟩ := o_cal hf
    refine m_calli (rest := [.int v8, .int v5]) X hS hl.1 (c_X10_sinksIn l D cI cZ q _ _ v1 _ hq) cv_10_234 (oM_0 q cI cZ _) rfl rfl ⟨Nat.le_of_ble_eq_true rfl, Nat.le_of_ble_eq_true rfl⟩ ⟨Nat.zero_le _, Nat.zero_le _⟩ (Nat.le_of_ble_eq_true rfl) dX10_caught_125 (fun H locs hS => ?_)
    refine lv_icmp_ge (tgt := 136) hx hb dX10_caught_128 (by decide) (fun hc => ?_) (fun hc => ?_)
    · have hf := o_t hc hf
      refine lv_iconst (v := (0 : Int32)) hx hb dX10_caught_136 (by decide) ?_
      exact k137 v1 v2 v3 v4 v6 v7 v5 (0 : Int32) rc54 hrc54 _ hf H locs ls hS (lv_sub hl [0, 1, 2, 3, 4, 6, 7] rfl)
    · have hf := o_f hc hf
      refine lv_iload hx hb dX10_caught_131 (lv_at hl 9 rfl) ?_
      refine lv_goto (tgt := 137) hx hb dX10_caught_133 (by decide) ?_
      exact k137 v1 v2 v3 v4 v6 v7 v5 v9 rc54 hrc54 _ hf H locs ls hS (lv_sub hl [0, 1, 2, 3, 4, 6, 7] rfl)
  have k110 : ∀ (v1 : Int32) (v2 : Int32) (v3 : Int32) (v4 : Int32) (v5 : Int32) (v6 : Int32) (v7 : Int32) (v8 : Int32) (v10 : Int32) (s0 : Int32) (s1 : Int32) (rc54 : Int32 → Int32 → Mm → Option (Int32 × Mm)) (hrc54 : ∀ (w5 : Int32) (w7 : Int32) (c : Mm), rc54 w5 w7 c = some R → m_G p l e (m_rm 2 46) s m args below meth cd Q D (mkM q cI cZ) 29 q 11 54 [(0, .ref (q 0)), (1, .int v1), (2, .int v2), (3, .int v3), (4, .int v4), (5, .int w5), (6, .int v6), (7, .int w7)] [] c) (rc71 : Int32 → Int32 → Int32 → Mm → Option (Int32 × Mm)) (hrc71 : ∀ (w8 : Int32) (w9 : Int32) (w10 : Int32) (c : Mm), rc71 w8 w9 w10 c = some R → m_G p l e (m_rm 2 46) s m args below meth cd Q D (mkM q cI cZ) 29 q 11 71 [(0, .ref (q 0)), (1, .int v1), (2, .int v2), (3, .int v3), (4, .int v4), (5, .int v5), (6, .int v6), (7, .int v7), (8, .int w8), (9, .int w9), (10, .int w10)] [] c) (c : Mm), X10_caught_j110 rc54 rc71 v1 v2 v3 v4 v5 v6 v7 v8 v10 s0 s1 c = some R → m_G p l e (m_rm 2 46) s m args below meth cd Q D (mkM q cI cZ) 29 q 11 110 [(0, .ref (q 0)), (1, .int v1), (2, .int v2), (3, .int v3), (4, .int v4), (5, .int v5), (6, .int v6), (7, .int v7), (8, .int v8), (10, .int v10)] [.int s1, .int s0] c := by
    intro v1 v2 v3 v4 v5 v6 v7 v8 v10 s0 s1 rc54 hrc54 rc71 hrc71 c hf H locs ls hS hl
    unfold X10_caught_j110 at hf
    refine lv_imul hx hb dX10_caught_110 ?_
    refine lv_topi (fun x9 ex => ?_)
    have hf := o_bnd hf x9 ex
    refine lv_istore (lv' := [(9, .int x9), (0, .ref (q 0)), (1, .int v1), (2, .int v2), (3, .int v3), (4, .int v4), (5, .int v5), (6, .int v6), (7, .int v7), (8, .int v8), (10, .int v10)]) hx hb dX10_caught_111 hl (by decide) rfl (fun ls hl => ?_)
    obtain ⟨x10, ex⟩ : ∃ y : Int32, y = v10 + (1 : Int32) := ⟨_, rfl⟩
    have hf := o_bnd hf x10 ex
    refine lv_iinc (v := x10) (lv' := [(10, .int x10), (9, .int x9), (0, .ref (q 0)), (1, .int v1), (2, .int v2), (3, .int v3), (4, .int v4), (5, .int v5), (6, .int v6), (7, .int v7), (8, .int v8)]) hx hb dX10_caught_113 hl (k := 10) rfl (by rw [ex]; rfl) (by decide) rfl (fun ls hl => ?_)
    refine lv_goto (tgt := 71) hx hb dX10_caught_116 (by decide) ?_
    exact hrc71 v8 x9 x10 _ hf H locs ls hS (lv_sub hl [2, 3, 4, 5, 6, 7, 8, 9, 10, 1, 0] rfl)
  have k71 : ∀ (v1 : Int32) (v2 : Int32) (v3 : Int32) (v4 : Int32) (v5 : Int32) (v6 : Int32) (v7 : Int32) (rc54 : Int32 → Int32 → Mm → Option (Int32 × Mm)) (hrc54 : ∀ (w5 : Int32) (w7 : Int32) (c : Mm), rc54 w5 w7 c = some R → m_G p l e (m_rm 2 46) s m args below meth cd Q D (mkM q cI cZ) 29 q 11 54 [(0, .ref (q 0)), (1, .int v1), (2, .int v2), (3, .int v3), (4, .int v4), (5, .int w5), (6, .int v6), (7, .int w7)] [] c), ∀ (n : Nat) (v8 : Int32) (v9 : Int32) (v10 : Int32) (c : Mm), m_lp3 (X10_caught_b71 rc54 v1 v2 v3 v4 v5 v6 v7) n v8 v9 v10 c = some R → m_G p l e (m_rm 2 46) s m args below meth cd Q D (mkM q cI cZ) 29 q 11 71 [(0, .ref (q 0)), (1, .int v1), (2, .int v2), (3, .int v3), (4, .int v4), (5, .int v5), (6, .int v6), (7, .int v7), (8, .int v8), (9, .int v9), (10, .int v10)] [] c := by
    intro v1 v2 v3 v4 v5 v6 v7 rc54 hrc54
    refine m_lp3_i ?_
    intro rc71 hrc71 v8 v9 v10 c hf H locs ls hS hl
    unfold X10_caught_b71 at hf
    refine lv_iload hx hb dX10_caught_71 (lv_at hl 10 rfl) ?_
    refine lv_iload_n hx hb dX10_caught_73 rfl (lv_at hl 2 rfl) ?_
    refine lv_icmp_ge (tgt := 119) hx hb dX10_caught_74 (by decide) (fun hc => ?_) (fun hc => ?_)
    · have hf := o_t hc hf
      exact k119 v1 v2 v3 v4 v5 v6 v7 v8 v9 rc54 hrc54 _ hf H locs ls hS (lv_sub hl [0, 1, 2, 3, 4, 5, 6, 7, 8, 9] rfl)
    · have hf := o_f hc hf
      refine lv_iload hx hb dX10_caught_77 (lv_at hl 8 rfl) ?_
      refine lv_iload hx hb dX10_caught_79 (lv_at hl 7 rfl) ?_
      refine lv_iload hx hb dX10_caught_81 (lv_at hl 10 rfl) ?_
      refine lv_ishr hx hb dX10_caught_83 ?_
      refine lv_iconst (v := (1 : Int32)) hx hb dX10_caught_84 (by decide) ?_
      refine lv_iand hx hb dX10_caught_85 ?_
      refine lv_iadd hx hb dX10_caught_86 ?_
      refine lv_topi (fun x11 ex => ?_)
      have hf := o_bnd hf x11 ex
      refine lv_istore (lv' := [(8, .int x11), (0, .ref (q 0)), (1, .int v1), (2, .int v2), (3, .int v3), (4, .int v4), (5, .int v5), (6, .int v6), (7, .int v7), (9, .int v9), (10, .int v10)]) hx hb dX10_caught_87 hl (by decide) rfl (fun ls hl => ?_)
      refine lv_iload hx hb dX10_caught_89 (lv_at hl 9 rfl) ?_
      refine lv_iload hx hb dX10_caught_91 (lv_at hl 8 rfl) ?_
      refine lv_iload hx hb dX10_caught_93 (lv_at hl 10 rfl) ?_
      refine lv_ishr hx hb dX10_caught_95 ?_
      refine lv_iconst (v := (1 : Int32)) hx hb dX10_caught_96 (by decide) ?_
      refine lv_iand hx hb dX10_caught_97 ?_
      refine lv_iconst (v := (1 : Int32)) hx hb dX10_caught_98 (by decide) ?_
      refine lv_icmp_ne (tgt := 106) hx hb dX10_caught_99 (by decide) (fun hc => ?_) (fun hc => ?_)
      · have hf := o_f hc hf
        refine lv_bipush (v := (10 : Int32)) hx hb dX10_caught_106 (by decide) ?_
        refine lv_iload_n hx hb dX10_caught_108 rfl (lv_at hl 4 rfl) ?_
        refine lv_isub hx hb dX10_caught_109 ?_
        exact k110 v1 v2 v3 v4 v5 v6 v7 x11 v10 v9 ((10 : Int32) - v3) rc54 hrc54 rc71 hrc71 _ hf H locs ls hS (lv_sub hl [1, 2, 3, 4, 5, 6, 7, 8, 0, 10] rfl)
      · have hf := o_t hc hf
        refine lv_iload_n hx hb dX10_caught_102 rfl (lv_at hl 4 rfl) ?_
        refine lv_goto (tgt := 110) hx hb dX10_caught_103 (by decide) ?_
        exact k110 v1 v2 v3 v4 v5 v6 v7 x11 v10 v9 v3 rc54 hrc54 rc71 hrc71 _ hf H locs ls hS (lv_sub hl [1, 2, 3, 4, 5, 6, 7, 8, 0, 10] rfl)
  have k54 : ∀ (v1 : Int32) (v2 : Int32) (v3 : Int32) (v4 : Int32) (v6 : Int32), ∀ (n : Nat) (v5 : Int32) (v7 : Int32) (c : Mm), m_lp2 (X10_caught_b54 v1 v2 v3 v4 v6) n v5 v7 c = some R → m_G p l e (m_rm 2 46) s m args below meth cd Q D (mkM q cI cZ) 29 q 11 54 [(0, .ref (q 0)), (1, .int v1), (2, .int v2), (3, .int v3), (4, .int v4), (5, .int v5), (6, .int v6), (7, .int v7)] [] c := by
    intro v1 v2 v3 v4 v6
    refine m_lp2_i ?_
    intro rc54 hrc54 v5 v7 c hf H locs ls hS hl
    unfold X10_caught_b54 at hf
    refine lv_iload hx hb dX10_caught_54 (lv_at hl 7 rfl) ?_
    refine lv_iconst (v := (1 : Int32)) hx hb dX10_caught_56 (by decide) ?_
    refine lv_iload_n hx hb dX10_caught_57 rfl (lv_at hl 2 rfl) ?_
    refine lv_ishl hx hb dX10_caught_58 ?_
    refine lv_icmp_ge (tgt := 146) hx hb dX10_caught_59 (by decide) (fun hc => ?_) (fun hc => ?_)
    · have hf := o_t hc hf
      exact k146 v2 v4 v5 v6 _ hf H locs ls hS (lv_sub hl [2, 4, 5, 6] rfl)
    · have hf := o_f hc hf
      refine lv_iconst (v := (0 : Int32)) hx hb dX10_caught_62 (by decide) ?_
      refine lv_istore (lv' := [(8, .int (0 : Int32)), (0, .ref (q 0)), (1, .int v1), (2, .int v2), (3, .int v3), (4, .int v4), (5, .int v5), (6, .int v6), (7, .int v7)]) hx hb dX10_caught_63 hl (by decide) rfl (fun ls hl => ?_)
      refine lv_iconst (v := (1 : Int32)) hx hb dX10_caught_65 (by decide) ?_
      refine lv_istore (lv' := [(9, .int (1 : Int32)), (8, .int (0 : Int32)), (0, .ref (q 0)), (1, .int v1), (2, .int v2), (3, .int v3), (4, .int v4), (5, .int v5), (6, .int v6), (7, .int v7)]) hx hb dX10_caught_66 hl (by decide) rfl (fun ls hl => ?_)
      refine lv_iconst (v := (0 : Int32)) hx hb dX10_caught_68 (by decide) ?_
      refine lv_istore (lv' := [(10, .int (0 : Int32)), (9, .int (1 : Int32)), (8, .int (0 : Int32)), (0, .ref (q 0)), (1, .int v1), (2, .int v2), (3, .int v3), (4, .int v4), (5, .int v5), (6, .int v6), (7, .int v7)]) hx hb dX10_caught_69 hl (by decide) rfl (fun ls hl => ?_)
      exact k71 v1 v2 v3 v4 v5 v6 v7 rc54 hrc54 _ (0 : Int32) (1 : Int32) (0 : Int32) _ hf H locs ls hS (lv_sub hl [3, 4, 5, 6, 7, 8, 9, 10, 2, 1, 0] rfl)
  intro H locs ls hS hl
  have hl : lv_has ls 11 [(0, .ref (q 0)), (1, .int v1), (2, .int v2), (3, .int v3), (4, .int v4)] := hl
  unfold X10_caught at hf
  refine lv_aload_n hx hb dX10_caught_0 rfl (lv_at hl 0 rfl) ?_
  refine lv_iload_n hx hb dX10_caught_1 rfl (lv_at hl 1 rfl) ?_
  obtain ⟨r12, c13, hq, hf⟩ := o_cal hf
  refine m_calli (rest := []) X hS hl.1 (c_X10_isBoat l D cI cZ q _ _ v1 _ hq) cv_10_163 (oM_0 q cI cZ _) rfl rfl ⟨Nat.le_of_ble_eq_true rfl, Nat.le_of_ble_eq_true rfl⟩ ⟨Nat.zero_le _, Nat.zero_le _⟩ (Nat.le_of_ble_eq_true rfl) dX10_caught_2 (fun H locs hS => ?_)
  refine lv_if_eq (tgt := 43) hx hb dX10_caught_5 (by decide) (fun hc => ?_) (fun hc => ?_)
  · have hf := o_t hc hf
    refine lv_iconst (v := (-1 : Int32)) hx hb dX10_caught_43 (by decide) ?_
    exact ret hf hS dX10_caught_44
  · have hf := o_f hc hf
    refine lv_iload_n hx hb dX10_caught_8 rfl (lv_at hl 2 rfl) ?_
    refine lv_i2l hx hb dX10_caught_9 rfl ?_
    refine lv_lconst (v := (0 : Int64)) hx hb dX10_caught_10 (by decide) ?_
    refine lv_ldc2 hx hb X.2.2.2.1 (X.2.2.2.2.1 (.constantLong RX10 237 (6 : Int64)) (m_t5 87 rfl rfl)) dX10_caught_11 ?_
    obtain ⟨r14, c15, hq, hf⟩ := o_cal hf
    refine m_calls (rest := []) X hS hl.1 (c_X10_in l D cI cZ q _ _ (Int32.toInt64 v2) (0 : Int64) (6 : Int64) _ hq) cs_10_109 rfl rfl ⟨Nat.le_of_ble_eq_true rfl, Nat.le_of_ble_eq_true rfl⟩ ⟨Nat.zero_le _, Nat.zero_le _⟩ (Nat.le_of_ble_eq_true rfl) dX10_caught_14 (fun H locs hS => ?_)
    refine lv_if_eq (tgt := 43) hx hb dX10_caught_17 (by decide) (fun hc => ?_) (fun hc => ?_)
    · have hf := o_t hc hf
      refine lv_iconst (v := (-1 : Int32)) hx hb dX10_caught_43 (by decide) ?_
      exact ret hf hS dX10_caught_44
    · have hf := o_f hc hf
      refine lv_iload_n hx hb dX10_caught_20 rfl (lv_at hl 3 rfl) ?_
      refine lv_i2l hx hb dX10_caught_21 rfl ?_
      refine lv_lconst (v := (0 : Int64)) hx hb dX10_caught_22 (by decide) ?_
      refine lv_ldc2 hx hb X.2.2.2.1 (X.2.2.2.2.1 (.constantLong RX10 239 (10 : Int64)) (m_t5 88 rfl rfl)) dX10_caught_23 ?_
      obtain ⟨r16, c17, hq, hf⟩ := o_cal hf
      refine m_calls (rest := []) X hS hl.1 (c_X10_in l D cI cZ q _ _ (Int32.toInt64 v3) (0 : Int64) (10 : Int64) _ hq) cs_10_109 rfl rfl ⟨Nat.le_of_ble_eq_true rfl, Nat.le_of_ble_eq_true rfl⟩ ⟨Nat.zero_le _, Nat.zero_le _⟩ (Nat.le_of_ble_eq_true rfl) dX10_caught_26 (fun H locs hS => ?_)
      refine lv_if_eq (tgt := 43) hx hb dX10_caught_29 (by decide) (fun hc => ?_) (fun hc => ?_)
      · have hf := o_t hc hf
        refine lv_iconst (v := (-1 : Int32)) hx hb dX10_caught_43 (by decide) ?_
        exact ret hf hS dX10_caught_44
      · have hf := o_f hc hf
        refine lv_iload hx hb dX10_caught_32 (lv_at hl 4 rfl) ?_
        refine lv_i2l hx hb dX10_caught_34 rfl ?_
        refine lv_lconst (v := (0 : Int64)) hx hb dX10_caught_35 (by decide) ?_
        refine lv_lconst (v := (1 : Int64)) hx hb dX10_caught_36 (by decide) ?_
        obtain ⟨r18, c19, hq, hf⟩ := o_cal hf
        refine m_calls (rest := []) X hS hl.1 (c_X10_in l D cI cZ q _ _ (Int32.toInt64 v4) (0 : Int64) (1 : Int64) _ hq) cs_10_109 rfl rfl ⟨Nat.le_of_ble_eq_true rfl, Nat.le_of_ble_eq_true rfl⟩ ⟨Nat.zero_le _, Nat.zero_le _⟩ (Nat.le_of_ble_eq_true rfl) dX10_caught_37 (fun H locs hS => ?_)
        refine lv_if_ne (tgt := 45) hx hb dX10_caught_40 (by decide) (fun hc => ?_) (fun hc => ?_)
        · have hf := o_f hc hf
          refine lv_iconst (v := (0 : Int32)) hx hb dX10_caught_45 (by decide) ?_
          refine lv_istore (lv' := [(5, .int (0 : Int32)), (0, .ref (q 0)), (1, .int v1), (2, .int v2), (3, .int v3), (4, .int v4)]) hx hb dX10_caught_46 hl (by decide) rfl (fun ls hl => ?_)
          refine lv_iconst (v := (1 : Int32)) hx hb dX10_caught_48 (by decide) ?_
          refine lv_istore (lv' := [(6, .int (1 : Int32)), (5, .int (0 : Int32)), (0, .ref (q 0)), (1, .int v1), (2, .int v2), (3, .int v3), (4, .int v4)]) hx hb dX10_caught_49 hl (by decide) rfl (fun ls hl => ?_)
          refine lv_iconst (v := (0 : Int32)) hx hb dX10_caught_51 (by decide) ?_
          refine lv_istore (lv' := [(7, .int (0 : Int32)), (6, .int (1 : Int32)), (5, .int (0 : Int32)), (0, .ref (q 0)), (1, .int v1), (2, .int v2), (3, .int v3), (4, .int v4)]) hx hb dX10_caught_52 hl (by decide) rfl (fun ls hl => ?_)
          exact k54 v1 v2 v3 v4 (1 : Int32) _ (0 : Int32) (0 : Int32) _ hf H locs ls hS (lv_sub hl [3, 4, 5, 6, 7, 2, 1, 0] rfl)
        · have hf := o_t hc hf
          refine lv_iconst (v := (-1 : Int32)) hx hb dX10_caught_43 (by decide) ?_
          exact ret hf hS dX10_caught_44

set_option maxHeartbeats 40000000 in
set_option maxRecDepth 100000 in
theorem c_X10_standsBy (l : Launch) (D : va_G) (cI cZ : ClassId) (q : Nat → Nat) (c : Mm) (sz : Nat) (v1 : Int32) (v2 : Int32) (v3 : Int32) (R : Int32 × Mm) (hf : X10_standsBy v1 v2 v3 c = some R) : m_Mi l yX10_standsBy cX10_standsBy 4 (some .int) 0 0 D cI cZ (mkM q cI cZ) 29 q [.ref (q 0), .int v1, .int v2, .int v3] c sz R := by
  refine m_enter_i (own := RX10) (by decide) rfl (Nat.le_of_ble_eq_true rfl) ?_
  intro p e s m args below meth cd Q X ret
  have hx := X.1
  have hb := X.2.1
  intro H locs ls hS hl
  have hl : lv_has ls 4 [(0, .ref (q 0)), (1, .int v1), (2, .int v2), (3, .int v3)] := hl
  unfold X10_standsBy at hf
  refine lv_iload_n hx hb dX10_standsBy_0 rfl (lv_at hl 2 rfl) ?_
  refine lv_if_eq (tgt := 20) hx hb dX10_standsBy_1 (by decide) (fun hc => ?_) (fun hc => ?_)
  · have hf := o_t hc hf
    refine lv_iload_n hx hb dX10_standsBy_20 rfl (lv_at hl 3 rfl) ?_
    refine lv_if_eq (tgt := 28) hx hb dX10_standsBy_21 (by decide) (fun hc => ?_) (fun hc => ?_)
    · have hf := o_t hc hf
      refine lv_aload_n hx hb dX10_standsBy_28 rfl (lv_at hl 0 rfl) ?_
      refine m_get X hS fl_10_40 (vM_0_11 q cI cZ _) dX10_standsBy_29 ?_
      refine lv_iconst (v := (1 : Int32)) hx hb dX10_standsBy_32 (by decide) ?_
      refine m_ildN X hS 1 (by decide +kernel) (aM_11 q cI cZ) (by decide +kernel) dX10_standsBy_33 ?_
      exact ret hf hS dX10_standsBy_34
    · have hf := o_f hc hf
      refine lv_iconst (v := (0 : Int32)) hx hb dX10_standsBy_24 (by decide) ?_
      refine lv_goto (tgt := 34) hx hb dX10_standsBy_25 (by decide) ?_
      exact ret hf hS dX10_standsBy_34
  · have hf := o_f hc hf
    refine lv_aload_n hx hb dX10_standsBy_4 rfl (lv_at hl 0 rfl) ?_
    refine m_get X hS fl_10_40 (vM_0_11 q cI cZ _) dX10_standsBy_5 ?_
    refine lv_iconst (v := (0 : Int32)) hx hb dX10_standsBy_8 (by decide) ?_
    refine m_ildN X hS 0 (by decide +kernel) (aM_11 q cI cZ) (by decide +kernel) dX10_standsBy_9 ?_
    refine lv_aload_n hx hb dX10_standsBy_10 rfl (lv_at hl 0 rfl) ?_
    refine m_get X hS fl_10_43 (vM_0_12 q cI cZ _) dX10_standsBy_11 ?_
    refine lv_iload_n hx hb dX10_standsBy_14 rfl (lv_at hl 1 rfl) ?_
    obtain ⟨hg, hf⟩ := o_gi hf
    refine m_ild X hS (aM_12 q cI cZ) hg dX10_standsBy_15 ?_
    refine lv_iadd hx hb dX10_standsBy_16 ?_
    refine lv_goto (tgt := 34) hx hb dX10_standsBy_17 (by decide) ?_
    exact ret hf hS dX10_standsBy_34
