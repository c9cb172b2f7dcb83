set_option maxHeartbeats 40000000 in
set_option maxRecDepth 100000 in
theorem c_X9_meetings (l : Launch) (D : va_G) (cI cZ : ClassId) (q : Nat → Nat) (c : Mm) (sz : Nat) (v1 : Int32) (R : Int32 × Mm) (hf : X9_meetings v1 c = some R) : m_Mi l yX9_meetings cX9_meetings 2 (some .int) 5 130 D cI cZ (mkC q cI cZ) 50 q [.ref (q 0), .int v1] c sz R := by
  refine m_enter_i (own := RX9) (by decide) rfl (Nat.le_of_ble_eq_true rfl) ?_
  intro p e s m args below meth cd Q X ret
  have hx := X.1
  have hb := X.2.1
  intro H locs ls hS hl
  have hl : lv_has ls 2 [(0, .ref (q 0)), (1, .int v1)] := hl
  unfold X9_meetings at hf
  refine lv_iload_n hx hb dX9_meetings_0 rfl (lv_at hl 1 rfl) ?_
  obtain ⟨r1, c2, hq, hf⟩ := o_cal hf
  refine m_calls (rest := []) X hS hl.1 (c_X9_isRule l D cI cZ q _ _ v1 _ hq) cs_9_142 rfl rfl ⟨Nat.le_of_ble_eq_true rfl, Nat.le_of_ble_eq_true rfl⟩ ⟨Nat.zero_le _, Nat.zero_le _⟩ (Nat.le_of_ble_eq_true rfl) dX9_meetings_1 (fun H locs hS => ?_)
  refine lv_if_ne (tgt := 9) hx hb dX9_meetings_4 (by decide) (fun hc => ?_) (fun hc => ?_)
  · have hf := o_f hc hf
    refine lv_aload_n hx hb dX9_meetings_9 rfl (lv_at hl 0 rfl) ?_
    refine m_get X hS fl_9_59 (vC_0_7 q cI cZ _) dX9_meetings_10 ?_
    refine lv_aload_n hx hb dX9_meetings_13 rfl (lv_at hl 0 rfl) ?_
    refine m_get X hS fl_9_38 (vC_0_4 q cI cZ _) dX9_meetings_14 ?_
    refine lv_iload_n hx hb dX9_meetings_17 rfl (lv_at hl 1 rfl) ?_
    refine lv_bipush (v := (120 : Int32)) hx hb dX9_meetings_18 (by decide) ?_
    obtain ⟨r3, c4, hq, hf⟩ := o_cal hf
    refine m_calli (rest := []) X hS hl.1 (c_X2_run l D cI cZ q _ _ 5 (Or.inl rfl) v1 (120 : Int32) _ hq) cv_9_145 (oC_8 q cI cZ _) rfl rfl ⟨Nat.le_of_ble_eq_true rfl, Nat.le_of_ble_eq_true rfl⟩ ⟨Nat.zero_le _, Nat.zero_le _⟩ (Nat.le_of_ble_eq_true rfl) dX9_meetings_20 (fun H locs hS => ?_)
    refine lv_pop hx hb dX9_meetings_23 rfl ?_
    refine lv_aload_n hx hb dX9_meetings_24 rfl (lv_at hl 0 rfl) ?_
    refine m_get X hS fl_9_59 (vC_0_7 q cI cZ _) dX9_meetings_25 ?_
    refine m_get X hS fl_9_161 (vC_8_11 q cI cZ _) dX9_meetings_28 ?_
    exact ret hf hS dX9_meetings_31
  · have hf := o_t hc hf
    refine lv_iconst (v := (-1 : Int32)) hx hb dX9_meetings_7 (by decide) ?_
    exact ret hf hS dX9_meetings_8

set_option maxHeartbeats 40000000 in
set_option maxRecDepth 100000 in
theorem c_X9_meeting (l : Launch) (D : va_G) (cI cZ : ClassId) (q : Nat → Nat) (c : Mm) (sz : Nat) (v1 : Int32) (v2 : Int32) (v3 : Int32) (R : Int32 × Mm) (hf : X9_meeting v1 v2 v3 c = some R) : m_Mi l yX9_meeting cX9_meeting 4 (some .int) 5 130 D cI cZ (mkC q cI cZ) 50 q [.ref (q 0), .int v1, .int v2, .int v3] c sz R := by
  refine m_enter_i (own := RX9) (by decide) rfl (Nat.le_of_ble_eq_true rfl) ?_
  intro p e s m args below meth cd Q X ret
  have hx := X.1
  have hb := X.2.1
  intro H locs ls hS hl
  have hl : lv_has ls 4 [(0, .ref (q 0)), (1, .int v1), (2, .int v2), (3, .int v3)] := hl
  unfold X9_meeting at hf
  refine lv_iload_n hx hb dX9_meeting_0 rfl (lv_at hl 1 rfl) ?_
  obtain ⟨r1, c2, hq, hf⟩ := o_cal hf
  refine m_calls (rest := []) X hS hl.1 (c_X9_isRule l D cI cZ q _ _ v1 _ hq) cs_9_142 rfl rfl ⟨Nat.le_of_ble_eq_true rfl, Nat.le_of_ble_eq_true rfl⟩ ⟨Nat.zero_le _, Nat.zero_le _⟩ (Nat.le_of_ble_eq_true rfl) dX9_meeting_1 (fun H locs hS => ?_)
  refine lv_if_ne (tgt := 9) hx hb dX9_meeting_4 (by decide) (fun hc => ?_) (fun hc => ?_)
  · have hf := o_f hc hf
    refine lv_aload_n hx hb dX9_meeting_9 rfl (lv_at hl 0 rfl) ?_
    refine m_get X hS fl_9_59 (vC_0_7 q cI cZ _) dX9_meeting_10 ?_
    refine lv_aload_n hx hb dX9_meeting_13 rfl (lv_at hl 0 rfl) ?_
    refine m_get X hS fl_9_38 (vC_0_4 q cI cZ _) dX9_meeting_14 ?_
    refine lv_iload_n hx hb dX9_meeting_17 rfl (lv_at hl 1 rfl) ?_
    refine lv_bipush (v := (120 : Int32)) hx hb dX9_meeting_18 (by decide) ?_
    obtain ⟨r3, c4, hq, hf⟩ := o_cal hf
    refine m_calli (rest := []) X hS hl.1 (c_X2_run l D cI cZ q _ _ 5 (Or.inl rfl) v1 (120 : Int32) _ hq) cv_9_145 (oC_8 q cI cZ _) rfl rfl ⟨Nat.le_of_ble_eq_true rfl, Nat.le_of_ble_eq_true rfl⟩ ⟨Nat.zero_le _, Nat.zero_le _⟩ (Nat.le_of_ble_eq_true rfl) dX9_meeting_20 (fun H locs hS => ?_)
    refine lv_pop hx hb dX9_meeting_23 rfl ?_
    refine lv_iload_n hx hb dX9_meeting_24 rfl (lv_at hl 2 rfl) ?_
    refine lv_iconst (v := (0 : Int32)) hx hb dX9_meeting_25 (by decide) ?_
    refine lv_aload_n hx hb dX9_meeting_26 rfl (lv_at hl 0 rfl) ?_
    refine m_get X hS fl_9_59 (vC_0_7 q cI cZ _) dX9_meeting_27 ?_
    refine m_get X hS fl_9_161 (vC_8_11 q cI cZ _) dX9_meeting_30 ?_
    refine lv_iconst (v := (1 : Int32)) hx hb dX9_meeting_33 (by decide) ?_
    refine lv_isub hx hb dX9_meeting_34 ?_
    obtain ⟨r5, c6, hq, hf⟩ := o_cal hf
    refine m_calls (rest := []) X hS hl.1 (c_X9_isWithin l D cI cZ q _ _ v2 (0 : Int32) ((c4 8 11) - (1 : Int32)) _ hq) cs_9_107 rfl rfl ⟨Nat.le_of_ble_eq_true rfl, Nat.le_of_ble_eq_true rfl⟩ ⟨Nat.zero_le _, Nat.zero_le _⟩ (Nat.le_of_ble_eq_true rfl) dX9_meeting_35 (fun H locs hS => ?_)
    refine lv_if_ne (tgt := 43) hx hb dX9_meeting_38 (by decide) (fun hc => ?_) (fun hc => ?_)
    · have hf := o_f hc hf
      refine lv_iload_n hx hb dX9_meeting_43 rfl (lv_at hl 3 rfl) ?_
      by_cases h_0 : v3 = (0 : Int32)
      · have hf := o_t h_0 hf
        refine lv_tableIn (off := 32) (tgt := 76) hx hb dX9_meeting_44 (by rw [h_0]; decide) (by rw [h_0]; decide) (by rw [h_0]; decide) (by decide) ?_
        refine lv_aload_n hx hb dX9_meeting_76 rfl (lv_at hl 0 rfl) ?_
        refine m_get X hS fl_9_59 (vC_0_7 q cI cZ _) dX9_meeting_77 ?_
        refine m_get X hS fl_9_164 (vC_8_12 q cI cZ _) dX9_meeting_80 ?_
        refine lv_iload_n hx hb dX9_meeting_83 rfl (lv_at hl 2 rfl) ?_
        obtain ⟨hg, hf⟩ := o_gi hf
        refine m_ild X hS (aC_39 q cI cZ) hg dX9_meeting_84 ?_
        exact ret hf hS dX9_meeting_85
      have hf := o_f h_0 hf
      by_cases h_1 : v3 = (1 : Int32)
      · have hf := o_t h_1 hf
        refine lv_tableIn (off := 42) (tgt := 86) hx hb dX9_meeting_44 (by rw [h_1]; decide) (by rw [h_1]; decide) (by rw [h_1]; decide) (by decide) ?_
        refine lv_aload_n hx hb dX9_meeting_86 rfl (lv_at hl 0 rfl) ?_
        refine m_get X hS fl_9_59 (vC_0_7 q cI cZ _) dX9_meeting_87 ?_
        refine m_get X hS fl_9_167 (vC_8_13 q cI cZ _) dX9_meeting_90 ?_
        refine lv_iload_n hx hb dX9_meeting_93 rfl (lv_at hl 2 rfl) ?_
        obtain ⟨hg, hf⟩ := o_gi hf
        refine m_ild X hS (aC_40 q cI cZ) hg dX9_meeting_94 ?_
        exact ret hf hS dX9_meeting_95
      have hf := o_f h_1 hf
      by_cases h_2 : v3 = (2 : Int32)
      · have hf := o_t h_2 hf
        refine lv_tableIn (off := 52) (tgt := 96) hx hb dX9_meeting_44 (by rw [h_2]; decide) (by rw [h_2]; decide) (by rw [h_2]; decide) (by decide) ?_
        refine lv_aload_n hx hb dX9_meeting_96 rfl (lv_at hl 0 rfl) ?_
        refine m_get X hS fl_9_59 (vC_0_7 q cI cZ _) dX9_meeting_97 ?_
        refine m_get X hS fl_9_170 (vC_8_14 q cI cZ _) dX9_meeting_100 ?_
        refine lv_iload_n hx hb dX9_meeting_103 rfl (lv_at hl 2 rfl) ?_
        obtain ⟨hg, hf⟩ := o_gi hf
        refine m_ild X hS (aC_41 q cI cZ) hg dX9_meeting_104 ?_
        exact ret hf hS dX9_meeting_105
      have hf := o_f h_2 hf
      by_cases h_3 : v3 = (3 : Int32)
      · have hf := o_t h_3 hf
        refine lv_tableIn (off := 62) (tgt := 106) hx hb dX9_meeting_44 (by rw [h_3]; decide) (by rw [h_3]; decide) (by rw [h_3]; decide) (by decide) ?_
        refine lv_aload_n hx hb dX9_meeting_106 rfl (lv_at hl 0 rfl) ?_
        refine m_get X hS fl_9_59 (vC_0_7 q cI cZ _) dX9_meeting_107 ?_
        refine m_get X hS fl_9_173 (vC_8_15 q cI cZ _) dX9_meeting_110 ?_
        refine lv_iload_n hx hb dX9_meeting_113 rfl (lv_at hl 2 rfl) ?_
        obtain ⟨hg, hf⟩ := o_gi hf
        refine m_ild X hS (aC_42 q cI cZ) hg dX9_meeting_114 ?_
        exact ret hf hS dX9_meeting_115
      have hf := o_f h_3 hf
      refine lv_tableOut (tgt := 116) hx hb dX9_meeting_44 (by have := lv_neT h_0 (by decide : ((0 : Int32)).toInt = 0); have := lv_neT h_1 (by decide : ((1 : Int32)).toInt = 1); have := lv_neT h_2 (by decide : ((2 : Int32)).toInt = 2); have := lv_neT h_3 (by decide : ((3 : Int32)).toInt = 3); omega) (by decide) ?_
      refine lv_iconst (v := (-1 : Int32)) hx hb dX9_meeting_116 (by decide) ?_
      exact ret hf hS dX9_meeting_117
    · have hf := o_t hc hf
      refine lv_iconst (v := (-1 : Int32)) hx hb dX9_meeting_41 (by decide) ?_
      exact ret hf hS dX9_meeting_42
  · have hf := o_t hc hf
    refine lv_iconst (v := (-1 : Int32)) hx hb dX9_meeting_7 (by decide) ?_
    exact ret hf hS dX9_meeting_8

set_option maxHeartbeats 40000000 in
set_option maxRecDepth 100000 in
theorem c_X0_dropOldest (l : Launch) (D : va_G) (cI cZ : ClassId) (q : Nat → Nat) (c : Mm) (sz : Nat) (R : Mm) (hf : X0_dropOldest c = some R) : m_Mv l yX0_dropOldest cX0_dropOldest 2 0 0 D cI cZ (mkC q cI cZ) 50 q [.ref (q 9)] c sz R := by
  refine m_enter_v (own := RX0) (by decide) rfl (Nat.le_of_ble_eq_true rfl) ?_
  intro p e s m args below meth cd Q X ret
  have hx := X.1
  have hb := X.2.1
  have k56 : ∀ (c : Mm), X0_dropOldest_j56 c = some R → m_G p l e (m_rm 0 0) s m args below meth cd Q D (mkC q cI cZ) 50 q 2 56 [(0, .ref (q 9))] [] c := by
    intro c hf H locs ls hS hl
    unfold X0_dropOldest_j56 at hf
    refine lv_aload_n hx hb dX0_dropOldest_56 rfl (lv_at hl 0 rfl) ?_
    refine lv_bipush (v := (7 : Int32)) hx hb dX0_dropOldest_57 (by decide) ?_
    refine m_put X hS fp_0_22 (pC_9_3 q cI cZ) dX0_dropOldest_59 (fun c1 ec H locs hS => ?_)
    have hf := o_bnd hf c1 ec
    exact ret hf hS dX0_dropOldest_62
  have k2 : ∀ (n : Nat) (v1 : Int32) (c : Mm), m_lp1 (X0_dropOldest_b2) n v1 c = some R → m_G p l e (m_rm 0 0) s m args below meth cd Q D (mkC q cI cZ) 50 q 2 2 [(0, .ref (q 9)), (1, .int v1)] [] c := by
    refine m_lp1_i ?_
    intro rc2 hrc2 v1 c hf H locs ls hS hl
    unfold X0_dropOldest_b2 at hf
    refine lv_iload_n hx hb dX0_dropOldest_2 rfl (lv_at hl 1 rfl) ?_
    refine lv_bipush (v := (8 : Int32)) hx hb dX0_dropOldest_3 (by decide) ?_
    refine lv_icmp_ge (tgt := 56) hx hb dX0_dropOldest_5 (by decide) (fun hc => ?_) (fun hc => ?_)
    · have hf := o_t hc hf
      exact k56 _ hf H locs ls hS (lv_sub hl [0] rfl)
    · have hf := o_f hc hf
      refine lv_aload_n hx hb dX0_dropOldest_8 rfl (lv_at hl 0 rfl) ?_
      refine m_get X hS fl_0_9 (vC_9_0 q cI cZ _) dX0_dropOldest_9 ?_
      refine lv_iload_n hx hb dX0_dropOldest_12 rfl (lv_at hl 1 rfl) ?_
      refine lv_iconst (v := (1 : Int32)) hx hb dX0_dropOldest_13 (by decide) ?_
      refine lv_isub hx hb dX0_dropOldest_14 ?_
      refine lv_aload_n hx hb dX0_dropOldest_15 rfl (lv_at hl 0 rfl) ?_
      refine m_get X hS fl_0_9 (vC_9_0 q cI cZ _) dX0_dropOldest_16 ?_
      refine lv_iload_n hx hb dX0_dropOldest_19 rfl (lv_at hl 1 rfl) ?_
      obtain ⟨hg, hf⟩ := o_gi hf
      refine m_ild X hS (aC_43 q cI cZ) hg dX0_dropOldest_20 ?_
      obtain ⟨hg, hf⟩ := o_gi hf
      refine m_ist X hS (aC_43 q cI cZ) hg dX0_dropOldest_21 (fun c2 ec H locs hS => ?_)
      have hf := o_bnd hf c2 ec
      refine lv_aload_n hx hb dX0_dropOldest_22 rfl (lv_at hl 0 rfl) ?_
      refine m_get X hS fl_0_15 (vC_9_1 q cI cZ _) dX0_dropOldest_23 ?_
      refine lv_iload_n hx hb dX0_dropOldest_26 rfl (lv_at hl 1 rfl) ?_
      refine lv_iconst (v := (1 : Int32)) hx hb dX0_dropOldest_27 (by decide) ?_
      refine lv_isub hx hb dX0_dropOldest_28 ?_
      refine lv_aload_n hx hb dX0_dropOldest_29 rfl (lv_at hl 0 rfl) ?_
      refine m_get X hS fl_0_15 (vC_9_1 q cI cZ _) dX0_dropOldest_30 ?_
      refine lv_iload_n hx hb dX0_dropOldest_33 rfl (lv_at hl 1 rfl) ?_
      obtain ⟨hg, hf⟩ := o_gi hf
      refine m_zld X hS (aC_44 q cI cZ) hg dX0_dropOldest_34 ?_
      obtain ⟨hg, hf⟩ := o_gi hf
      refine m_zst X hS (aC_44 q cI cZ) hg dX0_dropOldest_35 (fun c3 ec H locs hS => ?_)
      have hf := o_bnd hf c3 ec
      refine lv_aload_n hx hb dX0_dropOldest_36 rfl (lv_at hl 0 rfl) ?_
      refine m_get X hS fl_0_19 (vC_9_2 q cI cZ _) dX0_dropOldest_37 ?_
      refine lv_iload_n hx hb dX0_dropOldest_40 rfl (lv_at hl 1 rfl) ?_
      refine lv_iconst (v := (1 : Int32)) hx hb dX0_dropOldest_41 (by decide) ?_
      refine lv_isub hx hb dX0_dropOldest_42 ?_
      refine lv_aload_n hx hb dX0_dropOldest_43 rfl (lv_at hl 0 rfl) ?_
      refine m_get X hS fl_0_19 (vC_9_2 q cI cZ _) dX0_dropOldest_44 ?_
      refine lv_iload_n hx hb dX0_dropOldest_47 rfl (lv_at hl 1 rfl) ?_
      obtain ⟨hg, hf⟩ := o_gi hf
      refine m_ild X hS (aC_45 q cI cZ) hg dX0_dropOldest_48 ?_
      obtain ⟨hg, hf⟩ := o_gi hf
      refine m_ist X hS (aC_45 q cI cZ) hg dX0_dropOldest_49 (fun c4 ec H locs hS => ?_)
      have hf := o_bnd hf c4 ec
      obtain ⟨x5, ex⟩ : ∃ y : Int32, y = v1 + (1 : Int32) := ⟨_, rfl⟩
      have hf := o_bnd hf x5 ex
      refine lv_iinc (v := x5) (lv' := [(1, .int x5), (0, .ref (q 9))]) hx hb dX0_dropOldest_50 hl (k := 1) rfl (by rw [ex]; rfl) (by decide) rfl (fun ls hl => ?_)
      refine lv_goto (tgt := 2) hx hb dX0_dropOldest_53 (by decide) ?_
      exact hrc2 x5 _ hf H locs ls hS (lv_sub hl [1, 0] rfl)
  intro H locs ls hS hl
  have hl : lv_has ls 2 [(0, .ref (q 9))] := hl
  unfold X0_dropOldest at hf
  refine lv_iconst (v := (1 : Int32)) hx hb dX0_dropOldest_0 (by decide) ?_
  refine lv_istore_n (lv' := [(1, .int (1 : Int32)), (0, .ref (q 9))]) hx hb dX0_dropOldest_1 rfl hl (by decide) rfl (fun ls hl => ?_)
  exact k2 _ (1 : Int32) _ hf H locs ls hS (lv_sub hl [1, 0] rfl)

set_option maxHeartbeats 40000000 in
set_option maxRecDepth 100000 in
theorem c_X0_note (l : Launch) (D : va_G) (cI cZ : ClassId) (q : Nat → Nat) (c : Mm) (sz : Nat) (v1 : Int32) (v2 : Int32) (v3 : Int32) (R : Mm) (hf : X0_note v1 v2 v3 c = some R) : m_Mv l yX0_note cX0_note 4 1 21 D cI cZ (mkC q cI cZ) 50 q [.ref (q 9), .int v1, .int v2, .int v3] c sz R := by
  refine m_enter_v (own := RX0) (by decide) rfl (Nat.le_of_ble_eq_true rfl) ?_
  intro p e s m args below meth cd Q X ret
  have hx := X.1
  have hb := X.2.1
  have k13 : ∀ (v1 : Int32) (v2 : Int32) (v3 : Int32) (c : Mm), X0_note_j13 v1 v2 v3 c = some R → m_G p l e (m_rm 1 21) s m args below meth cd Q D (mkC q cI cZ) 50 q 4 13 [(0, .ref (q 9)), (1, .int v1), (2, .int v2), (3, .int v3)] [] c := by
    intro v1 v2 v3 c hf H locs ls hS hl
    unfold X0_note_j13 at hf
    refine lv_aload_n hx hb dX0_note_13 rfl (lv_at hl 0 rfl) ?_
    refine m_get X hS fl_0_9 (vC_9_0 q cI cZ _) dX0_note_14 ?_
    refine lv_aload_n hx hb dX0_note_17 rfl (lv_at hl 0 rfl) ?_
    refine m_get X hS fl_0_22 (vC_9_3 q cI cZ _) dX0_note_18 ?_
    refine lv_iload_n hx hb dX0_note_21 rfl (lv_at hl 1 rfl) ?_
    obtain ⟨hg, hf⟩ := o_gi hf
    refine m_ist X hS (aC_43 q cI cZ) hg dX0_note_22 (fun c1 ec H locs hS => ?_)
    have hf := o_bnd hf c1 ec
    refine lv_aload_n hx hb dX0_note_23 rfl (lv_at hl 0 rfl) ?_
    refine m_get X hS fl_0_15 (vC_9_1 q cI cZ _) dX0_note_24 ?_
    refine lv_aload_n hx hb dX0_note_27 rfl (lv_at hl 0 rfl) ?_
    refine m_get X hS fl_0_22 (vC_9_3 q cI cZ _) dX0_note_28 ?_
    refine lv_iload_n hx hb dX0_note_31 rfl (lv_at hl 2 rfl) ?_
    obtain ⟨hg, hf⟩ := o_gi hf
    refine m_zst X hS (aC_44 q cI cZ) hg dX0_note_32 (fun c2 ec H locs hS => ?_)
    have hf := o_bnd hf c2 ec
    refine lv_aload_n hx hb dX0_note_33 rfl (lv_at hl 0 rfl) ?_
    refine m_get X hS fl_0_19 (vC_9_2 q cI cZ _) dX0_note_34 ?_
    refine lv_aload_n hx hb dX0_note_37 rfl (lv_at hl 0 rfl) ?_
    refine m_get X hS fl_0_22 (vC_9_3 q cI cZ _) dX0_note_38 ?_
    refine lv_iload_n hx hb dX0_note_41 rfl (lv_at hl 3 rfl) ?_
    obtain ⟨hg, hf⟩ := o_gi hf
    refine m_ist X hS (aC_45 q cI cZ) hg dX0_note_42 (fun c3 ec H locs hS => ?_)
    have hf := o_bnd hf c3 ec
    refine lv_aload_n hx hb dX0_note_43 rfl (lv_at hl 0 rfl) ?_
    refine lv_dup hx hb dX0_note_44 rfl ?_
    refine m_get X hS fl_0_22 (vC_9_3 q cI cZ _) dX0_note_45 ?_
    refine lv_iconst (v := (1 : Int32)) hx hb dX0_note_48 (by decide) ?_
    refine lv_iadd hx hb dX0_note_49 ?_
    refine m_put X hS fp_0_22 (pC_9_3 q cI cZ) dX0_note_50 (fun c4 ec H locs hS => ?_)
    have hf := o_bnd hf c4 ec
    exact ret hf hS dX0_note_53
  intro H locs ls hS hl
  have hl : lv_has ls 4 [(0, .ref (q 9)), (1, .int v1), (2, .int v2), (3, .int v3)] := hl
  unfold X0_note at hf
  refine lv_aload_n hx hb dX0_note_0 rfl (lv_at hl 0 rfl) ?_
  refine m_get X hS fl_0_22 (vC_9_3 q cI cZ _) dX0_note_1 ?_
  refine lv_bipush (v := (8 : Int32)) hx hb dX0_note_4 (by decide) ?_
  refine lv_icmp_lt (tgt := 13) hx hb dX0_note_6 (by decide) (fun hc => ?_) (fun hc => ?_)
  · have hf := o_t hc hf
    exact k13 v1 v2 v3 _ hf H locs ls hS (lv_sub hl [0, 1, 2, 3] rfl)
  · have hf := o_f hc hf
    refine lv_aload_n hx hb dX0_note_9 rfl (lv_at hl 0 rfl) ?_
    obtain ⟨c5, hq, hf⟩ := o_cav hf
    refine m_callv (rest := []) X hS hl.1 (c_X0_dropOldest l D cI cZ q _ _ _ hq) cv_0_26 (oC_9 q cI cZ _) rfl rfl ⟨Nat.le_of_ble_eq_true rfl, Nat.le_of_ble_eq_true rfl⟩ ⟨Nat.zero_le _, Nat.zero_le _⟩ (Nat.le_of_ble_eq_true rfl) dX0_note_10 (fun H locs hS => ?_)
    exact k13 v1 v2 v3 _ hf H locs ls hS (lv_sub hl [0, 1, 2, 3] rfl)

set_option maxHeartbeats 40000000 in
set_option maxRecDepth 100000 in
theorem c_X9_load (l : Launch) (D : va_G) (cI cZ : ClassId) (q : Nat → Nat) (c : Mm) (sz : Nat) (v1 : Int32) (v2 : Int32) (R : Int32 × Mm) (hf : X9_load v1 v2 c = some R) : m_Mi l yX9_load cX9_load 4 (some .int) 2 44 D cI cZ (mkC q cI cZ) 50 q [.ref (q 0), .int v1, .int v2] c sz R := by
  refine m_enter_i (own := RX9) (by decide) rfl (Nat.le_of_ble_eq_true rfl) ?_
  intro p e s m args below meth cd Q X ret
  have hx := X.1
  have hb := X.2.1
  intro H locs ls hS hl
  have hl : lv_has ls 4 [(0, .ref (q 0)), (1, .int v1), (2, .int v2)] := hl
  unfold X9_load at hf
  refine lv_aload_n hx hb dX9_load_0 rfl (lv_at hl 0 rfl) ?_
  refine lv_iload_n hx hb dX9_load_1 rfl (lv_at hl 1 rfl) ?_
  obtain ⟨r1, c2, hq, hf⟩ := o_cal hf
  refine m_calli (rest := []) X hS hl.1 (c_X9_isBoat l D cI cZ q _ _ v1 _ hq) cv_9_120 (oC_0 q cI cZ _) rfl rfl ⟨Nat.le_of_ble_eq_true rfl, Nat.le_of_ble_eq_true rfl⟩ ⟨Nat.zero_le _, Nat.zero_le _⟩ (Nat.le_of_ble_eq_true rfl) dX9_load_2 (fun H locs hS => ?_)
  refine lv_if_eq (tgt := 18) hx hb dX9_load_5 (by decide) (fun hc => ?_) (fun hc => ?_)
  · have hf := o_t hc hf
    refine lv_iconst (v := (-1 : Int32)) hx hb dX9_load_18 (by decide) ?_
    exact ret hf hS dX9_load_19
  · have hf := o_f hc hf
    refine lv_iload_n hx hb dX9_load_8 rfl (lv_at hl 2 rfl) ?_
    refine lv_iconst (v := (0 : Int32)) hx hb dX9_load_9 (by decide) ?_
    refine lv_bipush (v := (9 : Int32)) hx hb dX9_load_10 (by decide) ?_
    obtain ⟨r3, c4, hq, hf⟩ := o_cal hf
    refine m_calls (rest := []) X hS hl.1 (c_X9_isWithin l D cI cZ q _ _ v2 (0 : Int32) (9 : Int32) _ hq) cs_9_107 rfl rfl ⟨Nat.le_of_ble_eq_true rfl, Nat.le_of_ble_eq_true rfl⟩ ⟨Nat.zero_le _, Nat.zero_le _⟩ (Nat.le_of_ble_eq_true rfl) dX9_load_12 (fun H locs hS => ?_)
    refine lv_if_ne (tgt := 20) hx hb dX9_load_15 (by decide) (fun hc => ?_) (fun hc => ?_)
    · have hf := o_f hc hf
      refine lv_aload_n hx hb dX9_load_20 rfl (lv_at hl 0 rfl) ?_
      refine m_get X hS fl_9_38 (vC_0_4 q cI cZ _) dX9_load_21 ?_
      refine m_get X hS fl_9_133 (vC_5_0 q cI cZ _) dX9_load_24 ?_
      refine lv_iload_n hx hb dX9_load_27 rfl (lv_at hl 1 rfl) ?_
      obtain ⟨hg, hf⟩ := o_gi hf
      refine m_ild X hS (aC_28 q cI cZ) hg dX9_load_28 ?_
      refine lv_topi (fun x5 ex => ?_)
      have hf := o_bnd hf x5 ex
      refine lv_istore_n (lv' := [(3, .int x5), (0, .ref (q 0)), (1, .int v1), (2, .int v2)]) hx hb dX9_load_29 rfl hl (by decide) rfl (fun ls hl => ?_)
      refine lv_aload_n hx hb dX9_load_30 rfl (lv_at hl 1 rfl) ?_
      refine m_get X hS fl_9_66 (vC_0_8 q cI cZ _) dX9_load_31 ?_
      refine lv_iload_n hx hb dX9_load_34 rfl (lv_at hl 2 rfl) ?_
      refine lv_iconst (v := (1 : Int32)) hx hb dX9_load_35 (by decide) ?_
      refine lv_iload_n hx hb dX9_load_36 rfl (lv_at hl 0 rfl) ?_
      obtain ⟨c6, hq, hf⟩ := o_cav hf
      refine m_callv (rest := []) X hS hl.1 (c_X0_note l D cI cZ q _ _ v1 (1 : Int32) x5 _ hq) cv_9_176 (oC_9 q cI cZ _) rfl rfl ⟨Nat.le_of_ble_eq_true rfl, Nat.le_of_ble_eq_true rfl⟩ ⟨Nat.zero_le _, Nat.zero_le _⟩ (Nat.le_of_ble_eq_true rfl) dX9_load_37 (fun H locs hS => ?_)
      refine lv_aload_n hx hb dX9_load_40 rfl (lv_at hl 1 rfl) ?_
      refine m_get X hS fl_9_38 (vC_0_4 q cI cZ _) dX9_load_41 ?_
      refine m_get X hS fl_9_133 (vC_5_0 q cI cZ _) dX9_load_44 ?_
      refine lv_iload_n hx hb dX9_load_47 rfl (lv_at hl 2 rfl) ?_
      refine lv_iload_n hx hb dX9_load_48 rfl (lv_at hl 3 rfl) ?_
      obtain ⟨hg, hf⟩ := o_gi hf
      refine m_ist X hS (aC_28 q cI cZ) hg dX9_load_49 (fun c7 ec H locs hS => ?_)
      have hf := o_bnd hf c7 ec
      refine lv_iload_n hx hb dX9_load_50 rfl (lv_at hl 0 rfl) ?_
      exact ret hf hS dX9_load_51
    · have hf := o_t hc hf
      refine lv_iconst (v := (-1 : Int32)) hx hb dX9_load_18 (by decide) ?_
      exact ret hf hS dX9_load_19

set_option maxHeartbeats 40000000 in
set_option maxRecDepth 100000 in
theorem c_X9_later (l : Launch) (D : va_G) (cI cZ : ClassId) (q : Nat → Nat) (c : Mm) (sz : Nat) (v1 : Int32) (v2 : Int32) (R : Int32 × Mm) (hf : X9_later v1 v2 c = some R) : m_Mi l yX9_later cX9_later 4 (some .int) 2 44 D cI cZ (mkC q cI cZ) 50 q [.ref (q 0), .int v1, .int v2] c sz R := by
  refine m_enter_i (own := RX9) (by decide) rfl (Nat.le_of_ble_eq_true rfl) ?_
  intro p e s m args below meth cd Q X ret
  have hx := X.1
  have hb := X.2.1
  intro H locs ls hS hl
  have hl : lv_has ls 4 [(0, .ref (q 0)), (1, .int v1), (2, .int v2)] := hl
  unfold X9_later at hf
  refine lv_aload_n hx hb dX9_later_0 rfl (lv_at hl 0 rfl) ?_
  refine lv_iload_n hx hb dX9_later_1 rfl (lv_at hl 1 rfl) ?_
  obtain ⟨r1, c2, hq, hf⟩ := o_cal hf
  refine m_calli (rest := []) X hS hl.1 (c_X9_isBoat l D cI cZ q _ _ v1 _ hq) cv_9_120 (oC_0 q cI cZ _) rfl rfl ⟨Nat.le_of_ble_eq_true rfl, Nat.le_of_ble_eq_true rfl⟩ ⟨Nat.zero_le _, Nat.zero_le _⟩ (Nat.le_of_ble_eq_true rfl) dX9_later_2 (fun H locs hS => ?_)
  refine lv_if_eq (tgt := 18) hx hb dX9_later_5 (by decide) (fun hc => ?_) (fun hc => ?_)
  · have hf := o_t hc hf
    refine lv_iconst (v := (-1 : Int32)) hx hb dX9_later_18 (by decide) ?_
    exact ret hf hS dX9_later_19
  · have hf := o_f hc hf
    refine lv_iload_n hx hb dX9_later_8 rfl (lv_at hl 2 rfl) ?_
    refine lv_iconst (v := (0 : Int32)) hx hb dX9_later_9 (by decide) ?_
    refine lv_bipush (v := (30 : Int32)) hx hb dX9_later_10 (by decide) ?_
    obtain ⟨r3, c4, hq, hf⟩ := o_cal hf
    refine m_calls (rest := []) X hS hl.1 (c_X9_isWithin l D cI cZ q _ _ v2 (0 : Int32) (30 : Int32) _ hq) cs_9_107 rfl rfl ⟨Nat.le_of_ble_eq_true rfl, Nat.le_of_ble_eq_true rfl⟩ ⟨Nat.zero_le _, Nat.zero_le _⟩ (Nat.le_of_ble_eq_true rfl) dX9_later_12 (fun H locs hS => ?_)
    refine lv_if_ne (tgt := 20) hx hb dX9_later_15 (by decide) (fun hc => ?_) (fun hc => ?_)
    · have hf := o_f hc hf
      refine lv_aload_n hx hb dX9_later_20 rfl (lv_at hl 0 rfl) ?_
      refine m_get X hS fl_9_38 (vC_0_4 q cI cZ _) dX9_later_21 ?_
      refine m_get X hS fl_9_139 (vC_5_1 q cI cZ _) dX9_later_24 ?_
      refine lv_iload_n hx hb dX9_later_27 rfl (lv_at hl 1 rfl) ?_
      obtain ⟨hg, hf⟩ := o_gi hf
      refine m_ild X hS (aC_29 q cI cZ) hg dX9_later_28 ?_
      refine lv_topi (fun x5 ex => ?_)
      have hf := o_bnd hf x5 ex
      refine lv_istore_n (lv' := [(3, .int x5), (0, .ref (q 0)), (1, .int v1), (2, .int v2)]) hx hb dX9_later_29 rfl hl (by decide) rfl (fun ls hl => ?_)
      refine lv_aload_n hx hb dX9_later_30 rfl (lv_at hl 1 rfl) ?_
      refine m_get X hS fl_9_66 (vC_0_8 q cI cZ _) dX9_later_31 ?_
      refine lv_iload_n hx hb dX9_later_34 rfl (lv_at hl 2 rfl) ?_
      refine lv_iconst (v := (0 : Int32)) hx hb dX9_later_35 (by decide) ?_
      refine lv_iload_n hx hb dX9_later_36 rfl (lv_at hl 0 rfl) ?_
      obtain ⟨c6, hq, hf⟩ := o_cav hf
      refine m_callv (rest := []) X hS hl.1 (c_X0_note l D cI cZ q _ _ v1 (0 : Int32) x5 _ hq) cv_9_176 (oC_9 q cI cZ _) rfl rfl ⟨Nat.le_of_ble_eq_true rfl, Nat.le_of_ble_eq_true rfl⟩ ⟨Nat.zero_le _, Nat.zero_le _⟩ (Nat.le_of_ble_eq_true rfl) dX9_later_37 (fun H locs hS => ?_)
      refine lv_aload_n hx hb dX9_later_40 rfl (lv_at hl 1 rfl) ?_
      refine m_get X hS fl_9_38 (vC_0_4 q cI cZ _) dX9_later_41 ?_
      refine m_get X hS fl_9_139 (vC_5_1 q cI cZ _) dX9_later_44 ?_
      refine lv_iload_n hx hb dX9_later_47 rfl (lv_at hl 2 rfl) ?_
      refine lv_iload_n hx hb dX9_later_48 rfl (lv_at hl 3 rfl) ?_
      obtain ⟨hg, hf⟩ := o_gi hf
      refine m_ist X hS (aC_29 q cI cZ) hg dX9_later_49 (fun c7 ec H locs hS => ?_)
      have hf := o_bnd hf c7 ec
      refine lv_iload_n hx hb dX9_later_50 rfl (lv_at hl 0 rfl) ?_
      exact ret hf hS dX9_later_51
    · have hf := o_t hc hf
      refine lv_iconst (v := (-1 : Int32)) hx hb dX9_later_18 (by decide) ?_
      exact ret hf hS dX9_later_19

set_option maxHeartbeats 40000000 in
set_option maxRecDepth 100000 in
theorem c_X0_takeBack (l : Launch) (D : va_G) (cI cZ : ClassId) (q : Nat → Nat) (c : Mm) (sz : Nat) (R : Int32 × Mm) (hf : X0_takeBack c = some R) : m_Mi l yX0_takeBack cX0_takeBack 2 (some .boolean) 0 0 D cI cZ (mkC q cI cZ) 50 q [.ref (q 9), .ref (q 5)] c sz R := by
  refine m_enter_z (own := RX0) (by decide) rfl (Nat.le_of_ble_eq_true rfl) ?_
  intro p e s m args below meth cd Q X ret
  have hx := X.1
  have hb := X.2.1
  intro H locs ls hS hl
  have hl : lv_has ls 2 [(0, .ref (q 9)), (1, .ref (q 5))] := hl
  unfold X0_takeBack at hf
  refine lv_aload_n hx hb dX0_takeBack_0 rfl (lv_at hl 0 rfl) ?_
  refine m_get X hS fl_0_22 (vC_9_3 q cI cZ _) dX0_takeBack_1 ?_
  refine lv_if_gt (tgt := 9) hx hb dX0_takeBack_4 (by decide) (fun hc => ?_) (fun hc => ?_)
  · have hf := o_t hc hf
    refine lv_aload_n hx hb dX0_takeBack_9 rfl (lv_at hl 0 rfl) ?_
    refine lv_dup hx hb dX0_takeBack_10 rfl ?_
    refine m_get X hS fl_0_22 (vC_9_3 q cI cZ _) dX0_takeBack_11 ?_
    refine lv_iconst (v := (1 : Int32)) hx hb dX0_takeBack_14 (by decide) ?_
    refine lv_isub hx hb dX0_takeBack_15 ?_
    refine m_put X hS fp_0_22 (pC_9_3 q cI cZ) dX0_takeBack_16 (fun c1 ec H locs hS => ?_)
    have hf := o_bnd hf c1 ec
    refine lv_aload_n hx hb dX0_takeBack_19 rfl (lv_at hl 0 rfl) ?_
    refine m_get X hS fl_0_15 (vC_9_1 q cI cZ _) dX0_takeBack_20 ?_
    refine lv_aload_n hx hb dX0_takeBack_23 rfl (lv_at hl 0 rfl) ?_
    refine m_get X hS fl_0_22 (vC_9_3 q cI cZ _) dX0_takeBack_24 ?_
    obtain ⟨hg, hf⟩ := o_gi hf
    refine m_zld X hS (aC_44 q cI cZ) hg dX0_takeBack_27 ?_
    refine lv_if_eq (tgt := 57) hx hb dX0_takeBack_28 (by decide) (fun hc => ?_) (fun hc => ?_)
    · have hf := o_t hc hf
      refine lv_aload_n hx hb dX0_takeBack_57 rfl (lv_at hl 1 rfl) ?_
      refine m_get X hS fl_0_34 (vC_5_1 q cI cZ _) dX0_takeBack_58 ?_
      refine lv_aload_n hx hb dX0_takeBack_61 rfl (lv_at hl 0 rfl) ?_
      refine m_get X hS fl_0_9 (vC_9_0 q cI cZ _) dX0_takeBack_62 ?_
      refine lv_aload_n hx hb dX0_takeBack_65 rfl (lv_at hl 0 rfl) ?_
      refine m_get X hS fl_0_22 (vC_9_3 q cI cZ _) dX0_takeBack_66 ?_
      obtain ⟨hg, hf⟩ := o_gi hf
      refine m_ild X hS (aC_43 q cI cZ) hg dX0_takeBack_69 ?_
      refine lv_aload_n hx hb dX0_takeBack_70 rfl (lv_at hl 0 rfl) ?_
      refine m_get X hS fl_0_19 (vC_9_2 q cI cZ _) dX0_takeBack_71 ?_
      refine lv_aload_n hx hb dX0_takeBack_74 rfl (lv_at hl 0 rfl) ?_
      refine m_get X hS fl_0_22 (vC_9_3 q cI cZ _) dX0_takeBack_75 ?_
      obtain ⟨hg, hf⟩ := o_gi hf
      refine m_ild X hS (aC_45 q cI cZ) hg dX0_takeBack_78 ?_
      obtain ⟨hg, hf⟩ := o_gi hf
      refine m_ist X hS (aC_29 q cI cZ) hg dX0_takeBack_79 (fun c2 ec H locs hS => ?_)
      have hf := o_bnd hf c2 ec
      refine lv_iconst (v := (1 : Int32)) hx hb dX0_takeBack_80 (by decide) ?_
      exact ret (Or.inr rfl) hf hS dX0_takeBack_81
    · have hf := o_f hc hf
      refine lv_aload_n hx hb dX0_takeBack_31 rfl (lv_at hl 1 rfl) ?_
      refine m_get X hS fl_0_29 (vC_5_0 q cI cZ _) dX0_takeBack_32 ?_
      refine lv_aload_n hx hb dX0_takeBack_35 rfl (lv_at hl 0 rfl) ?_
      refine m_get X hS fl_0_9 (vC_9_0 q cI cZ _) dX0_takeBack_36 ?_
      refine lv_aload_n hx hb dX0_takeBack_39 rfl (lv_at hl 0 rfl) ?_
      refine m_get X hS fl_0_22 (vC_9_3 q cI cZ _) dX0_takeBack_40 ?_
      obtain ⟨hg, hf⟩ := o_gi hf
      refine m_ild X hS (aC_43 q cI cZ) hg dX0_takeBack_43 ?_
      refine lv_aload_n hx hb dX0_takeBack_44 rfl (lv_at hl 0 rfl) ?_
      refine m_get X hS fl_0_19 (vC_9_2 q cI cZ _) dX0_takeBack_45 ?_
      refine lv_aload_n hx hb dX0_takeBack_48 rfl (lv_at hl 0 rfl) ?_
      refine m_get X hS fl_0_22 (vC_9_3 q cI cZ _) dX0_takeBack_49 ?_
      obtain ⟨hg, hf⟩ := o_gi hf
      refine m_ild X hS (aC_45 q cI cZ) hg dX0_takeBack_52 ?_
      obtain ⟨hg, hf⟩ := o_gi hf
      refine m_ist X hS (aC_28 q cI cZ) hg dX0_takeBack_53 (fun c3 ec H locs hS => ?_)
      have hf := o_bnd hf c3 ec
      refine lv_goto (tgt := 80) hx hb dX0_takeBack_54 (by decide) ?_
      refine lv_iconst (v := (1 : Int32)) hx hb dX0_takeBack_80 (by decide) ?_
      exact ret (Or.inr rfl) hf hS dX0_takeBack_81
  · have hf := o_f hc hf
    refine lv_iconst (v := (0 : Int32)) hx hb dX0_takeBack_7 (by decide) ?_
    exact ret (Or.inl rfl) hf hS dX0_takeBack_8

set_option maxHeartbeats 40000000 in
set_option maxRecDepth 100000 in
theorem c_X9_undo (l : Launch) (D : va_G) (cI cZ : ClassId) (q : Nat → Nat) (c : Mm) (sz : Nat) (R : Int32 × Mm) (hf : X9_undo c = some R) : m_Mi l yX9_undo cX9_undo 1 (some .int) 1 21 D cI cZ (mkC q cI cZ) 50 q [.ref (q 0)] c sz R := by
  refine m_enter_i (own := RX9) (by decide) rfl (Nat.le_of_ble_eq_true rfl) ?_
  intro p e s m args below meth cd Q X ret
  have hx := X.1
  have hb := X.2.1
  intro H locs ls hS hl
  have hl : lv_has ls 1 [(0, .ref (q 0))] := hl
  unfold X9_undo at hf
  refine lv_aload_n hx hb dX9_undo_0 rfl (lv_at hl 0 rfl) ?_
  refine m_get X hS fl_9_66 (vC_0_8 q cI cZ _) dX9_undo_1 ?_
  refine lv_aload_n hx hb dX9_undo_4 rfl (lv_at hl 0 rfl) ?_
  refine m_get X hS fl_9_38 (vC_0_4 q cI cZ _) dX9_undo_5 ?_
  obtain ⟨r1, c2, hq, hf⟩ := o_cal hf
  refine m_calli (rest := []) X hS hl.1 (c_X0_takeBack l D cI cZ q _ _ _ hq) cv_9_180 (oC_9 q cI cZ _) rfl rfl ⟨Nat.le_of_ble_eq_true rfl, Nat.le_of_ble_eq_true rfl⟩ ⟨Nat.zero_le _, Nat.zero_le _⟩ (Nat.le_of_ble_eq_true rfl) dX9_undo_8 (fun H locs hS => ?_)
  refine lv_if_eq (tgt := 24) hx hb dX9_undo_11 (by decide) (fun hc => ?_) (fun hc => ?_)
  · have hf := o_t hc hf
    refine lv_bipush (v := (-2 : Int32)) hx hb dX9_undo_24 (by decide) ?_
    exact ret hf hS dX9_undo_26
  · have hf := o_f hc hf
    refine lv_aload_n hx hb dX9_undo_14 rfl (lv_at hl 0 rfl) ?_
    refine m_get X hS fl_9_66 (vC_0_8 q cI cZ _) dX9_undo_15 ?_
    refine m_get X hS fl_9_184 (vC_9_3 q cI cZ _) dX9_undo_18 ?_
    refine lv_goto (tgt := 26) hx hb dX9_undo_21 (by decide) ?_
    exact ret hf hS dX9_undo_26

set_option maxHeartbeats 40000000 in
set_option maxRecDepth 100000 in
theorem c_X9_areTwo (l : Launch) (D : va_G) (cI cZ : ClassId) (q : Nat → Nat) (c : Mm) (sz : Nat) (v1 : Int32) (v2 : Int32) (R : Int32 × Mm) (hf : X9_areTwo v1 v2 c = some R) : m_Mi l yX9_areTwo cX9_areTwo 3 (some .boolean) 2 43 D cI cZ (mkC q cI cZ) 50 q [.ref (q 0), .int v1, .int v2] c sz R := by
  refine m_enter_z (own := RX9) (by decide) rfl (Nat.le_of_ble_eq_true rfl) ?_
  intro p e s m args below meth cd Q X ret
  have hx := X.1
  have hb := X.2.1
  intro H locs ls hS hl
  have hl : lv_has ls 3 [(0, .ref (q 0)), (1, .int v1), (2, .int v2)] := hl
  unfold X9_areTwo at hf
  refine lv_aload_n hx hb dX9_areTwo_0 rfl (lv_at hl 0 rfl) ?_
  refine lv_iload_n hx hb dX9_areTwo_1 rfl (lv_at hl 1 rfl) ?_
  obtain ⟨r1, c2, hq, hf⟩ := o_cal hf
  refine m_calli (rest := []) X hS hl.1 (c_X9_isBoat l D cI cZ q _ _ v1 _ hq) cv_9_120 (oC_0 q cI cZ _) rfl rfl ⟨Nat.le_of_ble_eq_true rfl, Nat.le_of_ble_eq_true rfl⟩ ⟨Nat.zero_le _, Nat.zero_le _⟩ (Nat.le_of_ble_eq_true rfl) dX9_areTwo_2 (fun H locs hS => ?_)
  refine lv_if_eq (tgt := 25) hx hb dX9_areTwo_5 (by decide) (fun hc => ?_) (fun hc => ?_)
  · have hf := o_t hc hf
    refine lv_iconst (v := (0 : Int32)) hx hb dX9_areTwo_25 (by decide) ?_
    exact ret (Or.inl rfl) hf hS dX9_areTwo_26
  · have hf := o_f hc hf
    refine lv_aload_n hx hb dX9_areTwo_8 rfl (lv_at hl 0 rfl) ?_
    refine lv_iload_n hx hb dX9_areTwo_9 rfl (lv_at hl 2 rfl) ?_
    obtain ⟨r3, c4, hq, hf⟩ := o_cal hf
    refine m_calli (rest := []) X hS hl.1 (c_X9_isBoat l D cI cZ q _ _ v2 _ hq) cv_9_120 (oC_0 q cI cZ _) rfl rfl ⟨Nat.le_of_ble_eq_true rfl, Nat.le_of_ble_eq_true rfl⟩ ⟨Nat.zero_le _, Nat.zero_le _⟩ (Nat.le_of_ble_eq_true rfl) dX9_areTwo_10 (fun H locs hS => ?_)
    refine lv_if_eq (tgt := 25) hx hb dX9_areTwo_13 (by decide) (fun hc => ?_) (fun hc => ?_)
    · have hf := o_t hc hf
      refine lv_iconst (v := (0 : Int32)) hx hb dX9_areTwo_25 (by decide) ?_
      exact ret (Or.inl rfl) hf hS dX9_areTwo_26
    · have hf := o_f hc hf
      refine lv_iload_n hx hb dX9_areTwo_16 rfl (lv_at hl 1 rfl) ?_
      refine lv_iload_n hx hb dX9_areTwo_17 rfl (lv_at hl 2 rfl) ?_
      refine lv_icmp_eq (tgt := 25) hx hb dX9_areTwo_18 (by decide) (fun hc => ?_) (fun hc => ?_)
      · have hf := o_t hc hf
        refine lv_iconst (v := (0 : Int32)) hx hb dX9_areTwo_25 (by decide) ?_
        exact ret (Or.inl rfl) hf hS dX9_areTwo_26
      · have hf := o_f hc hf
        refine lv_iconst (v := (1 : Int32)) hx hb dX9_areTwo_21 (by decide) ?_
        refine lv_goto (tgt := 26) hx hb dX9_areTwo_22 (by decide) ?_
        exact ret (Or.inr rfl) hf hS dX9_areTwo_26

set_option maxHeartbeats 40000000 in
set_option maxRecDepth 100000 in
theorem c_X9_who (l : Launch) (D : va_G) (cI cZ : ClassId) (q : Nat → Nat) (c : Mm) (sz : Nat) (v1 : Int32) (v2 : Int32) (v3 : Int32) (R : Int32 × Mm) (hf : X9_who v1 v2 v3 c = some R) : m_Mi l yX9_who cX9_who 4 (some .int) 3 65 D cI cZ (mkC q cI cZ) 50 q [.ref (q 0), .int v1, .int v2, .int v3] c sz R := by
  refine m_enter_i (own := RX9) (by decide) rfl (Nat.le_of_ble_eq_true rfl) ?_
  intro p e s m args below meth cd Q X ret
  have hx := X.1
  have hb := X.2.1
  intro H locs ls hS hl
  have hl : lv_has ls 4 [(0, .ref (q 0)), (1, .int v1), (2, .int v2), (3, .int v3)] := hl
  unfold X9_who at hf
  refine lv_iload_n hx hb dX9_who_0 rfl (lv_at hl 1 rfl) ?_
  obtain ⟨r1, c2, hq, hf⟩ := o_cal hf
  refine m_calls (rest := []) X hS hl.1 (c_X9_isRule l D cI cZ q _ _ v1 _ hq) cs_9_142 rfl rfl ⟨Nat.le_of_ble_eq_true rfl, Nat.le_of_ble_eq_true rfl⟩ ⟨Nat.zero_le _, Nat.zero_le _⟩ (Nat.le_of_ble_eq_true rfl) dX9_who_1 (fun H locs hS => ?_)
  refine lv_if_eq (tgt := 16) hx hb dX9_who_4 (by decide) (fun hc => ?_) (fun hc => ?_)
  · have hf := o_t hc hf
    refine lv_iconst (v := (-1 : Int32)) hx hb dX9_who_16 (by decide) ?_
    exact ret hf hS dX9_who_17
  · have hf := o_f hc hf
    refine lv_aload_n hx hb dX9_who_7 rfl (lv_at hl 0 rfl) ?_
    refine lv_iload_n hx hb dX9_who_8 rfl (lv_at hl 2 rfl) ?_
    refine lv_iload_n hx hb dX9_who_9 rfl (lv_at hl 3 rfl) ?_
    obtain ⟨r3, c4, hq, hf⟩ := o_cal hf
    refine m_calli (rest := []) X hS hl.1 (c_X9_areTwo l D cI cZ q _ _ v2 v3 _ hq) cv_9_187 (oC_0 q cI cZ _) rfl rfl ⟨Nat.le_of_ble_eq_true rfl, Nat.le_of_ble_eq_true rfl⟩ ⟨Nat.zero_le _, Nat.zero_le _⟩ (Nat.le_of_ble_eq_true rfl) dX9_who_10 (fun H locs hS => ?_)
    refine lv_if_ne (tgt := 18) hx hb dX9_who_13 (by decide) (fun hc => ?_) (fun hc => ?_)
    · have hf := o_f hc hf
      refine lv_aload_n hx hb dX9_who_18 rfl (lv_at hl 0 rfl) ?_
      refine m_get X hS fl_9_32 (vC_0_3 q cI cZ _) dX9_who_19 ?_
      refine m_get X hS fl_9_127 (vC_4_7 q cI cZ _) dX9_who_22 ?_
      refine lv_iload_n hx hb dX9_who_25 rfl (lv_at hl 2 rfl) ?_
      obtain ⟨hg, hf⟩ := o_gi hf
      refine m_ild X hS (aC_22 q cI cZ) hg dX9_who_26 ?_
      refine lv_aload_n hx hb dX9_who_27 rfl (lv_at hl 0 rfl) ?_
      refine m_get X hS fl_9_32 (vC_0_3 q cI cZ _) dX9_who_28 ?_
      refine m_get X hS fl_9_127 (vC_4_7 q cI cZ _) dX9_who_31 ?_
      refine lv_iload_n hx hb dX9_who_34 rfl (lv_at hl 3 rfl) ?_
      obtain ⟨hg, hf⟩ := o_gi hf
      refine m_ild X hS (aC_22 q cI cZ) hg dX9_who_35 ?_
      refine lv_icmp_ne (tgt := 42) hx hb dX9_who_36 (by decide) (fun hc => ?_) (fun hc => ?_)
      · have hf := o_f hc hf
        refine lv_aload_n hx hb dX9_who_42 rfl (lv_at hl 0 rfl) ?_
        refine m_get X hS fl_9_50 (vC_0_6 q cI cZ _) dX9_who_43 ?_
        refine lv_aload_n hx hb dX9_who_46 rfl (lv_at hl 0 rfl) ?_
        refine m_get X hS fl_9_38 (vC_0_4 q cI cZ _) dX9_who_47 ?_
        refine lv_iload_n hx hb dX9_who_50 rfl (lv_at hl 1 rfl) ?_
        refine lv_iload_n hx hb dX9_who_51 rfl (lv_at hl 2 rfl) ?_
        refine lv_iload_n hx hb dX9_who_52 rfl (lv_at hl 3 rfl) ?_
        obtain ⟨r5, c6, hq, hf⟩ := o_cal hf
        refine m_calli (rest := []) X hS hl.1 (c_X5_yielder l D cI cZ q _ _ 5 (Or.inl rfl) v1 v2 v3 _ hq) cv_9_191 (oC_7 q cI cZ _) rfl rfl ⟨Nat.le_of_ble_eq_true rfl, Nat.le_of_ble_eq_true rfl⟩ ⟨Nat.zero_le _, Nat.zero_le _⟩ (Nat.le_of_ble_eq_true rfl) dX9_who_53 (fun H locs hS => ?_)
        exact ret hf hS dX9_who_56
      · have hf := o_t hc hf
        refine lv_bipush (v := (-2 : Int32)) hx hb dX9_who_39 (by decide) ?_
        exact ret hf hS dX9_who_41
    · have hf := o_t hc hf
      refine lv_iconst (v := (-1 : Int32)) hx hb dX9_who_16 (by decide) ?_
      exact ret hf hS dX9_who_17

set_option maxHeartbeats 40000000 in
set_option maxRecDepth 100000 in
theorem c_X9_leastRule (l : Launch) (D : va_G) (cI cZ : ClassId) (q : Nat → Nat) (c : Mm) (sz : Nat) (R : Int32 × Mm) (hf : X9_leastRule c = some R) : m_Mi l yX9_leastRule cX9_leastRule 5 (some .int) 5 130 D cI cZ (mkC q cI cZ) 50 q [.ref (q 0)] c sz R := by
  refine m_enter_i (own := RX9) (by decide) rfl (Nat.le_of_ble_eq_true rfl) ?_
  intro p e s m args below meth cd Q X ret
  have hx := X.1
  have hb := X.2.1
  have k51 : ∀ (v1 : Int32) (v2 : Int32) (v3 : Int32) (rc19 : Int32 → Int32 → Int32 → Mm → Option (Int32 × Mm)) (hrc19 : ∀ (w1 : Int32) (w2 : Int32) (w3 : Int32) (c : Mm), rc19 w1 w2 w3 c = some R → m_G p l e (m_rm 5 130) s m args below meth cd Q D (mkC q cI cZ) 50 q 5 19 [(0, .ref (q 0)), (1, .int w1), (2, .int w2), (3, .int w3)] [] c) (c : Mm), X9_leastRule_j51 rc19 v1 v2 v3 c = some R → m_G p l e (m_rm 5 130) s m args below meth cd Q D (mkC q cI cZ) 50 q 5 51 [(0, .ref (q 0)), (1, .int v1), (2, .int v2), (3, .int v3)] [] c := by
    intro v1 v2 v3 rc19 hrc19 c hf H locs ls hS hl
    unfold X9_leastRule_j51 at hf
    obtain ⟨x1, ex⟩ : ∃ y : Int32, y = v3 + (1 : Int32) := ⟨_, rfl⟩
    have hf := o_bnd hf x1 ex
    refine lv_iinc (v := x1) (lv' := [(3, .int x1), (0, .ref (q 0)), (1, .int v1), (2, .int v2)]) hx hb dX9_leastRule_51 hl (k := 3) rfl (by rw [ex]; rfl) (by decide) rfl (fun ls hl => ?_)
    refine lv_goto (tgt := 19) hx hb dX9_leastRule_54 (by decide) ?_
    exact hrc19 v1 v2 x1 _ hf H locs ls hS (lv_sub hl [1, 2, 3, 0] rfl)
  have k19 : ∀ (n : Nat) (v1 : Int32) (v2 : Int32) (v3 : Int32) (c : Mm), m_lp3 (X9_leastRule_b19) n v1 v2 v3 c = some R → m_G p l e (m_rm 5 130) s m args below meth cd Q D (mkC q cI cZ) 50 q 5 19 [(0, .ref (q 0)), (1, .int v1), (2, .int v2), (3, .int v3)] [] c := by
    refine m_lp3_i ?_
    intro rc19 hrc19 v1 v2 v3 c hf H locs ls hS hl
    unfold X9_leastRule_b19 at hf
    refine lv_iload_n hx hb dX9_leastRule_19 rfl (lv_at hl 3 rfl) ?_
    refine lv_iconst (v := (4 : Int32)) hx hb dX9_leastRule_20 (by decide) ?_
    refine lv_icmp_ge (tgt := 57) hx hb dX9_leastRule_21 (by decide) (fun hc => ?_) (fun hc => ?_)
    · have hf := o_t hc hf
      refine lv_iload_n hx hb dX9_leastRule_57 rfl (lv_at hl 1 rfl) ?_
      exact ret hf hS dX9_leastRule_58
    · have hf := o_f hc hf
      refine lv_aload_n hx hb dX9_leastRule_24 rfl (lv_at hl 0 rfl) ?_
      refine m_get X hS fl_9_59 (vC_0_7 q cI cZ _) dX9_leastRule_25 ?_
      refine lv_aload_n hx hb dX9_leastRule_28 rfl (lv_at hl 0 rfl) ?_
      refine m_get X hS fl_9_38 (vC_0_4 q cI cZ _) dX9_leastRule_29 ?_
      refine lv_iload_n hx hb dX9_leastRule_32 rfl (lv_at hl 3 rfl) ?_
      refine lv_bipush (v := (120 : Int32)) hx hb dX9_leastRule_33 (by decide) ?_
      obtain ⟨r2, c3, hq, hf⟩ := o_cal hf
      refine m_calli (rest := []) X hS hl.1 (c_X2_run l D cI cZ q _ _ 5 (Or.inl rfl) v3 (120 : Int32) _ hq) cv_9_145 (oC_8 q cI cZ _) rfl rfl ⟨Nat.le_of_ble_eq_true rfl, Nat.le_of_ble_eq_true rfl⟩ ⟨Nat.zero_le _, Nat.zero_le _⟩ (Nat.le_of_ble_eq_true rfl) dX9_leastRule_35 (fun H locs hS => ?_)
      refine lv_istore (lv' := [(4, .int r2), (0, .ref (q 0)), (1, .int v1), (2, .int v2), (3, .int v3)]) hx hb dX9_leastRule_38 hl (by decide) rfl (fun ls hl => ?_)
      refine lv_iload hx hb dX9_leastRule_40 (lv_at hl 0 rfl) ?_
      refine lv_iload_n hx hb dX9_leastRule_42 rfl (lv_at hl 3 rfl) ?_
      refine lv_icmp_ge (tgt := 51) hx hb dX9_leastRule_43 (by decide) (fun hc => ?_) (fun hc => ?_)
      · have hf := o_t hc hf
        exact k51 v1 v2 v3 rc19 hrc19 _ hf H locs ls hS (lv_sub hl [1, 2, 3, 4] rfl)
      · have hf := o_f hc hf
        refine lv_iload hx hb dX9_leastRule_46 (lv_at hl 0 rfl) ?_
        refine lv_istore_n (lv' := [(2, .int r2), (4, .int r2), (0, .ref (q 0)), (1, .int v1), (3, .int v3)]) hx hb dX9_leastRule_48 rfl hl (by decide) rfl (fun ls hl => ?_)
        refine lv_iload_n hx hb dX9_leastRule_49 rfl (lv_at hl 4 rfl) ?_
        refine lv_istore_n (lv' := [(1, .int v3), (2, .int r2), (4, .int r2), (0, .ref (q 0)), (3, .int v3)]) hx hb dX9_leastRule_50 rfl hl (by decide) rfl (fun ls hl => ?_)
        exact k51 v3 r2 v3 rc19 hrc19 _ hf H locs ls hS (lv_sub hl [3, 0, 1, 4] rfl)
  intro H locs ls hS hl
  have hl : lv_has ls 5 [(0, .ref (q 0))] := hl
  unfold X9_leastRule at hf
  refine lv_iconst (v := (0 : Int32)) hx hb dX9_leastRule_0 (by decide) ?_
  refine lv_istore_n (lv' := [(1, .int (0 : Int32)), (0, .ref (q 0))]) hx hb dX9_leastRule_1 rfl hl (by decide) rfl (fun ls hl => ?_)
  refine lv_aload_n hx hb dX9_leastRule_2 rfl (lv_at hl 1 rfl) ?_
  refine m_get X hS fl_9_59 (vC_0_7 q cI cZ _) dX9_leastRule_3 ?_
  refine lv_aload_n hx hb dX9_leastRule_6 rfl (lv_at hl 1 rfl) ?_
  refine m_get X hS fl_9_38 (vC_0_4 q cI cZ _) dX9_leastRule_7 ?_
  refine lv_iconst (v := (0 : Int32)) hx hb dX9_leastRule_10 (by decide) ?_
  refine lv_bipush (v := (120 : Int32)) hx hb dX9_leastRule_11 (by decide) ?_
  obtain ⟨r4, c5, hq, hf⟩ := o_cal hf
  refine m_calli (rest := []) X hS hl.1 (c_X2_run l D cI cZ q _ _ 5 (Or.inl rfl) (0 : Int32) (120 : Int32) _ hq) cv_9_145 (oC_8 q cI cZ _) rfl rfl ⟨Nat.le_of_ble_eq_true rfl, Nat.le_of_ble_eq_true rfl⟩ ⟨Nat.zero_le _, Nat.zero_le _⟩ (Nat.le_of_ble_eq_true rfl) dX9_leastRule_13 (fun H locs hS => ?_)
  refine lv_istore_n (lv' := [(2, .int r4), (1, .int (0 : Int32)), (0, .ref (q 0))]) hx hb dX9_leastRule_16 rfl hl (by decide) rfl (fun ls hl => ?_)
  refine lv_iconst (v := (1 : Int32)) hx hb dX9_leastRule_17 (by decide) ?_
  refine lv_istore_n (lv' := [(3, .int (1 : Int32)), (2, .int r4), (1, .int (0 : Int32)), (0, .ref (q 0))]) hx hb dX9_leastRule_18 rfl hl (by decide) rfl (fun ls hl => ?_)
  exact k19 _ (0 : Int32) r4 (1 : Int32) _ hf H locs ls hS (lv_sub hl [3, 2, 1, 0] rfl)

set_option maxHeartbeats 40000000 in
set_option maxRecDepth 100000 in
theorem c_X9_best (l : Launch) (D : va_G) (cI cZ : ClassId) (q : Nat → Nat) (c : Mm) (sz : Nat) (v1 : Int32) (R : Int32 × Mm) (hf : X9_best v1 c = some R) : m_Mi l yX9_best cX9_best 3 (some .int) 6 154 D cI cZ (mkC q cI cZ) 50 q [.ref (q 0), .int v1] c sz R := by
  refine m_enter_i (own := RX9) (by decide) rfl (Nat.le_of_ble_eq_true rfl) ?_
  intro p e s m args below meth cd Q X ret
  have hx := X.1
  have hb := X.2.1
  intro H locs ls hS hl
  have hl : lv_has ls 3 [(0, .ref (q 0)), (1, .int v1)] := hl
  unfold X9_best at hf
  refine lv_iload_n hx hb dX9_best_0 rfl (lv_at hl 1 rfl) ?_
  refine lv_iconst (v := (0 : Int32)) hx hb dX9_best_1 (by decide) ?_
  refine lv_iconst (v := (1 : Int32)) hx hb dX9_best_2 (by decide) ?_
  obtain ⟨r1, c2, hq, hf⟩ := o_cal hf
  refine m_calls (rest := []) X hS hl.1 (c_X9_isWithin l D cI cZ q _ _ v1 (0 : Int32) (1 : Int32) _ hq) cs_9_107 rfl rfl ⟨Nat.le_of_ble_eq_true rfl, Nat.le_of_ble_eq_true rfl⟩ ⟨Nat.zero_le _, Nat.zero_le _⟩ (Nat.le_of_ble_eq_true rfl) dX9_best_3 (fun H locs hS => ?_)
  refine lv_if_ne (tgt := 11) hx hb dX9_best_6 (by decide) (fun hc => ?_) (fun hc => ?_)
  · have hf := o_f hc hf
    refine lv_aload_n hx hb dX9_best_11 rfl (lv_at hl 0 rfl) ?_
    obtain ⟨r3, c4, hq, hf⟩ := o_cal hf
    refine m_calli (rest := []) X hS hl.1 (c_X9_leastRule l D cI cZ q _ _ _ hq) cv_9_195 (oC_0 q cI cZ _) rfl rfl ⟨Nat.le_of_ble_eq_true rfl, Nat.le_of_ble_eq_true rfl⟩ ⟨Nat.zero_le _, Nat.zero_le _⟩ (Nat.le_of_ble_eq_true rfl) dX9_best_12 (fun H locs hS => ?_)
    refine lv_istore_n (lv' := [(2, .int r3), (0, .ref (q 0)), (1, .int v1)]) hx hb dX9_best_15 rfl hl (by decide) rfl (fun ls hl => ?_)
    refine lv_iload_n hx hb dX9_best_16 rfl (lv_at hl 2 rfl) ?_
    refine lv_if_ne (tgt := 24) hx hb dX9_best_17 (by decide) (fun hc => ?_) (fun hc => ?_)
    · have hf := o_f hc hf
      refine lv_aload_n hx hb dX9_best_24 rfl (lv_at hl 1 rfl) ?_
      refine m_get X hS fl_9_59 (vC_0_7 q cI cZ _) dX9_best_25 ?_
      refine lv_aload_n hx hb dX9_best_28 rfl (lv_at hl 1 rfl) ?_
      refine m_get X hS fl_9_38 (vC_0_4 q cI cZ _) dX9_best_29 ?_
      refine lv_iload_n hx hb dX9_best_32 rfl (lv_at hl 0 rfl) ?_
      refine lv_bipush (v := (120 : Int32)) hx hb dX9_best_33 (by decide) ?_
      obtain ⟨r5, c6, hq, hf⟩ := o_cal hf
      refine m_calli (rest := []) X hS hl.1 (c_X2_run l D cI cZ q _ _ 5 (Or.inl rfl) r3 (120 : Int32) _ hq) cv_9_145 (oC_8 q cI cZ _) rfl rfl ⟨Nat.le_of_ble_eq_true rfl, Nat.le_of_ble_eq_true rfl⟩ ⟨Nat.zero_le _, Nat.zero_le _⟩ (Nat.le_of_ble_eq_true rfl) dX9_best_35 (fun H locs hS => ?_)
      exact ret hf hS dX9_best_38
    · have hf := o_t hc hf
      refine lv_iload_n hx hb dX9_best_20 rfl (lv_at hl 0 rfl) ?_
      refine lv_goto (tgt := 38) hx hb dX9_best_21 (by decide) ?_
      exact ret hf hS dX9_best_38
  · have hf := o_t hc hf
    refine lv_iconst (v := (-1 : Int32)) hx hb dX9_best_9 (by decide) ?_
    exact ret hf hS dX9_best_10

set_option maxHeartbeats 40000000 in
set_option maxRecDepth 100000 in
theorem c_X9_custom (l : Launch) (D : va_G) (cI cZ : ClassId) (q : Nat → Nat) (c : Mm) (sz : Nat) (R : Int32 × Mm) (hf : X9_custom c = some R) : m_Mi l yX9_custom cX9_custom 2 (some .int) 6 154 D cI cZ (mkC q cI cZ) 50 q [.ref (q 0)] c sz R := by
  refine m_enter_i (own := RX9) (by decide) rfl (Nat.le_of_ble_eq_true rfl) ?_
  intro p e s m args below meth cd Q X ret
  have hx := X.1
  have hb := X.2.1
  intro H locs ls hS hl
  have hl : lv_has ls 2 [(0, .ref (q 0))] := hl
  unfold X9_custom at hf
  refine lv_aload_n hx hb dX9_custom_0 rfl (lv_at hl 0 rfl) ?_
  refine m_get X hS fl_9_59 (vC_0_7 q cI cZ _) dX9_custom_1 ?_
  refine lv_aload_n hx hb dX9_custom_4 rfl (lv_at hl 0 rfl) ?_
  refine m_get X hS fl_9_38 (vC_0_4 q cI cZ _) dX9_custom_5 ?_
  refine lv_aload_n hx hb dX9_custom_8 rfl (lv_at hl 0 rfl) ?_
  obtain ⟨r1, c2, hq, hf⟩ := o_cal hf
  refine m_calli (rest := [.ref (q 5), .ref (q 8)]) X hS hl.1 (c_X9_leastRule l D cI cZ q _ _ _ hq) cv_9_195 (oC_0 q cI cZ _) rfl rfl ⟨Nat.le_of_ble_eq_true rfl, Nat.le_of_ble_eq_true rfl⟩ ⟨Nat.zero_le _, Nat.zero_le _⟩ (Nat.le_of_ble_eq_true rfl) dX9_custom_9 (fun H locs hS => ?_)
  refine lv_bipush (v := (120 : Int32)) hx hb dX9_custom_12 (by decide) ?_
  obtain ⟨r3, c4, hq, hf⟩ := o_cal hf
  refine m_calli (rest := []) X hS hl.1 (c_X2_run l D cI cZ q _ _ 5 (Or.inl rfl) r1 (120 : Int32) _ hq) cv_9_145 (oC_8 q cI cZ _) rfl rfl ⟨Nat.le_of_ble_eq_true rfl, Nat.le_of_ble_eq_true rfl⟩ ⟨Nat.zero_le _, Nat.zero_le _⟩ (Nat.le_of_ble_eq_true rfl) dX9_custom_14 (fun H locs hS => ?_)
  refine lv_istore_n (lv' := [(1, .int r3), (0, .ref (q 0))]) hx hb dX9_custom_17 rfl hl (by decide) rfl (fun ls hl => ?_)
  refine lv_aload_n hx hb dX9_custom_18 rfl (lv_at hl 1 rfl) ?_
  refine m_get X hS fl_9_59 (vC_0_7 q cI cZ _) dX9_custom_19 ?_
  refine lv_aload_n hx hb dX9_custom_22 rfl (lv_at hl 1 rfl) ?_
  refine m_get X hS fl_9_38 (vC_0_4 q cI cZ _) dX9_custom_23 ?_
  refine lv_iconst (v := (0 : Int32)) hx hb dX9_custom_26 (by decide) ?_
  refine lv_bipush (v := (120 : Int32)) hx hb dX9_custom_27 (by decide) ?_
  obtain ⟨r5, c6, hq, hf⟩ := o_cal hf
  refine m_calli (rest := []) X hS hl.1 (c_X2_run l D cI cZ q _ _ 5 (Or.inl rfl) (0 : Int32) (120 : Int32) _ hq) cv_9_145 (oC_8 q cI cZ _) rfl rfl ⟨Nat.le_of_ble_eq_true rfl, Nat.le_of_ble_eq_true rfl⟩ ⟨Nat.zero_le _, Nat.zero_le _⟩ (Nat.le_of_ble_eq_true rfl) dX9_custom_29 (fun H locs hS => ?_)
  refine lv_iload_n hx hb dX9_custom_32 rfl (lv_at hl 0 rfl) ?_
  refine lv_isub hx hb dX9_custom_33 ?_
  exact ret hf hS dX9_custom_34

set_option maxHeartbeats 40000000 in
set_option maxRecDepth 100000 in
theorem c_X3_copy (l : Launch) (D : va_G) (cI cZ : ClassId) (q : Nat → Nat) (c : Mm) (sz : Nat) (R : Mm) (hf : X3_copy c = some R) : m_Mv l yX3_copy cX3_copy 2 1 26 D cI cZ (mkC q cI cZ) 50 q [.ref (q 6), .ref (q 5)] c sz R := by
  refine m_enter_v (own := RX3) (by decide) rfl (Nat.le_of_ble_eq_true rfl) ?_
  intro p e s m args below meth cd Q X ret
  have hx := X.1
  have hb := X.2.1
  intro H locs ls hS hl
  have hl : lv_has ls 2 [(0, .ref (q 6)), (1, .ref (q 5))] := hl
  unfold X3_copy at hf
  refine lv_aload_n hx hb dX3_copy_0 rfl (lv_at hl 1 rfl) ?_
  refine m_get X hS fl_3_9 (vC_5_0 q cI cZ _) dX3_copy_1 ?_
  refine lv_iconst (v := (0 : Int32)) hx hb dX3_copy_4 (by decide) ?_
  refine lv_aload_n hx hb dX3_copy_5 rfl (lv_at hl 0 rfl) ?_
  refine m_get X hS fl_3_9 (vC_6_0 q cI cZ _) dX3_copy_6 ?_
  refine lv_iconst (v := (0 : Int32)) hx hb dX3_copy_9 (by decide) ?_
  refine lv_bipush (v := (6 : Int32)) hx hb dX3_copy_10 (by decide) ?_
  obtain ⟨hg, hf⟩ := o_gc hf
  refine m_copy X hS hl.1 cc_3_23 (aC_28 q cI cZ) (aC_30 q cI cZ) hg (Nat.le_of_ble_eq_true rfl) (Nat.le_of_ble_eq_true rfl) dX3_copy_12 (fun c1 ec H locs hS => ?_)
  have hf := o_bnd hf c1 ec
  refine lv_aload_n hx hb dX3_copy_15 rfl (lv_at hl 1 rfl) ?_
  refine m_get X hS fl_3_15 (vC_5_1 q cI cZ _) dX3_copy_16 ?_
  refine lv_iconst (v := (0 : Int32)) hx hb dX3_copy_19 (by decide) ?_
  refine lv_aload_n hx hb dX3_copy_20 rfl (lv_at hl 0 rfl) ?_
  refine m_get X hS fl_3_15 (vC_6_1 q cI cZ _) dX3_copy_21 ?_
  refine lv_iconst (v := (0 : Int32)) hx hb dX3_copy_24 (by decide) ?_
  refine lv_bipush (v := (6 : Int32)) hx hb dX3_copy_25 (by decide) ?_
  obtain ⟨hg, hf⟩ := o_gc hf
  refine m_copy X hS hl.1 cc_3_23 (aC_29 q cI cZ) (aC_31 q cI cZ) hg (Nat.le_of_ble_eq_true rfl) (Nat.le_of_ble_eq_true rfl) dX3_copy_27 (fun c2 ec H locs hS => ?_)
  have hf := o_bnd hf c2 ec
  exact ret hf hS dX3_copy_30

set_option maxHeartbeats 40000000 in
set_option maxRecDepth 100000 in
theorem c_X9_send (l : Launch) (D : va_G) (cI cZ : ClassId) (q : Nat → Nat) (c : Mm) (sz : Nat) (v1 : Int32) (v2 : Int32) (v3 : Int32) (R : Int32 × Mm) (hf : X9_send v1 v2 v3 c = some R) : m_Mi l yX9_send cX9_send 8 (some .int) 5 130 D cI cZ (mkC q cI cZ) 50 q [.ref (q 0), .int v1, .int v2, .int v3] c sz R := by
  refine m_enter_i (own := RX9) (by decide) rfl (Nat.le_of_ble_eq_true rfl) ?_
  intro p e s m args below meth cd Q X ret
  have hx := X.1
  have hb := X.2.1
  have k124 : ∀ (v3 : Int32) (v4 : Int32) (v5 : Int32) (c : Mm), X9_send_j124 v3 v4 v5 c = some R → m_G p l e (m_rm 5 130) s m args below meth cd Q D (mkC q cI cZ) 50 q 8 124 [(3, .int v3), (4, .int v4), (5, .int v5)] [] c := by
    intro v3 v4 v5 c hf H locs ls hS hl
    unfold X9_send_j124 at hf
    refine lv_iload_n hx hb dX9_send_124 rfl (lv_at hl 0 rfl) ?_
    refine lv_if_ne (tgt := 133) hx hb dX9_send_125 (by decide) (fun hc => ?_) (fun hc => ?_)
    · have hf := o_f hc hf
      refine lv_iload hx hb dX9_send_133 (lv_at hl 2 rfl) ?_
      exact ret hf hS dX9_send_135
    · have hf := o_t hc hf
      refine lv_iload hx hb dX9_send_128 (lv_at hl 1 rfl) ?_
      refine lv_goto (tgt := 135) hx hb dX9_send_130 (by decide) ?_
      exact ret hf hS dX9_send_135
  have k118 : ∀ (v1 : Int32) (v2 : Int32) (v3 : Int32) (v4 : Int32) (v5 : Int32) (v6 : Int32) (rc69 : Int32 → Int32 → Int32 → Mm → Option (Int32 × Mm)) (hrc69 : ∀ (w4 : Int32) (w5 : Int32) (w6 : Int32) (c : Mm), rc69 w4 w5 w6 c = some R → m_G p l e (m_rm 5 130) s m args below meth cd Q D (mkC q cI cZ) 50 q 8 69 [(0, .ref (q 0)), (1, .int v1), (2, .int v2), (3, .int v3), (4, .int w4), (5, .int w5), (6, .int w6)] [] c) (c : Mm), X9_send_j118 rc69 v1 v2 v3 v4 v5 v6 c = some R → m_G p l e (m_rm 5 130) s m args below meth cd Q D (mkC q cI cZ) 50 q 8 118 [(0, .ref (q 0)), (1, .int v1), (2, .int v2), (3, .int v3), (4, .int v4), (5, .int v5), (6, .int v6)] [] c := by
    intro v1 v2 v3 v4 v5 v6 rc69 hrc69 c hf H locs ls hS hl
    unfold X9_send_j118 at hf
    obtain ⟨x1, ex⟩ : ∃ y : Int32, y = v6 + (1 : Int32) := ⟨_, rfl⟩
    have hf := o_bnd hf x1 ex
    refine lv_iinc (v := x1) (lv' := [(6, .int x1), (0, .ref (q 0)), (1, .int v1), (2, .int v2), (3, .int v3), (4, .int v4), (5, .int v5)]) hx hb dX9_send_118 hl (k := 6) rfl (by rw [ex]; rfl) (by decide) rfl (fun ls hl => ?_)
    refine lv_goto (tgt := 69) hx hb dX9_send_121 (by decide) ?_
    exact hrc69 v4 v5 x1 _ hf H locs ls hS (lv_sub hl [1, 2, 3, 4, 5, 6, 0] rfl)
  have k69 : ∀ (v1 : Int32) (v2 : Int32) (v3 : Int32), ∀ (n : Nat) (v4 : Int32) (v5 : Int32) (v6 : Int32) (c : Mm), m_lp3 (X9_send_b69 v1 v2 v3) n v4 v5 v6 c = some R → m_G p l e (m_rm 5 130) s m args below meth cd Q D (mkC q cI cZ) 50 q 8 69 [(0, .ref (q 0)), (1, .int v1), (2, .int v2), (3, .int v3), (4, .int v4), (5, .int v5), (6, .int v6)] [] c := by
    intro v1 v2 v3
    refine m_lp3_i ?_
    intro rc69 hrc69 v4 v5 v6 c hf H locs ls hS hl
    unfold X9_send_b69 at hf
    refine lv_iload hx hb dX9_send_69 (lv_at hl 6 rfl) ?_
    refine lv_bipush (v := (30 : Int32)) hx hb dX9_send_71 (by decide) ?_
    refine lv_icmp_gt (tgt := 124) hx hb dX9_send_73 (by decide) (fun hc => ?_) (fun hc => ?_)
    · have hf := o_t hc hf
      exact k124 v3 v4 v5 _ hf H locs ls hS (lv_sub hl [3, 4, 5] rfl)
    · have hf := o_f hc hf
      refine lv_aload_n hx hb dX9_send_76 rfl (lv_at hl 0 rfl) ?_
      refine m_get X hS fl_9_42 (vC_0_5 q cI cZ _) dX9_send_77 ?_
      refine m_get X hS fl_9_139 (vC_6_1 q cI cZ _) dX9_send_80 ?_
      refine lv_iload_n hx hb dX9_send_83 rfl (lv_at hl 2 rfl) ?_
      refine lv_iload hx hb dX9_send_84 (lv_at hl 6 rfl) ?_
      obtain ⟨hg, hf⟩ := o_gi hf
      refine m_ist X hS (aC_31 q cI cZ) hg dX9_send_86 (fun c2 ec H locs hS => ?_)
      have hf := o_bnd hf c2 ec
      refine lv_aload_n hx hb dX9_send_87 rfl (lv_at hl 0 rfl) ?_
      refine m_get X hS fl_9_59 (vC_0_7 q cI cZ _) dX9_send_88 ?_
      refine lv_aload_n hx hb dX9_send_91 rfl (lv_at hl 0 rfl) ?_
      refine m_get X hS fl_9_42 (vC_0_5 q cI cZ _) dX9_send_92 ?_
      refine lv_iload_n hx hb dX9_send_95 rfl (lv_at hl 1 rfl) ?_
      refine lv_bipush (v := (120 : Int32)) hx hb dX9_send_96 (by decide) ?_
      obtain ⟨r3, c4, hq, hf⟩ := o_cal hf
      refine m_calli (rest := []) X hS hl.1 (c_X2_run l D cI cZ q _ _ 6 (Or.inr rfl) v1 (120 : Int32) _ hq) cv_9_145 (oC_8 q cI cZ _) rfl rfl ⟨Nat.le_of_ble_eq_true rfl, Nat.le_of_ble_eq_true rfl⟩ ⟨Nat.zero_le _, Nat.zero_le _⟩ (Nat.le_of_ble_eq_true rfl) dX9_send_98 (fun H locs hS => ?_)
      refine lv_istore (lv' := [(7, .int r3), (0, .ref (q 0)), (1, .int v1), (2, .int v2), (3, .int v3), (4, .int v4), (5, .int v5), (6, .int v6)]) hx hb dX9_send_101 hl (by decide) rfl (fun ls hl => ?_)
      refine lv_iload hx hb dX9_send_103 (lv_at hl 0 rfl) ?_
      refine lv_iload hx hb dX9_send_105 (lv_at hl 6 rfl) ?_
      refine lv_icmp_ge (tgt := 118) hx hb dX9_send_107 (by decide) (fun hc => ?_) (fun hc => ?_)
      · have hf := o_t hc hf
        exact k118 v1 v2 v3 v4 v5 v6 rc69 hrc69 _ hf H locs ls hS (lv_sub hl [1, 2, 3, 4, 5, 6, 7] rfl)
      · have hf := o_f hc hf
        refine lv_iload hx hb dX9_send_110 (lv_at hl 0 rfl) ?_
        refine lv_istore (lv' := [(5, .int r3), (7, .int r3), (0, .ref (q 0)), (1, .int v1), (2, .int v2), (3, .int v3), (4, .int v4), (6, .int v6)]) hx hb dX9_send_112 hl (by decide) rfl (fun ls hl => ?_)
        refine lv_iload hx hb dX9_send_114 (lv_at hl 7 rfl) ?_
        refine lv_istore (lv' := [(4, .int v6), (5, .int r3), (7, .int r3), (0, .ref (q 0)), (1, .int v1), (2, .int v2), (3, .int v3), (6, .int v6)]) hx hb dX9_send_116 hl (by decide) rfl (fun ls hl => ?_)
        exact k118 v1 v2 v3 v6 r3 v6 rc69 hrc69 _ hf H locs ls hS (lv_sub hl [3, 4, 5, 6, 0, 1, 7] rfl)
  intro H locs ls hS hl
  have hl : lv_has ls 8 [(0, .ref (q 0)), (1, .int v1), (2, .int v2), (3, .int v3)] := hl
  unfold X9_send at hf
  refine lv_iload_n hx hb dX9_send_0 rfl (lv_at hl 1 rfl) ?_
  obtain ⟨r5, c6, hq, hf⟩ := o_cal hf
  refine m_calls (rest := []) X hS hl.1 (c_X9_isRule l D cI cZ q _ _ v1 _ hq) cs_9_142 rfl rfl ⟨Nat.le_of_ble_eq_true rfl, Nat.le_of_ble_eq_true rfl⟩ ⟨Nat.zero_le _, Nat.zero_le _⟩ (Nat.le_of_ble_eq_true rfl) dX9_send_1 (fun H locs hS => ?_)
  refine lv_if_eq (tgt := 24) hx hb dX9_send_4 (by decide) (fun hc => ?_) (fun hc => ?_)
  · have hf := o_t hc hf
    refine lv_iconst (v := (-1 : Int32)) hx hb dX9_send_24 (by decide) ?_
    exact ret hf hS dX9_send_25
  · have hf := o_f hc hf
    refine lv_aload_n hx hb dX9_send_7 rfl (lv_at hl 0 rfl) ?_
    refine lv_iload_n hx hb dX9_send_8 rfl (lv_at hl 2 rfl) ?_
    obtain ⟨r7, c8, hq, hf⟩ := o_cal hf
    refine m_calli (rest := []) X hS hl.1 (c_X9_isBoat l D cI cZ q _ _ v2 _ hq) cv_9_120 (oC_0 q cI cZ _) rfl rfl ⟨Nat.le_of_ble_eq_true rfl, Nat.le_of_ble_eq_true rfl⟩ ⟨Nat.zero_le _, Nat.zero_le _⟩ (Nat.le_of_ble_eq_true rfl) dX9_send_9 (fun H locs hS => ?_)
    refine lv_if_eq (tgt := 24) hx hb dX9_send_12 (by decide) (fun hc => ?_) (fun hc => ?_)
    · have hf := o_t hc hf
      refine lv_iconst (v := (-1 : Int32)) hx hb dX9_send_24 (by decide) ?_
      exact ret hf hS dX9_send_25
    · have hf := o_f hc hf
      refine lv_iload_n hx hb dX9_send_15 rfl (lv_at hl 3 rfl) ?_
      refine lv_iconst (v := (0 : Int32)) hx hb dX9_send_16 (by decide) ?_
      refine lv_iconst (v := (1 : Int32)) hx hb dX9_send_17 (by decide) ?_
      obtain ⟨r9, c10, hq, hf⟩ := o_cal hf
      refine m_calls (rest := []) X hS hl.1 (c_X9_isWithin l D cI cZ q _ _ v3 (0 : Int32) (1 : Int32) _ hq) cs_9_107 rfl rfl ⟨Nat.le_of_ble_eq_true rfl, Nat.le_of_ble_eq_true rfl⟩ ⟨Nat.zero_le _, Nat.zero_le _⟩ (Nat.le_of_ble_eq_true rfl) dX9_send_18 (fun H locs hS => ?_)
      refine lv_if_ne (tgt := 26) hx hb dX9_send_21 (by decide) (fun hc => ?_) (fun hc => ?_)
      · have hf := o_f hc hf
        refine lv_aload_n hx hb dX9_send_26 rfl (lv_at hl 0 rfl) ?_
        refine m_get X hS fl_9_42 (vC_0_5 q cI cZ _) dX9_send_27 ?_
        refine lv_aload_n hx hb dX9_send_30 rfl (lv_at hl 0 rfl) ?_
        refine m_get X hS fl_9_38 (vC_0_4 q cI cZ _) dX9_send_31 ?_
        obtain ⟨c11, hq, hf⟩ := o_cav hf
        refine m_callv (rest := []) X hS hl.1 (c_X3_copy l D cI cZ q _ _ _ hq) cv_9_198 (oC_6 q cI cZ _) rfl rfl ⟨Nat.le_of_ble_eq_true rfl, Nat.le_of_ble_eq_true rfl⟩ ⟨Nat.zero_le _, Nat.zero_le _⟩ (Nat.le_of_ble_eq_true rfl) dX9_send_34 (fun H locs hS => ?_)
        refine lv_aload_n hx hb dX9_send_37 rfl (lv_at hl 0 rfl) ?_
        refine m_get X hS fl_9_42 (vC_0_5 q cI cZ _) dX9_send_38 ?_
        refine m_get X hS fl_9_139 (vC_6_1 q cI cZ _) dX9_send_41 ?_
        refine lv_iload_n hx hb dX9_send_44 rfl (lv_at hl 2 rfl) ?_
        refine lv_iconst (v := (0 : Int32)) hx hb dX9_send_45 (by decide) ?_
        obtain ⟨hg, hf⟩ := o_gi hf
        refine m_ist X hS (aC_31 q cI cZ) hg dX9_send_46 (fun c12 ec H locs hS => ?_)
        have hf := o_bnd hf c12 ec
        refine lv_iconst (v := (0 : Int32)) hx hb dX9_send_47 (by decide) ?_
        refine lv_istore (lv' := [(4, .int (0 : Int32)), (0, .ref (q 0)), (1, .int v1), (2, .int v2), (3, .int v3)]) hx hb dX9_send_48 hl (by decide) rfl (fun ls hl => ?_)
        refine lv_aload_n hx hb dX9_send_50 rfl (lv_at hl 1 rfl) ?_
        refine m_get X hS fl_9_59 (vC_0_7 q cI cZ _) dX9_send_51 ?_
        refine lv_aload_n hx hb dX9_send_54 rfl (lv_at hl 1 rfl) ?_
        refine m_get X hS fl_9_42 (vC_0_5 q cI cZ _) dX9_send_55 ?_
        refine lv_iload_n hx hb dX9_send_58 rfl (lv_at hl 2 rfl) ?_
        refine lv_bipush (v := (120 : Int32)) hx hb dX9_send_59 (by decide) ?_
        obtain ⟨r13, c14, hq, hf⟩ := o_cal hf
        refine m_calli (rest := []) X hS hl.1 (c_X2_run l D cI cZ q _ _ 6 (Or.inr rfl) v1 (120 : Int32) _ hq) cv_9_145 (oC_8 q cI cZ _) rfl rfl ⟨Nat.le_of_ble_eq_true rfl, Nat.le_of_ble_eq_true rfl⟩ ⟨Nat.zero_le _, Nat.zero_le _⟩ (Nat.le_of_ble_eq_true rfl) dX9_send_61 (fun H locs hS => ?_)
        refine lv_istore (lv' := [(5, .int r13), (4, .int (0 : Int32)), (0, .ref (q 0)), (1, .int v1), (2, .int v2), (3, .int v3)]) hx hb dX9_send_64 hl (by decide) rfl (fun ls hl => ?_)
        refine lv_iconst (v := (1 : Int32)) hx hb dX9_send_66 (by decide) ?_
        refine lv_istore (lv' := [(6, .int (1 : Int32)), (5, .int r13), (4, .int (0 : Int32)), (0, .ref (q 0)), (1, .int v1), (2, .int v2), (3, .int v3)]) hx hb dX9_send_67 hl (by decide) rfl (fun ls hl => ?_)
        exact k69 v1 v2 v3 _ (0 : Int32) r13 (1 : Int32) _ hf H locs ls hS (lv_sub hl [3, 4, 5, 6, 2, 1, 0] rfl)
      · have hf := o_t hc hf
        refine lv_iconst (v := (-1 : Int32)) hx hb dX9_send_24 (by decide) ?_
        exact ret hf hS dX9_send_25

set_option maxHeartbeats 40000000 in
set_option maxRecDepth 100000 in
theorem c_X9_standExchanged (l : Launch) (D : va_G) (cI cZ : ClassId) (q : Nat → Nat) (c : Mm) (sz : Nat) (v1 : Int32) (v2 : Int32) (v3 : Int32) (R : Int32 × Mm) (hf : X9_standExchanged v1 v2 v3 c = some R) : m_Mi l yX9_standExchanged cX9_standExchanged 4 (some .int) 5 130 D cI cZ (mkC q cI cZ) 50 q [.ref (q 0), .int v1, .int v2, .int v3] c sz R := by
  refine m_enter_i (own := RX9) (by decide) rfl (Nat.le_of_ble_eq_true rfl) ?_
  intro p e s m args below meth cd Q X ret
  have hx := X.1
  have hb := X.2.1
  intro H locs ls hS hl
  have hl : lv_has ls 4 [(0, .ref (q 0)), (1, .int v1), (2, .int v2), (3, .int v3)] := hl
  unfold X9_standExchanged at hf
  refine lv_aload_n hx hb dX9_standExchanged_0 rfl (lv_at hl 0 rfl) ?_
  refine m_get X hS fl_9_42 (vC_0_5 q cI cZ _) dX9_standExchanged_1 ?_
  refine lv_aload_n hx hb dX9_standExchanged_4 rfl (lv_at hl 0 rfl) ?_
  refine m_get X hS fl_9_38 (vC_0_4 q cI cZ _) dX9_standExchanged_5 ?_
  obtain ⟨c1, hq, hf⟩ := o_cav hf
  refine m_callv (rest := []) X hS hl.1 (c_X3_copy l D cI cZ q _ _ _ hq) cv_9_198 (oC_6 q cI cZ _) rfl rfl ⟨Nat.le_of_ble_eq_true rfl, Nat.le_of_ble_eq_true rfl⟩ ⟨Nat.zero_le _, Nat.zero_le _⟩ (Nat.le_of_ble_eq_true rfl) dX9_standExchanged_8 (fun H locs hS => ?_)
  refine lv_aload_n hx hb dX9_standExchanged_11 rfl (lv_at hl 0 rfl) ?_
  refine m_get X hS fl_9_42 (vC_0_5 q cI cZ _) dX9_standExchanged_12 ?_
  refine m_get X hS fl_9_133 (vC_6_0 q cI cZ _) dX9_standExchanged_15 ?_
  refine lv_iload_n hx hb dX9_standExchanged_18 rfl (lv_at hl 2 rfl) ?_
  refine lv_aload_n hx hb dX9_standExchanged_19 rfl (lv_at hl 0 rfl) ?_
  refine m_get X hS fl_9_38 (vC_0_4 q cI cZ _) dX9_standExchanged_20 ?_
  refine m_get X hS fl_9_133 (vC_5_0 q cI cZ _) dX9_standExchanged_23 ?_
  refine lv_iload_n hx hb dX9_standExchanged_26 rfl (lv_at hl 3 rfl) ?_
  obtain ⟨hg, hf⟩ := o_gi hf
  refine m_ild X hS (aC_28 q cI cZ) hg dX9_standExchanged_27 ?_
  obtain ⟨hg, hf⟩ := o_gi hf
  refine m_ist X hS (aC_30 q cI cZ) hg dX9_standExchanged_28 (fun c2 ec H locs hS => ?_)
  have hf := o_bnd hf c2 ec
  refine lv_aload_n hx hb dX9_standExchanged_29 rfl (lv_at hl 0 rfl) ?_
  refine m_get X hS fl_9_42 (vC_0_5 q cI cZ _) dX9_standExchanged_30 ?_
  refine m_get X hS fl_9_133 (vC_6_0 q cI cZ _) dX9_standExchanged_33 ?_
  refine lv_iload_n hx hb dX9_standExchanged_36 rfl (lv_at hl 3 rfl) ?_
  refine lv_aload_n hx hb dX9_standExchanged_37 rfl (lv_at hl 0 rfl) ?_
  refine m_get X hS fl_9_38 (vC_0_4 q cI cZ _) dX9_standExchanged_38 ?_
  refine m_get X hS fl_9_133 (vC_5_0 q cI cZ _) dX9_standExchanged_41 ?_
  refine lv_iload_n hx hb dX9_standExchanged_44 rfl (lv_at hl 2 rfl) ?_
  obtain ⟨hg, hf⟩ := o_gi hf
  refine m_ild X hS (aC_28 q cI cZ) hg dX9_standExchanged_45 ?_
  obtain ⟨hg, hf⟩ := o_gi hf
  refine m_ist X hS (aC_30 q cI cZ) hg dX9_standExchanged_46 (fun c3 ec H locs hS => ?_)
  have hf := o_bnd hf c3 ec
  refine lv_aload_n hx hb dX9_standExchanged_47 rfl (lv_at hl 0 rfl) ?_
  refine m_get X hS fl_9_59 (vC_0_7 q cI cZ _) dX9_standExchanged_48 ?_
  refine lv_aload_n hx hb dX9_standExchanged_51 rfl (lv_at hl 0 rfl) ?_
  refine m_get X hS fl_9_42 (vC_0_5 q cI cZ _) dX9_standExchanged_52 ?_
  refine lv_iload_n hx hb dX9_standExchanged_55 rfl (lv_at hl 1 rfl) ?_
  refine lv_bipush (v := (120 : Int32)) hx hb dX9_standExchanged_56 (by decide) ?_
  obtain ⟨r4, c5, hq, hf⟩ := o_cal hf
  refine m_calli (rest := []) X hS hl.1 (c_X2_run l D cI cZ q _ _ 6 (Or.inr rfl) v1 (120 : Int32) _ hq) cv_9_145 (oC_8 q cI cZ _) rfl rfl ⟨Nat.le_of_ble_eq_true rfl, Nat.le_of_ble_eq_true rfl⟩ ⟨Nat.zero_le _, Nat.zero_le _⟩ (Nat.le_of_ble_eq_true rfl) dX9_standExchanged_58 (fun H locs hS => ?_)
  exact ret hf hS dX9_standExchanged_61

set_option maxHeartbeats 40000000 in
set_option maxRecDepth 100000 in
theorem c_X9_swap (l : Launch) (D : va_G) (cI cZ : ClassId) (q : Nat → Nat) (c : Mm) (sz : Nat) (v1 : Int32) (v2 : Int32) (R : Int32 × Mm) (hf : X9_swap v1 v2 c = some R) : m_Mi l yX9_swap cX9_swap 8 (some .int) 6 153 D cI cZ (mkC q cI cZ) 50 q [.ref (q 0), .int v1, .int v2] c sz R := by
  refine m_enter_i (own := RX9) (by decide) rfl (Nat.le_of_ble_eq_true rfl) ?_
  intro p e s m args below meth cd Q X ret
  have hx := X.1
  have hb := X.2.1
  have k123 : ∀ (v4 : Int32) (c : Mm), X9_swap_j123 v4 c = some R → m_G p l e (m_rm 6 153) s m args below meth cd Q D (mkC q cI cZ) 50 q 8 123 [(4, .int v4)] [] c := by
    intro v4 c hf H locs ls hS hl
    unfold X9_swap_j123 at hf
    refine lv_iload hx hb dX9_swap_123 (lv_at hl 0 rfl) ?_
    refine lv_goto (tgt := 129) hx hb dX9_swap_125 (by decide) ?_
    exact ret hf hS dX9_swap_129
  have k112 : ∀ (v2 : Int32) (v3 : Int32) (v4 : Int32) (c : Mm), X9_swap_j112 v2 v3 v4 c = some R → m_G p l e (m_rm 6 153) s m args below meth cd Q D (mkC q cI cZ) 50 q 8 112 [(2, .int v2), (3, .int v3), (4, .int v4)] [] c := by
    intro v2 v3 v4 c hf H locs ls hS hl
    unfold X9_swap_j112 at hf
    refine lv_iload_n hx hb dX9_swap_112 rfl (lv_at hl 0 rfl) ?_
    refine lv_if_eq (tgt := 123) hx hb dX9_swap_113 (by decide) (fun hc => ?_) (fun hc => ?_)
    · have hf := o_t hc hf
      exact k123 v4 _ hf H locs ls hS (lv_sub hl [2] rfl)
    · have hf := o_f hc hf
      refine lv_iload hx hb dX9_swap_116 (lv_at hl 2 rfl) ?_
      refine lv_bipush (v := (-4 : Int32)) hx hb dX9_swap_118 (by decide) ?_
      refine lv_icmp_ne (tgt := 128) hx hb dX9_swap_120 (by decide) (fun hc => ?_) (fun hc => ?_)
      · have hf := o_f hc hf
        refine lv_iload_n hx hb dX9_swap_128 rfl (lv_at hl 1 rfl) ?_
        exact ret hf hS dX9_swap_129
      · have hf := o_t hc hf
        exact k123 v4 _ hf H locs ls hS (lv_sub hl [2] rfl)
  have k106 : ∀ (v1 : Int32) (v2 : Int32) (v3 : Int32) (v4 : Int32) (v5 : Int32) (rc40 : Int32 → Int32 → Int32 → Mm → Option (Int32 × Mm)) (hrc40 : ∀ (w3 : Int32) (w4 : Int32) (w5 : Int32) (c : Mm), rc40 w3 w4 w5 c = some R → m_G p l e (m_rm 6 153) s m args below meth cd Q D (mkC q cI cZ) 50 q 8 40 [(0, .ref (q 0)), (1, .int v1), (2, .int v2), (3, .int w3), (4, .int w4), (5, .int w5)] [] c) (c : Mm), X9_swap_j106 rc40 v1 v2 v3 v4 v5 c = some R → m_G p l e (m_rm 6 153) s m args below meth cd Q D (mkC q cI cZ) 50 q 8 106 [(0, .ref (q 0)), (1, .int v1), (2, .int v2), (3, .int v3), (4, .int v4), (5, .int v5)] [] c := by
    intro v1 v2 v3 v4 v5 rc40 hrc40 c hf H locs ls hS hl
    unfold X9_swap_j106 at hf
    obtain ⟨x1, ex⟩ : ∃ y : Int32, y = v5 + (1 : Int32) := ⟨_, rfl⟩
    have hf := o_bnd hf x1 ex
    refine lv_iinc (v := x1) (lv' := [(5, .int x1), (0, .ref (q 0)), (1, .int v1), (2, .int v2), (3, .int v3), (4, .int v4)]) hx hb dX9_swap_106 hl (k := 5) rfl (by rw [ex]; rfl) (by decide) rfl (fun ls hl => ?_)
    refine lv_goto (tgt := 40) hx hb dX9_swap_109 (by decide) ?_
    exact hrc40 v3 v4 x1 _ hf H locs ls hS (lv_sub hl [1, 2, 3, 4, 5, 0] rfl)
  have k100 : ∀ (v1 : Int32) (v2 : Int32) (v3 : Int32) (v4 : Int32) (v5 : Int32) (v6 : Int32) (rc40 : Int32 → Int32 → Int32 → Mm → Option (Int32 × Mm)) (hrc40 : ∀ (w3 : Int32) (w4 : Int32) (w5 : Int32) (c : Mm), rc40 w3 w4 w5 c = some R → m_G p l e (m_rm 6 153) s m args below meth cd Q D (mkC q cI cZ) 50 q 8 40 [(0, .ref (q 0)), (1, .int v1), (2, .int v2), (3, .int w3), (4, .int w4), (5, .int w5)] [] c) (rc58 : Int32 → Int32 → Int32 → Mm → Option (Int32 × Mm)) (hrc58 : ∀ (w3 : Int32) (w4 : Int32) (w6 : Int32) (c : Mm), rc58 w3 w4 w6 c = some R → m_G p l e (m_rm 6 153) s m args below meth cd Q D (mkC q cI cZ) 50 q 8 58 [(0, .ref (q 0)), (1, .int v1), (2, .int v2), (3, .int w3), (4, .int w4), (5, .int v5), (6, .int w6)] [] c) (c : Mm), X9_swap_j100 rc40 rc58 v1 v2 v3 v4 v5 v6 c = some R → m_G p l e (m_rm 6 153) s m args below meth cd Q D (mkC q cI cZ) 50 q 8 100 [(0, .ref (q 0)), (1, .int v1), (2, .int v2), (3, .int v3), (4, .int v4), (5, .int v5), (6, .int v6)] [] c := by
    intro v1 v2 v3 v4 v5 v6 rc40 hrc40 rc58 hrc58 c hf H locs ls hS hl
    unfold X9_swap_j100 at hf
    obtain ⟨x2, ex⟩ : ∃ y : Int32, y = v6 + (1 : Int32) := ⟨_, rfl⟩
    have hf := o_bnd hf x2 ex
    refine lv_iinc (v := x2) (lv' := [(6, .int x2), (0, .ref (q 0)), (1, .int v1), (2, .int v2), (3, .int v3), (4, .int v4), (5, .int v5)]) hx hb dX9_swap_100 hl (k := 6) rfl (by rw [ex]; rfl) (by decide) rfl (fun ls hl => ?_)
    refine lv_goto (tgt := 58) hx hb dX9_swap_103 (by decide) ?_
    exact hrc58 v3 v4 x2 _ hf H locs ls hS (lv_sub hl [1, 2, 3, 4, 5, 6, 0] rfl)
  have k58 : ∀ (v1 : Int32) (v2 : Int32) (v5 : Int32) (rc40 : Int32 → Int32 → Int32 → Mm → Option (Int32 × Mm)) (hrc40 : ∀ (w3 : Int32) (w4 : Int32) (w5 : Int32) (c : Mm), rc40 w3 w4 w5 c = some R → m_G p l e (m_rm 6 153) s m args below meth cd Q D (mkC q cI cZ) 50 q 8 40 [(0, .ref (q 0)), (1, .int v1), (2, .int v2), (3, .int w3), (4, .int w4), (5, .int w5)] [] c), ∀ (n : Nat) (v3 : Int32) (v4 : Int32) (v6 : Int32) (c : Mm), m_lp3 (X9_swap_b58 rc40 v1 v2 v5) n v3 v4 v6 c = some R → m_G p l e (m_rm 6 153) s m args below meth cd Q D (mkC q cI cZ) 50 q 8 58 [(0, .ref (q 0)), (1, .int v1), (2, .int v2), (3, .int v3), (4, .int v4), (5, .int v5), (6, .int v6)] [] c := by
    intro v1 v2 v5 rc40 hrc40
    refine m_lp3_i ?_
    intro rc58 hrc58 v3 v4 v6 c hf H locs ls hS hl
    unfold X9_swap_b58 at hf
    refine lv_iload hx hb dX9_swap_58 (lv_at hl 6 rfl) ?_
    refine lv_aload_n hx hb dX9_swap_60 rfl (lv_at hl 0 rfl) ?_
    refine m_get X hS fl_9_32 (vC_0_3 q cI cZ _) dX9_swap_61 ?_
    refine m_get X hS fl_9_117 (vC_4_0 q cI cZ _) dX9_swap_64 ?_
    refine lv_icmp_ge (tgt := 106) hx hb dX9_swap_67 (by decide) (fun hc => ?_) (fun hc => ?_)
    · have hf := o_t hc hf
      exact k106 v1 v2 v3 v4 v5 rc40 hrc40 _ hf H locs ls hS (lv_sub hl [0, 1, 2, 3, 4, 5] rfl)
    · have hf := o_f hc hf
      refine lv_aload_n hx hb dX9_swap_70 rfl (lv_at hl 0 rfl) ?_
      refine lv_iload_n hx hb dX9_swap_71 rfl (lv_at hl 1 rfl) ?_
      refine lv_iload hx hb dX9_swap_72 (lv_at hl 5 rfl) ?_
      refine lv_iload hx hb dX9_swap_74 (lv_at hl 6 rfl) ?_
      obtain ⟨r3, c4, hq, hf⟩ := o_cal hf
      refine m_calli (rest := []) X hS hl.1 (c_X9_standExchanged l D cI cZ q _ _ v1 v5 v6 _ hq) cv_9_202 (oC_0 q cI cZ _) rfl rfl ⟨Nat.le_of_ble_eq_true rfl, Nat.le_of_ble_eq_true rfl⟩ ⟨Nat.zero_le _, Nat.zero_le _⟩ (Nat.le_of_ble_eq_true rfl) dX9_swap_76 (fun H locs hS => ?_)
      refine lv_istore (lv' := [(7, .int r3), (0, .ref (q 0)), (1, .int v1), (2, .int v2), (3, .int v3), (4, .int v4), (5, .int v5), (6, .int v6)]) hx hb dX9_swap_79 hl (by decide) rfl (fun ls hl => ?_)
      refine lv_iload hx hb dX9_swap_81 (lv_at hl 0 rfl) ?_
      refine lv_iload_n hx hb dX9_swap_83 rfl (lv_at hl 4 rfl) ?_
      refine lv_icmp_ge (tgt := 100) hx hb dX9_swap_84 (by decide) (fun hc => ?_) (fun hc => ?_)
      · have hf := o_t hc hf
        exact k100 v1 v2 v3 v4 v5 v6 rc40 hrc40 rc58 hrc58 _ hf H locs ls hS (lv_sub hl [1, 2, 3, 4, 5, 6, 7] rfl)
      · have hf := o_f hc hf
        refine lv_iload hx hb dX9_swap_87 (lv_at hl 0 rfl) ?_
        refine lv_istore_n (lv' := [(3, .int r3), (7, .int r3), (0, .ref (q 0)), (1, .int v1), (2, .int v2), (4, .int v4), (5, .int v5), (6, .int v6)]) hx hb dX9_swap_89 rfl hl (by decide) rfl (fun ls hl => ?_)
        refine lv_bipush (v := (8 : Int32)) hx hb dX9_swap_90 (by decide) ?_
        refine lv_iload hx hb dX9_swap_92 (lv_at hl 6 rfl) ?_
        refine lv_imul hx hb dX9_swap_94 ?_
        refine lv_iload hx hb dX9_swap_95 (lv_at hl 7 rfl) ?_
        refine lv_iadd hx hb dX9_swap_97 ?_
        refine lv_topi (fun x5 ex => ?_)
        have hf := o_bnd hf x5 ex
        refine lv_istore (lv' := [(4, .int x5), (3, .int r3), (7, .int r3), (0, .ref (q 0)), (1, .int v1), (2, .int v2), (5, .int v5), (6, .int v6)]) hx hb dX9_swap_98 hl (by decide) rfl (fun ls hl => ?_)
        exact k100 v1 v2 r3 x5 v5 v6 rc40 hrc40 rc58 hrc58 _ hf H locs ls hS (lv_sub hl [3, 4, 5, 1, 0, 6, 7] rfl)
  have k40 : ∀ (v1 : Int32) (v2 : Int32), ∀ (n : Nat) (v3 : Int32) (v4 : Int32) (v5 : Int32) (c : Mm), m_lp3 (X9_swap_b40 v1 v2) n v3 v4 v5 c = some R → m_G p l e (m_rm 6 153) s m args below meth cd Q D (mkC q cI cZ) 50 q 8 40 [(0, .ref (q 0)), (1, .int v1), (2, .int v2), (3, .int v3), (4, .int v4), (5, .int v5)] [] c := by
    intro v1 v2
    refine m_lp3_i ?_
    intro rc40 hrc40 v3 v4 v5 c hf H locs ls hS hl
    unfold X9_swap_b40 at hf
    refine lv_iload hx hb dX9_swap_40 (lv_at hl 5 rfl) ?_
    refine lv_aload_n hx hb dX9_swap_42 rfl (lv_at hl 0 rfl) ?_
    refine m_get X hS fl_9_32 (vC_0_3 q cI cZ _) dX9_swap_43 ?_
    refine m_get X hS fl_9_117 (vC_4_0 q cI cZ _) dX9_swap_46 ?_
    refine lv_icmp_ge (tgt := 112) hx hb dX9_swap_49 (by decide) (fun hc => ?_) (fun hc => ?_)
    · have hf := o_t hc hf
      exact k112 v2 v3 v4 _ hf H locs ls hS (lv_sub hl [2, 3, 4] rfl)
    · have hf := o_f hc hf
      refine lv_iload hx hb dX9_swap_52 (lv_at hl 5 rfl) ?_
      refine lv_iconst (v := (1 : Int32)) hx hb dX9_swap_54 (by decide) ?_
      refine lv_iadd hx hb dX9_swap_55 ?_
      refine lv_topi (fun x6 ex => ?_)
      have hf := o_bnd hf x6 ex
      refine lv_istore (lv' := [(6, .int x6), (0, .ref (q 0)), (1, .int v1), (2, .int v2), (3, .int v3), (4, .int v4), (5, .int v5)]) hx hb dX9_swap_56 hl (by decide) rfl (fun ls hl => ?_)
      exact k58 v1 v2 v5 rc40 hrc40 _ v3 v4 x6 _ hf H locs ls hS (lv_sub hl [1, 2, 3, 4, 5, 6, 0] rfl)
  intro H locs ls hS hl
  have hl : lv_has ls 8 [(0, .ref (q 0)), (1, .int v1), (2, .int v2)] := hl
  unfold X9_swap at hf
  refine lv_iload_n hx hb dX9_swap_0 rfl (lv_at hl 1 rfl) ?_
  obtain ⟨r7, c8, hq, hf⟩ := o_cal hf
  refine m_calls (rest := []) X hS hl.1 (c_X9_isRule l D cI cZ q _ _ v1 _ hq) cs_9_142 rfl rfl ⟨Nat.le_of_ble_eq_true rfl, Nat.le_of_ble_eq_true rfl⟩ ⟨Nat.zero_le _, Nat.zero_le _⟩ (Nat.le_of_ble_eq_true rfl) dX9_swap_1 (fun H locs hS => ?_)
  refine lv_if_eq (tgt := 16) hx hb dX9_swap_4 (by decide) (fun hc => ?_) (fun hc => ?_)
  · have hf := o_t hc hf
    refine lv_iconst (v := (-1 : Int32)) hx hb dX9_swap_16 (by decide) ?_
    exact ret hf hS dX9_swap_17
  · have hf := o_f hc hf
    refine lv_iload_n hx hb dX9_swap_7 rfl (lv_at hl 2 rfl) ?_
    refine lv_iconst (v := (0 : Int32)) hx hb dX9_swap_8 (by decide) ?_
    refine lv_iconst (v := (1 : Int32)) hx hb dX9_swap_9 (by decide) ?_
    obtain ⟨r9, c10, hq, hf⟩ := o_cal hf
    refine m_calls (rest := []) X hS hl.1 (c_X9_isWithin l D cI cZ q _ _ v2 (0 : Int32) (1 : Int32) _ hq) cs_9_107 rfl rfl ⟨Nat.le_of_ble_eq_true rfl, Nat.le_of_ble_eq_true rfl⟩ ⟨Nat.zero_le _, Nat.zero_le _⟩ (Nat.le_of_ble_eq_true rfl) dX9_swap_10 (fun H locs hS => ?_)
    refine lv_if_ne (tgt := 18) hx hb dX9_swap_13 (by decide) (fun hc => ?_) (fun hc => ?_)
    · have hf := o_f hc hf
      refine lv_aload_n hx hb dX9_swap_18 rfl (lv_at hl 0 rfl) ?_
      refine m_get X hS fl_9_59 (vC_0_7 q cI cZ _) dX9_swap_19 ?_
      refine lv_aload_n hx hb dX9_swap_22 rfl (lv_at hl 0 rfl) ?_
      refine m_get X hS fl_9_38 (vC_0_4 q cI cZ _) dX9_swap_23 ?_
      refine lv_iload_n hx hb dX9_swap_26 rfl (lv_at hl 1 rfl) ?_
      refine lv_bipush (v := (120 : Int32)) hx hb dX9_swap_27 (by decide) ?_
      obtain ⟨r11, c12, hq, hf⟩ := o_cal hf
      refine m_calli (rest := []) X hS hl.1 (c_X2_run l D cI cZ q _ _ 5 (Or.inl rfl) v1 (120 : Int32) _ hq) cv_9_145 (oC_8 q cI cZ _) rfl rfl ⟨Nat.le_of_ble_eq_true rfl, Nat.le_of_ble_eq_true rfl⟩ ⟨Nat.zero_le _, Nat.zero_le _⟩ (Nat.le_of_ble_eq_true rfl) dX9_swap_29 (fun H locs hS => ?_)
      refine lv_istore_n (lv' := [(3, .int r11), (0, .ref (q 0)), (1, .int v1), (2, .int v2)]) hx hb dX9_swap_32 rfl hl (by decide) rfl (fun ls hl => ?_)
      refine lv_bipush (v := (-4 : Int32)) hx hb dX9_swap_33 (by decide) ?_
      refine lv_istore (lv' := [(4, .int (-4 : Int32)), (3, .int r11), (0, .ref (q 0)), (1, .int v1), (2, .int v2)]) hx hb dX9_swap_35 hl (by decide) rfl (fun ls hl => ?_)
      refine lv_iconst (v := (0 : Int32)) hx hb dX9_swap_37 (by decide) ?_
      refine lv_istore (lv' := [(5, .int (0 : Int32)), (4, .int (-4 : Int32)), (3, .int r11), (0, .ref (q 0)), (1, .int v1), (2, .int v2)]) hx hb dX9_swap_38 hl (by decide) rfl (fun ls hl => ?_)
      exact k40 v1 v2 _ r11 (-4 : Int32) (0 : Int32) _ hf H locs ls hS (lv_sub hl [3, 4, 5, 2, 1, 0] rfl)
    · have hf := o_t hc hf
      refine lv_iconst (v := (-1 : Int32)) hx hb dX9_swap_16 (by decide) ?_
      exact ret hf hS dX9_swap_17

set_option maxHeartbeats 40000000 in
set_option maxRecDepth 100000 in
theorem c_X9_minutesToSink (l : Launch) (D : va_G) (cI cZ : ClassId) (q : Nat → Nat) (c : Mm) (sz : Nat) (v1 : Int32) (R : Int32 × Mm) (hf : X9_minutesToSink v1 c = some R) : m_Mi l yX9_minutesToSink cX9_minutesToSink 4 (some .int) 1 21 D cI cZ (mkC q cI cZ) 50 q [.ref (q 0), .int v1] c sz R := by
  refine m_enter_i (own := RX9) (by decide) rfl (Nat.le_of_ble_eq_true rfl) ?_
  intro p e s m args below meth cd Q X ret
  have hx := X.1
  have hb := X.2.1
  intro H locs ls hS hl
  have hl : lv_has ls 4 [(0, .ref (q 0)), (1, .int v1)] := hl
  unfold X9_minutesToSink at hf
  refine lv_aload_n hx hb dX9_minutesToSink_0 rfl (lv_at hl 0 rfl) ?_
  refine m_get X hS fl_9_38 (vC_0_4 q cI cZ _) dX9_minutesToSink_1 ?_
  refine m_get X hS fl_9_133 (vC_5_0 q cI cZ _) dX9_minutesToSink_4 ?_
  refine lv_iload_n hx hb dX9_minutesToSink_7 rfl (lv_at hl 1 rfl) ?_
  obtain ⟨hg, hf⟩ := o_gi hf
  refine m_ild X hS (aC_28 q cI cZ) hg dX9_minutesToSink_8 ?_
  refine lv_iconst (v := (1 : Int32)) hx hb dX9_minutesToSink_9 (by decide) ?_
  refine lv_iadd hx hb dX9_minutesToSink_10 ?_
  refine lv_topi (fun x1 ex => ?_)
  have hf := o_bnd hf x1 ex
  refine lv_istore_n (lv' := [(2, .int x1), (0, .ref (q 0)), (1, .int v1)]) hx hb dX9_minutesToSink_11 rfl hl (by decide) rfl (fun ls hl => ?_)
  refine lv_aload_n hx hb dX9_minutesToSink_12 rfl (lv_at hl 1 rfl) ?_
  refine m_get X hS fl_9_32 (vC_0_3 q cI cZ _) dX9_minutesToSink_13 ?_
  refine m_get X hS fl_9_259 (vC_4_4 q cI cZ _) dX9_minutesToSink_16 ?_
  refine lv_iconst (v := (1 : Int32)) hx hb dX9_minutesToSink_19 (by decide) ?_
  refine m_max X hl.1 cm_9_223 (Nat.le_of_ble_eq_true rfl) (Nat.le_of_ble_eq_true rfl) (Nat.zero_le _) (Nat.zero_le _) dX9_minutesToSink_20 ?_
  refine lv_topi (fun x2 ex => ?_)
  have hf := o_bnd hf x2 ex
  refine lv_istore_n (lv' := [(3, .int x2), (2, .int x1), (0, .ref (q 0)), (1, .int v1)]) hx hb dX9_minutesToSink_23 rfl hl (by decide) rfl (fun ls hl => ?_)
  refine lv_iload_n hx hb dX9_minutesToSink_24 rfl (lv_at hl 1 rfl) ?_
  refine lv_iload_n hx hb dX9_minutesToSink_25 rfl (lv_at hl 0 rfl) ?_
  refine lv_iadd hx hb dX9_minutesToSink_26 ?_
  refine lv_iconst (v := (1 : Int32)) hx hb dX9_minutesToSink_27 (by decide) ?_
  refine lv_isub hx hb dX9_minutesToSink_28 ?_
  refine lv_iload_n hx hb dX9_minutesToSink_29 rfl (lv_at hl 0 rfl) ?_
  obtain ⟨hz, hf⟩ := o_gz hf
  refine lv_idiv hx hb dX9_minutesToSink_30 hz ?_
  exact ret hf hS dX9_minutesToSink_31

set_option maxHeartbeats 40000000 in
set_option maxRecDepth 100000 in
theorem c_X9_fall (l : Launch) (D : va_G) (cI cZ : ClassId) (q : Nat → Nat) (c : Mm) (sz : Nat) (v1 : Int32) (v2 : Int32) (v3 : Int32) (R : Int32 × Mm) (hf : X9_fall v1 v2 v3 c = some R) : m_Mi l yX9_fall cX9_fall 5 (some .int) 3 65 D cI cZ (mkC q cI cZ) 50 q [.ref (q 0), .int v1, .int v2, .int v3] c sz R := by
  refine m_enter_i (own := RX9) (by decide) rfl (Nat.le_of_ble_eq_true rfl) ?_
  intro p e s m args below meth cd Q X ret
  have hx := X.1
  have hb := X.2.1
  intro H locs ls hS hl
  have hl : lv_has ls 5 [(0, .ref (q 0)), (1, .int v1), (2, .int v2), (3, .int v3)] := hl
  unfold X9_fall at hf
  refine lv_aload_n hx hb dX9_fall_0 rfl (lv_at hl 0 rfl) ?_
  refine lv_iload_n hx hb dX9_fall_1 rfl (lv_at hl 1 rfl) ?_
  refine lv_iload_n hx hb dX9_fall_2 rfl (lv_at hl 2 rfl) ?_
  obtain ⟨r1, c2, hq, hf⟩ := o_cal hf
  refine m_calli (rest := []) X hS hl.1 (c_X9_areTwo l D cI cZ q _ _ v1 v2 _ hq) cv_9_187 (oC_0 q cI cZ _) rfl rfl ⟨Nat.le_of_ble_eq_true rfl, Nat.le_of_ble_eq_true rfl⟩ ⟨Nat.zero_le _, Nat.zero_le _⟩ (Nat.le_of_ble_eq_true rfl) dX9_fall_3 (fun H locs hS => ?_)
  refine lv_if_eq (tgt := 18) hx hb dX9_fall_6 (by decide) (fun hc => ?_) (fun hc => ?_)
  · have hf := o_t hc hf
    refine lv_iconst (v := (-1 : Int32)) hx hb dX9_fall_18 (by decide) ?_
    exact ret hf hS dX9_fall_19
  · have hf := o_f hc hf
    refine lv_iload_n hx hb dX9_fall_9 rfl (lv_at hl 3 rfl) ?_
    refine lv_iconst (v := (0 : Int32)) hx hb dX9_fall_10 (by decide) ?_
    refine lv_iconst (v := (1 : Int32)) hx hb dX9_fall_11 (by decide) ?_
    obtain ⟨r3, c4, hq, hf⟩ := o_cal hf
    refine m_calls (rest := []) X hS hl.1 (c_X9_isWithin l D cI cZ q _ _ v3 (0 : Int32) (1 : Int32) _ hq) cs_9_107 rfl rfl ⟨Nat.le_of_ble_eq_true rfl, Nat.le_of_ble_eq_true rfl⟩ ⟨Nat.zero_le _, Nat.zero_le _⟩ (Nat.le_of_ble_eq_true rfl) dX9_fall_12 (fun H locs hS => ?_)
    refine lv_if_ne (tgt := 20) hx hb dX9_fall_15 (by decide) (fun hc => ?_) (fun hc => ?_)
    · have hf := o_f hc hf
      refine lv_aload_n hx hb dX9_fall_20 rfl (lv_at hl 0 rfl) ?_
      refine lv_iload_n hx hb dX9_fall_21 rfl (lv_at hl 2 rfl) ?_
      obtain ⟨r5, c6, hq, hf⟩ := o_cal hf
      refine m_calli (rest := []) X hS hl.1 (c_X9_minutesToSink l D cI cZ q _ _ v2 _ hq) cv_9_206 (oC_0 q cI cZ _) rfl rfl ⟨Nat.le_of_ble_eq_true rfl, Nat.le_of_ble_eq_true rfl⟩ ⟨Nat.zero_le _, Nat.zero_le _⟩ (Nat.le_of_ble_eq_true rfl) dX9_fall_22 (fun H locs hS => ?_)
      refine lv_istore (lv' := [(4, .int r5), (0, .ref (q 0)), (1, .int v1), (2, .int v2), (3, .int v3)]) hx hb dX9_fall_25 hl (by decide) rfl (fun ls hl => ?_)
      refine lv_iload hx hb dX9_fall_27 (lv_at hl 0 rfl) ?_
      refine lv_aload_n hx hb dX9_fall_29 rfl (lv_at hl 1 rfl) ?_
      refine m_get X hS fl_9_32 (vC_0_3 q cI cZ _) dX9_fall_30 ?_
      refine m_get X hS fl_9_210 (vC_4_5 q cI cZ _) dX9_fall_33 ?_
      refine lv_icmp_le (tgt := 42) hx hb dX9_fall_36 (by decide) (fun hc => ?_) (fun hc => ?_)
      · have hf := o_t hc hf
        refine lv_iload_n hx hb dX9_fall_42 rfl (lv_at hl 4 rfl) ?_
        refine lv_if_ne (tgt := 51) hx hb dX9_fall_43 (by decide) (fun hc => ?_) (fun hc => ?_)
        · have hf := o_f hc hf
          refine lv_aload_n hx hb dX9_fall_51 rfl (lv_at hl 1 rfl) ?_
          refine m_get X hS fl_9_32 (vC_0_3 q cI cZ _) dX9_fall_52 ?_
          refine m_get X hS fl_9_210 (vC_4_5 q cI cZ _) dX9_fall_55 ?_
          exact ret hf hS dX9_fall_58
        · have hf := o_t hc hf
          refine lv_iload hx hb dX9_fall_46 (lv_at hl 0 rfl) ?_
          refine lv_goto (tgt := 58) hx hb dX9_fall_48 (by decide) ?_
          exact ret hf hS dX9_fall_58
      · have hf := o_f hc hf
        refine lv_bipush (v := (-4 : Int32)) hx hb dX9_fall_39 (by decide) ?_
        exact ret hf hS dX9_fall_41
    · have hf := o_t hc hf
      refine lv_iconst (v := (-1 : Int32)) hx hb dX9_fall_18 (by decide) ?_
      exact ret hf hS dX9_fall_19

set_option maxHeartbeats 40000000 in
set_option maxRecDepth 100000 in
theorem c_X9_power (l : Launch) (D : va_G) (cI cZ : ClassId) (q : Nat → Nat) (c : Mm) (sz : Nat) (v0 : Int32) (v1 : Int32) (R : Int32 × Mm) (hf : X9_power v0 v1 c = some R) : m_Mi l yX9_power cX9_power 4 (some .int) 0 0 D cI cZ (mkC q cI cZ) 50 q [.int v0, .int v1] c sz R := by
  refine m_enter_i (own := RX9) (by decide) rfl (Nat.le_of_ble_eq_true rfl) ?_
  intro p e s m args below meth cd Q X ret
  have hx := X.1
  have hb := X.2.1
  have k4 : ∀ (v0 : Int32) (v1 : Int32), ∀ (n : Nat) (v2 : Int32) (v3 : Int32) (c : Mm), m_lp2 (X9_power_b4 v0 v1) n v2 v3 c = some R → m_G p l e (m_rm 0 0) s m args below meth cd Q D (mkC q cI cZ) 50 q 4 4 [(0, .int v0), (1, .int v1), (2, .int v2), (3, .int v3)] [] c := by
    intro v0 v1
    refine m_lp2_i ?_
    intro rc4 hrc4 v2 v3 c hf H locs ls hS hl
    unfold X9_power_b4 at hf
    refine lv_iload_n hx hb dX9_power_4 rfl (lv_at hl 3 rfl) ?_
    refine lv_iload_n hx hb dX9_power_5 rfl (lv_at hl 1 rfl) ?_
    refine lv_icmp_ge (tgt := 19) hx hb dX9_power_6 (by decide) (fun hc => ?_) (fun hc => ?_)
    · have hf := o_t hc hf
      refine lv_iload_n hx hb dX9_power_19 rfl (lv_at hl 2 rfl) ?_
      exact ret hf hS dX9_power_20
    · have hf := o_f hc hf
      refine lv_iload_n hx hb dX9_power_9 rfl (lv_at hl 2 rfl) ?_
      refine lv_iload_n hx hb dX9_power_10 rfl (lv_at hl 0 rfl) ?_
      refine lv_imul hx hb dX9_power_11 ?_
      refine lv_topi (fun x1 ex => ?_)
      have hf := o_bnd hf x1 ex
      refine lv_istore_n (lv' := [(2, .int x1), (0, .int v0), (1, .int v1), (3, .int v3)]) hx hb dX9_power_12 rfl hl (by decide) rfl (fun ls hl => ?_)
      obtain ⟨x2, ex⟩ : ∃ y : Int32, y = v3 + (1 : Int32) := ⟨_, rfl⟩
      have hf := o_bnd hf x2 ex
      refine lv_iinc (v := x2) (lv' := [(3, .int x2), (2, .int x1), (0, .int v0), (1, .int v1)]) hx hb dX9_power_13 hl (k := 3) rfl (by rw [ex]; rfl) (by decide) rfl (fun ls hl => ?_)
      refine lv_goto (tgt := 4) hx hb dX9_power_16 (by decide) ?_
      exact hrc4 x1 x2 _ hf H locs ls hS (lv_sub hl [2, 3, 1, 0] rfl)
  intro H locs ls hS hl
  have hl : lv_has ls 4 [(0, .int v0), (1, .int v1)] := hl
  unfold X9_power at hf
  refine lv_iconst (v := (1 : Int32)) hx hb dX9_power_0 (by decide) ?_
  refine lv_istore_n (lv' := [(2, .int (1 : Int32)), (0, .int v0), (1, .int v1)]) hx hb dX9_power_1 rfl hl (by decide) rfl (fun ls hl => ?_)
  refine lv_iconst (v := (0 : Int32)) hx hb dX9_power_2 (by decide) ?_
  refine lv_istore_n (lv' := [(3, .int (0 : Int32)), (2, .int (1 : Int32)), (0, .int v0), (1, .int v1)]) hx hb dX9_power_3 rfl hl (by decide) rfl (fun ls hl => ?_)
  exact k4 v0 v1 _ (1 : Int32) (0 : Int32) _ hf H locs ls hS (lv_sub hl [2, 3, 1, 0] rfl)

set_option maxHeartbeats 40000000 in
set_option maxRecDepth 100000 in
theorem c_X9_waysToSinkLess (l : Launch) (D : va_G) (cI cZ : ClassId) (q : Nat → Nat) (c : Mm) (sz : Nat) (v0 : Int32) (v1 : Int32) (v2 : Int32) (R : Int32 × Mm) (hf : X9_waysToSinkLess v0 v1 v2 c = some R) : m_Mi l yX9_waysToSinkLess cX9_waysToSinkLess 6 (some .int) 1 23 D cI cZ (mkC q cI cZ) 50 q [.int v0, .int v1, .int v2] c sz R := by
  refine m_enter_i (own := RX9) (by decide) rfl (Nat.le_of_ble_eq_true rfl) ?_
  intro p e s m args below meth cd Q X ret
  have hx := X.1
  have hb := X.2.1
  have k8 : ∀ (v0 : Int32) (v1 : Int32) (v2 : Int32), ∀ (n : Nat) (v3 : Int32) (v4 : Int32) (v5 : Int32) (c : Mm), m_lp3 (X9_waysToSinkLess_b8 v0 v1 v2) n v3 v4 v5 c = some R → m_G p l e (m_rm 1 23) s m args below meth cd Q D (mkC q cI cZ) 50 q 6 8 [(0, .int v0), (1, .int v1), (2, .int v2), (3, .int v3), (4, .int v4), (5, .int v5)] [] c := by
    intro v0 v1 v2
    refine m_lp3_i ?_
    intro rc8 hrc8 v3 v4 v5 c hf H locs ls hS hl
    unfold X9_waysToSinkLess_b8 at hf
    refine lv_iload hx hb dX9_waysToSinkLess_8 (lv_at hl 5 rfl) ?_
    refine lv_iload_n hx hb dX9_waysToSinkLess_10 rfl (lv_at hl 1 rfl) ?_
    refine lv_icmp_gt (tgt := 64) hx hb dX9_waysToSinkLess_11 (by decide) (fun hc => ?_) (fun hc => ?_)
    · have hf := o_t hc hf
      refine lv_iload_n hx hb dX9_waysToSinkLess_64 rfl (lv_at hl 3 rfl) ?_
      exact ret hf hS dX9_waysToSinkLess_65
    · have hf := o_f hc hf
      refine lv_iload hx hb dX9_waysToSinkLess_14 (lv_at hl 5 rfl) ?_
      refine lv_iload_n hx hb dX9_waysToSinkLess_16 rfl (lv_at hl 0 rfl) ?_
      refine lv_icmp_ge (tgt := 64) hx hb dX9_waysToSinkLess_17 (by decide) (fun hc => ?_) (fun hc => ?_)
      · have hf := o_t hc hf
        refine lv_iload_n hx hb dX9_waysToSinkLess_64 rfl (lv_at hl 3 rfl) ?_
        exact ret hf hS dX9_waysToSinkLess_65
      · have hf := o_f hc hf
        refine lv_iload_n hx hb dX9_waysToSinkLess_20 rfl (lv_at hl 3 rfl) ?_
        refine lv_iload hx hb dX9_waysToSinkLess_21 (lv_at hl 4 rfl) ?_
        refine lv_iload_n hx hb dX9_waysToSinkLess_23 rfl (lv_at hl 2 rfl) ?_
        refine lv_iload hx hb dX9_waysToSinkLess_24 (lv_at hl 5 rfl) ?_
        obtain ⟨r1, c2, hq, hf⟩ := o_cal hf
        refine m_calls (rest := [.int v4, .int v3]) X hS hl.1 (c_X9_power l D cI cZ q _ _ v2 v5 _ hq) cs_9_216 rfl rfl ⟨Nat.le_of_ble_eq_true rfl, Nat.le_of_ble_eq_true rfl⟩ ⟨Nat.zero_le _, Nat.zero_le _⟩ (Nat.le_of_ble_eq_true rfl) dX9_waysToSinkLess_26 (fun H locs hS => ?_)
        refine lv_imul hx hb dX9_waysToSinkLess_29 ?_
        refine lv_bipush (v := (10 : Int32)) hx hb dX9_waysToSinkLess_30 (by decide) ?_
        refine lv_iload_n hx hb dX9_waysToSinkLess_32 rfl (lv_at hl 2 rfl) ?_
        refine lv_isub hx hb dX9_waysToSinkLess_33 ?_
        refine lv_iload_n hx hb dX9_waysToSinkLess_34 rfl (lv_at hl 1 rfl) ?_
        refine lv_iload hx hb dX9_waysToSinkLess_35 (lv_at hl 5 rfl) ?_
        refine lv_isub hx hb dX9_waysToSinkLess_37 ?_
        obtain ⟨r3, c4, hq, hf⟩ := o_cal hf
        refine m_calls (rest := [.int (v4 * r1), .int v3]) X hS hl.1 (c_X9_power l D cI cZ q _ _ ((10 : Int32) - v2) (v1 - v5) _ hq) cs_9_216 rfl rfl ⟨Nat.le_of_ble_eq_true rfl, Nat.le_of_ble_eq_true rfl⟩ ⟨Nat.zero_le _, Nat.zero_le _⟩ (Nat.le_of_ble_eq_true rfl) dX9_waysToSinkLess_38 (fun H locs hS => ?_)
        refine lv_imul hx hb dX9_waysToSinkLess_41 ?_
        refine lv_iadd hx hb dX9_waysToSinkLess_42 ?_
        refine lv_topi (fun x5 ex => ?_)
        have hf := o_bnd hf x5 ex
        refine lv_istore_n (lv' := [(3, .int x5), (0, .int v0), (1, .int v1), (2, .int v2), (4, .int v4), (5, .int v5)]) hx hb dX9_waysToSinkLess_43 rfl hl (by decide) rfl (fun ls hl => ?_)
        refine lv_iload hx hb dX9_waysToSinkLess_44 (lv_at hl 4 rfl) ?_
        refine lv_iload_n hx hb dX9_waysToSinkLess_46 rfl (lv_at hl 2 rfl) ?_
        refine lv_iload hx hb dX9_waysToSinkLess_47 (lv_at hl 5 rfl) ?_
        refine lv_isub hx hb dX9_waysToSinkLess_49 ?_
        refine lv_imul hx hb dX9_waysToSinkLess_50 ?_
        refine lv_iload hx hb dX9_waysToSinkLess_51 (lv_at hl 5 rfl) ?_
        refine lv_iconst (v := (1 : Int32)) hx hb dX9_waysToSinkLess_53 (by decide) ?_
        refine lv_iadd hx hb dX9_waysToSinkLess_54 ?_
        obtain ⟨hz, hf⟩ := o_gz hf
        refine lv_idiv hx hb dX9_waysToSinkLess_55 hz ?_
        refine lv_topi (fun x6 ex => ?_)
        have hf := o_bnd hf x6 ex
        refine lv_istore (lv' := [(4, .int x6), (3, .int x5), (0, .int v0), (1, .int v1), (2, .int v2), (5, .int v5)]) hx hb dX9_waysToSinkLess_56 hl (by decide) rfl (fun ls hl => ?_)
        obtain ⟨x7, ex⟩ : ∃ y : Int32, y = v5 + (1 : Int32) := ⟨_, rfl⟩
        have hf := o_bnd hf x7 ex
        refine lv_iinc (v := x7) (lv' := [(5, .int x7), (4, .int x6), (3, .int x5), (0, .int v0), (1, .int v1), (2, .int v2)]) hx hb dX9_waysToSinkLess_58 hl (k := 5) rfl (by rw [ex]; rfl) (by decide) rfl (fun ls hl => ?_)
        refine lv_goto (tgt := 8) hx hb dX9_waysToSinkLess_61 (by decide) ?_
        exact hrc8 x5 x6 x7 _ hf H locs ls hS (lv_sub hl [3, 4, 5, 2, 1, 0] rfl)
  intro H locs ls hS hl
  have hl : lv_has ls 6 [(0, .int v0), (1, .int v1), (2, .int v2)] := hl
  unfold X9_waysToSinkLess at hf
  refine lv_iconst (v := (0 : Int32)) hx hb dX9_waysToSinkLess_0 (by decide) ?_
  refine lv_istore_n (lv' := [(3, .int (0 : Int32)), (0, .int v0), (1, .int v1), (2, .int v2)]) hx hb dX9_waysToSinkLess_1 rfl hl (by decide) rfl (fun ls hl => ?_)
  refine lv_iconst (v := (1 : Int32)) hx hb dX9_waysToSinkLess_2 (by decide) ?_
  refine lv_istore (lv' := [(4, .int (1 : Int32)), (3, .int (0 : Int32)), (0, .int v0), (1, .int v1), (2, .int v2)]) hx hb dX9_waysToSinkLess_3 hl (by decide) rfl (fun ls hl => ?_)
  refine lv_iconst (v := (0 : Int32)) hx hb dX9_waysToSinkLess_5 (by decide) ?_
  refine lv_istore (lv' := [(5, .int (0 : Int32)), (4, .int (1 : Int32)), (3, .int (0 : Int32)), (0, .int v0), (1, .int v1), (2, .int v2)]) hx hb dX9_waysToSinkLess_6 hl (by decide) rfl (fun ls hl => ?_)
  exact k8 v0 v1 v2 _ (0 : Int32) (1 : Int32) (0 : Int32) _ hf H locs ls hS (lv_sub hl [3, 4, 5, 2, 1, 0] rfl)

set_option maxHeartbeats 40000000 in
set_option maxRecDepth 100000 in
theorem c_X9_commonDivisor (l : Launch) (D : va_G) (cI cZ : ClassId) (q : Nat → Nat) (c : Mm) (sz : Nat) (v0 : Int32) (v1 : Int32) (R : Int32 × Mm) (hf : X9_commonDivisor v0 v1 c = some R) : m_Mi l yX9_commonDivisor cX9_commonDivisor 6 (some .int) 1 21 D cI cZ (mkC q cI cZ) 50 q [.int v0, .int v1] c sz R := by
  refine m_enter_i (own := RX9) (by decide) rfl (Nat.le_of_ble_eq_true rfl) ?_
  intro p e s m args below meth cd Q X ret
  have hx := X.1
  have hb := X.2.1
  have k15 : ∀ (n : Nat) (v2 : Int32) (v3 : Int32) (v4 : Int32) (c : Mm), m_lp3 (X9_commonDivisor_b15) n v2 v3 v4 c = some R → m_G p l e (m_rm 1 21) s m args below meth cd Q D (mkC q cI cZ) 50 q 6 15 [(2, .int v2), (3, .int v3), (4, .int v4)] [] c := by
    refine m_lp3_i ?_
    intro rc15 hrc15 v2 v3 v4 c hf H locs ls hS hl
    unfold X9_commonDivisor_b15 at hf
    refine lv_iload hx hb dX9_commonDivisor_15 (lv_at hl 2 rfl) ?_
    refine lv_bipush (v := (64 : Int32)) hx hb dX9_commonDivisor_17 (by decide) ?_
    refine lv_icmp_ge (tgt := 42) hx hb dX9_commonDivisor_19 (by decide) (fun hc => ?_) (fun hc => ?_)
    · have hf := o_t hc hf
      refine lv_iload_n hx hb dX9_commonDivisor_42 rfl (lv_at hl 0 rfl) ?_
      exact ret hf hS dX9_commonDivisor_43
    · have hf := o_f hc hf
      refine lv_iload_n hx hb dX9_commonDivisor_22 rfl (lv_at hl 1 rfl) ?_
      refine lv_if_le (tgt := 42) hx hb dX9_commonDivisor_23 (by decide) (fun hc => ?_) (fun hc => ?_)
      · have hf := o_t hc hf
        refine lv_iload_n hx hb dX9_commonDivisor_42 rfl (lv_at hl 0 rfl) ?_
        exact ret hf hS dX9_commonDivisor_43
      · have hf := o_f hc hf
        refine lv_iload_n hx hb dX9_commonDivisor_26 rfl (lv_at hl 0 rfl) ?_
        refine lv_iload_n hx hb dX9_commonDivisor_27 rfl (lv_at hl 1 rfl) ?_
        obtain ⟨hz, hf⟩ := o_gz hf
        refine lv_irem hx hb dX9_commonDivisor_28 hz ?_
        refine lv_topi (fun x1 ex => ?_)
        have hf := o_bnd hf x1 ex
        refine lv_istore (lv' := [(5, .int x1), (2, .int v2), (3, .int v3), (4, .int v4)]) hx hb dX9_commonDivisor_29 hl (by decide) rfl (fun ls hl => ?_)
        refine lv_iload_n hx hb dX9_commonDivisor_31 rfl (lv_at hl 2 rfl) ?_
        refine lv_istore_n (lv' := [(2, .int v3), (5, .int x1), (3, .int v3), (4, .int v4)]) hx hb dX9_commonDivisor_32 rfl hl (by decide) rfl (fun ls hl => ?_)
        refine lv_iload hx hb dX9_commonDivisor_33 (lv_at hl 1 rfl) ?_
        refine lv_istore_n (lv' := [(3, .int x1), (2, .int v3), (5, .int x1), (4, .int v4)]) hx hb dX9_commonDivisor_35 rfl hl (by decide) rfl (fun ls hl => ?_)
        obtain ⟨x2, ex⟩ : ∃ y : Int32, y = v4 + (1 : Int32) := ⟨_, rfl⟩
        have hf := o_bnd hf x2 ex
        refine lv_iinc (v := x2) (lv' := [(4, .int x2), (3, .int x1), (2, .int v3), (5, .int x1)]) hx hb dX9_commonDivisor_36 hl (k := 3) rfl (by rw [ex]; rfl) (by decide) rfl (fun ls hl => ?_)
        refine lv_goto (tgt := 15) hx hb dX9_commonDivisor_39 (by decide) ?_
        exact hrc15 v3 x1 x2 _ hf H locs ls hS (lv_sub hl [2, 1, 0] rfl)
  intro H locs ls hS hl
  have hl : lv_has ls 6 [(0, .int v0), (1, .int v1)] := hl
  unfold X9_commonDivisor at hf
  refine lv_iload_n hx hb dX9_commonDivisor_0 rfl (lv_at hl 0 rfl) ?_
  refine lv_iload_n hx hb dX9_commonDivisor_1 rfl (lv_at hl 1 rfl) ?_
  refine m_max X hl.1 cm_9_223 (Nat.le_of_ble_eq_true rfl) (Nat.le_of_ble_eq_true rfl) (Nat.zero_le _) (Nat.zero_le _) dX9_commonDivisor_2 ?_
  refine lv_topi (fun x3 ex => ?_)
  have hf := o_bnd hf x3 ex
  refine lv_istore_n (lv' := [(2, .int x3), (0, .int v0), (1, .int v1)]) hx hb dX9_commonDivisor_5 rfl hl (by decide) rfl (fun ls hl => ?_)
  refine lv_iload_n hx hb dX9_commonDivisor_6 rfl (lv_at hl 1 rfl) ?_
  refine lv_iload_n hx hb dX9_commonDivisor_7 rfl (lv_at hl 2 rfl) ?_
  refine m_min X hl.1 cm_9_262 (Nat.le_of_ble_eq_true rfl) (Nat.le_of_ble_eq_true rfl) (Nat.zero_le _) (Nat.zero_le _) dX9_commonDivisor_8 ?_
  refine lv_topi (fun x4 ex => ?_)
  have hf := o_bnd hf x4 ex
  refine lv_istore_n (lv' := [(3, .int x4), (2, .int x3), (0, .int v0), (1, .int v1)]) hx hb dX9_commonDivisor_11 rfl hl (by decide) rfl (fun ls hl => ?_)
  refine lv_iconst (v := (0 : Int32)) hx hb dX9_commonDivisor_12 (by decide) ?_
  refine lv_istore (lv' := [(4, .int (0 : Int32)), (3, .int x4), (2, .int x3), (0, .int v0), (1, .int v1)]) hx hb dX9_commonDivisor_13 hl (by decide) rfl (fun ls hl => ?_)
  exact k15 _ x3 x4 (0 : Int32) _ hf H locs ls hS (lv_sub hl [2, 1, 0] rfl)

set_option maxHeartbeats 40000000 in
set_option maxRecDepth 100000 in
theorem c_X9_caught (l : Launch) (D : va_G) (cI cZ : ClassId) (q : Nat → Nat) (c : Mm) (sz : Nat) (v1 : Int32) (v2 : Int32) (v3 : Int32) (v4 : Int32) (R : Int32 × Mm) (hf : X9_caught v1 v2 v3 v4 c = some R) : m_Mi l yX9_caught cX9_caught 8 (some .int) 2 48 D cI cZ (mkC q cI cZ) 50 q [.ref (q 0), .int v1, .int v2, .int v3, .int v4] c sz R := by
  refine m_enter_i (own := RX9) (by decide) rfl (Nat.le_of_ble_eq_true rfl) ?_
  intro p e s m args below meth cd Q X ret
  have hx := X.1
  have hb := X.2.1
  have k81 : ∀ (v7 : Int32) (s0 : Int32) (c : Mm), X9_caught_j81 v7 s0 c = some R → m_G p l e (m_rm 2 48) s m args below meth cd Q D (mkC q cI cZ) 50 q 8 81 [(7, .int v7)] [.int s0] c := by
    intro v7 s0 c hf H locs ls hS hl
    unfold X9_caught_j81 at hf
    refine lv_iload hx hb dX9_caught_81 (lv_at hl 0 rfl) ?_
    refine lv_iconst (v := (1 : Int32)) hx hb dX9_caught_83 (by decide) ?_
    refine m_max X hl.1 cm_9_223 (Nat.le_of_ble_eq_true rfl) (Nat.le_of_ble_eq_true rfl) (Nat.zero_le _) (Nat.zero_le _) dX9_caught_84 ?_
    obtain ⟨hz, hf⟩ := o_gz hf
    refine lv_idiv hx hb dX9_caught_87 hz ?_
    exact ret hf hS dX9_caught_88
  intro H locs ls hS hl
  have hl : lv_has ls 8 [(0, .ref (q 0)), (1, .int v1), (2, .int v2), (3, .int v3), (4, .int v4)] := hl
  unfold X9_caught at hf
  refine lv_aload_n hx hb dX9_caught_0 rfl (lv_at hl 0 rfl) ?_
  refine lv_iload_n hx hb dX9_caught_1 rfl (lv_at hl 1 rfl) ?_
  obtain ⟨r1, c2, hq, hf⟩ := o_cal hf
  refine m_calli (rest := []) X hS hl.1 (c_X9_isBoat l D cI cZ q _ _ v1 _ hq) cv_9_120 (oC_0 q cI cZ _) rfl rfl ⟨Nat.le_of_ble_eq_true rfl, Nat.le_of_ble_eq_true rfl⟩ ⟨Nat.zero_le _, Nat.zero_le _⟩ (Nat.le_of_ble_eq_true rfl) dX9_caught_2 (fun H locs hS => ?_)
  refine lv_if_eq (tgt := 38) hx hb dX9_caught_5 (by decide) (fun hc => ?_) (fun hc => ?_)
  · have hf := o_t hc hf
    refine lv_iconst (v := (-1 : Int32)) hx hb dX9_caught_38 (by decide) ?_
    exact ret hf hS dX9_caught_39
  · have hf := o_f hc hf
    refine lv_iload_n hx hb dX9_caught_8 rfl (lv_at hl 2 rfl) ?_
    refine lv_iconst (v := (0 : Int32)) hx hb dX9_caught_9 (by decide) ?_
    refine lv_bipush (v := (6 : Int32)) hx hb dX9_caught_10 (by decide) ?_
    obtain ⟨r3, c4, hq, hf⟩ := o_cal hf
    refine m_calls (rest := []) X hS hl.1 (c_X9_isWithin l D cI cZ q _ _ v2 (0 : Int32) (6 : Int32) _ hq) cs_9_107 rfl rfl ⟨Nat.le_of_ble_eq_true rfl, Nat.le_of_ble_eq_true rfl⟩ ⟨Nat.zero_le _, Nat.zero_le _⟩ (Nat.le_of_ble_eq_true rfl) dX9_caught_12 (fun H locs hS => ?_)
    refine lv_if_eq (tgt := 38) hx hb dX9_caught_15 (by decide) (fun hc => ?_) (fun hc => ?_)
    · have hf := o_t hc hf
      refine lv_iconst (v := (-1 : Int32)) hx hb dX9_caught_38 (by decide) ?_
      exact ret hf hS dX9_caught_39
    · have hf := o_f hc hf
      refine lv_iload_n hx hb dX9_caught_18 rfl (lv_at hl 3 rfl) ?_
      refine lv_iconst (v := (0 : Int32)) hx hb dX9_caught_19 (by decide) ?_
      refine lv_bipush (v := (10 : Int32)) hx hb dX9_caught_20 (by decide) ?_
      obtain ⟨r5, c6, hq, hf⟩ := o_cal hf
      refine m_calls (rest := []) X hS hl.1 (c_X9_isWithin l D cI cZ q _ _ v3 (0 : Int32) (10 : Int32) _ hq) cs_9_107 rfl rfl ⟨Nat.le_of_ble_eq_true rfl, Nat.le_of_ble_eq_true rfl⟩ ⟨Nat.zero_le _, Nat.zero_le _⟩ (Nat.le_of_ble_eq_true rfl) dX9_caught_22 (fun H locs hS => ?_)
      refine lv_if_eq (tgt := 38) hx hb dX9_caught_25 (by decide) (fun hc => ?_) (fun hc => ?_)
      · have hf := o_t hc hf
        refine lv_iconst (v := (-1 : Int32)) hx hb dX9_caught_38 (by decide) ?_
        exact ret hf hS dX9_caught_39
      · have hf := o_f hc hf
        refine lv_iload hx hb dX9_caught_28 (lv_at hl 4 rfl) ?_
        refine lv_iconst (v := (0 : Int32)) hx hb dX9_caught_30 (by decide) ?_
        refine lv_iconst (v := (1 : Int32)) hx hb dX9_caught_31 (by decide) ?_
        obtain ⟨r7, c8, hq, hf⟩ := o_cal hf
        refine m_calls (rest := []) X hS hl.1 (c_X9_isWithin l D cI cZ q _ _ v4 (0 : Int32) (1 : Int32) _ hq) cs_9_107 rfl rfl ⟨Nat.le_of_ble_eq_true rfl, Nat.le_of_ble_eq_true rfl⟩ ⟨Nat.zero_le _, Nat.zero_le _⟩ (Nat.le_of_ble_eq_true rfl) dX9_caught_32 (fun H locs hS => ?_)
        refine lv_if_ne (tgt := 40) hx hb dX9_caught_35 (by decide) (fun hc => ?_) (fun hc => ?_)
        · have hf := o_f hc hf
          refine lv_aload_n hx hb dX9_caught_40 rfl (lv_at hl 0 rfl) ?_
          refine lv_iload_n hx hb dX9_caught_41 rfl (lv_at hl 1 rfl) ?_
          obtain ⟨r9, c10, hq, hf⟩ := o_cal hf
          refine m_calli (rest := []) X hS hl.1 (c_X9_minutesToSink l D cI cZ q _ _ v1 _ hq) cv_9_206 (oC_0 q cI cZ _) rfl rfl ⟨Nat.le_of_ble_eq_true rfl, Nat.le_of_ble_eq_true rfl⟩ ⟨Nat.zero_le _, Nat.zero_le _⟩ (Nat.le_of_ble_eq_true rfl) dX9_caught_42 (fun H locs hS => ?_)
          refine lv_iload_n hx hb dX9_caught_45 rfl (lv_at hl 2 rfl) ?_
          refine lv_iload_n hx hb dX9_caught_46 rfl (lv_at hl 3 rfl) ?_
          obtain ⟨r11, c12, hq, hf⟩ := o_cal hf
          refine m_calls (rest := []) X hS hl.1 (c_X9_waysToSinkLess l D cI cZ q _ _ r9 v2 v3 _ hq) cs_9_213 rfl rfl ⟨Nat.le_of_ble_eq_true rfl, Nat.le_of_ble_eq_true rfl⟩ ⟨Nat.zero_le _, Nat.zero_le _⟩ (Nat.le_of_ble_eq_true rfl) dX9_caught_47 (fun H locs hS => ?_)
          refine lv_istore (lv' := [(5, .int r11), (0, .ref (q 0)), (1, .int v1), (2, .int v2), (3, .int v3), (4, .int v4)]) hx hb dX9_caught_50 hl (by decide) rfl (fun ls hl => ?_)
          refine lv_bipush (v := (10 : Int32)) hx hb dX9_caught_52 (by decide) ?_
          refine lv_iload_n hx hb dX9_caught_54 rfl (lv_at hl 3 rfl) ?_
          obtain ⟨r13, c14, hq, hf⟩ := o_cal hf
          refine m_calls (rest := []) X hS hl.1 (c_X9_power l D cI cZ q _ _ (10 : Int32) v2 _ hq) cs_9_216 rfl rfl ⟨Nat.le_of_ble_eq_true rfl, Nat.le_of_ble_eq_true rfl⟩ ⟨Nat.zero_le _, Nat.zero_le _⟩ (Nat.le_of_ble_eq_true rfl) dX9_caught_55 (fun H locs hS => ?_)
          refine lv_istore (lv' := [(6, .int r13), (5, .int r11), (0, .ref (q 0)), (1, .int v1), (2, .int v2), (3, .int v3), (4, .int v4)]) hx hb dX9_caught_58 hl (by decide) rfl (fun ls hl => ?_)
          refine lv_iload hx hb dX9_caught_60 (lv_at hl 1 rfl) ?_
          refine lv_iload hx hb dX9_caught_62 (lv_at hl 0 rfl) ?_
          obtain ⟨r15, c16, hq, hf⟩ := o_cal hf
          refine m_calls (rest := []) X hS hl.1 (c_X9_commonDivisor l D cI cZ q _ _ r11 r13 _ hq) cs_9_220 rfl rfl ⟨Nat.le_of_ble_eq_true rfl, Nat.le_of_ble_eq_true rfl⟩ ⟨Nat.zero_le _, Nat.zero_le _⟩ (Nat.le_of_ble_eq_true rfl) dX9_caught_64 (fun H locs hS => ?_)
          refine lv_istore (lv' := [(7, .int r15), (6, .int r13), (5, .int r11), (0, .ref (q 0)), (1, .int v1), (2, .int v2), (3, .int v3), (4, .int v4)]) hx hb dX9_caught_67 hl (by decide) rfl (fun ls hl => ?_)
          refine lv_iload hx hb dX9_caught_69 (lv_at hl 7 rfl) ?_
          refine lv_if_ne (tgt := 79) hx hb dX9_caught_71 (by decide) (fun hc => ?_) (fun hc => ?_)
          · have hf := o_f hc hf
            refine lv_iload hx hb dX9_caught_79 (lv_at hl 1 rfl) ?_
            exact k81 r15 r13 _ hf H locs ls hS (lv_sub hl [0] rfl)
          · have hf := o_t hc hf
            refine lv_iload hx hb dX9_caught_74 (lv_at hl 2 rfl) ?_
            refine lv_goto (tgt := 81) hx hb dX9_caught_76 (by decide) ?_
            exact k81 r15 r11 _ hf H locs ls hS (lv_sub hl [0] rfl)
        · have hf := o_t hc hf
          refine lv_iconst (v := (-1 : Int32)) hx hb dX9_caught_38 (by decide) ?_
          exact ret hf hS dX9_caught_39
