set_option maxHeartbeats 40000000 in
set_option maxRecDepth 100000 in
theorem c_X9_standChoosing (l : Launch) (D : va_G) (cI cZ : ClassId) (q : Nat → Nat) (c : Mm) (sz : Nat) (v1 : Int32) (v2 : Int32) (v3 : Int32) (R : Int32 × Mm) (hf : X9_standChoosing v1 v2 v3 c = some R) : m_Mi l yX9_standChoosing cX9_standChoosing 4 (some .int) 0 0 D cI cZ (mkC q cI cZ) 50 q [.ref (q 0), .int v1, .int v2, .int v3] c sz R := by
  refine m_enter_i (own := RX9) (by decide) rfl (Nat.le_of_ble_eq_true rfl) ?_
  intro p e s m args below meth cd Q X ret
  have hx := X.1
  have hb := X.2.1
  intro H locs ls hS hl
  have hl : lv_has ls 4 [(0, .ref (q 0)), (1, .int v1), (2, .int v2), (3, .int v3)] := hl
  unfold X9_standChoosing at hf
  refine lv_iload_n hx hb dX9_standChoosing_0 rfl (lv_at hl 2 rfl) ?_
  refine lv_if_eq (tgt := 22) hx hb dX9_standChoosing_1 (by decide) (fun hc => ?_) (fun hc => ?_)
  · have hf := o_t hc hf
    refine lv_iload_n hx hb dX9_standChoosing_22 rfl (lv_at hl 3 rfl) ?_
    refine lv_if_eq (tgt := 30) hx hb dX9_standChoosing_23 (by decide) (fun hc => ?_) (fun hc => ?_)
    · have hf := o_t hc hf
      refine lv_aload_n hx hb dX9_standChoosing_30 rfl (lv_at hl 0 rfl) ?_
      refine m_get X hS fl_9_32 (vC_0_3 q cI cZ _) dX9_standChoosing_31 ?_
      refine m_get X hS fl_9_272 (vC_4_3 q cI cZ _) dX9_standChoosing_34 ?_
      exact ret hf hS dX9_standChoosing_37
    · have hf := o_f hc hf
      refine lv_iconst (v := (0 : Int32)) hx hb dX9_standChoosing_26 (by decide) ?_
      refine lv_goto (tgt := 37) hx hb dX9_standChoosing_27 (by decide) ?_
      exact ret hf hS dX9_standChoosing_37
  · have hf := o_f hc hf
    refine lv_aload_n hx hb dX9_standChoosing_4 rfl (lv_at hl 0 rfl) ?_
    refine m_get X hS fl_9_32 (vC_0_3 q cI cZ _) dX9_standChoosing_5 ?_
    refine m_get X hS fl_9_269 (vC_4_2 q cI cZ _) dX9_standChoosing_8 ?_
    refine lv_aload_n hx hb dX9_standChoosing_11 rfl (lv_at hl 0 rfl) ?_
    refine m_get X hS fl_9_38 (vC_0_4 q cI cZ _) dX9_standChoosing_12 ?_
    refine m_get X hS fl_9_133 (vC_5_0 q cI cZ _) dX9_standChoosing_15 ?_
    refine lv_iload_n hx hb dX9_standChoosing_18 rfl (lv_at hl 1 rfl) ?_
    obtain ⟨hg, hf⟩ := o_gi hf
    refine m_ild X hS (aC_28 q cI cZ) hg dX9_standChoosing_19 ?_
    refine lv_iadd hx hb dX9_standChoosing_20 ?_
    exact ret hf hS dX9_standChoosing_21

set_option maxHeartbeats 40000000 in
set_option maxRecDepth 100000 in
theorem c_X9_isRest (l : Launch) (D : va_G) (cI cZ : ClassId) (q : Nat → Nat) (c : Mm) (sz : Nat) (v1 : Int32) (v2 : Int32) (v3 : Int32) (R : Int32 × Mm) (hf : X9_isRest v1 v2 v3 c = some R) : m_Mi l yX9_isRest cX9_isRest 6 (some .boolean) 1 23 D cI cZ (mkC q cI cZ) 50 q [.ref (q 0), .int v1, .int v2, .int v3] c sz R := by
  refine m_enter_z (own := RX9) (by decide) rfl (Nat.le_of_ble_eq_true rfl) ?_
  intro p e s m args below meth cd Q X ret
  have hx := X.1
  have hb := X.2.1
  have k82 : ∀ (v4 : Int32) (s0 : Int32) (s2 : Int32) (s3 : Int32) (c : Mm), X9_isRest_j82 v4 s0 s2 s3 c = some R → m_G p l e (m_rm 1 23) s m args below meth cd Q D (mkC q cI cZ) 50 q 6 82 [(4, .int v4)] [.int s3, .int s2, .ref (q 0), .int s0] c := by
    intro v4 s0 s2 s3 c hf H locs ls hS hl
    unfold X9_isRest_j82 at hf
    refine lv_iload hx hb dX9_isRest_82 (lv_at hl 0 rfl) ?_
    obtain ⟨r1, c2, hq, hf⟩ := o_cal hf
    refine m_calli (rest := [.int s0]) X hS hl.1 (c_X9_standChoosing l D cI cZ q _ _ s2 s3 v4 _ hq) cv_9_265 (oC_0 q cI cZ _) rfl rfl ⟨Nat.le_of_ble_eq_true rfl, Nat.le_of_ble_eq_true rfl⟩ ⟨Nat.zero_le _, Nat.zero_le _⟩ (Nat.le_of_ble_eq_true rfl) dX9_isRest_84 (fun H locs hS => ?_)
    refine lv_icmp_gt (tgt := 94) hx hb dX9_isRest_87 (by decide) (fun hc => ?_) (fun hc => ?_)
    · have hf := o_t hc hf
      refine lv_iconst (v := (0 : Int32)) hx hb dX9_isRest_94 (by decide) ?_
      exact ret (Or.inl rfl) hf hS dX9_isRest_95
    · have hf := o_f hc hf
      refine lv_iconst (v := (1 : Int32)) hx hb dX9_isRest_90 (by decide) ?_
      refine lv_goto (tgt := 95) hx hb dX9_isRest_91 (by decide) ?_
      exact ret (Or.inr rfl) hf hS dX9_isRest_95
  have k53 : ∀ (v2 : Int32) (v4 : Int32) (v5 : Int32) (s0 : Int32) (s2 : Int32) (s3 : Int32) (c : Mm), X9_isRest_j53 v2 v4 v5 s0 s2 s3 c = some R → m_G p l e (m_rm 1 23) s m args below meth cd Q D (mkC q cI cZ) 50 q 6 53 [(0, .ref (q 0)), (2, .int v2), (4, .int v4), (5, .int v5)] [.int s3, .int s2, .ref (q 0), .int s0] c := by
    intro v2 v4 v5 s0 s2 s3 c hf H locs ls hS hl
    unfold X9_isRest_j53 at hf
    refine lv_iload hx hb dX9_isRest_53 (lv_at hl 3 rfl) ?_
    obtain ⟨r3, c4, hq, hf⟩ := o_cal hf
    refine m_calli (rest := [.int s0]) X hS hl.1 (c_X9_standChoosing l D cI cZ q _ _ s2 s3 v5 _ hq) cv_9_265 (oC_0 q cI cZ _) rfl rfl ⟨Nat.le_of_ble_eq_true rfl, Nat.le_of_ble_eq_true rfl⟩ ⟨Nat.zero_le _, Nat.zero_le _⟩ (Nat.le_of_ble_eq_true rfl) dX9_isRest_55 (fun H locs hS => ?_)
    refine lv_icmp_gt (tgt := 94) hx hb dX9_isRest_58 (by decide) (fun hc => ?_) (fun hc => ?_)
    · have hf := o_t hc hf
      refine lv_iconst (v := (0 : Int32)) hx hb dX9_isRest_94 (by decide) ?_
      exact ret (Or.inl rfl) hf hS dX9_isRest_95
    · have hf := o_f hc hf
      refine lv_aload_n hx hb dX9_isRest_61 rfl (lv_at hl 0 rfl) ?_
      refine lv_iload_n hx hb dX9_isRest_62 rfl (lv_at hl 1 rfl) ?_
      refine lv_iload hx hb dX9_isRest_63 (lv_at hl 3 rfl) ?_
      refine lv_iload hx hb dX9_isRest_65 (lv_at hl 2 rfl) ?_
      obtain ⟨r5, c6, hq, hf⟩ := o_cal hf
      refine m_calli (rest := []) X hS hl.1 (c_X9_standChoosing l D cI cZ q _ _ v2 v5 v4 _ hq) cv_9_265 (oC_0 q cI cZ _) rfl rfl ⟨Nat.le_of_ble_eq_true rfl, Nat.le_of_ble_eq_true rfl⟩ ⟨Nat.zero_le _, Nat.zero_le _⟩ (Nat.le_of_ble_eq_true rfl) dX9_isRest_67 (fun H locs hS => ?_)
      refine lv_aload_n hx hb dX9_isRest_70 rfl (lv_at hl 0 rfl) ?_
      refine lv_iload_n hx hb dX9_isRest_71 rfl (lv_at hl 1 rfl) ?_
      refine lv_iload hx hb dX9_isRest_72 (lv_at hl 3 rfl) ?_
      refine lv_if_ne (tgt := 81) hx hb dX9_isRest_74 (by decide) (fun hc => ?_) (fun hc => ?_)
      · have hf := o_f hc hf
        refine lv_iconst (v := (0 : Int32)) hx hb dX9_isRest_81 (by decide) ?_
        exact k82 v4 r5 v2 (0 : Int32) _ hf H locs ls hS (lv_sub hl [2] rfl)
      · have hf := o_t hc hf
        refine lv_iconst (v := (1 : Int32)) hx hb dX9_isRest_77 (by decide) ?_
        refine lv_goto (tgt := 82) hx hb dX9_isRest_78 (by decide) ?_
        exact k82 v4 r5 v2 (1 : Int32) _ hf H locs ls hS (lv_sub hl [2] rfl)
  have k30 : ∀ (v1 : Int32) (v2 : Int32) (v4 : Int32) (s0 : Int32) (c : Mm), X9_isRest_j30 v1 v2 v4 s0 c = some R → m_G p l e (m_rm 1 23) s m args below meth cd Q D (mkC q cI cZ) 50 q 6 30 [(0, .ref (q 0)), (1, .int v1), (2, .int v2), (4, .int v4)] [.int s0] c := by
    intro v1 v2 v4 s0 c hf H locs ls hS hl
    unfold X9_isRest_j30 at hf
    refine lv_istore (lv' := [(5, .int s0), (0, .ref (q 0)), (1, .int v1), (2, .int v2), (4, .int v4)]) hx hb dX9_isRest_30 hl (by decide) rfl (fun ls hl => ?_)
    refine lv_aload_n hx hb dX9_isRest_32 rfl (lv_at hl 1 rfl) ?_
    refine lv_iload_n hx hb dX9_isRest_33 rfl (lv_at hl 2 rfl) ?_
    refine lv_iload hx hb dX9_isRest_34 (lv_at hl 4 rfl) ?_
    refine lv_iload hx hb dX9_isRest_36 (lv_at hl 0 rfl) ?_
    obtain ⟨r7, c8, hq, hf⟩ := o_cal hf
    refine m_calli (rest := []) X hS hl.1 (c_X9_standChoosing l D cI cZ q _ _ v1 v4 s0 _ hq) cv_9_265 (oC_0 q cI cZ _) rfl rfl ⟨Nat.le_of_ble_eq_true rfl, Nat.le_of_ble_eq_true rfl⟩ ⟨Nat.zero_le _, Nat.zero_le _⟩ (Nat.le_of_ble_eq_true rfl) dX9_isRest_38 (fun H locs hS => ?_)
    refine lv_aload_n hx hb dX9_isRest_41 rfl (lv_at hl 1 rfl) ?_
    refine lv_iload_n hx hb dX9_isRest_42 rfl (lv_at hl 2 rfl) ?_
    refine lv_iload hx hb dX9_isRest_43 (lv_at hl 4 rfl) ?_
    refine lv_if_ne (tgt := 52) hx hb dX9_isRest_45 (by decide) (fun hc => ?_) (fun hc => ?_)
    · have hf := o_f hc hf
      refine lv_iconst (v := (0 : Int32)) hx hb dX9_isRest_52 (by decide) ?_
      exact k53 v2 v4 s0 r7 v1 (0 : Int32) _ hf H locs ls hS (lv_sub hl [1, 3, 4, 0] rfl)
    · have hf := o_t hc hf
      refine lv_iconst (v := (1 : Int32)) hx hb dX9_isRest_48 (by decide) ?_
      refine lv_goto (tgt := 53) hx hb dX9_isRest_49 (by decide) ?_
      exact k53 v2 v4 s0 r7 v1 (1 : Int32) _ hf H locs ls hS (lv_sub hl [1, 3, 4, 0] rfl)
  have k25 : ∀ (v1 : Int32) (v2 : Int32) (v4 : Int32) (c : Mm), X9_isRest_j25 v1 v2 v4 c = some R → m_G p l e (m_rm 1 23) s m args below meth cd Q D (mkC q cI cZ) 50 q 6 25 [(0, .ref (q 0)), (1, .int v1), (2, .int v2), (4, .int v4)] [] c := by
    intro v1 v2 v4 c hf H locs ls hS hl
    unfold X9_isRest_j25 at hf
    refine lv_iconst (v := (1 : Int32)) hx hb dX9_isRest_25 (by decide) ?_
    refine lv_goto (tgt := 30) hx hb dX9_isRest_26 (by decide) ?_
    exact k30 v1 v2 v4 (1 : Int32) _ hf H locs ls hS (lv_sub hl [0, 1, 2, 3] rfl)
  have k14 : ∀ (v1 : Int32) (v2 : Int32) (v3 : Int32) (s0 : Int32) (c : Mm), X9_isRest_j14 v1 v2 v3 s0 c = some R → m_G p l e (m_rm 1 23) s m args below meth cd Q D (mkC q cI cZ) 50 q 6 14 [(0, .ref (q 0)), (1, .int v1), (2, .int v2), (3, .int v3)] [.int s0] c := by
    intro v1 v2 v3 s0 c hf H locs ls hS hl
    unfold X9_isRest_j14 at hf
    refine lv_istore (lv' := [(4, .int s0), (0, .ref (q 0)), (1, .int v1), (2, .int v2), (3, .int v3)]) hx hb dX9_isRest_14 hl (by decide) rfl (fun ls hl => ?_)
    refine lv_iload_n hx hb dX9_isRest_16 rfl (lv_at hl 4 rfl) ?_
    refine lv_if_eq (tgt := 25) hx hb dX9_isRest_17 (by decide) (fun hc => ?_) (fun hc => ?_)
    · have hf := o_t hc hf
      exact k25 v1 v2 s0 _ hf H locs ls hS (lv_sub hl [1, 2, 3, 0] rfl)
    · have hf := o_f hc hf
      refine lv_iload_n hx hb dX9_isRest_20 rfl (lv_at hl 4 rfl) ?_
      refine lv_iconst (v := (2 : Int32)) hx hb dX9_isRest_21 (by decide) ?_
      refine lv_icmp_ne (tgt := 29) hx hb dX9_isRest_22 (by decide) (fun hc => ?_) (fun hc => ?_)
      · have hf := o_f hc hf
        refine lv_iconst (v := (0 : Int32)) hx hb dX9_isRest_29 (by decide) ?_
        exact k30 v1 v2 s0 (0 : Int32) _ hf H locs ls hS (lv_sub hl [1, 2, 3, 0] rfl)
      · have hf := o_t hc hf
        exact k25 v1 v2 s0 _ hf H locs ls hS (lv_sub hl [1, 2, 3, 0] rfl)
  have k9 : ∀ (v1 : Int32) (v2 : Int32) (v3 : Int32) (c : Mm), X9_isRest_j9 v1 v2 v3 c = some R → m_G p l e (m_rm 1 23) s m args below meth cd Q D (mkC q cI cZ) 50 q 6 9 [(0, .ref (q 0)), (1, .int v1), (2, .int v2), (3, .int v3)] [] c := by
    intro v1 v2 v3 c hf H locs ls hS hl
    unfold X9_isRest_j9 at hf
    refine lv_iconst (v := (1 : Int32)) hx hb dX9_isRest_9 (by decide) ?_
    refine lv_goto (tgt := 14) hx hb dX9_isRest_10 (by decide) ?_
    exact k14 v1 v2 v3 (1 : Int32) _ hf H locs ls hS (lv_sub hl [0, 1, 2, 3] rfl)
  intro H locs ls hS hl
  have hl : lv_has ls 6 [(0, .ref (q 0)), (1, .int v1), (2, .int v2), (3, .int v3)] := hl
  unfold X9_isRest at hf
  refine lv_iload_n hx hb dX9_isRest_0 rfl (lv_at hl 3 rfl) ?_
  refine lv_if_eq (tgt := 9) hx hb dX9_isRest_1 (by decide) (fun hc => ?_) (fun hc => ?_)
  · have hf := o_t hc hf
    exact k9 v1 v2 v3 _ hf H locs ls hS (lv_sub hl [0, 1, 2, 3] rfl)
  · have hf := o_f hc hf
    refine lv_iload_n hx hb dX9_isRest_4 rfl (lv_at hl 3 rfl) ?_
    refine lv_iconst (v := (1 : Int32)) hx hb dX9_isRest_5 (by decide) ?_
    refine lv_icmp_ne (tgt := 13) hx hb dX9_isRest_6 (by decide) (fun hc => ?_) (fun hc => ?_)
    · have hf := o_f hc hf
      refine lv_iconst (v := (0 : Int32)) hx hb dX9_isRest_13 (by decide) ?_
      exact k14 v1 v2 v3 (0 : Int32) _ hf H locs ls hS (lv_sub hl [0, 1, 2, 3] rfl)
    · have hf := o_t hc hf
      exact k9 v1 v2 v3 _ hf H locs ls hS (lv_sub hl [0, 1, 2, 3] rfl)

set_option maxHeartbeats 40000000 in
set_option maxRecDepth 100000 in
theorem c_X9_rests (l : Launch) (D : va_G) (cI cZ : ClassId) (q : Nat → Nat) (c : Mm) (sz : Nat) (v1 : Int32) (v2 : Int32) (v3 : Int32) (R : Int32 × Mm) (hf : X9_rests v1 v2 v3 c = some R) : m_Mi l yX9_rests cX9_rests 7 (some .int) 3 65 D cI cZ (mkC q cI cZ) 50 q [.ref (q 0), .int v1, .int v2, .int v3] c sz R := by
  refine m_enter_i (own := RX9) (by decide) rfl (Nat.le_of_ble_eq_true rfl) ?_
  intro p e s m args below meth cd Q X ret
  have hx := X.1
  have hb := X.2.1
  have k72 : ∀ (v3 : Int32) (v4 : Int32) (v5 : Int32) (c : Mm), X9_rests_j72 v3 v4 v5 c = some R → m_G p l e (m_rm 3 65) s m args below meth cd Q D (mkC q cI cZ) 50 q 7 72 [(3, .int v3), (4, .int v4), (5, .int v5)] [] c := by
    intro v3 v4 v5 c hf H locs ls hS hl
    unfold X9_rests_j72 at hf
    refine lv_iload_n hx hb dX9_rests_72 rfl (lv_at hl 0 rfl) ?_
    refine lv_if_ne (tgt := 81) hx hb dX9_rests_73 (by decide) (fun hc => ?_) (fun hc => ?_)
    · have hf := o_f hc hf
      refine lv_iload hx hb dX9_rests_81 (lv_at hl 2 rfl) ?_
      exact ret hf hS dX9_rests_83
    · have hf := o_t hc hf
      refine lv_iload hx hb dX9_rests_76 (lv_at hl 1 rfl) ?_
      refine lv_goto (tgt := 83) hx hb dX9_rests_78 (by decide) ?_
      exact ret hf hS dX9_rests_83
  have k66 : ∀ (v1 : Int32) (v2 : Int32) (v3 : Int32) (v4 : Int32) (v5 : Int32) (v6 : Int32) (rc30 : Int32 → Int32 → Int32 → Mm → Option (Int32 × Mm)) (hrc30 : ∀ (w4 : Int32) (w5 : Int32) (w6 : Int32) (c : Mm), rc30 w4 w5 w6 c = some R → m_G p l e (m_rm 3 65) s m args below meth cd Q D (mkC q cI cZ) 50 q 7 30 [(0, .ref (q 0)), (1, .int v1), (2, .int v2), (3, .int v3), (4, .int w4), (5, .int w5), (6, .int w6)] [] c) (c : Mm), X9_rests_j66 rc30 v1 v2 v3 v4 v5 v6 c = some R → m_G p l e (m_rm 3 65) s m args below meth cd Q D (mkC q cI cZ) 50 q 7 66 [(0, .ref (q 0)), (1, .int v1), (2, .int v2), (3, .int v3), (4, .int v4), (5, .int v5), (6, .int v6)] [] c := by
    intro v1 v2 v3 v4 v5 v6 rc30 hrc30 c hf H locs ls hS hl
    unfold X9_rests_j66 at hf
    obtain ⟨x1, ex⟩ : ∃ y : Int32, y = v6 + (1 : Int32) := ⟨_, rfl⟩
    have hf := o_bnd hf x1 ex
    refine lv_iinc (v := x1) (lv' := [(6, .int x1), (0, .ref (q 0)), (1, .int v1), (2, .int v2), (3, .int v3), (4, .int v4), (5, .int v5)]) hx hb dX9_rests_66 hl (k := 6) rfl (by rw [ex]; rfl) (by decide) rfl (fun ls hl => ?_)
    refine lv_goto (tgt := 30) hx hb dX9_rests_69 (by decide) ?_
    exact hrc30 v4 v5 x1 _ hf H locs ls hS (lv_sub hl [1, 2, 3, 4, 5, 6, 0] rfl)
  have k64 : ∀ (v1 : Int32) (v2 : Int32) (v3 : Int32) (v4 : Int32) (v6 : Int32) (s0 : Int32) (rc30 : Int32 → Int32 → Int32 → Mm → Option (Int32 × Mm)) (hrc30 : ∀ (w4 : Int32) (w5 : Int32) (w6 : Int32) (c : Mm), rc30 w4 w5 w6 c = some R → m_G p l e (m_rm 3 65) s m args below meth cd Q D (mkC q cI cZ) 50 q 7 30 [(0, .ref (q 0)), (1, .int v1), (2, .int v2), (3, .int v3), (4, .int w4), (5, .int w5), (6, .int w6)] [] c) (c : Mm), X9_rests_j64 rc30 v1 v2 v3 v4 v6 s0 c = some R → m_G p l e (m_rm 3 65) s m args below meth cd Q D (mkC q cI cZ) 50 q 7 64 [(0, .ref (q 0)), (1, .int v1), (2, .int v2), (3, .int v3), (4, .int v4), (6, .int v6)] [.int s0] c := by
    intro v1 v2 v3 v4 v6 s0 rc30 hrc30 c hf H locs ls hS hl
    unfold X9_rests_j64 at hf
    refine lv_istore (lv' := [(5, .int s0), (0, .ref (q 0)), (1, .int v1), (2, .int v2), (3, .int v3), (4, .int v4), (6, .int v6)]) hx hb dX9_rests_64 hl (by decide) rfl (fun ls hl => ?_)
    exact k66 v1 v2 v3 v4 s0 v6 rc30 hrc30 _ hf H locs ls hS (lv_sub hl [1, 2, 3, 4, 5, 0, 6] rfl)
  have k30 : ∀ (v1 : Int32) (v2 : Int32) (v3 : Int32), ∀ (n : Nat) (v4 : Int32) (v5 : Int32) (v6 : Int32) (c : Mm), m_lp3 (X9_rests_b30 v1 v2 v3) n v4 v5 v6 c = some R → m_G p l e (m_rm 3 65) s m args below meth cd Q D (mkC q cI cZ) 50 q 7 30 [(0, .ref (q 0)), (1, .int v1), (2, .int v2), (3, .int v3), (4, .int v4), (5, .int v5), (6, .int v6)] [] c := by
    intro v1 v2 v3
    refine m_lp3_i ?_
    intro rc30 hrc30 v4 v5 v6 c hf H locs ls hS hl
    unfold X9_rests_b30 at hf
    refine lv_iload hx hb dX9_rests_30 (lv_at hl 6 rfl) ?_
    refine lv_iconst (v := (4 : Int32)) hx hb dX9_rests_32 (by decide) ?_
    refine lv_icmp_ge (tgt := 72) hx hb dX9_rests_33 (by decide) (fun hc => ?_) (fun hc => ?_)
    · have hf := o_t hc hf
      exact k72 v3 v4 v5 _ hf H locs ls hS (lv_sub hl [3, 4, 5] rfl)
    · have hf := o_f hc hf
      refine lv_aload_n hx hb dX9_rests_36 rfl (lv_at hl 0 rfl) ?_
      refine lv_iload_n hx hb dX9_rests_37 rfl (lv_at hl 1 rfl) ?_
      refine lv_iload_n hx hb dX9_rests_38 rfl (lv_at hl 2 rfl) ?_
      refine lv_iload hx hb dX9_rests_39 (lv_at hl 6 rfl) ?_
      obtain ⟨r2, c3, hq, hf⟩ := o_cal hf
      refine m_calli (rest := []) X hS hl.1 (c_X9_isRest l D cI cZ q _ _ v1 v2 v6 _ hq) cv_9_228 (oC_0 q cI cZ _) rfl rfl ⟨Nat.le_of_ble_eq_true rfl, Nat.le_of_ble_eq_true rfl⟩ ⟨Nat.zero_le _, Nat.zero_le _⟩ (Nat.le_of_ble_eq_true rfl) dX9_rests_41 (fun H locs hS => ?_)
      refine lv_if_eq (tgt := 66) hx hb dX9_rests_44 (by decide) (fun hc => ?_) (fun hc => ?_)
      · have hf := o_t hc hf
        exact k66 v1 v2 v3 v4 v5 v6 rc30 hrc30 _ hf H locs ls hS (lv_sub hl [0, 1, 2, 3, 4, 5, 6] rfl)
      · have hf := o_f hc hf
        obtain ⟨x4, ex⟩ : ∃ y : Int32, y = v4 + (1 : Int32) := ⟨_, rfl⟩
        have hf := o_bnd hf x4 ex
        refine lv_iinc (v := x4) (lv' := [(4, .int x4), (0, .ref (q 0)), (1, .int v1), (2, .int v2), (3, .int v3), (5, .int v5), (6, .int v6)]) hx hb dX9_rests_47 hl (k := 4) rfl (by rw [ex]; rfl) (by decide) rfl (fun ls hl => ?_)
        refine lv_iload hx hb dX9_rests_50 (lv_at hl 5 rfl) ?_
        refine lv_bipush (v := (-4 : Int32)) hx hb dX9_rests_52 (by decide) ?_
        refine lv_icmp_ne (tgt := 62) hx hb dX9_rests_54 (by decide) (fun hc => ?_) (fun hc => ?_)
        · have hf := o_f hc hf
          refine lv_iload hx hb dX9_rests_62 (lv_at hl 5 rfl) ?_
          exact k64 v1 v2 v3 x4 v6 v5 rc30 hrc30 _ hf H locs ls hS (lv_sub hl [1, 2, 3, 4, 0, 6] rfl)
        · have hf := o_t hc hf
          refine lv_iload hx hb dX9_rests_57 (lv_at hl 6 rfl) ?_
          refine lv_goto (tgt := 64) hx hb dX9_rests_59 (by decide) ?_
          exact k64 v1 v2 v3 x4 v6 v6 rc30 hrc30 _ hf H locs ls hS (lv_sub hl [1, 2, 3, 4, 0, 6] rfl)
  intro H locs ls hS hl
  have hl : lv_has ls 7 [(0, .ref (q 0)), (1, .int v1), (2, .int v2), (3, .int v3)] := hl
  unfold X9_rests at hf
  refine lv_aload_n hx hb dX9_rests_0 rfl (lv_at hl 0 rfl) ?_
  refine lv_iload_n hx hb dX9_rests_1 rfl (lv_at hl 1 rfl) ?_
  refine lv_iload_n hx hb dX9_rests_2 rfl (lv_at hl 2 rfl) ?_
  obtain ⟨r5, c6, hq, hf⟩ := o_cal hf
  refine m_calli (rest := []) X hS hl.1 (c_X9_areTwo l D cI cZ q _ _ v1 v2 _ hq) cv_9_187 (oC_0 q cI cZ _) rfl rfl ⟨Nat.le_of_ble_eq_true rfl, Nat.le_of_ble_eq_true rfl⟩ ⟨Nat.zero_le _, Nat.zero_le _⟩ (Nat.le_of_ble_eq_true rfl) dX9_rests_3 (fun H locs hS => ?_)
  refine lv_if_eq (tgt := 18) hx hb dX9_rests_6 (by decide) (fun hc => ?_) (fun hc => ?_)
  · have hf := o_t hc hf
    refine lv_iconst (v := (-1 : Int32)) hx hb dX9_rests_18 (by decide) ?_
    exact ret hf hS dX9_rests_19
  · have hf := o_f hc hf
    refine lv_iload_n hx hb dX9_rests_9 rfl (lv_at hl 3 rfl) ?_
    refine lv_iconst (v := (0 : Int32)) hx hb dX9_rests_10 (by decide) ?_
    refine lv_iconst (v := (1 : Int32)) hx hb dX9_rests_11 (by decide) ?_
    obtain ⟨r7, c8, hq, hf⟩ := o_cal hf
    refine m_calls (rest := []) X hS hl.1 (c_X9_isWithin l D cI cZ q _ _ v3 (0 : Int32) (1 : Int32) _ hq) cs_9_107 rfl rfl ⟨Nat.le_of_ble_eq_true rfl, Nat.le_of_ble_eq_true rfl⟩ ⟨Nat.zero_le _, Nat.zero_le _⟩ (Nat.le_of_ble_eq_true rfl) dX9_rests_12 (fun H locs hS => ?_)
    refine lv_if_ne (tgt := 20) hx hb dX9_rests_15 (by decide) (fun hc => ?_) (fun hc => ?_)
    · have hf := o_f hc hf
      refine lv_iconst (v := (0 : Int32)) hx hb dX9_rests_20 (by decide) ?_
      refine lv_istore (lv' := [(4, .int (0 : Int32)), (0, .ref (q 0)), (1, .int v1), (2, .int v2), (3, .int v3)]) hx hb dX9_rests_21 hl (by decide) rfl (fun ls hl => ?_)
      refine lv_bipush (v := (-4 : Int32)) hx hb dX9_rests_23 (by decide) ?_
      refine lv_istore (lv' := [(5, .int (-4 : Int32)), (4, .int (0 : Int32)), (0, .ref (q 0)), (1, .int v1), (2, .int v2), (3, .int v3)]) hx hb dX9_rests_25 hl (by decide) rfl (fun ls hl => ?_)
      refine lv_iconst (v := (0 : Int32)) hx hb dX9_rests_27 (by decide) ?_
      refine lv_istore (lv' := [(6, .int (0 : Int32)), (5, .int (-4 : Int32)), (4, .int (0 : Int32)), (0, .ref (q 0)), (1, .int v1), (2, .int v2), (3, .int v3)]) hx hb dX9_rests_28 hl (by decide) rfl (fun ls hl => ?_)
      exact k30 v1 v2 v3 _ (0 : Int32) (-4 : Int32) (0 : Int32) _ hf H locs ls hS (lv_sub hl [3, 4, 5, 6, 2, 1, 0] rfl)
    · have hf := o_t hc hf
      refine lv_iconst (v := (-1 : Int32)) hx hb dX9_rests_18 (by decide) ?_
      exact ret hf hS dX9_rests_19

set_option maxHeartbeats 40000000 in
set_option maxRecDepth 100000 in
theorem c_X6_add (l : Launch) (D : va_G) (cI cZ : ClassId) (q : Nat → Nat) (c : Mm) (sz : Nat) (v1 : Int32) (v2 : Int32) (R : Int32 × Mm) (hf : X6_add v1 v2 c = some R) : m_Mi l yX6_add cX6_add 3 (some .boolean) 0 0 D cI cZ (mkC q cI cZ) 50 q [.ref (q 10), .int v1, .int v2] c sz R := by
  refine m_enter_z (own := RX6) (by decide) rfl (Nat.le_of_ble_eq_true rfl) ?_
  intro p e s m args below meth cd Q X ret
  have hx := X.1
  have hb := X.2.1
  intro H locs ls hS hl
  have hl : lv_has ls 3 [(0, .ref (q 10)), (1, .int v1), (2, .int v2)] := hl
  unfold X6_add at hf
  refine lv_aload_n hx hb dX6_add_0 rfl (lv_at hl 0 rfl) ?_
  refine m_get X hS fl_6_18 (vC_10_2 q cI cZ _) dX6_add_1 ?_
  refine lv_bipush (v := (8 : Int32)) hx hb dX6_add_4 (by decide) ?_
  refine lv_icmp_lt (tgt := 11) hx hb dX6_add_6 (by decide) (fun hc => ?_) (fun hc => ?_)
  · have hf := o_t hc hf
    refine lv_aload_n hx hb dX6_add_11 rfl (lv_at hl 0 rfl) ?_
    refine m_get X hS fl_6_9 (vC_10_0 q cI cZ _) dX6_add_12 ?_
    refine lv_aload_n hx hb dX6_add_15 rfl (lv_at hl 0 rfl) ?_
    refine m_get X hS fl_6_18 (vC_10_2 q cI cZ _) dX6_add_16 ?_
    refine lv_iload_n hx hb dX6_add_19 rfl (lv_at hl 1 rfl) ?_
    obtain ⟨hg, hf⟩ := o_gi hf
    refine m_ist X hS (aC_46 q cI cZ) hg dX6_add_20 (fun c1 ec H locs hS => ?_)
    have hf := o_bnd hf c1 ec
    refine lv_aload_n hx hb dX6_add_21 rfl (lv_at hl 0 rfl) ?_
    refine m_get X hS fl_6_15 (vC_10_1 q cI cZ _) dX6_add_22 ?_
    refine lv_aload_n hx hb dX6_add_25 rfl (lv_at hl 0 rfl) ?_
    refine m_get X hS fl_6_18 (vC_10_2 q cI cZ _) dX6_add_26 ?_
    refine lv_iload_n hx hb dX6_add_29 rfl (lv_at hl 2 rfl) ?_
    obtain ⟨hg, hf⟩ := o_gi hf
    refine m_ist X hS (aC_47 q cI cZ) hg dX6_add_30 (fun c2 ec H locs hS => ?_)
    have hf := o_bnd hf c2 ec
    refine lv_aload_n hx hb dX6_add_31 rfl (lv_at hl 0 rfl) ?_
    refine lv_dup hx hb dX6_add_32 rfl ?_
    refine m_get X hS fl_6_18 (vC_10_2 q cI cZ _) dX6_add_33 ?_
    refine lv_iconst (v := (1 : Int32)) hx hb dX6_add_36 (by decide) ?_
    refine lv_iadd hx hb dX6_add_37 ?_
    refine m_put X hS fp_6_18 (pC_10_2 q cI cZ) dX6_add_38 (fun c3 ec H locs hS => ?_)
    have hf := o_bnd hf c3 ec
    refine lv_iconst (v := (1 : Int32)) hx hb dX6_add_41 (by decide) ?_
    exact ret (Or.inr rfl) hf hS dX6_add_42
  · have hf := o_f hc hf
    refine lv_iconst (v := (0 : Int32)) hx hb dX6_add_9 (by decide) ?_
    exact ret (Or.inl rfl) hf hS dX6_add_10

set_option maxHeartbeats 40000000 in
set_option maxRecDepth 100000 in
theorem c_X9_seen (l : Launch) (D : va_G) (cI cZ : ClassId) (q : Nat → Nat) (c : Mm) (sz : Nat) (v1 : Int32) (v2 : Int32) (R : Int32 × Mm) (hf : X9_seen v1 v2 c = some R) : m_Mi l yX9_seen cX9_seen 3 (some .int) 3 65 D cI cZ (mkC q cI cZ) 50 q [.ref (q 0), .int v1, .int v2] c sz R := by
  refine m_enter_i (own := RX9) (by decide) rfl (Nat.le_of_ble_eq_true rfl) ?_
  intro p e s m args below meth cd Q X ret
  have hx := X.1
  have hb := X.2.1
  intro H locs ls hS hl
  have hl : lv_has ls 3 [(0, .ref (q 0)), (1, .int v1), (2, .int v2)] := hl
  unfold X9_seen at hf
  refine lv_aload_n hx hb dX9_seen_0 rfl (lv_at hl 0 rfl) ?_
  refine lv_iload_n hx hb dX9_seen_1 rfl (lv_at hl 1 rfl) ?_
  refine lv_iload_n hx hb dX9_seen_2 rfl (lv_at hl 2 rfl) ?_
  obtain ⟨r1, c2, hq, hf⟩ := o_cal hf
  refine m_calli (rest := []) X hS hl.1 (c_X9_areTwo l D cI cZ q _ _ v1 v2 _ hq) cv_9_187 (oC_0 q cI cZ _) rfl rfl ⟨Nat.le_of_ble_eq_true rfl, Nat.le_of_ble_eq_true rfl⟩ ⟨Nat.zero_le _, Nat.zero_le _⟩ (Nat.le_of_ble_eq_true rfl) dX9_seen_3 (fun H locs hS => ?_)
  refine lv_if_ne (tgt := 11) hx hb dX9_seen_6 (by decide) (fun hc => ?_) (fun hc => ?_)
  · have hf := o_f hc hf
    refine lv_aload_n hx hb dX9_seen_11 rfl (lv_at hl 0 rfl) ?_
    refine m_get X hS fl_9_32 (vC_0_3 q cI cZ _) dX9_seen_12 ?_
    refine m_get X hS fl_9_127 (vC_4_7 q cI cZ _) dX9_seen_15 ?_
    refine lv_iload_n hx hb dX9_seen_18 rfl (lv_at hl 1 rfl) ?_
    obtain ⟨hg, hf⟩ := o_gi hf
    refine m_ild X hS (aC_22 q cI cZ) hg dX9_seen_19 ?_
    refine lv_aload_n hx hb dX9_seen_20 rfl (lv_at hl 0 rfl) ?_
    refine m_get X hS fl_9_32 (vC_0_3 q cI cZ _) dX9_seen_21 ?_
    refine m_get X hS fl_9_127 (vC_4_7 q cI cZ _) dX9_seen_24 ?_
    refine lv_iload_n hx hb dX9_seen_27 rfl (lv_at hl 2 rfl) ?_
    obtain ⟨hg, hf⟩ := o_gi hf
    refine m_ild X hS (aC_22 q cI cZ) hg dX9_seen_28 ?_
    refine lv_icmp_ne (tgt := 35) hx hb dX9_seen_29 (by decide) (fun hc => ?_) (fun hc => ?_)
    · have hf := o_f hc hf
      refine lv_aload_n hx hb dX9_seen_35 rfl (lv_at hl 0 rfl) ?_
      refine m_get X hS fl_9_73 (vC_0_9 q cI cZ _) dX9_seen_36 ?_
      refine lv_iload_n hx hb dX9_seen_39 rfl (lv_at hl 1 rfl) ?_
      refine lv_iload_n hx hb dX9_seen_40 rfl (lv_at hl 2 rfl) ?_
      obtain ⟨r3, c4, hq, hf⟩ := o_cal hf
      refine m_calli (rest := []) X hS hl.1 (c_X6_add l D cI cZ q _ _ v1 v2 _ hq) cv_9_231 (oC_10 q cI cZ _) rfl rfl ⟨Nat.le_of_ble_eq_true rfl, Nat.le_of_ble_eq_true rfl⟩ ⟨Nat.zero_le _, Nat.zero_le _⟩ (Nat.le_of_ble_eq_true rfl) dX9_seen_41 (fun H locs hS => ?_)
      refine lv_if_eq (tgt := 57) hx hb dX9_seen_44 (by decide) (fun hc => ?_) (fun hc => ?_)
      · have hf := o_t hc hf
        refine lv_bipush (v := (-3 : Int32)) hx hb dX9_seen_57 (by decide) ?_
        exact ret hf hS dX9_seen_59
      · have hf := o_f hc hf
        refine lv_aload_n hx hb dX9_seen_47 rfl (lv_at hl 0 rfl) ?_
        refine m_get X hS fl_9_73 (vC_0_9 q cI cZ _) dX9_seen_48 ?_
        refine m_get X hS fl_9_233 (vC_10_2 q cI cZ _) dX9_seen_51 ?_
        refine lv_goto (tgt := 59) hx hb dX9_seen_54 (by decide) ?_
        exact ret hf hS dX9_seen_59
    · have hf := o_t hc hf
      refine lv_bipush (v := (-2 : Int32)) hx hb dX9_seen_32 (by decide) ?_
      exact ret hf hS dX9_seen_34
  · have hf := o_t hc hf
    refine lv_iconst (v := (-1 : Int32)) hx hb dX9_seen_9 (by decide) ?_
    exact ret hf hS dX9_seen_10

set_option maxHeartbeats 40000000 in
set_option maxRecDepth 100000 in
theorem c_X9_forget (l : Launch) (D : va_G) (cI cZ : ClassId) (q : Nat → Nat) (c : Mm) (sz : Nat) (R : Int32 × Mm) (hf : X9_forget c = some R) : m_Mi l yX9_forget cX9_forget 1 (some .int) 1 21 D cI cZ (mkC q cI cZ) 50 q [.ref (q 0)] c sz R := by
  refine m_enter_i (own := RX9) (by decide) rfl (Nat.le_of_ble_eq_true rfl) ?_
  intro p e s m args below meth cd Q X ret
  have hx := X.1
  have hb := X.2.1
  intro H locs ls hS hl
  have hl : lv_has ls 1 [(0, .ref (q 0))] := hl
  unfold X9_forget at hf
  refine lv_aload_n hx hb dX9_forget_0 rfl (lv_at hl 0 rfl) ?_
  refine m_get X hS fl_9_73 (vC_0_9 q cI cZ _) dX9_forget_1 ?_
  obtain ⟨r1, c2, hq, hf⟩ := o_cal hf
  refine m_calli (rest := []) X hS hl.1 (c_X6_empty l D cI cZ q _ _ _ hq) cv_9_234 (oC_10 q cI cZ _) rfl rfl ⟨Nat.le_of_ble_eq_true rfl, Nat.le_of_ble_eq_true rfl⟩ ⟨Nat.zero_le _, Nat.zero_le _⟩ (Nat.le_of_ble_eq_true rfl) dX9_forget_4 (fun H locs hS => ?_)
  exact ret hf hS dX9_forget_7

set_option maxHeartbeats 40000000 in
set_option maxRecDepth 100000 in
theorem c_X9_fitsSightings (l : Launch) (D : va_G) (cI cZ : ClassId) (q : Nat → Nat) (c : Mm) (sz : Nat) (v1 : Int32) (R : Int32 × Mm) (hf : X9_fitsSightings v1 c = some R) : m_Mi l yX9_fitsSightings cX9_fitsSightings 4 (some .boolean) 2 54 D cI cZ (mkC q cI cZ) 50 q [.ref (q 0), .int v1] c sz R := by
  refine m_enter_z (own := RX9) (by decide) rfl (Nat.le_of_ble_eq_true rfl) ?_
  intro p e s m args below meth cd Q X ret
  have hx := X.1
  have hb := X.2.1
  have k2 : ∀ (v1 : Int32), ∀ (n : Nat) (v2 : Int32) (c : Mm), m_lp1 (X9_fitsSightings_b2 v1) n v2 c = some R → m_G p l e (m_rm 2 54) s m args below meth cd Q D (mkC q cI cZ) 50 q 4 2 [(0, .ref (q 0)), (1, .int v1), (2, .int v2)] [] c := by
    intro v1
    refine m_lp1_i ?_
    intro rc2 hrc2 v2 c hf H locs ls hS hl
    unfold X9_fitsSightings_b2 at hf
    refine lv_iload_n hx hb dX9_fitsSightings_2 rfl (lv_at hl 2 rfl) ?_
    refine lv_aload_n hx hb dX9_fitsSightings_3 rfl (lv_at hl 0 rfl) ?_
    refine m_get X hS fl_9_73 (vC_0_9 q cI cZ _) dX9_fitsSightings_4 ?_
    refine m_get X hS fl_9_233 (vC_10_2 q cI cZ _) dX9_fitsSightings_7 ?_
    refine lv_icmp_ge (tgt := 57) hx hb dX9_fitsSightings_10 (by decide) (fun hc => ?_) (fun hc => ?_)
    · have hf := o_t hc hf
      refine lv_iconst (v := (1 : Int32)) hx hb dX9_fitsSightings_57 (by decide) ?_
      exact ret (Or.inr rfl) hf hS dX9_fitsSightings_58
    · have hf := o_f hc hf
      refine lv_aload_n hx hb dX9_fitsSightings_13 rfl (lv_at hl 0 rfl) ?_
      refine m_get X hS fl_9_73 (vC_0_9 q cI cZ _) dX9_fitsSightings_14 ?_
      refine m_get X hS fl_9_275 (vC_10_0 q cI cZ _) dX9_fitsSightings_17 ?_
      refine lv_iload_n hx hb dX9_fitsSightings_20 rfl (lv_at hl 2 rfl) ?_
      obtain ⟨hg, hf⟩ := o_gi hf
      refine m_ild X hS (aC_46 q cI cZ) hg dX9_fitsSightings_21 ?_
      refine lv_topi (fun x1 ex => ?_)
      have hf := o_bnd hf x1 ex
      refine lv_istore_n (lv' := [(3, .int x1), (0, .ref (q 0)), (1, .int v1), (2, .int v2)]) hx hb dX9_fitsSightings_22 rfl hl (by decide) rfl (fun ls hl => ?_)
      refine lv_aload_n hx hb dX9_fitsSightings_23 rfl (lv_at hl 1 rfl) ?_
      refine m_get X hS fl_9_50 (vC_0_6 q cI cZ _) dX9_fitsSightings_24 ?_
      refine lv_aload_n hx hb dX9_fitsSightings_27 rfl (lv_at hl 1 rfl) ?_
      refine m_get X hS fl_9_38 (vC_0_4 q cI cZ _) dX9_fitsSightings_28 ?_
      refine lv_iload_n hx hb dX9_fitsSightings_31 rfl (lv_at hl 2 rfl) ?_
      refine lv_iload_n hx hb dX9_fitsSightings_32 rfl (lv_at hl 0 rfl) ?_
      refine lv_aload_n hx hb dX9_fitsSightings_33 rfl (lv_at hl 1 rfl) ?_
      refine m_get X hS fl_9_73 (vC_0_9 q cI cZ _) dX9_fitsSightings_34 ?_
      refine m_get X hS fl_9_277 (vC_10_1 q cI cZ _) dX9_fitsSightings_37 ?_
      refine lv_iload_n hx hb dX9_fitsSightings_40 rfl (lv_at hl 3 rfl) ?_
      obtain ⟨hg, hf⟩ := o_gi hf
      refine m_ild X hS (aC_47 q cI cZ) hg dX9_fitsSightings_41 ?_
      obtain ⟨r2, c3, hq, hf⟩ := o_cal hf
      refine m_calli (rest := []) X hS hl.1 (c_X5_yielder l D cI cZ q _ _ 5 (Or.inl rfl) v1 x1 (c 47 (m_ix v2)) _ hq) cv_9_191 (oC_7 q cI cZ _) rfl rfl ⟨Nat.le_of_ble_eq_true rfl, Nat.le_of_ble_eq_true rfl⟩ ⟨Nat.zero_le _, Nat.zero_le _⟩ (Nat.le_of_ble_eq_true rfl) dX9_fitsSightings_42 (fun H locs hS => ?_)
      refine lv_iload_n hx hb dX9_fitsSightings_45 rfl (lv_at hl 0 rfl) ?_
      refine lv_icmp_eq (tgt := 51) hx hb dX9_fitsSightings_46 (by decide) (fun hc => ?_) (fun hc => ?_)
      · have hf := o_t hc hf
        obtain ⟨x4, ex⟩ : ∃ y : Int32, y = v2 + (1 : Int32) := ⟨_, rfl⟩
        have hf := o_bnd hf x4 ex
        refine lv_iinc (v := x4) (lv' := [(2, .int x4), (3, .int x1), (0, .ref (q 0)), (1, .int v1)]) hx hb dX9_fitsSightings_51 hl (k := 3) rfl (by rw [ex]; rfl) (by decide) rfl (fun ls hl => ?_)
        refine lv_goto (tgt := 2) hx hb dX9_fitsSightings_54 (by decide) ?_
        exact hrc2 x4 _ hf H locs ls hS (lv_sub hl [2, 3, 0] rfl)
      · have hf := o_f hc hf
        refine lv_iconst (v := (0 : Int32)) hx hb dX9_fitsSightings_49 (by decide) ?_
        exact ret (Or.inl rfl) hf hS dX9_fitsSightings_50
  intro H locs ls hS hl
  have hl : lv_has ls 4 [(0, .ref (q 0)), (1, .int v1)] := hl
  unfold X9_fitsSightings at hf
  refine lv_iconst (v := (0 : Int32)) hx hb dX9_fitsSightings_0 (by decide) ?_
  refine lv_istore_n (lv' := [(2, .int (0 : Int32)), (0, .ref (q 0)), (1, .int v1)]) hx hb dX9_fitsSightings_1 rfl hl (by decide) rfl (fun ls hl => ?_)
  exact k2 v1 _ (0 : Int32) _ hf H locs ls hS (lv_sub hl [1, 2, 0] rfl)

set_option maxHeartbeats 40000000 in
set_option maxRecDepth 100000 in
theorem c_X9_fits (l : Launch) (D : va_G) (cI cZ : ClassId) (q : Nat → Nat) (c : Mm) (sz : Nat) (R : Int32 × Mm) (hf : X9_fits c = some R) : m_Mi l yX9_fits cX9_fits 3 (some .int) 3 77 D cI cZ (mkC q cI cZ) 50 q [.ref (q 0)] c sz R := by
  refine m_enter_i (own := RX9) (by decide) rfl (Nat.le_of_ble_eq_true rfl) ?_
  intro p e s m args below meth cd Q X ret
  have hx := X.1
  have hb := X.2.1
  have k23 : ∀ (v1 : Int32) (v2 : Int32) (rc4 : Int32 → Int32 → Mm → Option (Int32 × Mm)) (hrc4 : ∀ (w1 : Int32) (w2 : Int32) (c : Mm), rc4 w1 w2 c = some R → m_G p l e (m_rm 3 77) s m args below meth cd Q D (mkC q cI cZ) 50 q 3 4 [(0, .ref (q 0)), (1, .int w1), (2, .int w2)] [] c) (c : Mm), X9_fits_j23 rc4 v1 v2 c = some R → m_G p l e (m_rm 3 77) s m args below meth cd Q D (mkC q cI cZ) 50 q 3 23 [(0, .ref (q 0)), (1, .int v1), (2, .int v2)] [] c := by
    intro v1 v2 rc4 hrc4 c hf H locs ls hS hl
    unfold X9_fits_j23 at hf
    obtain ⟨x1, ex⟩ : ∃ y : Int32, y = v2 + (1 : Int32) := ⟨_, rfl⟩
    have hf := o_bnd hf x1 ex
    refine lv_iinc (v := x1) (lv' := [(2, .int x1), (0, .ref (q 0)), (1, .int v1)]) hx hb dX9_fits_23 hl (k := 2) rfl (by rw [ex]; rfl) (by decide) rfl (fun ls hl => ?_)
    refine lv_goto (tgt := 4) hx hb dX9_fits_26 (by decide) ?_
    exact hrc4 v1 x1 _ hf H locs ls hS (lv_sub hl [1, 2, 0] rfl)
  have k4 : ∀ (n : Nat) (v1 : Int32) (v2 : Int32) (c : Mm), m_lp2 (X9_fits_b4) n v1 v2 c = some R → m_G p l e (m_rm 3 77) s m args below meth cd Q D (mkC q cI cZ) 50 q 3 4 [(0, .ref (q 0)), (1, .int v1), (2, .int v2)] [] c := by
    refine m_lp2_i ?_
    intro rc4 hrc4 v1 v2 c hf H locs ls hS hl
    unfold X9_fits_b4 at hf
    refine lv_iload_n hx hb dX9_fits_4 rfl (lv_at hl 2 rfl) ?_
    refine lv_iconst (v := (4 : Int32)) hx hb dX9_fits_5 (by decide) ?_
    refine lv_icmp_ge (tgt := 29) hx hb dX9_fits_6 (by decide) (fun hc => ?_) (fun hc => ?_)
    · have hf := o_t hc hf
      refine lv_iload_n hx hb dX9_fits_29 rfl (lv_at hl 1 rfl) ?_
      exact ret hf hS dX9_fits_30
    · have hf := o_f hc hf
      refine lv_aload_n hx hb dX9_fits_9 rfl (lv_at hl 0 rfl) ?_
      refine lv_iload_n hx hb dX9_fits_10 rfl (lv_at hl 2 rfl) ?_
      obtain ⟨r2, c3, hq, hf⟩ := o_cal hf
      refine m_calli (rest := []) X hS hl.1 (c_X9_fitsSightings l D cI cZ q _ _ v2 _ hq) cv_9_235 (oC_0 q cI cZ _) rfl rfl ⟨Nat.le_of_ble_eq_true rfl, Nat.le_of_ble_eq_true rfl⟩ ⟨Nat.zero_le _, Nat.zero_le _⟩ (Nat.le_of_ble_eq_true rfl) dX9_fits_11 (fun H locs hS => ?_)
      refine lv_if_eq (tgt := 23) hx hb dX9_fits_14 (by decide) (fun hc => ?_) (fun hc => ?_)
      · have hf := o_t hc hf
        exact k23 v1 v2 rc4 hrc4 _ hf H locs ls hS (lv_sub hl [0, 1, 2] rfl)
      · have hf := o_f hc hf
        refine lv_iload_n hx hb dX9_fits_17 rfl (lv_at hl 1 rfl) ?_
        refine lv_iconst (v := (1 : Int32)) hx hb dX9_fits_18 (by decide) ?_
        refine lv_iload_n hx hb dX9_fits_19 rfl (lv_at hl 2 rfl) ?_
        refine lv_ishl hx hb dX9_fits_20 ?_
        refine lv_ior hx hb dX9_fits_21 ?_
        refine lv_topi (fun x4 ex => ?_)
        have hf := o_bnd hf x4 ex
        refine lv_istore_n (lv' := [(1, .int x4), (0, .ref (q 0)), (2, .int v2)]) hx hb dX9_fits_22 rfl hl (by decide) rfl (fun ls hl => ?_)
        exact k23 x4 v2 rc4 hrc4 _ hf H locs ls hS (lv_sub hl [1, 0, 2] rfl)
  intro H locs ls hS hl
  have hl : lv_has ls 3 [(0, .ref (q 0))] := hl
  unfold X9_fits at hf
  refine lv_iconst (v := (0 : Int32)) hx hb dX9_fits_0 (by decide) ?_
  refine lv_istore_n (lv' := [(1, .int (0 : Int32)), (0, .ref (q 0))]) hx hb dX9_fits_1 rfl hl (by decide) rfl (fun ls hl => ?_)
  refine lv_iconst (v := (0 : Int32)) hx hb dX9_fits_2 (by decide) ?_
  refine lv_istore_n (lv' := [(2, .int (0 : Int32)), (1, .int (0 : Int32)), (0, .ref (q 0))]) hx hb dX9_fits_3 rfl hl (by decide) rfl (fun ls hl => ?_)
  exact k4 _ (0 : Int32) (0 : Int32) _ hf H locs ls hS (lv_sub hl [2, 1, 0] rfl)

set_option maxHeartbeats 40000000 in
set_option maxRecDepth 100000 in
theorem c_X9_starts (l : Launch) (D : va_G) (cI cZ : ClassId) (q : Nat → Nat) (c : Mm) (sz : Nat) (v1 : Int32) (v2 : Int32) (R : Int32 × Mm) (hf : X9_starts v1 v2 c = some R) : m_Mi l yX9_starts cX9_starts 3 (some .int) 5 130 D cI cZ (mkC q cI cZ) 50 q [.ref (q 0), .int v1, .int v2] c sz R := by
  refine m_enter_i (own := RX9) (by decide) rfl (Nat.le_of_ble_eq_true rfl) ?_
  intro p e s m args below meth cd Q X ret
  have hx := X.1
  have hb := X.2.1
  intro H locs ls hS hl
  have hl : lv_has ls 3 [(0, .ref (q 0)), (1, .int v1), (2, .int v2)] := hl
  unfold X9_starts at hf
  refine lv_iload_n hx hb dX9_starts_0 rfl (lv_at hl 1 rfl) ?_
  obtain ⟨r1, c2, hq, hf⟩ := o_cal hf
  refine m_calls (rest := []) X hS hl.1 (c_X9_isRule l D cI cZ q _ _ v1 _ hq) cs_9_142 rfl rfl ⟨Nat.le_of_ble_eq_true rfl, Nat.le_of_ble_eq_true rfl⟩ ⟨Nat.zero_le _, Nat.zero_le _⟩ (Nat.le_of_ble_eq_true rfl) dX9_starts_1 (fun H locs hS => ?_)
  refine lv_if_eq (tgt := 15) hx hb dX9_starts_4 (by decide) (fun hc => ?_) (fun hc => ?_)
  · have hf := o_t hc hf
    refine lv_iconst (v := (-1 : Int32)) hx hb dX9_starts_15 (by decide) ?_
    exact ret hf hS dX9_starts_16
  · have hf := o_f hc hf
    refine lv_aload_n hx hb dX9_starts_7 rfl (lv_at hl 0 rfl) ?_
    refine lv_iload_n hx hb dX9_starts_8 rfl (lv_at hl 2 rfl) ?_
    obtain ⟨r3, c4, hq, hf⟩ := o_cal hf
    refine m_calli (rest := []) X hS hl.1 (c_X9_isBoat l D cI cZ q _ _ v2 _ hq) cv_9_120 (oC_0 q cI cZ _) rfl rfl ⟨Nat.le_of_ble_eq_true rfl, Nat.le_of_ble_eq_true rfl⟩ ⟨Nat.zero_le _, Nat.zero_le _⟩ (Nat.le_of_ble_eq_true rfl) dX9_starts_9 (fun H locs hS => ?_)
    refine lv_if_ne (tgt := 17) hx hb dX9_starts_12 (by decide) (fun hc => ?_) (fun hc => ?_)
    · have hf := o_f hc hf
      refine lv_aload_n hx hb dX9_starts_17 rfl (lv_at hl 0 rfl) ?_
      refine m_get X hS fl_9_59 (vC_0_7 q cI cZ _) dX9_starts_18 ?_
      refine lv_aload_n hx hb dX9_starts_21 rfl (lv_at hl 0 rfl) ?_
      refine m_get X hS fl_9_38 (vC_0_4 q cI cZ _) dX9_starts_22 ?_
      refine lv_iload_n hx hb dX9_starts_25 rfl (lv_at hl 1 rfl) ?_
      refine lv_bipush (v := (120 : Int32)) hx hb dX9_starts_26 (by decide) ?_
      obtain ⟨r5, c6, hq, hf⟩ := o_cal hf
      refine m_calli (rest := []) X hS hl.1 (c_X2_run l D cI cZ q _ _ 5 (Or.inl rfl) v1 (120 : Int32) _ hq) cv_9_145 (oC_8 q cI cZ _) rfl rfl ⟨Nat.le_of_ble_eq_true rfl, Nat.le_of_ble_eq_true rfl⟩ ⟨Nat.zero_le _, Nat.zero_le _⟩ (Nat.le_of_ble_eq_true rfl) dX9_starts_28 (fun H locs hS => ?_)
      refine lv_pop hx hb dX9_starts_31 rfl ?_
      refine lv_aload_n hx hb dX9_starts_32 rfl (lv_at hl 0 rfl) ?_
      refine m_get X hS fl_9_59 (vC_0_7 q cI cZ _) dX9_starts_33 ?_
      refine m_get X hS fl_9_238 (vC_8_8 q cI cZ _) dX9_starts_36 ?_
      refine lv_iload_n hx hb dX9_starts_39 rfl (lv_at hl 2 rfl) ?_
      obtain ⟨hg, hf⟩ := o_gi hf
      refine m_ild X hS (aC_38 q cI cZ) hg dX9_starts_40 ?_
      exact ret hf hS dX9_starts_41
    · have hf := o_t hc hf
      refine lv_iconst (v := (-1 : Int32)) hx hb dX9_starts_15 (by decide) ?_
      exact ret hf hS dX9_starts_16

set_option maxHeartbeats 40000000 in
set_option maxRecDepth 100000 in
theorem c_X9_bears (l : Launch) (D : va_G) (cI cZ : ClassId) (q : Nat → Nat) (c : Mm) (sz : Nat) (v1 : Int32) (v2 : Int32) (R : Int32 × Mm) (hf : X9_bears v1 v2 c = some R) : m_Mi l yX9_bears cX9_bears 5 (some .int) 5 130 D cI cZ (mkC q cI cZ) 50 q [.ref (q 0), .int v1, .int v2] c sz R := by
  refine m_enter_i (own := RX9) (by decide) rfl (Nat.le_of_ble_eq_true rfl) ?_
  intro p e s m args below meth cd Q X ret
  have hx := X.1
  have hb := X.2.1
  have k72 : ∀ (v2 : Int32) (v3 : Int32) (v4 : Int32) (rc39 : Int32 → Int32 → Mm → Option (Int32 × Mm)) (hrc39 : ∀ (w3 : Int32) (w4 : Int32) (c : Mm), rc39 w3 w4 c = some R → m_G p l e (m_rm 5 130) s m args below meth cd Q D (mkC q cI cZ) 50 q 5 39 [(0, .ref (q 0)), (2, .int v2), (3, .int w3), (4, .int w4)] [] c) (c : Mm), X9_bears_j72 rc39 v2 v3 v4 c = some R → m_G p l e (m_rm 5 130) s m args below meth cd Q D (mkC q cI cZ) 50 q 5 72 [(0, .ref (q 0)), (2, .int v2), (3, .int v3), (4, .int v4)] [] c := by
    intro v2 v3 v4 rc39 hrc39 c hf H locs ls hS hl
    unfold X9_bears_j72 at hf
    obtain ⟨x1, ex⟩ : ∃ y : Int32, y = v4 + (1 : Int32) := ⟨_, rfl⟩
    have hf := o_bnd hf x1 ex
    refine lv_iinc (v := x1) (lv' := [(4, .int x1), (0, .ref (q 0)), (2, .int v2), (3, .int v3)]) hx hb dX9_bears_72 hl (k := 3) rfl (by rw [ex]; rfl) (by decide) rfl (fun ls hl => ?_)
    refine lv_goto (tgt := 39) hx hb dX9_bears_75 (by decide) ?_
    exact hrc39 v3 x1 _ hf H locs ls hS (lv_sub hl [1, 2, 3, 0] rfl)
  have k39 : ∀ (v2 : Int32), ∀ (n : Nat) (v3 : Int32) (v4 : Int32) (c : Mm), m_lp2 (X9_bears_b39 v2) n v3 v4 c = some R → m_G p l e (m_rm 5 130) s m args below meth cd Q D (mkC q cI cZ) 50 q 5 39 [(0, .ref (q 0)), (2, .int v2), (3, .int v3), (4, .int v4)] [] c := by
    intro v2
    refine m_lp2_i ?_
    intro rc39 hrc39 v3 v4 c hf H locs ls hS hl
    unfold X9_bears_b39 at hf
    refine lv_iload hx hb dX9_bears_39 (lv_at hl 3 rfl) ?_
    refine lv_aload_n hx hb dX9_bears_41 rfl (lv_at hl 0 rfl) ?_
    refine m_get X hS fl_9_32 (vC_0_3 q cI cZ _) dX9_bears_42 ?_
    refine m_get X hS fl_9_117 (vC_4_0 q cI cZ _) dX9_bears_45 ?_
    refine lv_icmp_ge (tgt := 78) hx hb dX9_bears_48 (by decide) (fun hc => ?_) (fun hc => ?_)
    · have hf := o_t hc hf
      refine lv_iload_n hx hb dX9_bears_78 rfl (lv_at hl 2 rfl) ?_
      exact ret hf hS dX9_bears_79
    · have hf := o_f hc hf
      refine lv_aload_n hx hb dX9_bears_51 rfl (lv_at hl 0 rfl) ?_
      refine m_get X hS fl_9_59 (vC_0_7 q cI cZ _) dX9_bears_52 ?_
      refine m_get X hS fl_9_238 (vC_8_8 q cI cZ _) dX9_bears_55 ?_
      refine lv_iload hx hb dX9_bears_58 (lv_at hl 3 rfl) ?_
      obtain ⟨hg, hf⟩ := o_gi hf
      refine m_ild X hS (aC_38 q cI cZ) hg dX9_bears_60 ?_
      refine lv_iload_n hx hb dX9_bears_61 rfl (lv_at hl 1 rfl) ?_
      refine lv_icmp_gt (tgt := 72) hx hb dX9_bears_62 (by decide) (fun hc => ?_) (fun hc => ?_)
      · have hf := o_t hc hf
        exact k72 v2 v3 v4 rc39 hrc39 _ hf H locs ls hS (lv_sub hl [0, 1, 2, 3] rfl)
      · have hf := o_f hc hf
        refine lv_iload_n hx hb dX9_bears_65 rfl (lv_at hl 2 rfl) ?_
        refine lv_iconst (v := (1 : Int32)) hx hb dX9_bears_66 (by decide) ?_
        refine lv_iload hx hb dX9_bears_67 (lv_at hl 3 rfl) ?_
        refine lv_ishl hx hb dX9_bears_69 ?_
        refine lv_ior hx hb dX9_bears_70 ?_
        refine lv_topi (fun x2 ex => ?_)
        have hf := o_bnd hf x2 ex
        refine lv_istore_n (lv' := [(3, .int x2), (0, .ref (q 0)), (2, .int v2), (4, .int v4)]) hx hb dX9_bears_71 rfl hl (by decide) rfl (fun ls hl => ?_)
        exact k72 v2 x2 v4 rc39 hrc39 _ hf H locs ls hS (lv_sub hl [1, 2, 0, 3] rfl)
  intro H locs ls hS hl
  have hl : lv_has ls 5 [(0, .ref (q 0)), (1, .int v1), (2, .int v2)] := hl
  unfold X9_bears at hf
  refine lv_iload_n hx hb dX9_bears_0 rfl (lv_at hl 1 rfl) ?_
  obtain ⟨r3, c4, hq, hf⟩ := o_cal hf
  refine m_calls (rest := []) X hS hl.1 (c_X9_isRule l D cI cZ q _ _ v1 _ hq) cs_9_142 rfl rfl ⟨Nat.le_of_ble_eq_true rfl, Nat.le_of_ble_eq_true rfl⟩ ⟨Nat.zero_le _, Nat.zero_le _⟩ (Nat.le_of_ble_eq_true rfl) dX9_bears_1 (fun H locs hS => ?_)
  refine lv_if_eq (tgt := 17) hx hb dX9_bears_4 (by decide) (fun hc => ?_) (fun hc => ?_)
  · have hf := o_t hc hf
    refine lv_iconst (v := (-1 : Int32)) hx hb dX9_bears_17 (by decide) ?_
    exact ret hf hS dX9_bears_18
  · have hf := o_f hc hf
    refine lv_iload_n hx hb dX9_bears_7 rfl (lv_at hl 2 rfl) ?_
    refine lv_iconst (v := (0 : Int32)) hx hb dX9_bears_8 (by decide) ?_
    refine lv_bipush (v := (9 : Int32)) hx hb dX9_bears_9 (by decide) ?_
    obtain ⟨r5, c6, hq, hf⟩ := o_cal hf
    refine m_calls (rest := []) X hS hl.1 (c_X9_isWithin l D cI cZ q _ _ v2 (0 : Int32) (9 : Int32) _ hq) cs_9_107 rfl rfl ⟨Nat.le_of_ble_eq_true rfl, Nat.le_of_ble_eq_true rfl⟩ ⟨Nat.zero_le _, Nat.zero_le _⟩ (Nat.le_of_ble_eq_true rfl) dX9_bears_11 (fun H locs hS => ?_)
    refine lv_if_ne (tgt := 19) hx hb dX9_bears_14 (by decide) (fun hc => ?_) (fun hc => ?_)
    · have hf := o_f hc hf
      refine lv_aload_n hx hb dX9_bears_19 rfl (lv_at hl 0 rfl) ?_
      refine m_get X hS fl_9_59 (vC_0_7 q cI cZ _) dX9_bears_20 ?_
      refine lv_aload_n hx hb dX9_bears_23 rfl (lv_at hl 0 rfl) ?_
      refine m_get X hS fl_9_38 (vC_0_4 q cI cZ _) dX9_bears_24 ?_
      refine lv_iload_n hx hb dX9_bears_27 rfl (lv_at hl 1 rfl) ?_
      refine lv_bipush (v := (120 : Int32)) hx hb dX9_bears_28 (by decide) ?_
      obtain ⟨r7, c8, hq, hf⟩ := o_cal hf
      refine m_calli (rest := []) X hS hl.1 (c_X2_run l D cI cZ q _ _ 5 (Or.inl rfl) v1 (120 : Int32) _ hq) cv_9_145 (oC_8 q cI cZ _) rfl rfl ⟨Nat.le_of_ble_eq_true rfl, Nat.le_of_ble_eq_true rfl⟩ ⟨Nat.zero_le _, Nat.zero_le _⟩ (Nat.le_of_ble_eq_true rfl) dX9_bears_30 (fun H locs hS => ?_)
      refine lv_pop hx hb dX9_bears_33 rfl ?_
      refine lv_iconst (v := (0 : Int32)) hx hb dX9_bears_34 (by decide) ?_
      refine lv_istore_n (lv' := [(3, .int (0 : Int32)), (0, .ref (q 0)), (1, .int v1), (2, .int v2)]) hx hb dX9_bears_35 rfl hl (by decide) rfl (fun ls hl => ?_)
      refine lv_iconst (v := (0 : Int32)) hx hb dX9_bears_36 (by decide) ?_
      refine lv_istore (lv' := [(4, .int (0 : Int32)), (3, .int (0 : Int32)), (0, .ref (q 0)), (1, .int v1), (2, .int v2)]) hx hb dX9_bears_37 hl (by decide) rfl (fun ls hl => ?_)
      exact k39 v2 _ (0 : Int32) (0 : Int32) _ hf H locs ls hS (lv_sub hl [2, 4, 1, 0] rfl)
    · have hf := o_t hc hf
      refine lv_iconst (v := (-1 : Int32)) hx hb dX9_bears_17 (by decide) ?_
      exact ret hf hS dX9_bears_18

set_option maxHeartbeats 40000000 in
set_option maxRecDepth 100000 in
theorem c_X3_draw (l : Launch) (D : va_G) (cI cZ : ClassId) (q : Nat → Nat) (c : Mm) (sz : Nat) (v1 : Int32) (R : Mm) (hf : X3_draw v1 c = some R) : m_Mv l yX3_draw cX3_draw 6 0 0 D cI cZ (mkC q cI cZ) 50 q [.ref (q 6), .int v1] c sz R := by
  refine m_enter_v (own := RX3) (by decide) rfl (Nat.le_of_ble_eq_true rfl) ?_
  intro p e s m args below meth cd Q X ret
  have hx := X.1
  have hb := X.2.1
  have k2 : ∀ (v1 : Int32), ∀ (n : Nat) (v2 : Int32) (c : Mm), m_lp1 (X3_draw_b2 v1) n v2 c = some R → m_G p l e (m_rm 0 0) s m args below meth cd Q D (mkC q cI cZ) 50 q 6 2 [(0, .ref (q 6)), (1, .int v1), (2, .int v2)] [] c := by
    intro v1
    refine m_lp1_i ?_
    intro rc2 hrc2 v2 c hf H locs ls hS hl
    unfold X3_draw_b2 at hf
    refine lv_iload_n hx hb dX3_draw_2 rfl (lv_at hl 2 rfl) ?_
    refine lv_bipush (v := (6 : Int32)) hx hb dX3_draw_3 (by decide) ?_
    refine lv_icmp_ge (tgt := 65) hx hb dX3_draw_5 (by decide) (fun hc => ?_) (fun hc => ?_)
    · have hf := o_t hc hf
      exact ret hf hS dX3_draw_65
    · have hf := o_f hc hf
      refine lv_ldc2 hx hb X.2.2.2.1 (X.2.2.2.2.1 (.constantLong RX3 29 (7919 : Int64)) (m_t3 225 rfl rfl)) dX3_draw_8 ?_
      refine lv_iload_n hx hb dX3_draw_11 rfl (lv_at hl 1 rfl) ?_
      refine lv_i2l hx hb dX3_draw_12 rfl ?_
      refine lv_lmul hx hb dX3_draw_13 ?_
      refine lv_ldc2 hx hb X.2.2.2.1 (X.2.2.2.2.1 (.constantLong RX3 31 (6151 : Int64)) (m_t3 226 rfl rfl)) dX3_draw_14 ?_
      refine lv_iload_n hx hb dX3_draw_17 rfl (lv_at hl 2 rfl) ?_
      refine lv_i2l hx hb dX3_draw_18 rfl ?_
      refine lv_lmul hx hb dX3_draw_19 ?_
      refine lv_ladd hx hb dX3_draw_20 ?_
      refine lv_lconst (v := (1 : Int64)) hx hb dX3_draw_21 (by decide) ?_
      refine lv_ladd hx hb dX3_draw_22 ?_
      refine lv_topl (fun x1 ex => ?_)
      have hf := o_bnd hf x1 ex
      refine lv_lstore_n (lv' := [(3, .long x1), (0, .ref (q 6)), (1, .int v1), (2, .int v2)]) hx hb dX3_draw_23 rfl hl (by decide) rfl (fun ls hl => ?_)
      refine lv_lload_n hx hb dX3_draw_24 rfl (lv_at hl 0 rfl) ?_
      refine lv_lload_n hx hb dX3_draw_25 rfl (lv_at hl 0 rfl) ?_
      refine lv_lmul hx hb dX3_draw_26 ?_
      refine lv_ldc2 hx hb X.2.2.2.1 (X.2.2.2.2.1 (.constantLong RX3 33 (65521 : Int64)) (m_t3 227 rfl rfl)) dX3_draw_27 ?_
      refine lv_lrem hx hb dX3_draw_30 (by decide) ?_
      refine lv_l2i hx hb dX3_draw_31 rfl ?_
      refine lv_topi (fun x2 ex => ?_)
      have hf := o_bnd hf x2 ex
      refine lv_istore (lv' := [(5, .int x2), (3, .long x1), (0, .ref (q 6)), (1, .int v1), (2, .int v2)]) hx hb dX3_draw_32 hl (by decide) rfl (fun ls hl => ?_)
      refine lv_aload_n hx hb dX3_draw_34 rfl (lv_at hl 2 rfl) ?_
      refine m_get X hS fl_3_15 (vC_6_1 q cI cZ _) dX3_draw_35 ?_
      refine lv_iload_n hx hb dX3_draw_38 rfl (lv_at hl 4 rfl) ?_
      refine lv_iload hx hb dX3_draw_39 (lv_at hl 0 rfl) ?_
      refine lv_bipush (v := (31 : Int32)) hx hb dX3_draw_41 (by decide) ?_
      refine lv_irem hx hb dX3_draw_43 (by decide) ?_
      obtain ⟨hg, hf⟩ := o_gi hf
      refine m_ist X hS (aC_31 q cI cZ) hg dX3_draw_44 (fun c3 ec H locs hS => ?_)
      have hf := o_bnd hf c3 ec
      refine lv_aload_n hx hb dX3_draw_45 rfl (lv_at hl 2 rfl) ?_
      refine m_get X hS fl_3_9 (vC_6_0 q cI cZ _) dX3_draw_46 ?_
      refine lv_iload_n hx hb dX3_draw_49 rfl (lv_at hl 4 rfl) ?_
      refine lv_iload hx hb dX3_draw_50 (lv_at hl 0 rfl) ?_
      refine lv_bipush (v := (64 : Int32)) hx hb dX3_draw_52 (by decide) ?_
      refine lv_idiv hx hb dX3_draw_54 (by decide) ?_
      refine lv_bipush (v := (10 : Int32)) hx hb dX3_draw_55 (by decide) ?_
      refine lv_irem hx hb dX3_draw_57 (by decide) ?_
      obtain ⟨hg, hf⟩ := o_gi hf
      refine m_ist X hS (aC_30 q cI cZ) hg dX3_draw_58 (fun c4 ec H locs hS => ?_)
      have hf := o_bnd hf c4 ec
      obtain ⟨x5, ex⟩ : ∃ y : Int32, y = v2 + (1 : Int32) := ⟨_, rfl⟩
      have hf := o_bnd hf x5 ex
      refine lv_iinc (v := x5) (lv' := [(2, .int x5), (5, .int x2), (3, .long x1), (0, .ref (q 6)), (1, .int v1)]) hx hb dX3_draw_59 hl (k := 4) rfl (by rw [ex]; rfl) (by decide) rfl (fun ls hl => ?_)
      refine lv_goto (tgt := 2) hx hb dX3_draw_62 (by decide) ?_
      exact hrc2 x5 _ hf H locs ls hS (lv_sub hl [3, 4, 0] rfl)
  intro H locs ls hS hl
  have hl : lv_has ls 6 [(0, .ref (q 6)), (1, .int v1)] := hl
  unfold X3_draw at hf
  refine lv_iconst (v := (0 : Int32)) hx hb dX3_draw_0 (by decide) ?_
  refine lv_istore_n (lv' := [(2, .int (0 : Int32)), (0, .ref (q 6)), (1, .int v1)]) hx hb dX3_draw_1 rfl hl (by decide) rfl (fun ls hl => ?_)
  exact k2 v1 _ (0 : Int32) _ hf H locs ls hS (lv_sub hl [1, 2, 0] rfl)

set_option maxHeartbeats 40000000 in
set_option maxRecDepth 100000 in
theorem c_X9_day (l : Launch) (D : va_G) (cI cZ : ClassId) (q : Nat → Nat) (c : Mm) (sz : Nat) (v1 : Int32) (v2 : Int32) (v3 : Int32) (R : Int32 × Mm) (hf : X9_day v1 v2 v3 c = some R) : m_Mi l yX9_day cX9_day 5 (some .int) 5 130 D cI cZ (mkC q cI cZ) 50 q [.ref (q 0), .int v1, .int v2, .int v3] c sz R := by
  refine m_enter_i (own := RX9) (by decide) rfl (Nat.le_of_ble_eq_true rfl) ?_
  intro p e s m args below meth cd Q X ret
  have hx := X.1
  have hb := X.2.1
  intro H locs ls hS hl
  have hl : lv_has ls 5 [(0, .ref (q 0)), (1, .int v1), (2, .int v2), (3, .int v3)] := hl
  unfold X9_day at hf
  refine lv_iload_n hx hb dX9_day_0 rfl (lv_at hl 1 rfl) ?_
  obtain ⟨r1, c2, hq, hf⟩ := o_cal hf
  refine m_calls (rest := []) X hS hl.1 (c_X9_isRule l D cI cZ q _ _ v1 _ hq) cs_9_142 rfl rfl ⟨Nat.le_of_ble_eq_true rfl, Nat.le_of_ble_eq_true rfl⟩ ⟨Nat.zero_le _, Nat.zero_le _⟩ (Nat.le_of_ble_eq_true rfl) dX9_day_1 (fun H locs hS => ?_)
  refine lv_if_eq (tgt := 27) hx hb dX9_day_4 (by decide) (fun hc => ?_) (fun hc => ?_)
  · have hf := o_t hc hf
    refine lv_iconst (v := (-1 : Int32)) hx hb dX9_day_27 (by decide) ?_
    exact ret hf hS dX9_day_28
  · have hf := o_f hc hf
    refine lv_iload_n hx hb dX9_day_7 rfl (lv_at hl 2 rfl) ?_
    refine lv_iconst (v := (0 : Int32)) hx hb dX9_day_8 (by decide) ?_
    refine lv_sipush (v := (9999 : Int32)) hx hb dX9_day_9 (by decide) ?_
    obtain ⟨r3, c4, hq, hf⟩ := o_cal hf
    refine m_calls (rest := []) X hS hl.1 (c_X9_isWithin l D cI cZ q _ _ v2 (0 : Int32) (9999 : Int32) _ hq) cs_9_107 rfl rfl ⟨Nat.le_of_ble_eq_true rfl, Nat.le_of_ble_eq_true rfl⟩ ⟨Nat.zero_le _, Nat.zero_le _⟩ (Nat.le_of_ble_eq_true rfl) dX9_day_12 (fun H locs hS => ?_)
    refine lv_if_eq (tgt := 27) hx hb dX9_day_15 (by decide) (fun hc => ?_) (fun hc => ?_)
    · have hf := o_t hc hf
      refine lv_iconst (v := (-1 : Int32)) hx hb dX9_day_27 (by decide) ?_
      exact ret hf hS dX9_day_28
    · have hf := o_f hc hf
      refine lv_iload_n hx hb dX9_day_18 rfl (lv_at hl 3 rfl) ?_
      refine lv_iconst (v := (0 : Int32)) hx hb dX9_day_19 (by decide) ?_
      refine lv_iconst (v := (1 : Int32)) hx hb dX9_day_20 (by decide) ?_
      obtain ⟨r5, c6, hq, hf⟩ := o_cal hf
      refine m_calls (rest := []) X hS hl.1 (c_X9_isWithin l D cI cZ q _ _ v3 (0 : Int32) (1 : Int32) _ hq) cs_9_107 rfl rfl ⟨Nat.le_of_ble_eq_true rfl, Nat.le_of_ble_eq_true rfl⟩ ⟨Nat.zero_le _, Nat.zero_le _⟩ (Nat.le_of_ble_eq_true rfl) dX9_day_21 (fun H locs hS => ?_)
      refine lv_if_ne (tgt := 29) hx hb dX9_day_24 (by decide) (fun hc => ?_) (fun hc => ?_)
      · have hf := o_f hc hf
        refine lv_aload_n hx hb dX9_day_29 rfl (lv_at hl 0 rfl) ?_
        refine m_get X hS fl_9_42 (vC_0_5 q cI cZ _) dX9_day_30 ?_
        refine lv_iload_n hx hb dX9_day_33 rfl (lv_at hl 2 rfl) ?_
        obtain ⟨c7, hq, hf⟩ := o_cav hf
        refine m_callv (rest := []) X hS hl.1 (c_X3_draw l D cI cZ q _ _ v2 _ hq) cv_9_241 (oC_6 q cI cZ _) rfl rfl ⟨Nat.le_of_ble_eq_true rfl, Nat.le_of_ble_eq_true rfl⟩ ⟨Nat.zero_le _, Nat.zero_le _⟩ (Nat.le_of_ble_eq_true rfl) dX9_day_34 (fun H locs hS => ?_)
        refine lv_aload_n hx hb dX9_day_37 rfl (lv_at hl 0 rfl) ?_
        refine m_get X hS fl_9_59 (vC_0_7 q cI cZ _) dX9_day_38 ?_
        refine lv_aload_n hx hb dX9_day_41 rfl (lv_at hl 0 rfl) ?_
        refine m_get X hS fl_9_42 (vC_0_5 q cI cZ _) dX9_day_42 ?_
        refine lv_iload_n hx hb dX9_day_45 rfl (lv_at hl 1 rfl) ?_
        refine lv_bipush (v := (120 : Int32)) hx hb dX9_day_46 (by decide) ?_
        obtain ⟨r8, c9, hq, hf⟩ := o_cal hf
        refine m_calli (rest := []) X hS hl.1 (c_X2_run l D cI cZ q _ _ 6 (Or.inr rfl) v1 (120 : Int32) _ hq) cv_9_145 (oC_8 q cI cZ _) rfl rfl ⟨Nat.le_of_ble_eq_true rfl, Nat.le_of_ble_eq_true rfl⟩ ⟨Nat.zero_le _, Nat.zero_le _⟩ (Nat.le_of_ble_eq_true rfl) dX9_day_48 (fun H locs hS => ?_)
        refine lv_istore (lv' := [(4, .int r8), (0, .ref (q 0)), (1, .int v1), (2, .int v2), (3, .int v3)]) hx hb dX9_day_51 hl (by decide) rfl (fun ls hl => ?_)
        refine lv_iload_n hx hb dX9_day_53 rfl (lv_at hl 4 rfl) ?_
        refine lv_if_ne (tgt := 62) hx hb dX9_day_54 (by decide) (fun hc => ?_) (fun hc => ?_)
        · have hf := o_f hc hf
          refine lv_aload_n hx hb dX9_day_62 rfl (lv_at hl 1 rfl) ?_
          refine m_get X hS fl_9_59 (vC_0_7 q cI cZ _) dX9_day_63 ?_
          refine m_get X hS fl_9_161 (vC_8_11 q cI cZ _) dX9_day_66 ?_
          exact ret hf hS dX9_day_69
        · have hf := o_t hc hf
          refine lv_iload hx hb dX9_day_57 (lv_at hl 0 rfl) ?_
          refine lv_goto (tgt := 69) hx hb dX9_day_59 (by decide) ?_
          exact ret hf hS dX9_day_69
      · have hf := o_t hc hf
        refine lv_iconst (v := (-1 : Int32)) hx hb dX9_day_27 (by decide) ?_
        exact ret hf hS dX9_day_28

set_option maxHeartbeats 40000000 in
set_option maxRecDepth 100000 in
theorem c_X7_add (l : Launch) (D : va_G) (cI cZ : ClassId) (q : Nat → Nat) (c : Mm) (sz : Nat) (R : Int32 × Mm) (hf : X7_add c = some R) : m_Mi l yX7_add cX7_add 2 (some .boolean) 1 26 D cI cZ (mkC q cI cZ) 50 q [.ref (q 11), .ref (q 5)] c sz R := by
  refine m_enter_z (own := RX7) (by decide) rfl (Nat.le_of_ble_eq_true rfl) ?_
  intro p e s m args below meth cd Q X ret
  have hx := X.1
  have hb := X.2.1
  intro H locs ls hS hl
  have hl : lv_has ls 2 [(0, .ref (q 11)), (1, .ref (q 5))] := hl
  unfold X7_add at hf
  refine lv_aload_n hx hb dX7_add_0 rfl (lv_at hl 0 rfl) ?_
  refine m_get X hS fl_7_18 (vC_11_2 q cI cZ _) dX7_add_1 ?_
  refine lv_iconst (v := (2 : Int32)) hx hb dX7_add_4 (by decide) ?_
  refine lv_icmp_lt (tgt := 10) hx hb dX7_add_5 (by decide) (fun hc => ?_) (fun hc => ?_)
  · have hf := o_t hc hf
    refine lv_aload_n hx hb dX7_add_10 rfl (lv_at hl 1 rfl) ?_
    refine m_get X hS fl_7_22 (vC_5_0 q cI cZ _) dX7_add_11 ?_
    refine lv_iconst (v := (0 : Int32)) hx hb dX7_add_14 (by decide) ?_
    refine lv_aload_n hx hb dX7_add_15 rfl (lv_at hl 0 rfl) ?_
    refine m_get X hS fl_7_9 (vC_11_0 q cI cZ _) dX7_add_16 ?_
    refine lv_aload_n hx hb dX7_add_19 rfl (lv_at hl 0 rfl) ?_
    refine m_get X hS fl_7_18 (vC_11_2 q cI cZ _) dX7_add_20 ?_
    refine lv_bipush (v := (6 : Int32)) hx hb dX7_add_23 (by decide) ?_
    refine lv_imul hx hb dX7_add_25 ?_
    refine lv_bipush (v := (6 : Int32)) hx hb dX7_add_26 (by decide) ?_
    obtain ⟨hg, hf⟩ := o_gc hf
    refine m_copy X hS hl.1 cc_7_25 (aC_28 q cI cZ) (aC_48 q cI cZ) hg (Nat.le_of_ble_eq_true rfl) (Nat.le_of_ble_eq_true rfl) dX7_add_28 (fun c1 ec H locs hS => ?_)
    have hf := o_bnd hf c1 ec
    refine lv_aload_n hx hb dX7_add_31 rfl (lv_at hl 1 rfl) ?_
    refine m_get X hS fl_7_31 (vC_5_1 q cI cZ _) dX7_add_32 ?_
    refine lv_iconst (v := (0 : Int32)) hx hb dX7_add_35 (by decide) ?_
    refine lv_aload_n hx hb dX7_add_36 rfl (lv_at hl 0 rfl) ?_
    refine m_get X hS fl_7_15 (vC_11_1 q cI cZ _) dX7_add_37 ?_
    refine lv_aload_n hx hb dX7_add_40 rfl (lv_at hl 0 rfl) ?_
    refine m_get X hS fl_7_18 (vC_11_2 q cI cZ _) dX7_add_41 ?_
    refine lv_bipush (v := (6 : Int32)) hx hb dX7_add_44 (by decide) ?_
    refine lv_imul hx hb dX7_add_46 ?_
    refine lv_bipush (v := (6 : Int32)) hx hb dX7_add_47 (by decide) ?_
    obtain ⟨hg, hf⟩ := o_gc hf
    refine m_copy X hS hl.1 cc_7_25 (aC_29 q cI cZ) (aC_49 q cI cZ) hg (Nat.le_of_ble_eq_true rfl) (Nat.le_of_ble_eq_true rfl) dX7_add_49 (fun c2 ec H locs hS => ?_)
    have hf := o_bnd hf c2 ec
    refine lv_aload_n hx hb dX7_add_52 rfl (lv_at hl 0 rfl) ?_
    refine lv_dup hx hb dX7_add_53 rfl ?_
    refine m_get X hS fl_7_18 (vC_11_2 q cI cZ _) dX7_add_54 ?_
    refine lv_iconst (v := (1 : Int32)) hx hb dX7_add_57 (by decide) ?_
    refine lv_iadd hx hb dX7_add_58 ?_
    refine m_put X hS fp_7_18 (pC_11_2 q cI cZ) dX7_add_59 (fun c3 ec H locs hS => ?_)
    have hf := o_bnd hf c3 ec
    refine lv_iconst (v := (1 : Int32)) hx hb dX7_add_62 (by decide) ?_
    exact ret (Or.inr rfl) hf hS dX7_add_63
  · have hf := o_f hc hf
    refine lv_iconst (v := (0 : Int32)) hx hb dX7_add_8 (by decide) ?_
    exact ret (Or.inl rfl) hf hS dX7_add_9

set_option maxHeartbeats 40000000 in
set_option maxRecDepth 100000 in
theorem c_X9_keep (l : Launch) (D : va_G) (cI cZ : ClassId) (q : Nat → Nat) (c : Mm) (sz : Nat) (R : Int32 × Mm) (hf : X9_keep c = some R) : m_Mi l yX9_keep cX9_keep 1 (some .int) 2 47 D cI cZ (mkC q cI cZ) 50 q [.ref (q 0)] c sz R := by
  refine m_enter_i (own := RX9) (by decide) rfl (Nat.le_of_ble_eq_true rfl) ?_
  intro p e s m args below meth cd Q X ret
  have hx := X.1
  have hb := X.2.1
  intro H locs ls hS hl
  have hl : lv_has ls 1 [(0, .ref (q 0))] := hl
  unfold X9_keep at hf
  refine lv_aload_n hx hb dX9_keep_0 rfl (lv_at hl 0 rfl) ?_
  refine m_get X hS fl_9_80 (vC_0_10 q cI cZ _) dX9_keep_1 ?_
  refine lv_aload_n hx hb dX9_keep_4 rfl (lv_at hl 0 rfl) ?_
  refine m_get X hS fl_9_38 (vC_0_4 q cI cZ _) dX9_keep_5 ?_
  obtain ⟨r1, c2, hq, hf⟩ := o_cal hf
  refine m_calli (rest := []) X hS hl.1 (c_X7_add l D cI cZ q _ _ _ hq) cv_9_245 (oC_11 q cI cZ _) rfl rfl ⟨Nat.le_of_ble_eq_true rfl, Nat.le_of_ble_eq_true rfl⟩ ⟨Nat.zero_le _, Nat.zero_le _⟩ (Nat.le_of_ble_eq_true rfl) dX9_keep_8 (fun H locs hS => ?_)
  refine lv_if_eq (tgt := 24) hx hb dX9_keep_11 (by decide) (fun hc => ?_) (fun hc => ?_)
  · have hf := o_t hc hf
    refine lv_bipush (v := (-3 : Int32)) hx hb dX9_keep_24 (by decide) ?_
    exact ret hf hS dX9_keep_26
  · have hf := o_f hc hf
    refine lv_aload_n hx hb dX9_keep_14 rfl (lv_at hl 0 rfl) ?_
    refine m_get X hS fl_9_80 (vC_0_10 q cI cZ _) dX9_keep_15 ?_
    refine m_get X hS fl_9_247 (vC_11_2 q cI cZ _) dX9_keep_18 ?_
    refine lv_goto (tgt := 26) hx hb dX9_keep_21 (by decide) ?_
    exact ret hf hS dX9_keep_26

set_option maxHeartbeats 40000000 in
set_option maxRecDepth 100000 in
theorem c_X7_takeLast (l : Launch) (D : va_G) (cI cZ : ClassId) (q : Nat → Nat) (c : Mm) (sz : Nat) (R : Int32 × Mm) (hf : X7_takeLast c = some R) : m_Mi l yX7_takeLast cX7_takeLast 2 (some .boolean) 1 26 D cI cZ (mkC q cI cZ) 50 q [.ref (q 11), .ref (q 5)] c sz R := by
  refine m_enter_z (own := RX7) (by decide) rfl (Nat.le_of_ble_eq_true rfl) ?_
  intro p e s m args below meth cd Q X ret
  have hx := X.1
  have hb := X.2.1
  intro H locs ls hS hl
  have hl : lv_has ls 2 [(0, .ref (q 11)), (1, .ref (q 5))] := hl
  unfold X7_takeLast at hf
  refine lv_aload_n hx hb dX7_takeLast_0 rfl (lv_at hl 0 rfl) ?_
  refine m_get X hS fl_7_18 (vC_11_2 q cI cZ _) dX7_takeLast_1 ?_
  refine lv_if_gt (tgt := 9) hx hb dX7_takeLast_4 (by decide) (fun hc => ?_) (fun hc => ?_)
  · have hf := o_t hc hf
    refine lv_aload_n hx hb dX7_takeLast_9 rfl (lv_at hl 0 rfl) ?_
    refine lv_dup hx hb dX7_takeLast_10 rfl ?_
    refine m_get X hS fl_7_18 (vC_11_2 q cI cZ _) dX7_takeLast_11 ?_
    refine lv_iconst (v := (1 : Int32)) hx hb dX7_takeLast_14 (by decide) ?_
    refine lv_isub hx hb dX7_takeLast_15 ?_
    refine m_put X hS fp_7_18 (pC_11_2 q cI cZ) dX7_takeLast_16 (fun c1 ec H locs hS => ?_)
    have hf := o_bnd hf c1 ec
    refine lv_aload_n hx hb dX7_takeLast_19 rfl (lv_at hl 0 rfl) ?_
    refine m_get X hS fl_7_9 (vC_11_0 q cI cZ _) dX7_takeLast_20 ?_
    refine lv_aload_n hx hb dX7_takeLast_23 rfl (lv_at hl 0 rfl) ?_
    refine m_get X hS fl_7_18 (vC_11_2 q cI cZ _) dX7_takeLast_24 ?_
    refine lv_bipush (v := (6 : Int32)) hx hb dX7_takeLast_27 (by decide) ?_
    refine lv_imul hx hb dX7_takeLast_29 ?_
    refine lv_aload_n hx hb dX7_takeLast_30 rfl (lv_at hl 1 rfl) ?_
    refine m_get X hS fl_7_22 (vC_5_0 q cI cZ _) dX7_takeLast_31 ?_
    refine lv_iconst (v := (0 : Int32)) hx hb dX7_takeLast_34 (by decide) ?_
    refine lv_bipush (v := (6 : Int32)) hx hb dX7_takeLast_35 (by decide) ?_
    obtain ⟨hg, hf⟩ := o_gc hf
    refine m_copy X hS hl.1 cc_7_25 (aC_48 q cI cZ) (aC_28 q cI cZ) hg (Nat.le_of_ble_eq_true rfl) (Nat.le_of_ble_eq_true rfl) dX7_takeLast_37 (fun c2 ec H locs hS => ?_)
    have hf := o_bnd hf c2 ec
    refine lv_aload_n hx hb dX7_takeLast_40 rfl (lv_at hl 0 rfl) ?_
    refine m_get X hS fl_7_15 (vC_11_1 q cI cZ _) dX7_takeLast_41 ?_
    refine lv_aload_n hx hb dX7_takeLast_44 rfl (lv_at hl 0 rfl) ?_
    refine m_get X hS fl_7_18 (vC_11_2 q cI cZ _) dX7_takeLast_45 ?_
    refine lv_bipush (v := (6 : Int32)) hx hb dX7_takeLast_48 (by decide) ?_
    refine lv_imul hx hb dX7_takeLast_50 ?_
    refine lv_aload_n hx hb dX7_takeLast_51 rfl (lv_at hl 1 rfl) ?_
    refine m_get X hS fl_7_31 (vC_5_1 q cI cZ _) dX7_takeLast_52 ?_
    refine lv_iconst (v := (0 : Int32)) hx hb dX7_takeLast_55 (by decide) ?_
    refine lv_bipush (v := (6 : Int32)) hx hb dX7_takeLast_56 (by decide) ?_
    obtain ⟨hg, hf⟩ := o_gc hf
    refine m_copy X hS hl.1 cc_7_25 (aC_49 q cI cZ) (aC_29 q cI cZ) hg (Nat.le_of_ble_eq_true rfl) (Nat.le_of_ble_eq_true rfl) dX7_takeLast_58 (fun c3 ec H locs hS => ?_)
    have hf := o_bnd hf c3 ec
    refine lv_iconst (v := (1 : Int32)) hx hb dX7_takeLast_61 (by decide) ?_
    exact ret (Or.inr rfl) hf hS dX7_takeLast_62
  · have hf := o_f hc hf
    refine lv_iconst (v := (0 : Int32)) hx hb dX7_takeLast_7 (by decide) ?_
    exact ret (Or.inl rfl) hf hS dX7_takeLast_8

set_option maxHeartbeats 40000000 in
set_option maxRecDepth 100000 in
theorem c_X9_back (l : Launch) (D : va_G) (cI cZ : ClassId) (q : Nat → Nat) (c : Mm) (sz : Nat) (R : Int32 × Mm) (hf : X9_back c = some R) : m_Mi l yX9_back cX9_back 1 (some .int) 2 47 D cI cZ (mkC q cI cZ) 50 q [.ref (q 0)] c sz R := by
  refine m_enter_i (own := RX9) (by decide) rfl (Nat.le_of_ble_eq_true rfl) ?_
  intro p e s m args below meth cd Q X ret
  have hx := X.1
  have hb := X.2.1
  intro H locs ls hS hl
  have hl : lv_has ls 1 [(0, .ref (q 0))] := hl
  unfold X9_back at hf
  refine lv_aload_n hx hb dX9_back_0 rfl (lv_at hl 0 rfl) ?_
  refine m_get X hS fl_9_80 (vC_0_10 q cI cZ _) dX9_back_1 ?_
  refine lv_aload_n hx hb dX9_back_4 rfl (lv_at hl 0 rfl) ?_
  refine m_get X hS fl_9_38 (vC_0_4 q cI cZ _) dX9_back_5 ?_
  obtain ⟨r1, c2, hq, hf⟩ := o_cal hf
  refine m_calli (rest := []) X hS hl.1 (c_X7_takeLast l D cI cZ q _ _ _ hq) cv_9_248 (oC_11 q cI cZ _) rfl rfl ⟨Nat.le_of_ble_eq_true rfl, Nat.le_of_ble_eq_true rfl⟩ ⟨Nat.zero_le _, Nat.zero_le _⟩ (Nat.le_of_ble_eq_true rfl) dX9_back_8 (fun H locs hS => ?_)
  refine lv_if_ne (tgt := 17) hx hb dX9_back_11 (by decide) (fun hc => ?_) (fun hc => ?_)
  · have hf := o_f hc hf
    refine lv_aload_n hx hb dX9_back_17 rfl (lv_at hl 0 rfl) ?_
    refine m_get X hS fl_9_66 (vC_0_8 q cI cZ _) dX9_back_18 ?_
    refine lv_iconst (v := (0 : Int32)) hx hb dX9_back_21 (by decide) ?_
    refine m_put X hS fp_9_184 (pC_9_3 q cI cZ) dX9_back_22 (fun c3 ec H locs hS => ?_)
    have hf := o_bnd hf c3 ec
    refine lv_aload_n hx hb dX9_back_25 rfl (lv_at hl 0 rfl) ?_
    refine m_get X hS fl_9_80 (vC_0_10 q cI cZ _) dX9_back_26 ?_
    refine m_get X hS fl_9_247 (vC_11_2 q cI cZ _) dX9_back_29 ?_
    exact ret hf hS dX9_back_32
  · have hf := o_t hc hf
    refine lv_bipush (v := (-2 : Int32)) hx hb dX9_back_14 (by decide) ?_
    exact ret hf hS dX9_back_16

set_option maxHeartbeats 40000000 in
set_option maxRecDepth 100000 in
theorem c_X9_count (l : Launch) (D : va_G) (cI cZ : ClassId) (q : Nat → Nat) (c : Mm) (sz : Nat) (v1 : Int32) (R : Int32 × Mm) (hf : X9_count v1 c = some R) : m_Mi l yX9_count cX9_count 2 (some .int) 0 0 D cI cZ (mkC q cI cZ) 50 q [.ref (q 0), .int v1] c sz R := by
  refine m_enter_i (own := RX9) (by decide) rfl (Nat.le_of_ble_eq_true rfl) ?_
  intro p e s m args below meth cd Q X ret
  have hx := X.1
  have hb := X.2.1
  intro H locs ls hS hl
  have hl : lv_has ls 2 [(0, .ref (q 0)), (1, .int v1)] := hl
  unfold X9_count at hf
  refine lv_iload_n hx hb dX9_count_0 rfl (lv_at hl 1 rfl) ?_
  by_cases h_0 : v1 = (0 : Int32)
  · have hf := o_t h_0 hf
    refine lv_tableIn (off := 39) (tgt := 40) hx hb dX9_count_1 (by rw [h_0]; decide) (by rw [h_0]; decide) (by rw [h_0]; decide) (by decide) ?_
    refine lv_aload_n hx hb dX9_count_40 rfl (lv_at hl 0 rfl) ?_
    refine m_get X hS fl_9_32 (vC_0_3 q cI cZ _) dX9_count_41 ?_
    refine m_get X hS fl_9_117 (vC_4_0 q cI cZ _) dX9_count_44 ?_
    exact ret hf hS dX9_count_47
  have hf := o_f h_0 hf
  by_cases h_1 : v1 = (1 : Int32)
  · have hf := o_t h_1 hf
    refine lv_tableIn (off := 47) (tgt := 48) hx hb dX9_count_1 (by rw [h_1]; decide) (by rw [h_1]; decide) (by rw [h_1]; decide) (by decide) ?_
    refine lv_aload_n hx hb dX9_count_48 rfl (lv_at hl 0 rfl) ?_
    refine m_get X hS fl_9_32 (vC_0_3 q cI cZ _) dX9_count_49 ?_
    refine m_get X hS fl_9_251 (vC_4_1 q cI cZ _) dX9_count_52 ?_
    exact ret hf hS dX9_count_55
  have hf := o_f h_1 hf
  by_cases h_2 : v1 = (2 : Int32)
  · have hf := o_t h_2 hf
    refine lv_tableIn (off := 55) (tgt := 56) hx hb dX9_count_1 (by rw [h_2]; decide) (by rw [h_2]; decide) (by rw [h_2]; decide) (by decide) ?_
    refine lv_aload_n hx hb dX9_count_56 rfl (lv_at hl 0 rfl) ?_
    refine m_get X hS fl_9_73 (vC_0_9 q cI cZ _) dX9_count_57 ?_
    refine m_get X hS fl_9_233 (vC_10_2 q cI cZ _) dX9_count_60 ?_
    exact ret hf hS dX9_count_63
  have hf := o_f h_2 hf
  by_cases h_3 : v1 = (3 : Int32)
  · have hf := o_t h_3 hf
    refine lv_tableIn (off := 63) (tgt := 64) hx hb dX9_count_1 (by rw [h_3]; decide) (by rw [h_3]; decide) (by rw [h_3]; decide) (by decide) ?_
    refine lv_aload_n hx hb dX9_count_64 rfl (lv_at hl 0 rfl) ?_
    refine m_get X hS fl_9_66 (vC_0_8 q cI cZ _) dX9_count_65 ?_
    refine m_get X hS fl_9_184 (vC_9_3 q cI cZ _) dX9_count_68 ?_
    exact ret hf hS dX9_count_71
  have hf := o_f h_3 hf
  by_cases h_4 : v1 = (4 : Int32)
  · have hf := o_t h_4 hf
    refine lv_tableIn (off := 71) (tgt := 72) hx hb dX9_count_1 (by rw [h_4]; decide) (by rw [h_4]; decide) (by rw [h_4]; decide) (by decide) ?_
    refine lv_aload_n hx hb dX9_count_72 rfl (lv_at hl 0 rfl) ?_
    refine m_get X hS fl_9_80 (vC_0_10 q cI cZ _) dX9_count_73 ?_
    refine m_get X hS fl_9_247 (vC_11_2 q cI cZ _) dX9_count_76 ?_
    exact ret hf hS dX9_count_79
  have hf := o_f h_4 hf
  by_cases h_5 : v1 = (5 : Int32)
  · have hf := o_t h_5 hf
    refine lv_tableIn (off := 79) (tgt := 80) hx hb dX9_count_1 (by rw [h_5]; decide) (by rw [h_5]; decide) (by rw [h_5]; decide) (by decide) ?_
    refine lv_aload_n hx hb dX9_count_80 rfl (lv_at hl 0 rfl) ?_
    refine m_get X hS fl_9_10 (vC_0_0 q cI cZ _) dX9_count_81 ?_
    refine m_get X hS fl_9_111 (vC_1_1 q cI cZ _) dX9_count_84 ?_
    exact ret hf hS dX9_count_87
  have hf := o_f h_5 hf
  refine lv_tableOut (tgt := 88) hx hb dX9_count_1 (by have := lv_neT h_0 (by decide : ((0 : Int32)).toInt = 0); have := lv_neT h_1 (by decide : ((1 : Int32)).toInt = 1); have := lv_neT h_2 (by decide : ((2 : Int32)).toInt = 2); have := lv_neT h_3 (by decide : ((3 : Int32)).toInt = 3); have := lv_neT h_4 (by decide : ((4 : Int32)).toInt = 4); have := lv_neT h_5 (by decide : ((5 : Int32)).toInt = 5); omega) (by decide) ?_
  refine lv_iconst (v := (-1 : Int32)) hx hb dX9_count_88 (by decide) ?_
  exact ret hf hS dX9_count_89
