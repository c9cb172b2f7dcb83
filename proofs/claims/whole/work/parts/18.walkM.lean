set_option maxHeartbeats 40000000 in
set_option maxRecDepth 100000 in
theorem c_X10_byCustom (l : Launch) (D : va_G) (cI cZ : ClassId) (q : Nat → Nat) (c : Mm) (sz : Nat) (v1 : Int32) (v2 : Int32) (R : Int32 × Mm) (hf : X10_byCustom v1 v2 c = some R) : m_Mi l yX10_byCustom cX10_byCustom 3 (some .int) 0 0 D cI cZ (mkM q cI cZ) 29 q [.ref (q 0), .int v1, .int v2] c sz R := by
  refine m_enter_i (own := RX10) (by decide) rfl (Nat.le_of_ble_eq_true rfl) ?_
  intro p e s m args below meth cd Q X ret
  have hx := X.1
  have hb := X.2.1
  have k77 : ∀ (v1 : Int32) (v2 : Int32) (s0 : Int32) (s1 : Int32) (c : Mm), X10_byCustom_j77 v1 v2 s0 s1 c = some R → m_G p l e (m_rm 0 0) s m args below meth cd Q D (mkM q cI cZ) 29 q 3 77 [(0, .ref (q 0)), (1, .int v1), (2, .int v2)] [.int s1, .int s0] c := by
    intro v1 v2 s0 s1 c hf H locs ls hS hl
    unfold X10_byCustom_j77 at hf
    refine lv_icmp_eq (tgt := 95) hx hb dX10_byCustom_77 (by decide) (fun hc => ?_) (fun hc => ?_)
    · have hf := o_t hc hf
      refine lv_aload_n hx hb dX10_byCustom_95 rfl (lv_at hl 0 rfl) ?_
      refine m_get X hS fl_10_19 (vM_0_4 q cI cZ _) dX10_byCustom_96 ?_
      refine lv_iload_n hx hb dX10_byCustom_99 rfl (lv_at hl 1 rfl) ?_
      obtain ⟨hg, hf⟩ := o_gi hf
      refine m_ild X hS (aM_4 q cI cZ) hg dX10_byCustom_100 ?_
      refine lv_iconst (v := (1 : Int32)) hx hb dX10_byCustom_101 (by decide) ?_
      refine lv_icmp_ne (tgt := 109) hx hb dX10_byCustom_102 (by decide) (fun hc => ?_) (fun hc => ?_)
      · have hf := o_f hc hf
        refine lv_iload_n hx hb dX10_byCustom_109 rfl (lv_at hl 2 rfl) ?_
        exact ret hf hS dX10_byCustom_110
      · have hf := o_t hc hf
        refine lv_iload_n hx hb dX10_byCustom_105 rfl (lv_at hl 1 rfl) ?_
        refine lv_goto (tgt := 110) hx hb dX10_byCustom_106 (by decide) ?_
        exact ret hf hS dX10_byCustom_110
    · have hf := o_f hc hf
      refine lv_aload_n hx hb dX10_byCustom_80 rfl (lv_at hl 0 rfl) ?_
      refine m_get X hS fl_10_43 (vM_0_12 q cI cZ _) dX10_byCustom_81 ?_
      refine lv_iload_n hx hb dX10_byCustom_84 rfl (lv_at hl 1 rfl) ?_
      obtain ⟨hg, hf⟩ := o_gi hf
      refine m_ild X hS (aM_12 q cI cZ) hg dX10_byCustom_85 ?_
      refine lv_if_ne (tgt := 93) hx hb dX10_byCustom_86 (by decide) (fun hc => ?_) (fun hc => ?_)
      · have hf := o_f hc hf
        refine lv_iload_n hx hb dX10_byCustom_93 rfl (lv_at hl 2 rfl) ?_
        exact ret hf hS dX10_byCustom_94
      · have hf := o_t hc hf
        refine lv_iload_n hx hb dX10_byCustom_89 rfl (lv_at hl 1 rfl) ?_
        refine lv_goto (tgt := 94) hx hb dX10_byCustom_90 (by decide) ?_
        exact ret hf hS dX10_byCustom_94
  have k63 : ∀ (v1 : Int32) (v2 : Int32) (s0 : Int32) (c : Mm), X10_byCustom_j63 v1 v2 s0 c = some R → m_G p l e (m_rm 0 0) s m args below meth cd Q D (mkM q cI cZ) 29 q 3 63 [(0, .ref (q 0)), (1, .int v1), (2, .int v2)] [.int s0] c := by
    intro v1 v2 s0 c hf H locs ls hS hl
    unfold X10_byCustom_j63 at hf
    refine lv_aload_n hx hb dX10_byCustom_63 rfl (lv_at hl 0 rfl) ?_
    refine m_get X hS fl_10_43 (vM_0_12 q cI cZ _) dX10_byCustom_64 ?_
    refine lv_iload_n hx hb dX10_byCustom_67 rfl (lv_at hl 2 rfl) ?_
    obtain ⟨hg, hf⟩ := o_gi hf
    refine m_ild X hS (aM_12 q cI cZ) hg dX10_byCustom_68 ?_
    refine lv_if_ne (tgt := 76) hx hb dX10_byCustom_69 (by decide) (fun hc => ?_) (fun hc => ?_)
    · have hf := o_f hc hf
      refine lv_iconst (v := (0 : Int32)) hx hb dX10_byCustom_76 (by decide) ?_
      exact k77 v1 v2 s0 (0 : Int32) _ hf H locs ls hS (lv_sub hl [0, 1, 2] rfl)
    · have hf := o_t hc hf
      refine lv_iconst (v := (1 : Int32)) hx hb dX10_byCustom_72 (by decide) ?_
      refine lv_goto (tgt := 77) hx hb dX10_byCustom_73 (by decide) ?_
      exact k77 v1 v2 s0 (1 : Int32) _ hf H locs ls hS (lv_sub hl [0, 1, 2] rfl)
  have k30 : ∀ (v1 : Int32) (v2 : Int32) (s0 : Int32) (s1 : Int32) (c : Mm), X10_byCustom_j30 v1 v2 s0 s1 c = some R → m_G p l e (m_rm 0 0) s m args below meth cd Q D (mkM q cI cZ) 29 q 3 30 [(0, .ref (q 0)), (1, .int v1), (2, .int v2)] [.int s1, .int s0] c := by
    intro v1 v2 s0 s1 c hf H locs ls hS hl
    unfold X10_byCustom_j30 at hf
    refine lv_icmp_eq (tgt := 49) hx hb dX10_byCustom_30 (by decide) (fun hc => ?_) (fun hc => ?_)
    · have hf := o_t hc hf
      refine lv_aload_n hx hb dX10_byCustom_49 rfl (lv_at hl 0 rfl) ?_
      refine m_get X hS fl_10_43 (vM_0_12 q cI cZ _) dX10_byCustom_50 ?_
      refine lv_iload_n hx hb dX10_byCustom_53 rfl (lv_at hl 1 rfl) ?_
      obtain ⟨hg, hf⟩ := o_gi hf
      refine m_ild X hS (aM_12 q cI cZ) hg dX10_byCustom_54 ?_
      refine lv_if_ne (tgt := 62) hx hb dX10_byCustom_55 (by decide) (fun hc => ?_) (fun hc => ?_)
      · have hf := o_f hc hf
        refine lv_iconst (v := (0 : Int32)) hx hb dX10_byCustom_62 (by decide) ?_
        exact k63 v1 v2 (0 : Int32) _ hf H locs ls hS (lv_sub hl [0, 1, 2] rfl)
      · have hf := o_t hc hf
        refine lv_iconst (v := (1 : Int32)) hx hb dX10_byCustom_58 (by decide) ?_
        refine lv_goto (tgt := 63) hx hb dX10_byCustom_59 (by decide) ?_
        exact k63 v1 v2 (1 : Int32) _ hf H locs ls hS (lv_sub hl [0, 1, 2] rfl)
    · have hf := o_f hc hf
      refine lv_aload_n hx hb dX10_byCustom_33 rfl (lv_at hl 0 rfl) ?_
      refine m_get X hS fl_10_28 (vM_0_7 q cI cZ _) dX10_byCustom_34 ?_
      refine lv_iload_n hx hb dX10_byCustom_37 rfl (lv_at hl 1 rfl) ?_
      obtain ⟨hg, hf⟩ := o_gi hf
      refine m_ild X hS (aM_7 q cI cZ) hg dX10_byCustom_38 ?_
      refine lv_iconst (v := (1 : Int32)) hx hb dX10_byCustom_39 (by decide) ?_
      refine lv_icmp_ne (tgt := 47) hx hb dX10_byCustom_40 (by decide) (fun hc => ?_) (fun hc => ?_)
      · have hf := o_f hc hf
        refine lv_iload_n hx hb dX10_byCustom_47 rfl (lv_at hl 1 rfl) ?_
        exact ret hf hS dX10_byCustom_48
      · have hf := o_t hc hf
        refine lv_iload_n hx hb dX10_byCustom_43 rfl (lv_at hl 2 rfl) ?_
        refine lv_goto (tgt := 48) hx hb dX10_byCustom_44 (by decide) ?_
        exact ret hf hS dX10_byCustom_48
  have k15 : ∀ (v1 : Int32) (v2 : Int32) (s0 : Int32) (c : Mm), X10_byCustom_j15 v1 v2 s0 c = some R → m_G p l e (m_rm 0 0) s m args below meth cd Q D (mkM q cI cZ) 29 q 3 15 [(0, .ref (q 0)), (1, .int v1), (2, .int v2)] [.int s0] c := by
    intro v1 v2 s0 c hf H locs ls hS hl
    unfold X10_byCustom_j15 at hf
    refine lv_aload_n hx hb dX10_byCustom_15 rfl (lv_at hl 0 rfl) ?_
    refine m_get X hS fl_10_28 (vM_0_7 q cI cZ _) dX10_byCustom_16 ?_
    refine lv_iload_n hx hb dX10_byCustom_19 rfl (lv_at hl 2 rfl) ?_
    obtain ⟨hg, hf⟩ := o_gi hf
    refine m_ild X hS (aM_7 q cI cZ) hg dX10_byCustom_20 ?_
    refine lv_iconst (v := (1 : Int32)) hx hb dX10_byCustom_21 (by decide) ?_
    refine lv_icmp_ne (tgt := 29) hx hb dX10_byCustom_22 (by decide) (fun hc => ?_) (fun hc => ?_)
    · have hf := o_f hc hf
      refine lv_iconst (v := (0 : Int32)) hx hb dX10_byCustom_29 (by decide) ?_
      exact k30 v1 v2 s0 (0 : Int32) _ hf H locs ls hS (lv_sub hl [0, 1, 2] rfl)
    · have hf := o_t hc hf
      refine lv_iconst (v := (1 : Int32)) hx hb dX10_byCustom_25 (by decide) ?_
      refine lv_goto (tgt := 30) hx hb dX10_byCustom_26 (by decide) ?_
      exact k30 v1 v2 s0 (1 : Int32) _ hf H locs ls hS (lv_sub hl [0, 1, 2] rfl)
  intro H locs ls hS hl
  have hl : lv_has ls 3 [(0, .ref (q 0)), (1, .int v1), (2, .int v2)] := hl
  unfold X10_byCustom at hf
  refine lv_aload_n hx hb dX10_byCustom_0 rfl (lv_at hl 0 rfl) ?_
  refine m_get X hS fl_10_28 (vM_0_7 q cI cZ _) dX10_byCustom_1 ?_
  refine lv_iload_n hx hb dX10_byCustom_4 rfl (lv_at hl 1 rfl) ?_
  obtain ⟨hg, hf⟩ := o_gi hf
  refine m_ild X hS (aM_7 q cI cZ) hg dX10_byCustom_5 ?_
  refine lv_iconst (v := (1 : Int32)) hx hb dX10_byCustom_6 (by decide) ?_
  refine lv_icmp_ne (tgt := 14) hx hb dX10_byCustom_7 (by decide) (fun hc => ?_) (fun hc => ?_)
  · have hf := o_f hc hf
    refine lv_iconst (v := (0 : Int32)) hx hb dX10_byCustom_14 (by decide) ?_
    exact k15 v1 v2 (0 : Int32) _ hf H locs ls hS (lv_sub hl [0, 1, 2] rfl)
  · have hf := o_t hc hf
    refine lv_iconst (v := (1 : Int32)) hx hb dX10_byCustom_10 (by decide) ?_
    refine lv_goto (tgt := 15) hx hb dX10_byCustom_11 (by decide) ?_
    exact k15 v1 v2 (1 : Int32) _ hf H locs ls hS (lv_sub hl [0, 1, 2] rfl)

set_option maxHeartbeats 40000000 in
set_option maxRecDepth 100000 in
theorem c_X10_byLoad (l : Launch) (D : va_G) (cI cZ : ClassId) (q : Nat → Nat) (c : Mm) (sz : Nat) (v1 : Int32) (v2 : Int32) (R : Int32 × Mm) (hf : X10_byLoad v1 v2 c = some R) : m_Mi l yX10_byLoad cX10_byLoad 3 (some .int) 1 22 D cI cZ (mkM q cI cZ) 29 q [.ref (q 0), .int v1, .int v2] c sz R := by
  refine m_enter_i (own := RX10) (by decide) rfl (Nat.le_of_ble_eq_true rfl) ?_
  intro p e s m args below meth cd Q X ret
  have hx := X.1
  have hb := X.2.1
  intro H locs ls hS hl
  have hl : lv_has ls 3 [(0, .ref (q 0)), (1, .int v1), (2, .int v2)] := hl
  unfold X10_byLoad at hf
  refine lv_aload_n hx hb dX10_byLoad_0 rfl (lv_at hl 0 rfl) ?_
  refine m_get X hS fl_10_43 (vM_0_12 q cI cZ _) dX10_byLoad_1 ?_
  refine lv_iload_n hx hb dX10_byLoad_4 rfl (lv_at hl 1 rfl) ?_
  obtain ⟨hg, hf⟩ := o_gi hf
  refine m_ild X hS (aM_12 q cI cZ) hg dX10_byLoad_5 ?_
  refine lv_aload_n hx hb dX10_byLoad_6 rfl (lv_at hl 0 rfl) ?_
  refine m_get X hS fl_10_43 (vM_0_12 q cI cZ _) dX10_byLoad_7 ?_
  refine lv_iload_n hx hb dX10_byLoad_10 rfl (lv_at hl 2 rfl) ?_
  obtain ⟨hg, hf⟩ := o_gi hf
  refine m_ild X hS (aM_12 q cI cZ) hg dX10_byLoad_11 ?_
  refine lv_icmp_ne (tgt := 24) hx hb dX10_byLoad_12 (by decide) (fun hc => ?_) (fun hc => ?_)
  · have hf := o_f hc hf
    refine lv_aload_n hx hb dX10_byLoad_24 rfl (lv_at hl 0 rfl) ?_
    refine m_get X hS fl_10_43 (vM_0_12 q cI cZ _) dX10_byLoad_25 ?_
    refine lv_iload_n hx hb dX10_byLoad_28 rfl (lv_at hl 1 rfl) ?_
    obtain ⟨hg, hf⟩ := o_gi hf
    refine m_ild X hS (aM_12 q cI cZ) hg dX10_byLoad_29 ?_
    refine lv_aload_n hx hb dX10_byLoad_30 rfl (lv_at hl 0 rfl) ?_
    refine m_get X hS fl_10_43 (vM_0_12 q cI cZ _) dX10_byLoad_31 ?_
    refine lv_iload_n hx hb dX10_byLoad_34 rfl (lv_at hl 2 rfl) ?_
    obtain ⟨hg, hf⟩ := o_gi hf
    refine m_ild X hS (aM_12 q cI cZ) hg dX10_byLoad_35 ?_
    refine lv_icmp_ge (tgt := 43) hx hb dX10_byLoad_36 (by decide) (fun hc => ?_) (fun hc => ?_)
    · have hf := o_t hc hf
      refine lv_iload_n hx hb dX10_byLoad_43 rfl (lv_at hl 2 rfl) ?_
      exact ret hf hS dX10_byLoad_44
    · have hf := o_f hc hf
      refine lv_iload_n hx hb dX10_byLoad_39 rfl (lv_at hl 1 rfl) ?_
      refine lv_goto (tgt := 44) hx hb dX10_byLoad_40 (by decide) ?_
      exact ret hf hS dX10_byLoad_44
  · have hf := o_t hc hf
    refine lv_aload_n hx hb dX10_byLoad_15 rfl (lv_at hl 0 rfl) ?_
    refine lv_iload_n hx hb dX10_byLoad_16 rfl (lv_at hl 1 rfl) ?_
    refine lv_iload_n hx hb dX10_byLoad_17 rfl (lv_at hl 2 rfl) ?_
    obtain ⟨r1, c2, hq, hf⟩ := o_cal hf
    refine m_calli (rest := []) X hS hl.1 (c_X10_byCustom l D cI cZ q _ _ v1 v2 _ hq) cv_10_168 (oM_0 q cI cZ _) rfl rfl ⟨Nat.le_of_ble_eq_true rfl, Nat.le_of_ble_eq_true rfl⟩ ⟨Nat.zero_le _, Nat.zero_le _⟩ (Nat.le_of_ble_eq_true rfl) dX10_byLoad_18 (fun H locs hS => ?_)
    refine lv_goto (tgt := 44) hx hb dX10_byLoad_21 (by decide) ?_
    exact ret hf hS dX10_byLoad_44

set_option maxHeartbeats 40000000 in
set_option maxRecDepth 100000 in
theorem c_X10_loss (l : Launch) (D : va_G) (cI cZ : ClassId) (q : Nat → Nat) (c : Mm) (sz : Nat) (v1 : Int32) (R : Int32 × Mm) (hf : X10_loss v1 c = some R) : m_Mi l yX10_loss cX10_loss 2 (some .int) 0 0 D cI cZ (mkM q cI cZ) 29 q [.ref (q 0), .int v1] c sz R := by
  refine m_enter_i (own := RX10) (by decide) rfl (Nat.le_of_ble_eq_true rfl) ?_
  intro p e s m args below meth cd Q X ret
  have hx := X.1
  have hb := X.2.1
  intro H locs ls hS hl
  have hl : lv_has ls 2 [(0, .ref (q 0)), (1, .int v1)] := hl
  unfold X10_loss at hf
  refine lv_aload_n hx hb dX10_loss_0 rfl (lv_at hl 0 rfl) ?_
  refine m_get X hS fl_10_40 (vM_0_11 q cI cZ _) dX10_loss_1 ?_
  refine lv_iconst (v := (0 : Int32)) hx hb dX10_loss_4 (by decide) ?_
  refine m_ildN X hS 0 (by decide +kernel) (aM_11 q cI cZ) (by decide +kernel) dX10_loss_5 ?_
  refine lv_aload_n hx hb dX10_loss_6 rfl (lv_at hl 0 rfl) ?_
  refine m_get X hS fl_10_43 (vM_0_12 q cI cZ _) dX10_loss_7 ?_
  refine lv_iload_n hx hb dX10_loss_10 rfl (lv_at hl 1 rfl) ?_
  obtain ⟨hg, hf⟩ := o_gi hf
  refine m_ild X hS (aM_12 q cI cZ) hg dX10_loss_11 ?_
  refine lv_iadd hx hb dX10_loss_12 ?_
  refine lv_aload_n hx hb dX10_loss_13 rfl (lv_at hl 0 rfl) ?_
  refine m_get X hS fl_10_43 (vM_0_12 q cI cZ _) dX10_loss_14 ?_
  refine lv_iload_n hx hb dX10_loss_17 rfl (lv_at hl 1 rfl) ?_
  obtain ⟨hg, hf⟩ := o_gi hf
  refine m_ild X hS (aM_12 q cI cZ) hg dX10_loss_18 ?_
  refine lv_iconst (v := (1 : Int32)) hx hb dX10_loss_19 (by decide) ?_
  refine lv_iadd hx hb dX10_loss_20 ?_
  refine lv_imul hx hb dX10_loss_21 ?_
  exact ret hf hS dX10_loss_22

set_option maxHeartbeats 40000000 in
set_option maxRecDepth 100000 in
theorem c_X10_byRule (l : Launch) (D : va_G) (cI cZ : ClassId) (q : Nat → Nat) (c : Mm) (sz : Nat) (v1 : Int32) (v2 : Int32) (v3 : Int32) (R : Int32 × Mm) (hf : X10_byRule v1 v2 v3 c = some R) : m_Mi l yX10_byRule cX10_byRule 4 (some .int) 2 44 D cI cZ (mkM q cI cZ) 29 q [.ref (q 0), .int v1, .int v2, .int v3] c sz R := by
  refine m_enter_i (own := RX10) (by decide) rfl (Nat.le_of_ble_eq_true rfl) ?_
  intro p e s m args below meth cd Q X ret
  have hx := X.1
  have hb := X.2.1
  intro H locs ls hS hl
  have hl : lv_has ls 4 [(0, .ref (q 0)), (1, .int v1), (2, .int v2), (3, .int v3)] := hl
  unfold X10_byRule at hf
  refine lv_iload_n hx hb dX10_byRule_0 rfl (lv_at hl 1 rfl) ?_
  by_cases h_0 : v1 = (0 : Int32)
  · have hf := o_t h_0 hf
    refine lv_tableIn (off := 27) (tgt := 28) hx hb dX10_byRule_1 (by rw [h_0]; decide) (by rw [h_0]; decide) (by rw [h_0]; decide) (by decide) ?_
    refine lv_aload_n hx hb dX10_byRule_28 rfl (lv_at hl 0 rfl) ?_
    refine lv_iload_n hx hb dX10_byRule_29 rfl (lv_at hl 2 rfl) ?_
    refine lv_iload_n hx hb dX10_byRule_30 rfl (lv_at hl 3 rfl) ?_
    obtain ⟨r1, c2, hq, hf⟩ := o_cal hf
    refine m_calli (rest := []) X hS hl.1 (c_X10_byCustom l D cI cZ q _ _ v2 v3 _ hq) cv_10_168 (oM_0 q cI cZ _) rfl rfl ⟨Nat.le_of_ble_eq_true rfl, Nat.le_of_ble_eq_true rfl⟩ ⟨Nat.zero_le _, Nat.zero_le _⟩ (Nat.le_of_ble_eq_true rfl) dX10_byRule_31 (fun H locs hS => ?_)
    exact ret hf hS dX10_byRule_34
  have hf := o_f h_0 hf
  by_cases h_1 : v1 = (1 : Int32)
  · have hf := o_t h_1 hf
    refine lv_tableIn (off := 34) (tgt := 35) hx hb dX10_byRule_1 (by rw [h_1]; decide) (by rw [h_1]; decide) (by rw [h_1]; decide) (by decide) ?_
    refine lv_aload_n hx hb dX10_byRule_35 rfl (lv_at hl 0 rfl) ?_
    refine lv_iload_n hx hb dX10_byRule_36 rfl (lv_at hl 2 rfl) ?_
    refine lv_iload_n hx hb dX10_byRule_37 rfl (lv_at hl 3 rfl) ?_
    obtain ⟨r3, c4, hq, hf⟩ := o_cal hf
    refine m_calli (rest := []) X hS hl.1 (c_X10_byLoad l D cI cZ q _ _ v2 v3 _ hq) cv_10_172 (oM_0 q cI cZ _) rfl rfl ⟨Nat.le_of_ble_eq_true rfl, Nat.le_of_ble_eq_true rfl⟩ ⟨Nat.zero_le _, Nat.zero_le _⟩ (Nat.le_of_ble_eq_true rfl) dX10_byRule_38 (fun H locs hS => ?_)
    exact ret hf hS dX10_byRule_41
  have hf := o_f h_1 hf
  by_cases h_2 : v1 = (2 : Int32)
  · have hf := o_t h_2 hf
    refine lv_tableIn (off := 41) (tgt := 42) hx hb dX10_byRule_1 (by rw [h_2]; decide) (by rw [h_2]; decide) (by rw [h_2]; decide) (by decide) ?_
    refine lv_aload_n hx hb dX10_byRule_42 rfl (lv_at hl 0 rfl) ?_
    refine m_get X hS fl_10_22 (vM_0_5 q cI cZ _) dX10_byRule_43 ?_
    refine lv_iload_n hx hb dX10_byRule_46 rfl (lv_at hl 2 rfl) ?_
    obtain ⟨hg, hf⟩ := o_gi hf
    refine m_ild X hS (aM_5 q cI cZ) hg dX10_byRule_47 ?_
    refine lv_aload_n hx hb dX10_byRule_48 rfl (lv_at hl 0 rfl) ?_
    refine m_get X hS fl_10_22 (vM_0_5 q cI cZ _) dX10_byRule_49 ?_
    refine lv_iload_n hx hb dX10_byRule_52 rfl (lv_at hl 3 rfl) ?_
    obtain ⟨hg, hf⟩ := o_gi hf
    refine m_ild X hS (aM_5 q cI cZ) hg dX10_byRule_53 ?_
    refine lv_icmp_ne (tgt := 66) hx hb dX10_byRule_54 (by decide) (fun hc => ?_) (fun hc => ?_)
    · have hf := o_f hc hf
      refine lv_aload_n hx hb dX10_byRule_66 rfl (lv_at hl 0 rfl) ?_
      refine m_get X hS fl_10_22 (vM_0_5 q cI cZ _) dX10_byRule_67 ?_
      refine lv_iload_n hx hb dX10_byRule_70 rfl (lv_at hl 2 rfl) ?_
      obtain ⟨hg, hf⟩ := o_gi hf
      refine m_ild X hS (aM_5 q cI cZ) hg dX10_byRule_71 ?_
      refine lv_aload_n hx hb dX10_byRule_72 rfl (lv_at hl 0 rfl) ?_
      refine m_get X hS fl_10_22 (vM_0_5 q cI cZ _) dX10_byRule_73 ?_
      refine lv_iload_n hx hb dX10_byRule_76 rfl (lv_at hl 3 rfl) ?_
      obtain ⟨hg, hf⟩ := o_gi hf
      refine m_ild X hS (aM_5 q cI cZ) hg dX10_byRule_77 ?_
      refine lv_icmp_ge (tgt := 85) hx hb dX10_byRule_78 (by decide) (fun hc => ?_) (fun hc => ?_)
      · have hf := o_t hc hf
        refine lv_iload_n hx hb dX10_byRule_85 rfl (lv_at hl 3 rfl) ?_
        exact ret hf hS dX10_byRule_86
      · have hf := o_f hc hf
        refine lv_iload_n hx hb dX10_byRule_81 rfl (lv_at hl 2 rfl) ?_
        refine lv_goto (tgt := 86) hx hb dX10_byRule_82 (by decide) ?_
        exact ret hf hS dX10_byRule_86
    · have hf := o_t hc hf
      refine lv_aload_n hx hb dX10_byRule_57 rfl (lv_at hl 0 rfl) ?_
      refine lv_iload_n hx hb dX10_byRule_58 rfl (lv_at hl 2 rfl) ?_
      refine lv_iload_n hx hb dX10_byRule_59 rfl (lv_at hl 3 rfl) ?_
      obtain ⟨r5, c6, hq, hf⟩ := o_cal hf
      refine m_calli (rest := []) X hS hl.1 (c_X10_byCustom l D cI cZ q _ _ v2 v3 _ hq) cv_10_168 (oM_0 q cI cZ _) rfl rfl ⟨Nat.le_of_ble_eq_true rfl, Nat.le_of_ble_eq_true rfl⟩ ⟨Nat.zero_le _, Nat.zero_le _⟩ (Nat.le_of_ble_eq_true rfl) dX10_byRule_60 (fun H locs hS => ?_)
      refine lv_goto (tgt := 86) hx hb dX10_byRule_63 (by decide) ?_
      exact ret hf hS dX10_byRule_86
  have hf := o_f h_2 hf
  refine lv_tableOut (tgt := 87) hx hb dX10_byRule_1 (by have := lv_neT h_0 (by decide : ((0 : Int32)).toInt = 0); have := lv_neT h_1 (by decide : ((1 : Int32)).toInt = 1); have := lv_neT h_2 (by decide : ((2 : Int32)).toInt = 2); omega) (by decide) ?_
  refine lv_aload_n hx hb dX10_byRule_87 rfl (lv_at hl 0 rfl) ?_
  refine lv_iload_n hx hb dX10_byRule_88 rfl (lv_at hl 2 rfl) ?_
  obtain ⟨r7, c8, hq, hf⟩ := o_cal hf
  refine m_calli (rest := []) X hS hl.1 (c_X10_loss l D cI cZ q _ _ v2 _ hq) cv_10_175 (oM_0 q cI cZ _) rfl rfl ⟨Nat.le_of_ble_eq_true rfl, Nat.le_of_ble_eq_true rfl⟩ ⟨Nat.zero_le _, Nat.zero_le _⟩ (Nat.le_of_ble_eq_true rfl) dX10_byRule_89 (fun H locs hS => ?_)
  refine lv_aload_n hx hb dX10_byRule_92 rfl (lv_at hl 0 rfl) ?_
  refine lv_iload_n hx hb dX10_byRule_93 rfl (lv_at hl 3 rfl) ?_
  obtain ⟨r9, c10, hq, hf⟩ := o_cal hf
  refine m_calli (rest := [.int r7]) X hS hl.1 (c_X10_loss l D cI cZ q _ _ v3 _ hq) cv_10_175 (oM_0 q cI cZ _) rfl rfl ⟨Nat.le_of_ble_eq_true rfl, Nat.le_of_ble_eq_true rfl⟩ ⟨Nat.zero_le _, Nat.zero_le _⟩ (Nat.le_of_ble_eq_true rfl) dX10_byRule_94 (fun H locs hS => ?_)
  refine lv_icmp_ne (tgt := 109) hx hb dX10_byRule_97 (by decide) (fun hc => ?_) (fun hc => ?_)
  · have hf := o_f hc hf
    refine lv_aload_n hx hb dX10_byRule_109 rfl (lv_at hl 0 rfl) ?_
    refine lv_iload_n hx hb dX10_byRule_110 rfl (lv_at hl 2 rfl) ?_
    obtain ⟨r11, c12, hq, hf⟩ := o_cal hf
    refine m_calli (rest := []) X hS hl.1 (c_X10_loss l D cI cZ q _ _ v2 _ hq) cv_10_175 (oM_0 q cI cZ _) rfl rfl ⟨Nat.le_of_ble_eq_true rfl, Nat.le_of_ble_eq_true rfl⟩ ⟨Nat.zero_le _, Nat.zero_le _⟩ (Nat.le_of_ble_eq_true rfl) dX10_byRule_111 (fun H locs hS => ?_)
    refine lv_aload_n hx hb dX10_byRule_114 rfl (lv_at hl 0 rfl) ?_
    refine lv_iload_n hx hb dX10_byRule_115 rfl (lv_at hl 3 rfl) ?_
    obtain ⟨r13, c14, hq, hf⟩ := o_cal hf
    refine m_calli (rest := [.int r11]) X hS hl.1 (c_X10_loss l D cI cZ q _ _ v3 _ hq) cv_10_175 (oM_0 q cI cZ _) rfl rfl ⟨Nat.le_of_ble_eq_true rfl, Nat.le_of_ble_eq_true rfl⟩ ⟨Nat.zero_le _, Nat.zero_le _⟩ (Nat.le_of_ble_eq_true rfl) dX10_byRule_116 (fun H locs hS => ?_)
    refine lv_icmp_ge (tgt := 126) hx hb dX10_byRule_119 (by decide) (fun hc => ?_) (fun hc => ?_)
    · have hf := o_t hc hf
      refine lv_iload_n hx hb dX10_byRule_126 rfl (lv_at hl 3 rfl) ?_
      exact ret hf hS dX10_byRule_127
    · have hf := o_f hc hf
      refine lv_iload_n hx hb dX10_byRule_122 rfl (lv_at hl 2 rfl) ?_
      refine lv_goto (tgt := 127) hx hb dX10_byRule_123 (by decide) ?_
      exact ret hf hS dX10_byRule_127
  · have hf := o_t hc hf
    refine lv_aload_n hx hb dX10_byRule_100 rfl (lv_at hl 0 rfl) ?_
    refine lv_iload_n hx hb dX10_byRule_101 rfl (lv_at hl 2 rfl) ?_
    refine lv_iload_n hx hb dX10_byRule_102 rfl (lv_at hl 3 rfl) ?_
    obtain ⟨r15, c16, hq, hf⟩ := o_cal hf
    refine m_calli (rest := []) X hS hl.1 (c_X10_byLoad l D cI cZ q _ _ v2 v3 _ hq) cv_10_172 (oM_0 q cI cZ _) rfl rfl ⟨Nat.le_of_ble_eq_true rfl, Nat.le_of_ble_eq_true rfl⟩ ⟨Nat.zero_le _, Nat.zero_le _⟩ (Nat.le_of_ble_eq_true rfl) dX10_byRule_103 (fun H locs hS => ?_)
    refine lv_goto (tgt := 127) hx hb dX10_byRule_106 (by decide) ?_
    exact ret hf hS dX10_byRule_127

set_option maxHeartbeats 40000000 in
set_option maxRecDepth 100000 in
theorem c_X10_yielder (l : Launch) (D : va_G) (cI cZ : ClassId) (q : Nat → Nat) (c : Mm) (sz : Nat) (v1 : Int32) (v2 : Int32) (v3 : Int32) (R : Int32 × Mm) (hf : X10_yielder v1 v2 v3 c = some R) : m_Mi l yX10_yielder cX10_yielder 4 (some .int) 3 67 D cI cZ (mkM q cI cZ) 29 q [.ref (q 0), .int v1, .int v2, .int v3] c sz R := by
  refine m_enter_i (own := RX10) (by decide) rfl (Nat.le_of_ble_eq_true rfl) ?_
  intro p e s m args below meth cd Q X ret
  have hx := X.1
  have hb := X.2.1
  have k86 : ∀ (v1 : Int32) (v2 : Int32) (v3 : Int32) (s0 : Int32) (s1 : Int32) (c : Mm), X10_yielder_j86 v1 v2 v3 s0 s1 c = some R → m_G p l e (m_rm 3 67) s m args below meth cd Q D (mkM q cI cZ) 29 q 4 86 [(0, .ref (q 0)), (1, .int v1), (2, .int v2), (3, .int v3)] [.int s1, .int s0] c := by
    intro v1 v2 v3 s0 s1 c hf H locs ls hS hl
    unfold X10_yielder_j86 at hf
    refine lv_icmp_eq (tgt := 105) hx hb dX10_yielder_86 (by decide) (fun hc => ?_) (fun hc => ?_)
    · have hf := o_t hc hf
      refine lv_aload_n hx hb dX10_yielder_105 rfl (lv_at hl 0 rfl) ?_
      refine lv_iload_n hx hb dX10_yielder_106 rfl (lv_at hl 1 rfl) ?_
      refine lv_iload_n hx hb dX10_yielder_107 rfl (lv_at hl 2 rfl) ?_
      refine lv_iload_n hx hb dX10_yielder_108 rfl (lv_at hl 3 rfl) ?_
      obtain ⟨r1, c2, hq, hf⟩ := o_cal hf
      refine m_calli (rest := []) X hS hl.1 (c_X10_byRule l D cI cZ q _ _ v1 v2 v3 _ hq) cv_10_178 (oM_0 q cI cZ _) rfl rfl ⟨Nat.le_of_ble_eq_true rfl, Nat.le_of_ble_eq_true rfl⟩ ⟨Nat.zero_le _, Nat.zero_le _⟩ (Nat.le_of_ble_eq_true rfl) dX10_yielder_109 (fun H locs hS => ?_)
      exact ret hf hS dX10_yielder_112
    · have hf := o_f hc hf
      refine lv_aload_n hx hb dX10_yielder_89 rfl (lv_at hl 0 rfl) ?_
      refine m_get X hS fl_10_28 (vM_0_7 q cI cZ _) dX10_yielder_90 ?_
      refine lv_iload_n hx hb dX10_yielder_93 rfl (lv_at hl 2 rfl) ?_
      obtain ⟨hg, hf⟩ := o_gi hf
      refine m_ild X hS (aM_7 q cI cZ) hg dX10_yielder_94 ?_
      refine lv_iconst (v := (3 : Int32)) hx hb dX10_yielder_95 (by decide) ?_
      refine lv_icmp_ne (tgt := 103) hx hb dX10_yielder_96 (by decide) (fun hc => ?_) (fun hc => ?_)
      · have hf := o_f hc hf
        refine lv_iload_n hx hb dX10_yielder_103 rfl (lv_at hl 3 rfl) ?_
        exact ret hf hS dX10_yielder_104
      · have hf := o_t hc hf
        refine lv_iload_n hx hb dX10_yielder_99 rfl (lv_at hl 2 rfl) ?_
        refine lv_goto (tgt := 104) hx hb dX10_yielder_100 (by decide) ?_
        exact ret hf hS dX10_yielder_104
  have k71 : ∀ (v1 : Int32) (v2 : Int32) (v3 : Int32) (s0 : Int32) (c : Mm), X10_yielder_j71 v1 v2 v3 s0 c = some R → m_G p l e (m_rm 3 67) s m args below meth cd Q D (mkM q cI cZ) 29 q 4 71 [(0, .ref (q 0)), (1, .int v1), (2, .int v2), (3, .int v3)] [.int s0] c := by
    intro v1 v2 v3 s0 c hf H locs ls hS hl
    unfold X10_yielder_j71 at hf
    refine lv_aload_n hx hb dX10_yielder_71 rfl (lv_at hl 0 rfl) ?_
    refine m_get X hS fl_10_28 (vM_0_7 q cI cZ _) dX10_yielder_72 ?_
    refine lv_iload_n hx hb dX10_yielder_75 rfl (lv_at hl 3 rfl) ?_
    obtain ⟨hg, hf⟩ := o_gi hf
    refine m_ild X hS (aM_7 q cI cZ) hg dX10_yielder_76 ?_
    refine lv_iconst (v := (3 : Int32)) hx hb dX10_yielder_77 (by decide) ?_
    refine lv_icmp_ne (tgt := 85) hx hb dX10_yielder_78 (by decide) (fun hc => ?_) (fun hc => ?_)
    · have hf := o_f hc hf
      refine lv_iconst (v := (0 : Int32)) hx hb dX10_yielder_85 (by decide) ?_
      exact k86 v1 v2 v3 s0 (0 : Int32) _ hf H locs ls hS (lv_sub hl [0, 1, 2, 3] rfl)
    · have hf := o_t hc hf
      refine lv_iconst (v := (1 : Int32)) hx hb dX10_yielder_81 (by decide) ?_
      refine lv_goto (tgt := 86) hx hb dX10_yielder_82 (by decide) ?_
      exact k86 v1 v2 v3 s0 (1 : Int32) _ hf H locs ls hS (lv_sub hl [0, 1, 2, 3] rfl)
  have k20 : ∀ (v2 : Int32) (v3 : Int32) (c : Mm), X10_yielder_j20 v2 v3 c = some R → m_G p l e (m_rm 3 67) s m args below meth cd Q D (mkM q cI cZ) 29 q 4 20 [(0, .ref (q 0)), (2, .int v2), (3, .int v3)] [] c := by
    intro v2 v3 c hf H locs ls hS hl
    unfold X10_yielder_j20 at hf
    refine lv_aload_n hx hb dX10_yielder_20 rfl (lv_at hl 0 rfl) ?_
    refine m_get X hS fl_10_28 (vM_0_7 q cI cZ _) dX10_yielder_21 ?_
    refine lv_iload_n hx hb dX10_yielder_24 rfl (lv_at hl 1 rfl) ?_
    obtain ⟨hg, hf⟩ := o_gi hf
    refine m_ild X hS (aM_7 q cI cZ) hg dX10_yielder_25 ?_
    refine lv_aload_n hx hb dX10_yielder_26 rfl (lv_at hl 0 rfl) ?_
    refine m_get X hS fl_10_28 (vM_0_7 q cI cZ _) dX10_yielder_27 ?_
    refine lv_iload_n hx hb dX10_yielder_30 rfl (lv_at hl 2 rfl) ?_
    obtain ⟨hg, hf⟩ := o_gi hf
    refine m_ild X hS (aM_7 q cI cZ) hg dX10_yielder_31 ?_
    refine lv_icmp_ne (tgt := 40) hx hb dX10_yielder_32 (by decide) (fun hc => ?_) (fun hc => ?_)
    · have hf := o_f hc hf
      refine lv_aload_n hx hb dX10_yielder_40 rfl (lv_at hl 0 rfl) ?_
      refine m_get X hS fl_10_28 (vM_0_7 q cI cZ _) dX10_yielder_41 ?_
      refine lv_iload_n hx hb dX10_yielder_44 rfl (lv_at hl 1 rfl) ?_
      obtain ⟨hg, hf⟩ := o_gi hf
      refine m_ild X hS (aM_7 q cI cZ) hg dX10_yielder_45 ?_
      refine lv_iconst (v := (2 : Int32)) hx hb dX10_yielder_46 (by decide) ?_
      refine lv_icmp_ne (tgt := 54) hx hb dX10_yielder_47 (by decide) (fun hc => ?_) (fun hc => ?_)
      · have hf := o_f hc hf
        refine lv_iload_n hx hb dX10_yielder_54 rfl (lv_at hl 1 rfl) ?_
        exact ret hf hS dX10_yielder_55
      · have hf := o_t hc hf
        refine lv_iload_n hx hb dX10_yielder_50 rfl (lv_at hl 2 rfl) ?_
        refine lv_goto (tgt := 55) hx hb dX10_yielder_51 (by decide) ?_
        exact ret hf hS dX10_yielder_55
    · have hf := o_t hc hf
      refine lv_bipush (v := (-4 : Int32)) hx hb dX10_yielder_35 (by decide) ?_
      refine lv_goto (tgt := 55) hx hb dX10_yielder_37 (by decide) ?_
      exact ret hf hS dX10_yielder_55
  intro H locs ls hS hl
  have hl : lv_has ls 4 [(0, .ref (q 0)), (1, .int v1), (2, .int v2), (3, .int v3)] := hl
  unfold X10_yielder at hf
  refine lv_aload_n hx hb dX10_yielder_0 rfl (lv_at hl 0 rfl) ?_
  refine m_get X hS fl_10_28 (vM_0_7 q cI cZ _) dX10_yielder_1 ?_
  refine lv_iload_n hx hb dX10_yielder_4 rfl (lv_at hl 2 rfl) ?_
  obtain ⟨hg, hf⟩ := o_gi hf
  refine m_ild X hS (aM_7 q cI cZ) hg dX10_yielder_5 ?_
  refine lv_iconst (v := (2 : Int32)) hx hb dX10_yielder_6 (by decide) ?_
  refine lv_icmp_eq (tgt := 20) hx hb dX10_yielder_7 (by decide) (fun hc => ?_) (fun hc => ?_)
  · have hf := o_t hc hf
    exact k20 v2 v3 _ hf H locs ls hS (lv_sub hl [0, 2, 3] rfl)
  · have hf := o_f hc hf
    refine lv_aload_n hx hb dX10_yielder_10 rfl (lv_at hl 0 rfl) ?_
    refine m_get X hS fl_10_28 (vM_0_7 q cI cZ _) dX10_yielder_11 ?_
    refine lv_iload_n hx hb dX10_yielder_14 rfl (lv_at hl 3 rfl) ?_
    obtain ⟨hg, hf⟩ := o_gi hf
    refine m_ild X hS (aM_7 q cI cZ) hg dX10_yielder_15 ?_
    refine lv_iconst (v := (2 : Int32)) hx hb dX10_yielder_16 (by decide) ?_
    refine lv_icmp_ne (tgt := 56) hx hb dX10_yielder_17 (by decide) (fun hc => ?_) (fun hc => ?_)
    · have hf := o_f hc hf
      refine lv_aload_n hx hb dX10_yielder_56 rfl (lv_at hl 0 rfl) ?_
      refine m_get X hS fl_10_28 (vM_0_7 q cI cZ _) dX10_yielder_57 ?_
      refine lv_iload_n hx hb dX10_yielder_60 rfl (lv_at hl 2 rfl) ?_
      obtain ⟨hg, hf⟩ := o_gi hf
      refine m_ild X hS (aM_7 q cI cZ) hg dX10_yielder_61 ?_
      refine lv_iconst (v := (3 : Int32)) hx hb dX10_yielder_62 (by decide) ?_
      refine lv_icmp_ne (tgt := 70) hx hb dX10_yielder_63 (by decide) (fun hc => ?_) (fun hc => ?_)
      · have hf := o_f hc hf
        refine lv_iconst (v := (0 : Int32)) hx hb dX10_yielder_70 (by decide) ?_
        exact k71 v1 v2 v3 (0 : Int32) _ hf H locs ls hS (lv_sub hl [0, 1, 2, 3] rfl)
      · have hf := o_t hc hf
        refine lv_iconst (v := (1 : Int32)) hx hb dX10_yielder_66 (by decide) ?_
        refine lv_goto (tgt := 71) hx hb dX10_yielder_67 (by decide) ?_
        exact k71 v1 v2 v3 (1 : Int32) _ hf H locs ls hS (lv_sub hl [0, 1, 2, 3] rfl)
    · have hf := o_t hc hf
      exact k20 v2 v3 _ hf H locs ls hS (lv_sub hl [0, 2, 3] rfl)

set_option maxHeartbeats 40000000 in
set_option maxRecDepth 100000 in
theorem c_X10_isNarrow (l : Launch) (D : va_G) (cI cZ : ClassId) (q : Nat → Nat) (c : Mm) (sz : Nat) (v1 : Int32) (R : Int32 × Mm) (hf : X10_isNarrow v1 c = some R) : m_Mi l yX10_isNarrow cX10_isNarrow 4 (some .boolean) 1 25 D cI cZ (mkM q cI cZ) 29 q [.ref (q 0), .int v1] c sz R := by
  refine m_enter_z (own := RX10) (by decide) rfl (Nat.le_of_ble_eq_true rfl) ?_
  intro p e s m args below meth cd Q X ret
  have hx := X.1
  have hb := X.2.1
  have k45 : ∀ (v1 : Int32) (v3 : Int32) (s0 : Int32) (rc4 : Int32 → Int32 → Mm → Option (Int32 × Mm)) (hrc4 : ∀ (w2 : Int32) (w3 : Int32) (c : Mm), rc4 w2 w3 c = some R → m_G p l e (m_rm 1 25) s m args below meth cd Q D (mkM q cI cZ) 29 q 4 4 [(0, .ref (q 0)), (1, .int v1), (2, .int w2), (3, .int w3)] [] c) (c : Mm), X10_isNarrow_j45 rc4 v1 v3 s0 c = some R → m_G p l e (m_rm 1 25) s m args below meth cd Q D (mkM q cI cZ) 29 q 4 45 [(0, .ref (q 0)), (1, .int v1), (3, .int v3)] [.int s0] c := by
    intro v1 v3 s0 rc4 hrc4 c hf H locs ls hS hl
    unfold X10_isNarrow_j45 at hf
    refine lv_istore_n (lv' := [(2, .int s0), (0, .ref (q 0)), (1, .int v1), (3, .int v3)]) hx hb dX10_isNarrow_45 rfl hl (by decide) rfl (fun ls hl => ?_)
    obtain ⟨x1, ex⟩ : ∃ y : Int32, y = v3 + (1 : Int32) := ⟨_, rfl⟩
    have hf := o_bnd hf x1 ex
    refine lv_iinc (v := x1) (lv' := [(3, .int x1), (2, .int s0), (0, .ref (q 0)), (1, .int v1)]) hx hb dX10_isNarrow_46 hl (k := 3) rfl (by rw [ex]; rfl) (by decide) rfl (fun ls hl => ?_)
    refine lv_goto (tgt := 4) hx hb dX10_isNarrow_49 (by decide) ?_
    exact hrc4 s0 x1 _ hf H locs ls hS (lv_sub hl [2, 3, 1, 0] rfl)
  have k40 : ∀ (v1 : Int32) (v3 : Int32) (rc4 : Int32 → Int32 → Mm → Option (Int32 × Mm)) (hrc4 : ∀ (w2 : Int32) (w3 : Int32) (c : Mm), rc4 w2 w3 c = some R → m_G p l e (m_rm 1 25) s m args below meth cd Q D (mkM q cI cZ) 29 q 4 4 [(0, .ref (q 0)), (1, .int v1), (2, .int w2), (3, .int w3)] [] c) (c : Mm), X10_isNarrow_j40 rc4 v1 v3 c = some R → m_G p l e (m_rm 1 25) s m args below meth cd Q D (mkM q cI cZ) 29 q 4 40 [(0, .ref (q 0)), (1, .int v1), (3, .int v3)] [] c := by
    intro v1 v3 rc4 hrc4 c hf H locs ls hS hl
    unfold X10_isNarrow_j40 at hf
    refine lv_iconst (v := (1 : Int32)) hx hb dX10_isNarrow_40 (by decide) ?_
    refine lv_goto (tgt := 45) hx hb dX10_isNarrow_41 (by decide) ?_
    exact k45 v1 v3 (1 : Int32) rc4 hrc4 _ hf H locs ls hS (lv_sub hl [0, 1, 2] rfl)
  have k4 : ∀ (v1 : Int32), ∀ (n : Nat) (v2 : Int32) (v3 : Int32) (c : Mm), m_lp2 (X10_isNarrow_b4 v1) n v2 v3 c = some R → m_G p l e (m_rm 1 25) s m args below meth cd Q D (mkM q cI cZ) 29 q 4 4 [(0, .ref (q 0)), (1, .int v1), (2, .int v2), (3, .int v3)] [] c := by
    intro v1
    refine m_lp2_i ?_
    intro rc4 hrc4 v2 v3 c hf H locs ls hS hl
    unfold X10_isNarrow_b4 at hf
    refine lv_iload_n hx hb dX10_isNarrow_4 rfl (lv_at hl 3 rfl) ?_
    refine lv_aload_n hx hb dX10_isNarrow_5 rfl (lv_at hl 0 rfl) ?_
    refine m_get X hS fl_10_31 (vM_0_8 q cI cZ _) dX10_isNarrow_6 ?_
    refine lv_iconst (v := (0 : Int32)) hx hb dX10_isNarrow_9 (by decide) ?_
    refine m_ildN X hS 0 (by decide +kernel) (aM_8 q cI cZ) (by decide +kernel) dX10_isNarrow_10 ?_
    refine lv_icmp_ge (tgt := 52) hx hb dX10_isNarrow_11 (by decide) (fun hc => ?_) (fun hc => ?_)
    · have hf := o_t hc hf
      refine lv_iload_n hx hb dX10_isNarrow_52 rfl (lv_at hl 2 rfl) ?_
      obtain ⟨hz, hf⟩ := o_gb hf
      exact ret hz hf hS dX10_isNarrow_53
    · have hf := o_f hc hf
      refine lv_iload_n hx hb dX10_isNarrow_14 rfl (lv_at hl 2 rfl) ?_
      refine lv_if_ne (tgt := 40) hx hb dX10_isNarrow_15 (by decide) (fun hc => ?_) (fun hc => ?_)
      · have hf := o_f hc hf
        exact k40 v1 v3 rc4 hrc4 _ hf H locs ls hS (lv_sub hl [0, 1, 3] rfl)
      · have hf := o_t hc hf
        refine lv_iload_n hx hb dX10_isNarrow_18 rfl (lv_at hl 1 rfl) ?_
        refine lv_i2l hx hb dX10_isNarrow_19 rfl ?_
        refine lv_aload_n hx hb dX10_isNarrow_20 rfl (lv_at hl 0 rfl) ?_
        refine m_get X hS fl_10_34 (vM_0_9 q cI cZ _) dX10_isNarrow_21 ?_
        refine lv_iload_n hx hb dX10_isNarrow_24 rfl (lv_at hl 3 rfl) ?_
        obtain ⟨hg, hf⟩ := o_gi hf
        refine m_ild X hS (aM_9 q cI cZ) hg dX10_isNarrow_25 ?_
        refine lv_i2l hx hb dX10_isNarrow_26 rfl ?_
        refine lv_aload_n hx hb dX10_isNarrow_27 rfl (lv_at hl 0 rfl) ?_
        refine m_get X hS fl_10_37 (vM_0_10 q cI cZ _) dX10_isNarrow_28 ?_
        refine lv_iload_n hx hb dX10_isNarrow_31 rfl (lv_at hl 3 rfl) ?_
        obtain ⟨hg, hf⟩ := o_gi hf
        refine m_ild X hS (aM_10 q cI cZ) hg dX10_isNarrow_32 ?_
        refine lv_i2l hx hb dX10_isNarrow_33 rfl ?_
        obtain ⟨r2, c3, hq, hf⟩ := o_cal hf
        refine m_calls (rest := []) X hS hl.1 (c_X10_in l D cI cZ q _ _ (Int32.toInt64 v1) (Int32.toInt64 (c 9 (m_ix v3))) (Int32.toInt64 (c 10 (m_ix v3))) _ hq) cs_10_109 rfl rfl ⟨Nat.le_of_ble_eq_true rfl, Nat.le_of_ble_eq_true rfl⟩ ⟨Nat.zero_le _, Nat.zero_le _⟩ (Nat.le_of_ble_eq_true rfl) dX10_isNarrow_34 (fun H locs hS => ?_)
        refine lv_if_eq (tgt := 44) hx hb dX10_isNarrow_37 (by decide) (fun hc => ?_) (fun hc => ?_)
        · have hf := o_t hc hf
          refine lv_iconst (v := (0 : Int32)) hx hb dX10_isNarrow_44 (by decide) ?_
          exact k45 v1 v3 (0 : Int32) rc4 hrc4 _ hf H locs ls hS (lv_sub hl [0, 1, 3] rfl)
        · have hf := o_f hc hf
          exact k40 v1 v3 rc4 hrc4 _ hf H locs ls hS (lv_sub hl [0, 1, 3] rfl)
  intro H locs ls hS hl
  have hl : lv_has ls 4 [(0, .ref (q 0)), (1, .int v1)] := hl
  unfold X10_isNarrow at hf
  refine lv_iconst (v := (0 : Int32)) hx hb dX10_isNarrow_0 (by decide) ?_
  refine lv_istore_n (lv' := [(2, .int (0 : Int32)), (0, .ref (q 0)), (1, .int v1)]) hx hb dX10_isNarrow_1 rfl hl (by decide) rfl (fun ls hl => ?_)
  refine lv_iconst (v := (0 : Int32)) hx hb dX10_isNarrow_2 (by decide) ?_
  refine lv_istore_n (lv' := [(3, .int (0 : Int32)), (2, .int (0 : Int32)), (0, .ref (q 0)), (1, .int v1)]) hx hb dX10_isNarrow_3 rfl hl (by decide) rfl (fun ls hl => ?_)
  exact k4 v1 _ (0 : Int32) (0 : Int32) _ hf H locs ls hS (lv_sub hl [2, 3, 1, 0] rfl)

set_option maxHeartbeats 40000000 in
set_option maxRecDepth 100000 in
theorem c_X10_standMore (l : Launch) (D : va_G) (cI cZ : ClassId) (q : Nat → Nat) (c : Mm) (sz : Nat) (v1 : Int32) (v2 : Int32) (v3 : Int32) (R : Mm) (hf : X10_standMore v1 v2 v3 c = some R) : m_Mv l yX10_standMore cX10_standMore 4 1 21 D cI cZ (mkM q cI cZ) 29 q [.ref (q 0), .int v1, .int v2, .int v3] c sz R := by
  refine m_enter_v (own := RX10) (by decide) rfl (Nat.le_of_ble_eq_true rfl) ?_
  intro p e s m args below meth cd Q X ret
  have hx := X.1
  have hb := X.2.1
  have k44 : ∀ (v1 : Int32) (v2 : Int32) (s1 : Int32) (s2 : Int32) (s3 : Int32) (c : Mm), X10_standMore_j44 v1 v2 s1 s2 s3 c = some R → m_G p l e (m_rm 1 21) s m args below meth cd Q D (mkM q cI cZ) 29 q 4 44 [(0, .ref (q 0)), (1, .int v1), (2, .int v2)] [.int s3, .int s2, .int s1, .ref (q 23)] c := by
    intro v1 v2 s1 s2 s3 c hf H locs ls hS hl
    unfold X10_standMore_j44 at hf
    refine lv_iadd hx hb dX10_standMore_44 ?_
    obtain ⟨hg, hf⟩ := o_gi hf
    refine m_ist X hS (aM_23 q cI cZ) hg dX10_standMore_45 (fun c1 ec H locs hS => ?_)
    have hf := o_bnd hf c1 ec
    refine lv_aload_n hx hb dX10_standMore_46 rfl (lv_at hl 0 rfl) ?_
    refine m_get X hS fl_10_64 (vM_0_23 q cI cZ _) dX10_standMore_47 ?_
    refine lv_iload_n hx hb dX10_standMore_50 rfl (lv_at hl 1 rfl) ?_
    refine lv_dup2_11 hx hb dX10_standMore_51 rfl rfl ?_
    obtain ⟨hg, hf⟩ := o_gi hf
    refine m_ild X hS (aM_19 q cI cZ) hg dX10_standMore_52 ?_
    refine lv_iload_n hx hb dX10_standMore_53 rfl (lv_at hl 2 rfl) ?_
    refine lv_iadd hx hb dX10_standMore_54 ?_
    obtain ⟨hg, hf⟩ := o_gi hf
    refine m_ist X hS (aM_19 q cI cZ) hg dX10_standMore_55 (fun c2 ec H locs hS => ?_)
    have hf := o_bnd hf c2 ec
    refine lv_aload_n hx hb dX10_standMore_56 rfl (lv_at hl 0 rfl) ?_
    refine m_get X hS fl_10_70 (vM_0_25 q cI cZ _) dX10_standMore_57 ?_
    refine lv_iload_n hx hb dX10_standMore_60 rfl (lv_at hl 1 rfl) ?_
    refine lv_dup2_11 hx hb dX10_standMore_61 rfl rfl ?_
    obtain ⟨hg, hf⟩ := o_gi hf
    refine m_ild X hS (aM_21 q cI cZ) hg dX10_standMore_62 ?_
    refine lv_iload_n hx hb dX10_standMore_63 rfl (lv_at hl 2 rfl) ?_
    refine lv_iadd hx hb dX10_standMore_64 ?_
    obtain ⟨hg, hf⟩ := o_gi hf
    refine m_ist X hS (aM_21 q cI cZ) hg dX10_standMore_65 (fun c3 ec H locs hS => ?_)
    have hf := o_bnd hf c3 ec
    exact ret hf hS dX10_standMore_66
  have k43 : ∀ (v1 : Int32) (v2 : Int32) (s1 : Int32) (s2 : Int32) (c : Mm), X10_standMore_j43 v1 v2 s1 s2 c = some R → m_G p l e (m_rm 1 21) s m args below meth cd Q D (mkM q cI cZ) 29 q 4 43 [(0, .ref (q 0)), (1, .int v1), (2, .int v2)] [.int s2, .int s1, .ref (q 23)] c := by
    intro v1 v2 s1 s2 c hf H locs ls hS hl
    unfold X10_standMore_j43 at hf
    refine lv_iconst (v := (0 : Int32)) hx hb dX10_standMore_43 (by decide) ?_
    exact k44 v1 v2 s1 s2 (0 : Int32) _ hf H locs ls hS (lv_sub hl [0, 1, 2] rfl)
  intro H locs ls hS hl
  have hl : lv_has ls 4 [(0, .ref (q 0)), (1, .int v1), (2, .int v2), (3, .int v3)] := hl
  unfold X10_standMore at hf
  refine lv_aload_n hx hb dX10_standMore_0 rfl (lv_at hl 0 rfl) ?_
  refine m_get X hS fl_10_76 (vM_0_27 q cI cZ _) dX10_standMore_1 ?_
  refine lv_iload_n hx hb dX10_standMore_4 rfl (lv_at hl 1 rfl) ?_
  refine lv_dup2_11 hx hb dX10_standMore_5 rfl rfl ?_
  obtain ⟨hg, hf⟩ := o_gi hf
  refine m_ild X hS (aM_23 q cI cZ) hg dX10_standMore_6 ?_
  refine lv_iload_n hx hb dX10_standMore_7 rfl (lv_at hl 2 rfl) ?_
  refine lv_if_le (tgt := 43) hx hb dX10_standMore_8 (by decide) (fun hc => ?_) (fun hc => ?_)
  · have hf := o_t hc hf
    exact k43 v1 v2 v1 (c 23 (m_ix v1)) _ hf H locs ls hS (lv_sub hl [0, 1, 2] rfl)
  · have hf := o_f hc hf
    refine lv_aload_n hx hb dX10_standMore_11 rfl (lv_at hl 0 rfl) ?_
    refine m_get X hS fl_10_64 (vM_0_23 q cI cZ _) dX10_standMore_12 ?_
    refine lv_iload_n hx hb dX10_standMore_15 rfl (lv_at hl 1 rfl) ?_
    obtain ⟨hg, hf⟩ := o_gi hf
    refine m_ild X hS (aM_19 q cI cZ) hg dX10_standMore_16 ?_
    refine lv_if_ne (tgt := 43) hx hb dX10_standMore_17 (by decide) (fun hc => ?_) (fun hc => ?_)
    · have hf := o_f hc hf
      exact k43 v1 v2 v1 (c 23 (m_ix v1)) _ hf H locs ls hS (lv_sub hl [0, 1, 2] rfl)
    · have hf := o_t hc hf
      refine lv_aload_n hx hb dX10_standMore_20 rfl (lv_at hl 0 rfl) ?_
      refine m_get X hS fl_10_61 (vM_0_22 q cI cZ _) dX10_standMore_21 ?_
      refine lv_bipush (v := (6 : Int32)) hx hb dX10_standMore_24 (by decide) ?_
      refine lv_iload_n hx hb dX10_standMore_26 rfl (lv_at hl 3 rfl) ?_
      refine lv_imul hx hb dX10_standMore_27 ?_
      refine lv_iload_n hx hb dX10_standMore_28 rfl (lv_at hl 1 rfl) ?_
      refine lv_iadd hx hb dX10_standMore_29 ?_
      obtain ⟨hg, hf⟩ := o_gi hf
      refine m_ild X hS (aM_18 q cI cZ) hg dX10_standMore_30 ?_
      refine lv_aload_n hx hb dX10_standMore_31 rfl (lv_at hl 0 rfl) ?_
      refine lv_iload_n hx hb dX10_standMore_32 rfl (lv_at hl 1 rfl) ?_
      obtain ⟨r4, c5, hq, hf⟩ := o_cal hf
      refine m_calli (rest := [.int (c 18 (m_ix (((6 : Int32) * v3) + v1))), .int (c 23 (m_ix v1)), .int v1, .ref (q 23)]) X hS hl.1 (c_X10_endOf l D cI cZ q _ _ v1 _ hq) cv_10_182 (oM_0 q cI cZ _) rfl rfl ⟨Nat.le_of_ble_eq_true rfl, Nat.le_of_ble_eq_true rfl⟩ ⟨Nat.zero_le _, Nat.zero_le _⟩ (Nat.le_of_ble_eq_true rfl) dX10_standMore_33 (fun H locs hS => ?_)
      refine lv_icmp_eq (tgt := 43) hx hb dX10_standMore_36 (by decide) (fun hc => ?_) (fun hc => ?_)
      · have hf := o_t hc hf
        exact k43 v1 v2 v1 (c 23 (m_ix v1)) _ hf H locs ls hS (lv_sub hl [0, 1, 2] rfl)
      · have hf := o_f hc hf
        refine lv_iconst (v := (1 : Int32)) hx hb dX10_standMore_39 (by decide) ?_
        refine lv_goto (tgt := 44) hx hb dX10_standMore_40 (by decide) ?_
        exact k44 v1 v2 v1 (c 23 (m_ix v1)) (1 : Int32) _ hf H locs ls hS (lv_sub hl [0, 1, 2] rfl)

set_option maxHeartbeats 40000000 in
set_option maxRecDepth 100000 in
theorem c_X10_meet (l : Launch) (D : va_G) (cI cZ : ClassId) (q : Nat → Nat) (c : Mm) (sz : Nat) (v1 : Int32) (v2 : Int32) (v3 : Int32) (v4 : Int32) (R : Mm) (hf : X10_meet v1 v2 v3 v4 c = some R) : m_Mv l yX10_meet cX10_meet 10 4 90 D cI cZ (mkM q cI cZ) 29 q [.ref (q 0), .int v1, .int v2, .int v3, .int v4] c sz R := by
  refine m_enter_v (own := RX10) (by decide) rfl (Nat.le_of_ble_eq_true rfl) ?_
  intro p e s m args below meth cd Q X ret
  have hx := X.1
  have hb := X.2.1
  have k301 : ∀ (s1 : Int32) (s3 : Int32) (s4 : Int32) (c : Mm), X10_meet_j301 s1 s3 s4 c = some R → m_G p l e (m_rm 4 90) s m args below meth cd Q D (mkM q cI cZ) 29 q 10 301 [(0, .ref (q 0))] [.int s4, .int s3, .ref (q 18), .int s1, .ref (q 27)] c := by
    intro s1 s3 s4 c hf H locs ls hS hl
    unfold X10_meet_j301 at hf
    refine lv_iadd hx hb dX10_meet_301 ?_
    obtain ⟨hg, hf⟩ := o_gi hf
    refine m_ild X hS (aM_18 q cI cZ) hg dX10_meet_302 ?_
    obtain ⟨hg, hf⟩ := o_gi hf
    refine m_ist X hS (aM_27 q cI cZ) hg dX10_meet_303 (fun c1 ec H locs hS => ?_)
    have hf := o_bnd hf c1 ec
    refine lv_aload_n hx hb dX10_meet_304 rfl (lv_at hl 0 rfl) ?_
    refine lv_dup hx hb dX10_meet_305 rfl ?_
    refine m_get X hS fl_10_195 (vM_0_28 q cI cZ _) dX10_meet_306 ?_
    refine lv_iconst (v := (1 : Int32)) hx hb dX10_meet_309 (by decide) ?_
    refine lv_iadd hx hb dX10_meet_310 ?_
    refine m_put X hS fp_10_195 (pM_0_28 q cI cZ) dX10_meet_311 (fun c2 ec H locs hS => ?_)
    have hf := o_bnd hf c2 ec
    exact ret hf hS dX10_meet_314
  have k231 : ∀ (v2 : Int32) (v3 : Int32) (v4 : Int32) (v5 : Int32) (s1 : Int32) (s2 : Int32) (s3 : Int32) (c : Mm), X10_meet_j231 v2 v3 v4 v5 s1 s2 s3 c = some R → m_G p l e (m_rm 4 90) s m args below meth cd Q D (mkM q cI cZ) 29 q 10 231 [(0, .ref (q 0)), (2, .int v2), (3, .int v3), (4, .int v4), (5, .int v5)] [.int s3, .int s2, .int s1, .ref (q 22)] c := by
    intro v2 v3 v4 v5 s1 s2 s3 c hf H locs ls hS hl
    unfold X10_meet_j231 at hf
    refine lv_iadd hx hb dX10_meet_231 ?_
    obtain ⟨hg, hf⟩ := o_gi hf
    refine m_ist X hS (aM_22 q cI cZ) hg dX10_meet_232 (fun c3 ec H locs hS => ?_)
    have hf := o_bnd hf c3 ec
    refine lv_aload_n hx hb dX10_meet_233 rfl (lv_at hl 0 rfl) ?_
    refine m_get X hS fl_10_79 (vM_0_29 q cI cZ _) dX10_meet_234 ?_
    refine lv_aload_n hx hb dX10_meet_237 rfl (lv_at hl 0 rfl) ?_
    refine m_get X hS fl_10_195 (vM_0_28 q cI cZ _) dX10_meet_238 ?_
    refine lv_iload hx hb dX10_meet_241 (lv_at hl 3 rfl) ?_
    obtain ⟨hg, hf⟩ := o_gi hf
    refine m_ist X hS (aM_24 q cI cZ) hg dX10_meet_243 (fun c4 ec H locs hS => ?_)
    have hf := o_bnd hf c4 ec
    refine lv_aload_n hx hb dX10_meet_244 rfl (lv_at hl 0 rfl) ?_
    refine m_get X hS fl_10_82 (vM_0_30 q cI cZ _) dX10_meet_245 ?_
    refine lv_aload_n hx hb dX10_meet_248 rfl (lv_at hl 0 rfl) ?_
    refine m_get X hS fl_10_195 (vM_0_28 q cI cZ _) dX10_meet_249 ?_
    refine lv_bipush (v := (8 : Int32)) hx hb dX10_meet_252 (by decide) ?_
    refine lv_iload_n hx hb dX10_meet_254 rfl (lv_at hl 1 rfl) ?_
    refine lv_imul hx hb dX10_meet_255 ?_
    refine lv_iload_n hx hb dX10_meet_256 rfl (lv_at hl 2 rfl) ?_
    refine lv_iadd hx hb dX10_meet_257 ?_
    obtain ⟨hg, hf⟩ := o_gi hf
    refine m_ist X hS (aM_25 q cI cZ) hg dX10_meet_258 (fun c5 ec H locs hS => ?_)
    have hf := o_bnd hf c5 ec
    refine lv_aload_n hx hb dX10_meet_259 rfl (lv_at hl 0 rfl) ?_
    refine m_get X hS fl_10_85 (vM_0_31 q cI cZ _) dX10_meet_260 ?_
    refine lv_aload_n hx hb dX10_meet_263 rfl (lv_at hl 0 rfl) ?_
    refine m_get X hS fl_10_195 (vM_0_28 q cI cZ _) dX10_meet_264 ?_
    refine lv_iload hx hb dX10_meet_267 (lv_at hl 4 rfl) ?_
    obtain ⟨hg, hf⟩ := o_gi hf
    refine m_ist X hS (aM_26 q cI cZ) hg dX10_meet_269 (fun c6 ec H locs hS => ?_)
    have hf := o_bnd hf c6 ec
    refine lv_aload_n hx hb dX10_meet_270 rfl (lv_at hl 0 rfl) ?_
    refine m_get X hS fl_10_88 (vM_0_32 q cI cZ _) dX10_meet_271 ?_
    refine lv_aload_n hx hb dX10_meet_274 rfl (lv_at hl 0 rfl) ?_
    refine m_get X hS fl_10_195 (vM_0_28 q cI cZ _) dX10_meet_275 ?_
    refine lv_aload_n hx hb dX10_meet_278 rfl (lv_at hl 0 rfl) ?_
    refine m_get X hS fl_10_61 (vM_0_22 q cI cZ _) dX10_meet_279 ?_
    refine lv_bipush (v := (6 : Int32)) hx hb dX10_meet_282 (by decide) ?_
    refine lv_iload hx hb dX10_meet_284 (lv_at hl 3 rfl) ?_
    refine lv_imul hx hb dX10_meet_286 ?_
    refine lv_aload_n hx hb dX10_meet_287 rfl (lv_at hl 0 rfl) ?_
    refine m_get X hS fl_10_19 (vM_0_4 q cI cZ _) dX10_meet_288 ?_
    refine lv_iload_n hx hb dX10_meet_291 rfl (lv_at hl 1 rfl) ?_
    obtain ⟨hg, hf⟩ := o_gi hf
    refine m_ild X hS (aM_4 q cI cZ) hg dX10_meet_292 ?_
    refine lv_if_ne (tgt := 300) hx hb dX10_meet_293 (by decide) (fun hc => ?_) (fun hc => ?_)
    · have hf := o_f hc hf
      refine lv_iload_n hx hb dX10_meet_300 rfl (lv_at hl 2 rfl) ?_
      exact k301 (c6 0 28) ((6 : Int32) * v4) v3 _ hf H locs ls hS (lv_sub hl [0] rfl)
    · have hf := o_t hc hf
      refine lv_iload_n hx hb dX10_meet_296 rfl (lv_at hl 1 rfl) ?_
      refine lv_goto (tgt := 301) hx hb dX10_meet_297 (by decide) ?_
      exact k301 (c6 0 28) ((6 : Int32) * v4) v2 _ hf H locs ls hS (lv_sub hl [0] rfl)
  have k211 : ∀ (v2 : Int32) (v3 : Int32) (v4 : Int32) (v5 : Int32) (s1 : Int32) (s2 : Int32) (s3 : Int32) (c : Mm), X10_meet_j211 v2 v3 v4 v5 s1 s2 s3 c = some R → m_G p l e (m_rm 4 90) s m args below meth cd Q D (mkM q cI cZ) 29 q 10 211 [(0, .ref (q 0)), (2, .int v2), (3, .int v3), (4, .int v4), (5, .int v5)] [.int s3, .int s2, .int s1, .ref (q 22)] c := by
    intro v2 v3 v4 v5 s1 s2 s3 c hf H locs ls hS hl
    unfold X10_meet_j211 at hf
    refine lv_iadd hx hb dX10_meet_211 ?_
    obtain ⟨hg, hf⟩ := o_gi hf
    refine m_ist X hS (aM_22 q cI cZ) hg dX10_meet_212 (fun c7 ec H locs hS => ?_)
    have hf := o_bnd hf c7 ec
    refine lv_aload_n hx hb dX10_meet_213 rfl (lv_at hl 0 rfl) ?_
    refine m_get X hS fl_10_73 (vM_0_26 q cI cZ _) dX10_meet_214 ?_
    refine lv_iload_n hx hb dX10_meet_217 rfl (lv_at hl 2 rfl) ?_
    refine lv_dup2_11 hx hb dX10_meet_218 rfl rfl ?_
    obtain ⟨hg, hf⟩ := o_gi hf
    refine m_ild X hS (aM_22 q cI cZ) hg dX10_meet_219 ?_
    refine lv_iload hx hb dX10_meet_220 (lv_at hl 4 rfl) ?_
    refine lv_iload_n hx hb dX10_meet_222 rfl (lv_at hl 2 rfl) ?_
    refine lv_icmp_ne (tgt := 230) hx hb dX10_meet_223 (by decide) (fun hc => ?_) (fun hc => ?_)
    · have hf := o_f hc hf
      refine lv_iconst (v := (0 : Int32)) hx hb dX10_meet_230 (by decide) ?_
      exact k231 v2 v3 v4 v5 v3 (c7 22 (m_ix v3)) (0 : Int32) _ hf H locs ls hS (lv_sub hl [0, 1, 2, 3, 4] rfl)
    · have hf := o_t hc hf
      refine lv_iconst (v := (1 : Int32)) hx hb dX10_meet_226 (by decide) ?_
      refine lv_goto (tgt := 231) hx hb dX10_meet_227 (by decide) ?_
      exact k231 v2 v3 v4 v5 v3 (c7 22 (m_ix v3)) (1 : Int32) _ hf H locs ls hS (lv_sub hl [0, 1, 2, 3, 4] rfl)
  have k167 : ∀ (v2 : Int32) (v3 : Int32) (v4 : Int32) (v5 : Int32) (v7 : Int32) (v8 : Int32) (s0 : Int32) (c : Mm), X10_meet_j167 v2 v3 v4 v5 v7 v8 s0 c = some R → m_G p l e (m_rm 4 90) s m args below meth cd Q D (mkM q cI cZ) 29 q 10 167 [(0, .ref (q 0)), (2, .int v2), (3, .int v3), (4, .int v4), (5, .int v5), (7, .int v7), (8, .int v8)] [.int s0] c := by
    intro v2 v3 v4 v5 v7 v8 s0 c hf H locs ls hS hl
    unfold X10_meet_j167 at hf
    refine lv_istore (lv' := [(9, .int s0), (0, .ref (q 0)), (2, .int v2), (3, .int v3), (4, .int v4), (5, .int v5), (7, .int v7), (8, .int v8)]) hx hb dX10_meet_167 hl (by decide) rfl (fun ls hl => ?_)
    refine lv_aload_n hx hb dX10_meet_169 rfl (lv_at hl 1 rfl) ?_
    refine lv_iload_n hx hb dX10_meet_170 rfl (lv_at hl 2 rfl) ?_
    refine lv_iload hx hb dX10_meet_171 (lv_at hl 7 rfl) ?_
    refine lv_iload hx hb dX10_meet_173 (lv_at hl 6 rfl) ?_
    refine lv_iadd hx hb dX10_meet_175 ?_
    refine lv_iload hx hb dX10_meet_176 (lv_at hl 4 rfl) ?_
    obtain ⟨c8, hq, hf⟩ := o_cav hf
    refine m_callv (rest := []) X hS hl.1 (c_X10_standMore l D cI cZ q _ _ v2 (v8 + v7) v4 _ hq) cv_10_191 (oM_0 q cI cZ _) rfl rfl ⟨Nat.le_of_ble_eq_true rfl, Nat.le_of_ble_eq_true rfl⟩ ⟨Nat.zero_le _, Nat.zero_le _⟩ (Nat.le_of_ble_eq_true rfl) dX10_meet_178 (fun H locs hS => ?_)
    refine lv_aload_n hx hb dX10_meet_181 rfl (lv_at hl 1 rfl) ?_
    refine lv_iload_n hx hb dX10_meet_182 rfl (lv_at hl 3 rfl) ?_
    refine lv_iload hx hb dX10_meet_183 (lv_at hl 0 rfl) ?_
    refine lv_iload hx hb dX10_meet_185 (lv_at hl 6 rfl) ?_
    refine lv_iadd hx hb dX10_meet_187 ?_
    refine lv_iload hx hb dX10_meet_188 (lv_at hl 4 rfl) ?_
    obtain ⟨c9, hq, hf⟩ := o_cav hf
    refine m_callv (rest := []) X hS hl.1 (c_X10_standMore l D cI cZ q _ _ v3 (s0 + v7) v4 _ hq) cv_10_191 (oM_0 q cI cZ _) rfl rfl ⟨Nat.le_of_ble_eq_true rfl, Nat.le_of_ble_eq_true rfl⟩ ⟨Nat.zero_le _, Nat.zero_le _⟩ (Nat.le_of_ble_eq_true rfl) dX10_meet_190 (fun H locs hS => ?_)
    refine lv_aload_n hx hb dX10_meet_193 rfl (lv_at hl 1 rfl) ?_
    refine m_get X hS fl_10_73 (vM_0_26 q cI cZ _) dX10_meet_194 ?_
    refine lv_iload_n hx hb dX10_meet_197 rfl (lv_at hl 2 rfl) ?_
    refine lv_dup2_11 hx hb dX10_meet_198 rfl rfl ?_
    obtain ⟨hg, hf⟩ := o_gi hf
    refine m_ild X hS (aM_22 q cI cZ) hg dX10_meet_199 ?_
    refine lv_iload hx hb dX10_meet_200 (lv_at hl 5 rfl) ?_
    refine lv_iload_n hx hb dX10_meet_202 rfl (lv_at hl 2 rfl) ?_
    refine lv_icmp_ne (tgt := 210) hx hb dX10_meet_203 (by decide) (fun hc => ?_) (fun hc => ?_)
    · have hf := o_f hc hf
      refine lv_iconst (v := (0 : Int32)) hx hb dX10_meet_210 (by decide) ?_
      exact k211 v2 v3 v4 v5 v2 (c9 22 (m_ix v2)) (0 : Int32) _ hf H locs ls hS (lv_sub hl [1, 2, 3, 4, 5] rfl)
    · have hf := o_t hc hf
      refine lv_iconst (v := (1 : Int32)) hx hb dX10_meet_206 (by decide) ?_
      refine lv_goto (tgt := 211) hx hb dX10_meet_207 (by decide) ?_
      exact k211 v2 v3 v4 v5 v2 (c9 22 (m_ix v2)) (1 : Int32) _ hf H locs ls hS (lv_sub hl [1, 2, 3, 4, 5] rfl)
  have k128 : ∀ (v2 : Int32) (v3 : Int32) (v4 : Int32) (v5 : Int32) (v7 : Int32) (s0 : Int32) (c : Mm), X10_meet_j128 v2 v3 v4 v5 v7 s0 c = some R → m_G p l e (m_rm 4 90) s m args below meth cd Q D (mkM q cI cZ) 29 q 10 128 [(0, .ref (q 0)), (2, .int v2), (3, .int v3), (4, .int v4), (5, .int v5), (7, .int v7)] [.int s0] c := by
    intro v2 v3 v4 v5 v7 s0 c hf H locs ls hS hl
    unfold X10_meet_j128 at hf
    refine lv_istore (lv' := [(8, .int s0), (0, .ref (q 0)), (2, .int v2), (3, .int v3), (4, .int v4), (5, .int v5), (7, .int v7)]) hx hb dX10_meet_128 hl (by decide) rfl (fun ls hl => ?_)
    refine lv_iload hx hb dX10_meet_130 (lv_at hl 5 rfl) ?_
    refine lv_if_ge (tgt := 144) hx hb dX10_meet_132 (by decide) (fun hc => ?_) (fun hc => ?_)
    · have hf := o_t hc hf
      refine lv_iload hx hb dX10_meet_144 (lv_at hl 5 rfl) ?_
      refine lv_iload_n hx hb dX10_meet_146 rfl (lv_at hl 3 rfl) ?_
      refine lv_icmp_ne (tgt := 166) hx hb dX10_meet_147 (by decide) (fun hc => ?_) (fun hc => ?_)
      · have hf := o_f hc hf
        refine lv_iconst (v := (0 : Int32)) hx hb dX10_meet_166 (by decide) ?_
        exact k167 v2 v3 v4 v5 v7 s0 (0 : Int32) _ hf H locs ls hS (lv_sub hl [1, 2, 3, 4, 5, 6, 0] rfl)
      · have hf := o_t hc hf
        refine lv_aload_n hx hb dX10_meet_150 rfl (lv_at hl 1 rfl) ?_
        refine m_get X hS fl_10_40 (vM_0_11 q cI cZ _) dX10_meet_151 ?_
        refine lv_iconst (v := (0 : Int32)) hx hb dX10_meet_154 (by decide) ?_
        refine m_ildN X hS 0 (by decide +kernel) (aM_11 q cI cZ) (by decide +kernel) dX10_meet_155 ?_
        refine lv_aload_n hx hb dX10_meet_156 rfl (lv_at hl 1 rfl) ?_
        refine m_get X hS fl_10_43 (vM_0_12 q cI cZ _) dX10_meet_157 ?_
        refine lv_iload_n hx hb dX10_meet_160 rfl (lv_at hl 3 rfl) ?_
        obtain ⟨hg, hf⟩ := o_gi hf
        refine m_ild X hS (aM_12 q cI cZ) hg dX10_meet_161 ?_
        refine lv_iadd hx hb dX10_meet_162 ?_
        refine lv_goto (tgt := 167) hx hb dX10_meet_163 (by decide) ?_
        exact k167 v2 v3 v4 v5 v7 s0 ((c 11 0) + (c 12 (m_ix v3))) _ hf H locs ls hS (lv_sub hl [1, 2, 3, 4, 5, 6, 0] rfl)
    · have hf := o_f hc hf
      refine lv_aload_n hx hb dX10_meet_135 rfl (lv_at hl 1 rfl) ?_
      refine m_get X hS fl_10_40 (vM_0_11 q cI cZ _) dX10_meet_136 ?_
      refine lv_iconst (v := (1 : Int32)) hx hb dX10_meet_139 (by decide) ?_
      refine m_ildN X hS 1 (by decide +kernel) (aM_11 q cI cZ) (by decide +kernel) dX10_meet_140 ?_
      refine lv_goto (tgt := 167) hx hb dX10_meet_141 (by decide) ?_
      exact k167 v2 v3 v4 v5 v7 s0 (c 11 1) _ hf H locs ls hS (lv_sub hl [1, 2, 3, 4, 5, 6, 0] rfl)
  have k89 : ∀ (v2 : Int32) (v3 : Int32) (v4 : Int32) (v5 : Int32) (s0 : Int32) (c : Mm), X10_meet_j89 v2 v3 v4 v5 s0 c = some R → m_G p l e (m_rm 4 90) s m args below meth cd Q D (mkM q cI cZ) 29 q 10 89 [(0, .ref (q 0)), (2, .int v2), (3, .int v3), (4, .int v4), (5, .int v5)] [.int s0] c := by
    intro v2 v3 v4 v5 s0 c hf H locs ls hS hl
    unfold X10_meet_j89 at hf
    refine lv_istore (lv' := [(7, .int s0), (0, .ref (q 0)), (2, .int v2), (3, .int v3), (4, .int v4), (5, .int v5)]) hx hb dX10_meet_89 hl (by decide) rfl (fun ls hl => ?_)
    refine lv_iload hx hb dX10_meet_91 (lv_at hl 5 rfl) ?_
    refine lv_if_ge (tgt := 105) hx hb dX10_meet_93 (by decide) (fun hc => ?_) (fun hc => ?_)
    · have hf := o_t hc hf
      refine lv_iload hx hb dX10_meet_105 (lv_at hl 5 rfl) ?_
      refine lv_iload_n hx hb dX10_meet_107 rfl (lv_at hl 2 rfl) ?_
      refine lv_icmp_ne (tgt := 127) hx hb dX10_meet_108 (by decide) (fun hc => ?_) (fun hc => ?_)
      · have hf := o_f hc hf
        refine lv_iconst (v := (0 : Int32)) hx hb dX10_meet_127 (by decide) ?_
        exact k128 v2 v3 v4 v5 s0 (0 : Int32) _ hf H locs ls hS (lv_sub hl [1, 2, 3, 4, 5, 0] rfl)
      · have hf := o_t hc hf
        refine lv_aload_n hx hb dX10_meet_111 rfl (lv_at hl 1 rfl) ?_
        refine m_get X hS fl_10_40 (vM_0_11 q cI cZ _) dX10_meet_112 ?_
        refine lv_iconst (v := (0 : Int32)) hx hb dX10_meet_115 (by decide) ?_
        refine m_ildN X hS 0 (by decide +kernel) (aM_11 q cI cZ) (by decide +kernel) dX10_meet_116 ?_
        refine lv_aload_n hx hb dX10_meet_117 rfl (lv_at hl 1 rfl) ?_
        refine m_get X hS fl_10_43 (vM_0_12 q cI cZ _) dX10_meet_118 ?_
        refine lv_iload_n hx hb dX10_meet_121 rfl (lv_at hl 2 rfl) ?_
        obtain ⟨hg, hf⟩ := o_gi hf
        refine m_ild X hS (aM_12 q cI cZ) hg dX10_meet_122 ?_
        refine lv_iadd hx hb dX10_meet_123 ?_
        refine lv_goto (tgt := 128) hx hb dX10_meet_124 (by decide) ?_
        exact k128 v2 v3 v4 v5 s0 ((c 11 0) + (c 12 (m_ix v2))) _ hf H locs ls hS (lv_sub hl [1, 2, 3, 4, 5, 0] rfl)
    · have hf := o_f hc hf
      refine lv_aload_n hx hb dX10_meet_96 rfl (lv_at hl 1 rfl) ?_
      refine m_get X hS fl_10_40 (vM_0_11 q cI cZ _) dX10_meet_97 ?_
      refine lv_iconst (v := (1 : Int32)) hx hb dX10_meet_100 (by decide) ?_
      refine m_ildN X hS 1 (by decide +kernel) (aM_11 q cI cZ) (by decide +kernel) dX10_meet_101 ?_
      refine lv_goto (tgt := 128) hx hb dX10_meet_102 (by decide) ?_
      exact k128 v2 v3 v4 v5 s0 (c 11 1) _ hf H locs ls hS (lv_sub hl [1, 2, 3, 4, 5, 0] rfl)
  have k77 : ∀ (v2 : Int32) (v3 : Int32) (v4 : Int32) (v5 : Int32) (s0 : Int32) (c : Mm), X10_meet_j77 v2 v3 v4 v5 s0 c = some R → m_G p l e (m_rm 4 90) s m args below meth cd Q D (mkM q cI cZ) 29 q 10 77 [(0, .ref (q 0)), (2, .int v2), (3, .int v3), (4, .int v4), (5, .int v5)] [.int s0] c := by
    intro v2 v3 v4 v5 s0 c hf H locs ls hS hl
    unfold X10_meet_j77 at hf
    refine lv_istore (lv' := [(6, .int s0), (0, .ref (q 0)), (2, .int v2), (3, .int v3), (4, .int v4), (5, .int v5)]) hx hb dX10_meet_77 hl (by decide) rfl (fun ls hl => ?_)
    refine lv_iload hx hb dX10_meet_79 (lv_at hl 0 rfl) ?_
    refine lv_if_eq (tgt := 88) hx hb dX10_meet_81 (by decide) (fun hc => ?_) (fun hc => ?_)
    · have hf := o_t hc hf
      refine lv_iconst (v := (0 : Int32)) hx hb dX10_meet_88 (by decide) ?_
      exact k89 v2 v3 v4 v5 (0 : Int32) _ hf H locs ls hS (lv_sub hl [1, 2, 3, 4, 5] rfl)
    · have hf := o_f hc hf
      refine lv_iconst (v := (3 : Int32)) hx hb dX10_meet_84 (by decide) ?_
      refine lv_goto (tgt := 89) hx hb dX10_meet_85 (by decide) ?_
      exact k89 v2 v3 v4 v5 (3 : Int32) _ hf H locs ls hS (lv_sub hl [1, 2, 3, 4, 5] rfl)
  have k52 : ∀ (v2 : Int32) (v3 : Int32) (v4 : Int32) (v5 : Int32) (c : Mm), X10_meet_j52 v2 v3 v4 v5 c = some R → m_G p l e (m_rm 4 90) s m args below meth cd Q D (mkM q cI cZ) 29 q 10 52 [(0, .ref (q 0)), (2, .int v2), (3, .int v3), (4, .int v4), (5, .int v5)] [] c := by
    intro v2 v3 v4 v5 c hf H locs ls hS hl
    unfold X10_meet_j52 at hf
    refine lv_iconst (v := (1 : Int32)) hx hb dX10_meet_52 (by decide) ?_
    refine lv_goto (tgt := 77) hx hb dX10_meet_53 (by decide) ?_
    exact k77 v2 v3 v4 v5 (1 : Int32) _ hf H locs ls hS (lv_sub hl [0, 1, 2, 3, 4] rfl)
  intro H locs ls hS hl
  have hl : lv_has ls 10 [(0, .ref (q 0)), (1, .int v1), (2, .int v2), (3, .int v3), (4, .int v4)] := hl
  unfold X10_meet at hf
  refine lv_aload_n hx hb dX10_meet_0 rfl (lv_at hl 0 rfl) ?_
  refine lv_iload_n hx hb dX10_meet_1 rfl (lv_at hl 1 rfl) ?_
  refine lv_iload_n hx hb dX10_meet_2 rfl (lv_at hl 2 rfl) ?_
  refine lv_iload_n hx hb dX10_meet_3 rfl (lv_at hl 3 rfl) ?_
  obtain ⟨r10, c11, hq, hf⟩ := o_cal hf
  refine m_calli (rest := []) X hS hl.1 (c_X10_yielder l D cI cZ q _ _ v1 v2 v3 _ hq) cv_10_185 (oM_0 q cI cZ _) rfl rfl ⟨Nat.le_of_ble_eq_true rfl, Nat.le_of_ble_eq_true rfl⟩ ⟨Nat.zero_le _, Nat.zero_le _⟩ (Nat.le_of_ble_eq_true rfl) dX10_meet_4 (fun H locs hS => ?_)
  refine lv_istore (lv' := [(5, .int r10), (0, .ref (q 0)), (1, .int v1), (2, .int v2), (3, .int v3), (4, .int v4)]) hx hb dX10_meet_7 hl (by decide) rfl (fun ls hl => ?_)
  refine lv_iload hx hb dX10_meet_9 (lv_at hl 0 rfl) ?_
  refine lv_if_ge (tgt := 60) hx hb dX10_meet_11 (by decide) (fun hc => ?_) (fun hc => ?_)
  · have hf := o_t hc hf
    refine lv_aload_n hx hb dX10_meet_60 rfl (lv_at hl 1 rfl) ?_
    refine lv_aload_n hx hb dX10_meet_61 rfl (lv_at hl 1 rfl) ?_
    refine m_get X hS fl_10_61 (vM_0_22 q cI cZ _) dX10_meet_62 ?_
    refine lv_bipush (v := (6 : Int32)) hx hb dX10_meet_65 (by decide) ?_
    refine lv_iload hx hb dX10_meet_67 (lv_at hl 5 rfl) ?_
    refine lv_imul hx hb dX10_meet_69 ?_
    refine lv_iload hx hb dX10_meet_70 (lv_at hl 0 rfl) ?_
    refine lv_iadd hx hb dX10_meet_72 ?_
    obtain ⟨hg, hf⟩ := o_gi hf
    refine m_ild X hS (aM_18 q cI cZ) hg dX10_meet_73 ?_
    obtain ⟨r12, c13, hq, hf⟩ := o_cal hf
    refine m_calli (rest := []) X hS hl.1 (c_X10_isNarrow l D cI cZ q _ _ (c11 18 (m_ix (((6 : Int32) * v4) + r10))) _ hq) cv_10_188 (oM_0 q cI cZ _) rfl rfl ⟨Nat.le_of_ble_eq_true rfl, Nat.le_of_ble_eq_true rfl⟩ ⟨Nat.zero_le _, Nat.zero_le _⟩ (Nat.le_of_ble_eq_true rfl) dX10_meet_74 (fun H locs hS => ?_)
    exact k77 v2 v3 v4 r10 r12 _ hf H locs ls hS (lv_sub hl [1, 3, 4, 5, 0] rfl)
  · have hf := o_f hc hf
    refine lv_aload_n hx hb dX10_meet_14 rfl (lv_at hl 1 rfl) ?_
    refine lv_aload_n hx hb dX10_meet_15 rfl (lv_at hl 1 rfl) ?_
    refine m_get X hS fl_10_61 (vM_0_22 q cI cZ _) dX10_meet_16 ?_
    refine lv_bipush (v := (6 : Int32)) hx hb dX10_meet_19 (by decide) ?_
    refine lv_iload hx hb dX10_meet_21 (lv_at hl 5 rfl) ?_
    refine lv_imul hx hb dX10_meet_23 ?_
    refine lv_iload_n hx hb dX10_meet_24 rfl (lv_at hl 3 rfl) ?_
    refine lv_iadd hx hb dX10_meet_25 ?_
    obtain ⟨hg, hf⟩ := o_gi hf
    refine m_ild X hS (aM_18 q cI cZ) hg dX10_meet_26 ?_
    obtain ⟨r14, c15, hq, hf⟩ := o_cal hf
    refine m_calli (rest := []) X hS hl.1 (c_X10_isNarrow l D cI cZ q _ _ (c11 18 (m_ix (((6 : Int32) * v4) + v2))) _ hq) cv_10_188 (oM_0 q cI cZ _) rfl rfl ⟨Nat.le_of_ble_eq_true rfl, Nat.le_of_ble_eq_true rfl⟩ ⟨Nat.zero_le _, Nat.zero_le _⟩ (Nat.le_of_ble_eq_true rfl) dX10_meet_27 (fun H locs hS => ?_)
    refine lv_if_ne (tgt := 52) hx hb dX10_meet_30 (by decide) (fun hc => ?_) (fun hc => ?_)
    · have hf := o_f hc hf
      exact k52 v2 v3 v4 r10 _ hf H locs ls hS (lv_sub hl [1, 3, 4, 5, 0] rfl)
    · have hf := o_t hc hf
      refine lv_aload_n hx hb dX10_meet_33 rfl (lv_at hl 1 rfl) ?_
      refine lv_aload_n hx hb dX10_meet_34 rfl (lv_at hl 1 rfl) ?_
      refine m_get X hS fl_10_61 (vM_0_22 q cI cZ _) dX10_meet_35 ?_
      refine lv_bipush (v := (6 : Int32)) hx hb dX10_meet_38 (by decide) ?_
      refine lv_iload hx hb dX10_meet_40 (lv_at hl 5 rfl) ?_
      refine lv_imul hx hb dX10_meet_42 ?_
      refine lv_iload_n hx hb dX10_meet_43 rfl (lv_at hl 4 rfl) ?_
      refine lv_iadd hx hb dX10_meet_44 ?_
      obtain ⟨hg, hf⟩ := o_gi hf
      refine m_ild X hS (aM_18 q cI cZ) hg dX10_meet_45 ?_
      obtain ⟨r16, c17, hq, hf⟩ := o_cal hf
      refine m_calli (rest := []) X hS hl.1 (c_X10_isNarrow l D cI cZ q _ _ (c15 18 (m_ix (((6 : Int32) * v4) + v3))) _ hq) cv_10_188 (oM_0 q cI cZ _) rfl rfl ⟨Nat.le_of_ble_eq_true rfl, Nat.le_of_ble_eq_true rfl⟩ ⟨Nat.zero_le _, Nat.zero_le _⟩ (Nat.le_of_ble_eq_true rfl) dX10_meet_46 (fun H locs hS => ?_)
      refine lv_if_eq (tgt := 56) hx hb dX10_meet_49 (by decide) (fun hc => ?_) (fun hc => ?_)
      · have hf := o_t hc hf
        refine lv_iconst (v := (0 : Int32)) hx hb dX10_meet_56 (by decide) ?_
        refine lv_goto (tgt := 77) hx hb dX10_meet_57 (by decide) ?_
        exact k77 v2 v3 v4 r10 (0 : Int32) _ hf H locs ls hS (lv_sub hl [1, 3, 4, 5, 0] rfl)
      · have hf := o_f hc hf
        exact k52 v2 v3 v4 r10 _ hf H locs ls hS (lv_sub hl [1, 3, 4, 5, 0] rfl)

set_option maxHeartbeats 40000000 in
set_option maxRecDepth 100000 in
theorem c_X10_goMinute (l : Launch) (D : va_G) (cI cZ : ClassId) (q : Nat → Nat) (c : Mm) (sz : Nat) (v1 : Int32) (v2 : Int32) (R : Mm) (hf : X10_goMinute v1 v2 c = some R) : m_Mv l yX10_goMinute cX10_goMinute 7 5 119 D cI cZ (mkM q cI cZ) 29 q [.ref (q 0), .int v1, .int v2] c sz R := by
  refine m_enter_v (own := RX10) (by decide) rfl (Nat.le_of_ble_eq_true rfl) ?_
  intro p e s m args below meth cd Q X ret
  have hx := X.1
  have hb := X.2.1
  have k273 : ∀ (v2 : Int32) (v3 : Int32) (s1 : Int32) (s2 : Int32) (rc220 : Int32 → Mm → Option (Mm)) (hrc220 : ∀ (w3 : Int32) (c : Mm), rc220 w3 c = some R → m_G p l e (m_rm 5 119) s m args below meth cd Q D (mkM q cI cZ) 29 q 7 220 [(0, .ref (q 0)), (2, .int v2), (3, .int w3)] [] c) (c : Mm), X10_goMinute_j273 rc220 v2 v3 s1 s2 c = some R → m_G p l e (m_rm 5 119) s m args below meth cd Q D (mkM q cI cZ) 29 q 7 273 [(0, .ref (q 0)), (2, .int v2), (3, .int v3)] [.int s2, .int s1, .ref (q 20)] c := by
    intro v2 v3 s1 s2 rc220 hrc220 c hf H locs ls hS hl
    unfold X10_goMinute_j273 at hf
    obtain ⟨hg, hf⟩ := o_gi hf
    refine m_ist X hS (aM_20 q cI cZ) hg dX10_goMinute_273 (fun c1 ec H locs hS => ?_)
    have hf := o_bnd hf c1 ec
    obtain ⟨x2, ex⟩ : ∃ y : Int32, y = v3 + (1 : Int32) := ⟨_, rfl⟩
    have hf := o_bnd hf x2 ex
    refine lv_iinc (v := x2) (lv' := [(3, .int x2), (0, .ref (q 0)), (2, .int v2)]) hx hb dX10_goMinute_274 hl (k := 2) rfl (by rw [ex]; rfl) (by decide) rfl (fun ls hl => ?_)
    refine lv_goto (tgt := 220) hx hb dX10_goMinute_277 (by decide) ?_
    exact hrc220 x2 _ hf H locs ls hS (lv_sub hl [1, 2, 0] rfl)
  have k267 : ∀ (v2 : Int32) (v3 : Int32) (s1 : Int32) (rc220 : Int32 → Mm → Option (Mm)) (hrc220 : ∀ (w3 : Int32) (c : Mm), rc220 w3 c = some R → m_G p l e (m_rm 5 119) s m args below meth cd Q D (mkM q cI cZ) 29 q 7 220 [(0, .ref (q 0)), (2, .int v2), (3, .int w3)] [] c) (c : Mm), X10_goMinute_j267 rc220 v2 v3 s1 c = some R → m_G p l e (m_rm 5 119) s m args below meth cd Q D (mkM q cI cZ) 29 q 7 267 [(0, .ref (q 0)), (2, .int v2), (3, .int v3)] [.int s1, .ref (q 20)] c := by
    intro v2 v3 s1 rc220 hrc220 c hf H locs ls hS hl
    unfold X10_goMinute_j267 at hf
    refine lv_aload_n hx hb dX10_goMinute_267 rfl (lv_at hl 0 rfl) ?_
    refine m_get X hS fl_10_67 (vM_0_24 q cI cZ _) dX10_goMinute_268 ?_
    refine lv_iload_n hx hb dX10_goMinute_271 rfl (lv_at hl 2 rfl) ?_
    obtain ⟨hg, hf⟩ := o_gi hf
    refine m_ild X hS (aM_20 q cI cZ) hg dX10_goMinute_272 ?_
    exact k273 v2 v3 s1 (c 20 (m_ix v3)) rc220 hrc220 _ hf H locs ls hS (lv_sub hl [0, 1, 2] rfl)
  have k220 : ∀ (v2 : Int32), ∀ (n : Nat) (v3 : Int32) (c : Mm), m_lp1 (X10_goMinute_b220 v2) n v3 c = some R → m_G p l e (m_rm 5 119) s m args below meth cd Q D (mkM q cI cZ) 29 q 7 220 [(0, .ref (q 0)), (2, .int v2), (3, .int v3)] [] c := by
    intro v2
    refine m_lp1_i ?_
    intro rc220 hrc220 v3 c hf H locs ls hS hl
    unfold X10_goMinute_b220 at hf
    refine lv_iload_n hx hb dX10_goMinute_220 rfl (lv_at hl 2 rfl) ?_
    refine lv_aload_n hx hb dX10_goMinute_221 rfl (lv_at hl 0 rfl) ?_
    refine m_get X hS fl_10_13 (vM_0_2 q cI cZ _) dX10_goMinute_222 ?_
    refine lv_iconst (v := (0 : Int32)) hx hb dX10_goMinute_225 (by decide) ?_
    refine m_ildN X hS 0 (by decide +kernel) (aM_2 q cI cZ) (by decide +kernel) dX10_goMinute_226 ?_
    refine lv_icmp_ge (tgt := 280) hx hb dX10_goMinute_227 (by decide) (fun hc => ?_) (fun hc => ?_)
    · have hf := o_t hc hf
      exact ret hf hS dX10_goMinute_280
    · have hf := o_f hc hf
      refine lv_aload_n hx hb dX10_goMinute_230 rfl (lv_at hl 0 rfl) ?_
      refine m_get X hS fl_10_67 (vM_0_24 q cI cZ _) dX10_goMinute_231 ?_
      refine lv_iload_n hx hb dX10_goMinute_234 rfl (lv_at hl 2 rfl) ?_
      refine lv_aload_n hx hb dX10_goMinute_235 rfl (lv_at hl 0 rfl) ?_
      refine m_get X hS fl_10_67 (vM_0_24 q cI cZ _) dX10_goMinute_236 ?_
      refine lv_iload_n hx hb dX10_goMinute_239 rfl (lv_at hl 2 rfl) ?_
      obtain ⟨hg, hf⟩ := o_gi hf
      refine m_ild X hS (aM_20 q cI cZ) hg dX10_goMinute_240 ?_
      refine lv_if_ge (tgt := 267) hx hb dX10_goMinute_241 (by decide) (fun hc => ?_) (fun hc => ?_)
      · have hf := o_t hc hf
        exact k267 v2 v3 v3 rc220 hrc220 _ hf H locs ls hS (lv_sub hl [0, 1, 2] rfl)
      · have hf := o_f hc hf
        refine lv_aload_n hx hb dX10_goMinute_244 rfl (lv_at hl 0 rfl) ?_
        refine m_get X hS fl_10_61 (vM_0_22 q cI cZ _) dX10_goMinute_245 ?_
        refine lv_bipush (v := (6 : Int32)) hx hb dX10_goMinute_248 (by decide) ?_
        refine lv_iload_n hx hb dX10_goMinute_250 rfl (lv_at hl 1 rfl) ?_
        refine lv_imul hx hb dX10_goMinute_251 ?_
        refine lv_iload_n hx hb dX10_goMinute_252 rfl (lv_at hl 2 rfl) ?_
        refine lv_iadd hx hb dX10_goMinute_253 ?_
        obtain ⟨hg, hf⟩ := o_gi hf
        refine m_ild X hS (aM_18 q cI cZ) hg dX10_goMinute_254 ?_
        refine lv_aload_n hx hb dX10_goMinute_255 rfl (lv_at hl 0 rfl) ?_
        refine lv_iload_n hx hb dX10_goMinute_256 rfl (lv_at hl 2 rfl) ?_
        obtain ⟨r3, c4, hq, hf⟩ := o_cal hf
        refine m_calli (rest := [.int (c 18 (m_ix (((6 : Int32) * v2) + v3))), .int v3, .ref (q 20)]) X hS hl.1 (c_X10_endOf l D cI cZ q _ _ v3 _ hq) cv_10_182 (oM_0 q cI cZ _) rfl rfl ⟨Nat.le_of_ble_eq_true rfl, Nat.le_of_ble_eq_true rfl⟩ ⟨Nat.zero_le _, Nat.zero_le _⟩ (Nat.le_of_ble_eq_true rfl) dX10_goMinute_257 (fun H locs hS => ?_)
        refine lv_icmp_ne (tgt := 267) hx hb dX10_goMinute_260 (by decide) (fun hc => ?_) (fun hc => ?_)
        · have hf := o_f hc hf
          exact k267 v2 v3 v3 rc220 hrc220 _ hf H locs ls hS (lv_sub hl [0, 1, 2] rfl)
        · have hf := o_t hc hf
          refine lv_iload_n hx hb dX10_goMinute_263 rfl (lv_at hl 1 rfl) ?_
          refine lv_goto (tgt := 273) hx hb dX10_goMinute_264 (by decide) ?_
          exact k273 v2 v3 v3 v2 rc220 hrc220 _ hf H locs ls hS (lv_sub hl [0, 1, 2] rfl)
  have k218 : ∀ (v2 : Int32) (c : Mm), X10_goMinute_j218 v2 c = some R → m_G p l e (m_rm 5 119) s m args below meth cd Q D (mkM q cI cZ) 29 q 7 218 [(0, .ref (q 0)), (2, .int v2)] [] c := by
    intro v2 c hf H locs ls hS hl
    unfold X10_goMinute_j218 at hf
    refine lv_iconst (v := (0 : Int32)) hx hb dX10_goMinute_218 (by decide) ?_
    refine lv_istore_n (lv' := [(3, .int (0 : Int32)), (0, .ref (q 0)), (2, .int v2)]) hx hb dX10_goMinute_219 rfl hl (by decide) rfl (fun ls hl => ?_)
    exact k220 v2 _ (0 : Int32) _ hf H locs ls hS (lv_sub hl [1, 2, 0] rfl)
  have k212 : ∀ (v1 : Int32) (v2 : Int32) (v3 : Int32) (rc160 : Int32 → Mm → Option (Mm)) (hrc160 : ∀ (w3 : Int32) (c : Mm), rc160 w3 c = some R → m_G p l e (m_rm 5 119) s m args below meth cd Q D (mkM q cI cZ) 29 q 7 160 [(0, .ref (q 0)), (1, .int v1), (2, .int v2), (3, .int w3)] [] c) (c : Mm), X10_goMinute_j212 rc160 v1 v2 v3 c = some R → m_G p l e (m_rm 5 119) s m args below meth cd Q D (mkM q cI cZ) 29 q 7 212 [(0, .ref (q 0)), (1, .int v1), (2, .int v2), (3, .int v3)] [] c := by
    intro v1 v2 v3 rc160 hrc160 c hf H locs ls hS hl
    unfold X10_goMinute_j212 at hf
    obtain ⟨x5, ex⟩ : ∃ y : Int32, y = v3 + (1 : Int32) := ⟨_, rfl⟩
    have hf := o_bnd hf x5 ex
    refine lv_iinc (v := x5) (lv' := [(3, .int x5), (0, .ref (q 0)), (1, .int v1), (2, .int v2)]) hx hb dX10_goMinute_212 hl (k := 3) rfl (by rw [ex]; rfl) (by decide) rfl (fun ls hl => ?_)
    refine lv_goto (tgt := 160) hx hb dX10_goMinute_215 (by decide) ?_
    exact hrc160 x5 _ hf H locs ls hS (lv_sub hl [1, 2, 3, 0] rfl)
  have k206 : ∀ (v1 : Int32) (v2 : Int32) (v3 : Int32) (v4 : Int32) (rc160 : Int32 → Mm → Option (Mm)) (hrc160 : ∀ (w3 : Int32) (c : Mm), rc160 w3 c = some R → m_G p l e (m_rm 5 119) s m args below meth cd Q D (mkM q cI cZ) 29 q 7 160 [(0, .ref (q 0)), (1, .int v1), (2, .int v2), (3, .int w3)] [] c) (rc175 : Int32 → Mm → Option (Mm)) (hrc175 : ∀ (w4 : Int32) (c : Mm), rc175 w4 c = some R → m_G p l e (m_rm 5 119) s m args below meth cd Q D (mkM q cI cZ) 29 q 7 175 [(0, .ref (q 0)), (1, .int v1), (2, .int v2), (3, .int v3), (4, .int w4)] [] c) (c : Mm), X10_goMinute_j206 rc160 rc175 v1 v2 v3 v4 c = some R → m_G p l e (m_rm 5 119) s m args below meth cd Q D (mkM q cI cZ) 29 q 7 206 [(0, .ref (q 0)), (1, .int v1), (2, .int v2), (3, .int v3), (4, .int v4)] [] c := by
    intro v1 v2 v3 v4 rc160 hrc160 rc175 hrc175 c hf H locs ls hS hl
    unfold X10_goMinute_j206 at hf
    obtain ⟨x6, ex⟩ : ∃ y : Int32, y = v4 + (1 : Int32) := ⟨_, rfl⟩
    have hf := o_bnd hf x6 ex
    refine lv_iinc (v := x6) (lv' := [(4, .int x6), (0, .ref (q 0)), (1, .int v1), (2, .int v2), (3, .int v3)]) hx hb dX10_goMinute_206 hl (k := 4) rfl (by rw [ex]; rfl) (by decide) rfl (fun ls hl => ?_)
    refine lv_goto (tgt := 175) hx hb dX10_goMinute_209 (by decide) ?_
    exact hrc175 x6 _ hf H locs ls hS (lv_sub hl [1, 2, 3, 4, 0] rfl)
  have k175 : ∀ (v1 : Int32) (v2 : Int32) (v3 : Int32) (rc160 : Int32 → Mm → Option (Mm)) (hrc160 : ∀ (w3 : Int32) (c : Mm), rc160 w3 c = some R → m_G p l e (m_rm 5 119) s m args below meth cd Q D (mkM q cI cZ) 29 q 7 160 [(0, .ref (q 0)), (1, .int v1), (2, .int v2), (3, .int w3)] [] c), ∀ (n : Nat) (v4 : Int32) (c : Mm), m_lp1 (X10_goMinute_b175 rc160 v1 v2 v3) n v4 c = some R → m_G p l e (m_rm 5 119) s m args below meth cd Q D (mkM q cI cZ) 29 q 7 175 [(0, .ref (q 0)), (1, .int v1), (2, .int v2), (3, .int v3), (4, .int v4)] [] c := by
    intro v1 v2 v3 rc160 hrc160
    refine m_lp1_i ?_
    intro rc175 hrc175 v4 c hf H locs ls hS hl
    unfold X10_goMinute_b175 at hf
    refine lv_iload hx hb dX10_goMinute_175 (lv_at hl 4 rfl) ?_
    refine lv_aload_n hx hb dX10_goMinute_177 rfl (lv_at hl 0 rfl) ?_
    refine m_get X hS fl_10_13 (vM_0_2 q cI cZ _) dX10_goMinute_178 ?_
    refine lv_iconst (v := (0 : Int32)) hx hb dX10_goMinute_181 (by decide) ?_
    refine m_ildN X hS 0 (by decide +kernel) (aM_2 q cI cZ) (by decide +kernel) dX10_goMinute_182 ?_
    refine lv_icmp_ge (tgt := 212) hx hb dX10_goMinute_183 (by decide) (fun hc => ?_) (fun hc => ?_)
    · have hf := o_t hc hf
      exact k212 v1 v2 v3 rc160 hrc160 _ hf H locs ls hS (lv_sub hl [0, 1, 2, 3] rfl)
    · have hf := o_f hc hf
      refine lv_aload_n hx hb dX10_goMinute_186 rfl (lv_at hl 0 rfl) ?_
      refine lv_iload_n hx hb dX10_goMinute_187 rfl (lv_at hl 3 rfl) ?_
      refine lv_iload hx hb dX10_goMinute_188 (lv_at hl 4 rfl) ?_
      refine lv_iload_n hx hb dX10_goMinute_190 rfl (lv_at hl 2 rfl) ?_
      obtain ⟨r7, c8, hq, hf⟩ := o_cal hf
      refine m_calli (rest := []) X hS hl.1 (c_X10_doMeet l D cI cZ q _ _ v3 v4 v2 _ hq) cv_10_198 (oM_0 q cI cZ _) rfl rfl ⟨Nat.le_of_ble_eq_true rfl, Nat.le_of_ble_eq_true rfl⟩ ⟨Nat.zero_le _, Nat.zero_le _⟩ (Nat.le_of_ble_eq_true rfl) dX10_goMinute_191 (fun H locs hS => ?_)
      refine lv_if_eq (tgt := 206) hx hb dX10_goMinute_194 (by decide) (fun hc => ?_) (fun hc => ?_)
      · have hf := o_t hc hf
        exact k206 v1 v2 v3 v4 rc160 hrc160 rc175 hrc175 _ hf H locs ls hS (lv_sub hl [0, 1, 2, 3, 4] rfl)
      · have hf := o_f hc hf
        refine lv_aload_n hx hb dX10_goMinute_197 rfl (lv_at hl 0 rfl) ?_
        refine lv_iload_n hx hb dX10_goMinute_198 rfl (lv_at hl 1 rfl) ?_
        refine lv_iload_n hx hb dX10_goMinute_199 rfl (lv_at hl 3 rfl) ?_
        refine lv_iload hx hb dX10_goMinute_200 (lv_at hl 4 rfl) ?_
        refine lv_iload_n hx hb dX10_goMinute_202 rfl (lv_at hl 2 rfl) ?_
        obtain ⟨c9, hq, hf⟩ := o_cav hf
        refine m_callv (rest := []) X hS hl.1 (c_X10_meet l D cI cZ q _ _ v1 v3 v4 v2 _ hq) cv_10_201 (oM_0 q cI cZ _) rfl rfl ⟨Nat.le_of_ble_eq_true rfl, Nat.le_of_ble_eq_true rfl⟩ ⟨Nat.zero_le _, Nat.zero_le _⟩ (Nat.le_of_ble_eq_true rfl) dX10_goMinute_203 (fun H locs hS => ?_)
        exact k206 v1 v2 v3 v4 rc160 hrc160 rc175 hrc175 _ hf H locs ls hS (lv_sub hl [0, 1, 2, 3, 4] rfl)
  have k160 : ∀ (v1 : Int32) (v2 : Int32), ∀ (n : Nat) (v3 : Int32) (c : Mm), m_lp1 (X10_goMinute_b160 v1 v2) n v3 c = some R → m_G p l e (m_rm 5 119) s m args below meth cd Q D (mkM q cI cZ) 29 q 7 160 [(0, .ref (q 0)), (1, .int v1), (2, .int v2), (3, .int v3)] [] c := by
    intro v1 v2
    refine m_lp1_i ?_
    intro rc160 hrc160 v3 c hf H locs ls hS hl
    unfold X10_goMinute_b160 at hf
    refine lv_iload_n hx hb dX10_goMinute_160 rfl (lv_at hl 3 rfl) ?_
    refine lv_aload_n hx hb dX10_goMinute_161 rfl (lv_at hl 0 rfl) ?_
    refine m_get X hS fl_10_13 (vM_0_2 q cI cZ _) dX10_goMinute_162 ?_
    refine lv_iconst (v := (0 : Int32)) hx hb dX10_goMinute_165 (by decide) ?_
    refine m_ildN X hS 0 (by decide +kernel) (aM_2 q cI cZ) (by decide +kernel) dX10_goMinute_166 ?_
    refine lv_icmp_ge (tgt := 218) hx hb dX10_goMinute_167 (by decide) (fun hc => ?_) (fun hc => ?_)
    · have hf := o_t hc hf
      exact k218 v2 _ hf H locs ls hS (lv_sub hl [0, 2] rfl)
    · have hf := o_f hc hf
      refine lv_iload_n hx hb dX10_goMinute_170 rfl (lv_at hl 3 rfl) ?_
      refine lv_iconst (v := (1 : Int32)) hx hb dX10_goMinute_171 (by decide) ?_
      refine lv_iadd hx hb dX10_goMinute_172 ?_
      refine lv_topi (fun x10 ex => ?_)
      have hf := o_bnd hf x10 ex
      refine lv_istore (lv' := [(4, .int x10), (0, .ref (q 0)), (1, .int v1), (2, .int v2), (3, .int v3)]) hx hb dX10_goMinute_173 hl (by decide) rfl (fun ls hl => ?_)
      exact k175 v1 v2 v3 rc160 hrc160 _ x10 _ hf H locs ls hS (lv_sub hl [1, 2, 3, 4, 0] rfl)
  have k158 : ∀ (v1 : Int32) (v2 : Int32) (c : Mm), X10_goMinute_j158 v1 v2 c = some R → m_G p l e (m_rm 5 119) s m args below meth cd Q D (mkM q cI cZ) 29 q 7 158 [(0, .ref (q 0)), (1, .int v1), (2, .int v2)] [] c := by
    intro v1 v2 c hf H locs ls hS hl
    unfold X10_goMinute_j158 at hf
    refine lv_iconst (v := (0 : Int32)) hx hb dX10_goMinute_158 (by decide) ?_
    refine lv_istore_n (lv' := [(3, .int (0 : Int32)), (0, .ref (q 0)), (1, .int v1), (2, .int v2)]) hx hb dX10_goMinute_159 rfl hl (by decide) rfl (fun ls hl => ?_)
    exact k160 v1 v2 _ (0 : Int32) _ hf H locs ls hS (lv_sub hl [1, 2, 3, 0] rfl)
  have k150 : ∀ (v1 : Int32) (v2 : Int32) (v3 : Int32) (s1 : Int32) (s2 : Int32) (s3 : Int32) (rc2 : Int32 → Mm → Option (Mm)) (hrc2 : ∀ (w3 : Int32) (c : Mm), rc2 w3 c = some R → m_G p l e (m_rm 5 119) s m args below meth cd Q D (mkM q cI cZ) 29 q 7 2 [(0, .ref (q 0)), (1, .int v1), (2, .int v2), (3, .int w3)] [] c) (c : Mm), X10_goMinute_j150 rc2 v1 v2 v3 s1 s2 s3 c = some R → m_G p l e (m_rm 5 119) s m args below meth cd Q D (mkM q cI cZ) 29 q 7 150 [(0, .ref (q 0)), (1, .int v1), (2, .int v2), (3, .int v3)] [.int s3, .int s2, .int s1, .ref (q 19)] c := by
    intro v1 v2 v3 s1 s2 s3 rc2 hrc2 c hf H locs ls hS hl
    unfold X10_goMinute_j150 at hf
    refine lv_isub hx hb dX10_goMinute_150 ?_
    obtain ⟨hg, hf⟩ := o_gi hf
    refine m_ist X hS (aM_19 q cI cZ) hg dX10_goMinute_151 (fun c11 ec H locs hS => ?_)
    have hf := o_bnd hf c11 ec
    obtain ⟨x12, ex⟩ : ∃ y : Int32, y = v3 + (1 : Int32) := ⟨_, rfl⟩
    have hf := o_bnd hf x12 ex
    refine lv_iinc (v := x12) (lv' := [(3, .int x12), (0, .ref (q 0)), (1, .int v1), (2, .int v2)]) hx hb dX10_goMinute_152 hl (k := 3) rfl (by rw [ex]; rfl) (by decide) rfl (fun ls hl => ?_)
    refine lv_goto (tgt := 2) hx hb dX10_goMinute_155 (by decide) ?_
    exact hrc2 x12 _ hf H locs ls hS (lv_sub hl [1, 2, 3, 0] rfl)
  have k128 : ∀ (v1 : Int32) (v2 : Int32) (v3 : Int32) (s1 : Int32) (s2 : Int32) (rc2 : Int32 → Mm → Option (Mm)) (hrc2 : ∀ (w3 : Int32) (c : Mm), rc2 w3 c = some R → m_G p l e (m_rm 5 119) s m args below meth cd Q D (mkM q cI cZ) 29 q 7 2 [(0, .ref (q 0)), (1, .int v1), (2, .int v2), (3, .int w3)] [] c) (c : Mm), X10_goMinute_j128 rc2 v1 v2 v3 s1 s2 c = some R → m_G p l e (m_rm 5 119) s m args below meth cd Q D (mkM q cI cZ) 29 q 7 128 [(0, .ref (q 0)), (1, .int v1), (2, .int v2), (3, .int v3)] [.int s2, .int s1, .ref (q 18)] c := by
    intro v1 v2 v3 s1 s2 rc2 hrc2 c hf H locs ls hS hl
    unfold X10_goMinute_j128 at hf
    obtain ⟨hg, hf⟩ := o_gi hf
    refine m_ist X hS (aM_18 q cI cZ) hg dX10_goMinute_128 (fun c13 ec H locs hS => ?_)
    have hf := o_bnd hf c13 ec
    refine lv_aload_n hx hb dX10_goMinute_129 rfl (lv_at hl 0 rfl) ?_
    refine m_get X hS fl_10_64 (vM_0_23 q cI cZ _) dX10_goMinute_130 ?_
    refine lv_iload_n hx hb dX10_goMinute_133 rfl (lv_at hl 3 rfl) ?_
    refine lv_dup2_11 hx hb dX10_goMinute_134 rfl rfl ?_
    obtain ⟨hg, hf⟩ := o_gi hf
    refine m_ild X hS (aM_19 q cI cZ) hg dX10_goMinute_135 ?_
    refine lv_aload_n hx hb dX10_goMinute_136 rfl (lv_at hl 0 rfl) ?_
    refine m_get X hS fl_10_64 (vM_0_23 q cI cZ _) dX10_goMinute_137 ?_
    refine lv_iload_n hx hb dX10_goMinute_140 rfl (lv_at hl 3 rfl) ?_
    obtain ⟨hg, hf⟩ := o_gi hf
    refine m_ild X hS (aM_19 q cI cZ) hg dX10_goMinute_141 ?_
    refine lv_if_le (tgt := 149) hx hb dX10_goMinute_142 (by decide) (fun hc => ?_) (fun hc => ?_)
    · have hf := o_t hc hf
      refine lv_iconst (v := (0 : Int32)) hx hb dX10_goMinute_149 (by decide) ?_
      exact k150 v1 v2 v3 v3 (c13 19 (m_ix v3)) (0 : Int32) rc2 hrc2 _ hf H locs ls hS (lv_sub hl [0, 1, 2, 3] rfl)
    · have hf := o_f hc hf
      refine lv_iconst (v := (1 : Int32)) hx hb dX10_goMinute_145 (by decide) ?_
      refine lv_goto (tgt := 150) hx hb dX10_goMinute_146 (by decide) ?_
      exact k150 v1 v2 v3 v3 (c13 19 (m_ix v3)) (1 : Int32) rc2 hrc2 _ hf H locs ls hS (lv_sub hl [0, 1, 2, 3] rfl)
  have k83 : ∀ (v1 : Int32) (v2 : Int32) (v3 : Int32) (v4 : Int32) (v5 : Int32) (s0 : Int32) (rc2 : Int32 → Mm → Option (Mm)) (hrc2 : ∀ (w3 : Int32) (c : Mm), rc2 w3 c = some R → m_G p l e (m_rm 5 119) s m args below meth cd Q D (mkM q cI cZ) 29 q 7 2 [(0, .ref (q 0)), (1, .int v1), (2, .int v2), (3, .int w3)] [] c) (c : Mm), X10_goMinute_j83 rc2 v1 v2 v3 v4 v5 s0 c = some R → m_G p l e (m_rm 5 119) s m args below meth cd Q D (mkM q cI cZ) 29 q 7 83 [(0, .ref (q 0)), (1, .int v1), (2, .int v2), (3, .int v3), (4, .int v4), (5, .int v5)] [.int s0] c := by
    intro v1 v2 v3 v4 v5 s0 rc2 hrc2 c hf H locs ls hS hl
    unfold X10_goMinute_j83 at hf
    refine lv_istore (lv' := [(6, .int s0), (0, .ref (q 0)), (1, .int v1), (2, .int v2), (3, .int v3), (4, .int v4), (5, .int v5)]) hx hb dX10_goMinute_83 hl (by decide) rfl (fun ls hl => ?_)
    refine lv_aload_n hx hb dX10_goMinute_85 rfl (lv_at hl 1 rfl) ?_
    refine m_get X hS fl_10_61 (vM_0_22 q cI cZ _) dX10_goMinute_86 ?_
    refine lv_bipush (v := (6 : Int32)) hx hb dX10_goMinute_89 (by decide) ?_
    refine lv_iload_n hx hb dX10_goMinute_91 rfl (lv_at hl 3 rfl) ?_
    refine lv_imul hx hb dX10_goMinute_92 ?_
    refine lv_iload_n hx hb dX10_goMinute_93 rfl (lv_at hl 4 rfl) ?_
    refine lv_iadd hx hb dX10_goMinute_94 ?_
    refine lv_iload hx hb dX10_goMinute_95 (lv_at hl 6 rfl) ?_
    refine lv_if_ne (tgt := 105) hx hb dX10_goMinute_97 (by decide) (fun hc => ?_) (fun hc => ?_)
    · have hf := o_f hc hf
      refine lv_iload hx hb dX10_goMinute_105 (lv_at hl 0 rfl) ?_
      refine lv_bipush (v := (60 : Int32)) hx hb dX10_goMinute_107 (by decide) ?_
      refine lv_icmp_le (tgt := 117) hx hb dX10_goMinute_109 (by decide) (fun hc => ?_) (fun hc => ?_)
      · have hf := o_t hc hf
        refine lv_iload hx hb dX10_goMinute_117 (lv_at hl 0 rfl) ?_
        refine lv_if_ge (tgt := 126) hx hb dX10_goMinute_119 (by decide) (fun hc => ?_) (fun hc => ?_)
        · have hf := o_t hc hf
          refine lv_iload hx hb dX10_goMinute_126 (lv_at hl 0 rfl) ?_
          exact k128 v1 v2 v3 (((6 : Int32) * v2) + v3) s0 rc2 hrc2 _ hf H locs ls hS (lv_sub hl [1, 2, 3, 4] rfl)
        · have hf := o_f hc hf
          refine lv_iconst (v := (0 : Int32)) hx hb dX10_goMinute_122 (by decide) ?_
          refine lv_goto (tgt := 128) hx hb dX10_goMinute_123 (by decide) ?_
          exact k128 v1 v2 v3 (((6 : Int32) * v2) + v3) (0 : Int32) rc2 hrc2 _ hf H locs ls hS (lv_sub hl [1, 2, 3, 4] rfl)
      · have hf := o_f hc hf
        refine lv_bipush (v := (60 : Int32)) hx hb dX10_goMinute_112 (by decide) ?_
        refine lv_goto (tgt := 128) hx hb dX10_goMinute_114 (by decide) ?_
        exact k128 v1 v2 v3 (((6 : Int32) * v2) + v3) (60 : Int32) rc2 hrc2 _ hf H locs ls hS (lv_sub hl [1, 2, 3, 4] rfl)
    · have hf := o_t hc hf
      refine lv_iload hx hb dX10_goMinute_100 (lv_at hl 5 rfl) ?_
      refine lv_goto (tgt := 128) hx hb dX10_goMinute_102 (by decide) ?_
      exact k128 v1 v2 v3 (((6 : Int32) * v2) + v3) v4 rc2 hrc2 _ hf H locs ls hS (lv_sub hl [1, 2, 3, 4] rfl)
  have k51 : ∀ (v1 : Int32) (v2 : Int32) (v3 : Int32) (v4 : Int32) (s0 : Int32) (rc2 : Int32 → Mm → Option (Mm)) (hrc2 : ∀ (w3 : Int32) (c : Mm), rc2 w3 c = some R → m_G p l e (m_rm 5 119) s m args below meth cd Q D (mkM q cI cZ) 29 q 7 2 [(0, .ref (q 0)), (1, .int v1), (2, .int v2), (3, .int w3)] [] c) (c : Mm), X10_goMinute_j51 rc2 v1 v2 v3 v4 s0 c = some R → m_G p l e (m_rm 5 119) s m args below meth cd Q D (mkM q cI cZ) 29 q 7 51 [(0, .ref (q 0)), (1, .int v1), (2, .int v2), (3, .int v3), (4, .int v4)] [.int s0] c := by
    intro v1 v2 v3 v4 s0 rc2 hrc2 c hf H locs ls hS hl
    unfold X10_goMinute_j51 at hf
    refine lv_istore (lv' := [(5, .int s0), (0, .ref (q 0)), (1, .int v1), (2, .int v2), (3, .int v3), (4, .int v4)]) hx hb dX10_goMinute_51 hl (by decide) rfl (fun ls hl => ?_)
    refine lv_aload_n hx hb dX10_goMinute_53 rfl (lv_at hl 1 rfl) ?_
    refine m_get X hS fl_10_19 (vM_0_4 q cI cZ _) dX10_goMinute_54 ?_
    refine lv_iload_n hx hb dX10_goMinute_57 rfl (lv_at hl 4 rfl) ?_
    obtain ⟨hg, hf⟩ := o_gi hf
    refine m_ild X hS (aM_4 q cI cZ) hg dX10_goMinute_58 ?_
    refine lv_if_ne (tgt := 74) hx hb dX10_goMinute_59 (by decide) (fun hc => ?_) (fun hc => ?_)
    · have hf := o_f hc hf
      refine lv_iload hx hb dX10_goMinute_74 (lv_at hl 5 rfl) ?_
      refine lv_aload_n hx hb dX10_goMinute_76 rfl (lv_at hl 1 rfl) ?_
      refine m_get X hS fl_10_22 (vM_0_5 q cI cZ _) dX10_goMinute_77 ?_
      refine lv_iload_n hx hb dX10_goMinute_80 rfl (lv_at hl 4 rfl) ?_
      obtain ⟨hg, hf⟩ := o_gi hf
      refine m_ild X hS (aM_5 q cI cZ) hg dX10_goMinute_81 ?_
      refine lv_isub hx hb dX10_goMinute_82 ?_
      exact k83 v1 v2 v3 v4 s0 (v4 - (c 5 (m_ix v3))) rc2 hrc2 _ hf H locs ls hS (lv_sub hl [1, 2, 3, 4, 5, 0] rfl)
    · have hf := o_t hc hf
      refine lv_iload hx hb dX10_goMinute_62 (lv_at hl 5 rfl) ?_
      refine lv_aload_n hx hb dX10_goMinute_64 rfl (lv_at hl 1 rfl) ?_
      refine m_get X hS fl_10_22 (vM_0_5 q cI cZ _) dX10_goMinute_65 ?_
      refine lv_iload_n hx hb dX10_goMinute_68 rfl (lv_at hl 4 rfl) ?_
      obtain ⟨hg, hf⟩ := o_gi hf
      refine m_ild X hS (aM_5 q cI cZ) hg dX10_goMinute_69 ?_
      refine lv_iadd hx hb dX10_goMinute_70 ?_
      refine lv_goto (tgt := 83) hx hb dX10_goMinute_71 (by decide) ?_
      exact k83 v1 v2 v3 v4 s0 (v4 + (c 5 (m_ix v3))) rc2 hrc2 _ hf H locs ls hS (lv_sub hl [1, 2, 3, 4, 5, 0] rfl)
  have k50 : ∀ (v1 : Int32) (v2 : Int32) (v3 : Int32) (v4 : Int32) (rc2 : Int32 → Mm → Option (Mm)) (hrc2 : ∀ (w3 : Int32) (c : Mm), rc2 w3 c = some R → m_G p l e (m_rm 5 119) s m args below meth cd Q D (mkM q cI cZ) 29 q 7 2 [(0, .ref (q 0)), (1, .int v1), (2, .int v2), (3, .int w3)] [] c) (c : Mm), X10_goMinute_j50 rc2 v1 v2 v3 v4 c = some R → m_G p l e (m_rm 5 119) s m args below meth cd Q D (mkM q cI cZ) 29 q 7 50 [(0, .ref (q 0)), (1, .int v1), (2, .int v2), (3, .int v3), (4, .int v4)] [] c := by
    intro v1 v2 v3 v4 rc2 hrc2 c hf H locs ls hS hl
    unfold X10_goMinute_j50 at hf
    refine lv_iconst (v := (0 : Int32)) hx hb dX10_goMinute_50 (by decide) ?_
    exact k51 v1 v2 v3 v4 (0 : Int32) rc2 hrc2 _ hf H locs ls hS (lv_sub hl [0, 1, 2, 3, 4] rfl)
  have k2 : ∀ (v1 : Int32) (v2 : Int32), ∀ (n : Nat) (v3 : Int32) (c : Mm), m_lp1 (X10_goMinute_b2 v1 v2) n v3 c = some R → m_G p l e (m_rm 5 119) s m args below meth cd Q D (mkM q cI cZ) 29 q 7 2 [(0, .ref (q 0)), (1, .int v1), (2, .int v2), (3, .int v3)] [] c := by
    intro v1 v2
    refine m_lp1_i ?_
    intro rc2 hrc2 v3 c hf H locs ls hS hl
    unfold X10_goMinute_b2 at hf
    refine lv_iload_n hx hb dX10_goMinute_2 rfl (lv_at hl 3 rfl) ?_
    refine lv_aload_n hx hb dX10_goMinute_3 rfl (lv_at hl 0 rfl) ?_
    refine m_get X hS fl_10_13 (vM_0_2 q cI cZ _) dX10_goMinute_4 ?_
    refine lv_iconst (v := (0 : Int32)) hx hb dX10_goMinute_7 (by decide) ?_
    refine m_ildN X hS 0 (by decide +kernel) (aM_2 q cI cZ) (by decide +kernel) dX10_goMinute_8 ?_
    refine lv_icmp_ge (tgt := 158) hx hb dX10_goMinute_9 (by decide) (fun hc => ?_) (fun hc => ?_)
    · have hf := o_t hc hf
      exact k158 v1 v2 _ hf H locs ls hS (lv_sub hl [0, 1, 2] rfl)
    · have hf := o_f hc hf
      refine lv_aload_n hx hb dX10_goMinute_12 rfl (lv_at hl 0 rfl) ?_
      refine m_get X hS fl_10_61 (vM_0_22 q cI cZ _) dX10_goMinute_13 ?_
      refine lv_bipush (v := (6 : Int32)) hx hb dX10_goMinute_16 (by decide) ?_
      refine lv_iload_n hx hb dX10_goMinute_18 rfl (lv_at hl 2 rfl) ?_
      refine lv_imul hx hb dX10_goMinute_19 ?_
      refine lv_bipush (v := (6 : Int32)) hx hb dX10_goMinute_20 (by decide) ?_
      refine lv_isub hx hb dX10_goMinute_22 ?_
      refine lv_iload_n hx hb dX10_goMinute_23 rfl (lv_at hl 3 rfl) ?_
      refine lv_iadd hx hb dX10_goMinute_24 ?_
      obtain ⟨hg, hf⟩ := o_gi hf
      refine m_ild X hS (aM_18 q cI cZ) hg dX10_goMinute_25 ?_
      refine lv_topi (fun x14 ex => ?_)
      have hf := o_bnd hf x14 ex
      refine lv_istore (lv' := [(4, .int x14), (0, .ref (q 0)), (1, .int v1), (2, .int v2), (3, .int v3)]) hx hb dX10_goMinute_26 hl (by decide) rfl (fun ls hl => ?_)
      refine lv_aload_n hx hb dX10_goMinute_28 rfl (lv_at hl 1 rfl) ?_
      refine m_get X hS fl_10_67 (vM_0_24 q cI cZ _) dX10_goMinute_29 ?_
      refine lv_iload_n hx hb dX10_goMinute_32 rfl (lv_at hl 4 rfl) ?_
      obtain ⟨hg, hf⟩ := o_gi hf
      refine m_ild X hS (aM_20 q cI cZ) hg dX10_goMinute_33 ?_
      refine lv_if_ge (tgt := 50) hx hb dX10_goMinute_34 (by decide) (fun hc => ?_) (fun hc => ?_)
      · have hf := o_t hc hf
        exact k50 v1 v2 v3 x14 rc2 hrc2 _ hf H locs ls hS (lv_sub hl [1, 2, 3, 4, 0] rfl)
      · have hf := o_f hc hf
        refine lv_aload_n hx hb dX10_goMinute_37 rfl (lv_at hl 1 rfl) ?_
        refine m_get X hS fl_10_64 (vM_0_23 q cI cZ _) dX10_goMinute_38 ?_
        refine lv_iload_n hx hb dX10_goMinute_41 rfl (lv_at hl 4 rfl) ?_
        obtain ⟨hg, hf⟩ := o_gi hf
        refine m_ild X hS (aM_19 q cI cZ) hg dX10_goMinute_42 ?_
        refine lv_if_ne (tgt := 50) hx hb dX10_goMinute_43 (by decide) (fun hc => ?_) (fun hc => ?_)
        · have hf := o_f hc hf
          exact k50 v1 v2 v3 x14 rc2 hrc2 _ hf H locs ls hS (lv_sub hl [1, 2, 3, 4, 0] rfl)
        · have hf := o_t hc hf
          refine lv_iconst (v := (1 : Int32)) hx hb dX10_goMinute_46 (by decide) ?_
          refine lv_goto (tgt := 51) hx hb dX10_goMinute_47 (by decide) ?_
          exact k51 v1 v2 v3 x14 (1 : Int32) rc2 hrc2 _ hf H locs ls hS (lv_sub hl [1, 2, 3, 4, 0] rfl)
  intro H locs ls hS hl
  have hl : lv_has ls 7 [(0, .ref (q 0)), (1, .int v1), (2, .int v2)] := hl
  unfold X10_goMinute at hf
  refine lv_iconst (v := (0 : Int32)) hx hb dX10_goMinute_0 (by decide) ?_
  refine lv_istore_n (lv' := [(3, .int (0 : Int32)), (0, .ref (q 0)), (1, .int v1), (2, .int v2)]) hx hb dX10_goMinute_1 rfl hl (by decide) rfl (fun ls hl => ?_)
  exact k2 v1 v2 _ (0 : Int32) _ hf H locs ls hS (lv_sub hl [1, 2, 3, 0] rfl)

set_option maxHeartbeats 40000000 in
set_option maxRecDepth 100000 in
theorem c_X10_goDay (l : Launch) (D : va_G) (cI cZ : ClassId) (q : Nat → Nat) (c : Mm) (sz : Nat) (v1 : Int32) (R : Int32 × Mm) (hf : X10_goDay v1 c = some R) : m_Mi l yX10_goDay cX10_goDay 4 (some .int) 6 145 D cI cZ (mkM q cI cZ) 29 q [.ref (q 0), .int v1] c sz R := by
  refine m_enter_i (own := RX10) (by decide) rfl (Nat.le_of_ble_eq_true rfl) ?_
  intro p e s m args below meth cd Q X ret
  have hx := X.1
  have hb := X.2.1
  have k134 : ∀ (n : Nat) (v2 : Int32) (v3 : Int32) (c : Mm), m_lp2 (X10_goDay_b134) n v2 v3 c = some R → m_G p l e (m_rm 6 145) s m args below meth cd Q D (mkM q cI cZ) 29 q 4 134 [(0, .ref (q 0)), (2, .int v2), (3, .int v3)] [] c := by
    refine m_lp2_i ?_
    intro rc134 hrc134 v2 v3 c hf H locs ls hS hl
    unfold X10_goDay_b134 at hf
    refine lv_iload_n hx hb dX10_goDay_134 rfl (lv_at hl 2 rfl) ?_
    refine lv_aload_n hx hb dX10_goDay_135 rfl (lv_at hl 0 rfl) ?_
    refine m_get X hS fl_10_13 (vM_0_2 q cI cZ _) dX10_goDay_136 ?_
    refine lv_iconst (v := (0 : Int32)) hx hb dX10_goDay_139 (by decide) ?_
    refine m_ildN X hS 0 (by decide +kernel) (aM_2 q cI cZ) (by decide +kernel) dX10_goDay_140 ?_
    refine lv_icmp_ge (tgt := 159) hx hb dX10_goDay_141 (by decide) (fun hc => ?_) (fun hc => ?_)
    · have hf := o_t hc hf
      refine lv_iload_n hx hb dX10_goDay_159 rfl (lv_at hl 1 rfl) ?_
      exact ret hf hS dX10_goDay_160
    · have hf := o_f hc hf
      refine lv_iload_n hx hb dX10_goDay_144 rfl (lv_at hl 1 rfl) ?_
      refine lv_aload_n hx hb dX10_goDay_145 rfl (lv_at hl 0 rfl) ?_
      refine m_get X hS fl_10_70 (vM_0_25 q cI cZ _) dX10_goDay_146 ?_
      refine lv_iload_n hx hb dX10_goDay_149 rfl (lv_at hl 2 rfl) ?_
      obtain ⟨hg, hf⟩ := o_gi hf
      refine m_ild X hS (aM_21 q cI cZ) hg dX10_goDay_150 ?_
      refine lv_iadd hx hb dX10_goDay_151 ?_
      refine lv_topi (fun x1 ex => ?_)
      have hf := o_bnd hf x1 ex
      refine lv_istore_n (lv' := [(2, .int x1), (0, .ref (q 0)), (3, .int v3)]) hx hb dX10_goDay_152 rfl hl (by decide) rfl (fun ls hl => ?_)
      obtain ⟨x2, ex⟩ : ∃ y : Int32, y = v3 + (1 : Int32) := ⟨_, rfl⟩
      have hf := o_bnd hf x2 ex
      refine lv_iinc (v := x2) (lv' := [(3, .int x2), (2, .int x1), (0, .ref (q 0))]) hx hb dX10_goDay_153 hl (k := 2) rfl (by rw [ex]; rfl) (by decide) rfl (fun ls hl => ?_)
      refine lv_goto (tgt := 134) hx hb dX10_goDay_156 (by decide) ?_
      exact hrc134 x1 x2 _ hf H locs ls hS (lv_sub hl [2, 1, 0] rfl)
  have k130 : ∀ (c : Mm), X10_goDay_j130 c = some R → m_G p l e (m_rm 6 145) s m args below meth cd Q D (mkM q cI cZ) 29 q 4 130 [(0, .ref (q 0))] [] c := by
    intro c hf H locs ls hS hl
    unfold X10_goDay_j130 at hf
    refine lv_iconst (v := (0 : Int32)) hx hb dX10_goDay_130 (by decide) ?_
    refine lv_istore_n (lv' := [(2, .int (0 : Int32)), (0, .ref (q 0))]) hx hb dX10_goDay_131 rfl hl (by decide) rfl (fun ls hl => ?_)
    refine lv_iconst (v := (0 : Int32)) hx hb dX10_goDay_132 (by decide) ?_
    refine lv_istore_n (lv' := [(3, .int (0 : Int32)), (2, .int (0 : Int32)), (0, .ref (q 0))]) hx hb dX10_goDay_133 rfl hl (by decide) rfl (fun ls hl => ?_)
    exact k134 _ (0 : Int32) (0 : Int32) _ hf H locs ls hS (lv_sub hl [2, 1, 0] rfl)
  have k112 : ∀ (v1 : Int32), ∀ (n : Nat) (v2 : Int32) (c : Mm), m_lp1 (X10_goDay_b112 v1) n v2 c = some R → m_G p l e (m_rm 6 145) s m args below meth cd Q D (mkM q cI cZ) 29 q 4 112 [(0, .ref (q 0)), (1, .int v1), (2, .int v2)] [] c := by
    intro v1
    refine m_lp1_i ?_
    intro rc112 hrc112 v2 c hf H locs ls hS hl
    unfold X10_goDay_b112 at hf
    refine lv_iload_n hx hb dX10_goDay_112 rfl (lv_at hl 2 rfl) ?_
    refine lv_bipush (v := (121 : Int32)) hx hb dX10_goDay_113 (by decide) ?_
    refine lv_icmp_ge (tgt := 130) hx hb dX10_goDay_115 (by decide) (fun hc => ?_) (fun hc => ?_)
    · have hf := o_t hc hf
      exact k130 _ hf H locs ls hS (lv_sub hl [0] rfl)
    · have hf := o_f hc hf
      refine lv_aload_n hx hb dX10_goDay_118 rfl (lv_at hl 0 rfl) ?_
      refine lv_iload_n hx hb dX10_goDay_119 rfl (lv_at hl 1 rfl) ?_
      refine lv_iload_n hx hb dX10_goDay_120 rfl (lv_at hl 2 rfl) ?_
      obtain ⟨c3, hq, hf⟩ := o_cav hf
      refine m_callv (rest := []) X hS hl.1 (c_X10_goMinute l D cI cZ q _ _ v1 v2 _ hq) cv_10_205 (oM_0 q cI cZ _) rfl rfl ⟨Nat.le_of_ble_eq_true rfl, Nat.le_of_ble_eq_true rfl⟩ ⟨Nat.zero_le _, Nat.zero_le _⟩ (Nat.le_of_ble_eq_true rfl) dX10_goDay_121 (fun H locs hS => ?_)
      obtain ⟨x4, ex⟩ : ∃ y : Int32, y = v2 + (1 : Int32) := ⟨_, rfl⟩
      have hf := o_bnd hf x4 ex
      refine lv_iinc (v := x4) (lv' := [(2, .int x4), (0, .ref (q 0)), (1, .int v1)]) hx hb dX10_goDay_124 hl (k := 2) rfl (by rw [ex]; rfl) (by decide) rfl (fun ls hl => ?_)
      refine lv_goto (tgt := 112) hx hb dX10_goDay_127 (by decide) ?_
      exact hrc112 x4 _ hf H locs ls hS (lv_sub hl [1, 2, 0] rfl)
  have k110 : ∀ (v1 : Int32) (c : Mm), X10_goDay_j110 v1 c = some R → m_G p l e (m_rm 6 145) s m args below meth cd Q D (mkM q cI cZ) 29 q 4 110 [(0, .ref (q 0)), (1, .int v1)] [] c := by
    intro v1 c hf H locs ls hS hl
    unfold X10_goDay_j110 at hf
    refine lv_iconst (v := (1 : Int32)) hx hb dX10_goDay_110 (by decide) ?_
    refine lv_istore_n (lv' := [(2, .int (1 : Int32)), (0, .ref (q 0)), (1, .int v1)]) hx hb dX10_goDay_111 rfl hl (by decide) rfl (fun ls hl => ?_)
    exact k112 v1 _ (1 : Int32) _ hf H locs ls hS (lv_sub hl [1, 2, 0] rfl)
  have k103 : ∀ (v1 : Int32) (v2 : Int32) (s1 : Int32) (s2 : Int32) (rc7 : Int32 → Mm → Option (Int32 × Mm)) (hrc7 : ∀ (w2 : Int32) (c : Mm), rc7 w2 c = some R → m_G p l e (m_rm 6 145) s m args below meth cd Q D (mkM q cI cZ) 29 q 4 7 [(0, .ref (q 0)), (1, .int v1), (2, .int w2)] [] c) (c : Mm), X10_goDay_j103 rc7 v1 v2 s1 s2 c = some R → m_G p l e (m_rm 6 145) s m args below meth cd Q D (mkM q cI cZ) 29 q 4 103 [(0, .ref (q 0)), (1, .int v1), (2, .int v2)] [.int s2, .int s1, .ref (q 23)] c := by
    intro v1 v2 s1 s2 rc7 hrc7 c hf H locs ls hS hl
    unfold X10_goDay_j103 at hf
    obtain ⟨hg, hf⟩ := o_gi hf
    refine m_ist X hS (aM_23 q cI cZ) hg dX10_goDay_103 (fun c5 ec H locs hS => ?_)
    have hf := o_bnd hf c5 ec
    obtain ⟨x6, ex⟩ : ∃ y : Int32, y = v2 + (1 : Int32) := ⟨_, rfl⟩
    have hf := o_bnd hf x6 ex
    refine lv_iinc (v := x6) (lv' := [(2, .int x6), (0, .ref (q 0)), (1, .int v1)]) hx hb dX10_goDay_104 hl (k := 2) rfl (by rw [ex]; rfl) (by decide) rfl (fun ls hl => ?_)
    refine lv_goto (tgt := 7) hx hb dX10_goDay_107 (by decide) ?_
    exact hrc7 x6 _ hf H locs ls hS (lv_sub hl [1, 2, 0] rfl)
  have k69 : ∀ (v1 : Int32) (v2 : Int32) (s1 : Int32) (s2 : Int32) (rc7 : Int32 → Mm → Option (Int32 × Mm)) (hrc7 : ∀ (w2 : Int32) (c : Mm), rc7 w2 c = some R → m_G p l e (m_rm 6 145) s m args below meth cd Q D (mkM q cI cZ) 29 q 4 7 [(0, .ref (q 0)), (1, .int v1), (2, .int w2)] [] c) (c : Mm), X10_goDay_j69 rc7 v1 v2 s1 s2 c = some R → m_G p l e (m_rm 6 145) s m args below meth cd Q D (mkM q cI cZ) 29 q 4 69 [(0, .ref (q 0)), (1, .int v1), (2, .int v2)] [.int s2, .int s1, .ref (q 20)] c := by
    intro v1 v2 s1 s2 rc7 hrc7 c hf H locs ls hS hl
    unfold X10_goDay_j69 at hf
    obtain ⟨hg, hf⟩ := o_gi hf
    refine m_ist X hS (aM_20 q cI cZ) hg dX10_goDay_69 (fun c7 ec H locs hS => ?_)
    have hf := o_bnd hf c7 ec
    refine lv_aload_n hx hb dX10_goDay_70 rfl (lv_at hl 0 rfl) ?_
    refine m_get X hS fl_10_70 (vM_0_25 q cI cZ _) dX10_goDay_71 ?_
    refine lv_iload_n hx hb dX10_goDay_74 rfl (lv_at hl 2 rfl) ?_
    refine lv_iconst (v := (0 : Int32)) hx hb dX10_goDay_75 (by decide) ?_
    obtain ⟨hg, hf⟩ := o_gi hf
    refine m_ist X hS (aM_21 q cI cZ) hg dX10_goDay_76 (fun c8 ec H locs hS => ?_)
    have hf := o_bnd hf c8 ec
    refine lv_aload_n hx hb dX10_goDay_77 rfl (lv_at hl 0 rfl) ?_
    refine m_get X hS fl_10_73 (vM_0_26 q cI cZ _) dX10_goDay_78 ?_
    refine lv_iload_n hx hb dX10_goDay_81 rfl (lv_at hl 2 rfl) ?_
    refine lv_iconst (v := (0 : Int32)) hx hb dX10_goDay_82 (by decide) ?_
    obtain ⟨hg, hf⟩ := o_gi hf
    refine m_ist X hS (aM_22 q cI cZ) hg dX10_goDay_83 (fun c9 ec H locs hS => ?_)
    have hf := o_bnd hf c9 ec
    refine lv_aload_n hx hb dX10_goDay_84 rfl (lv_at hl 0 rfl) ?_
    refine m_get X hS fl_10_76 (vM_0_27 q cI cZ _) dX10_goDay_85 ?_
    refine lv_iload_n hx hb dX10_goDay_88 rfl (lv_at hl 2 rfl) ?_
    refine lv_aload_n hx hb dX10_goDay_89 rfl (lv_at hl 0 rfl) ?_
    refine m_get X hS fl_10_67 (vM_0_24 q cI cZ _) dX10_goDay_90 ?_
    refine lv_iload_n hx hb dX10_goDay_93 rfl (lv_at hl 2 rfl) ?_
    obtain ⟨hg, hf⟩ := o_gi hf
    refine m_ild X hS (aM_20 q cI cZ) hg dX10_goDay_94 ?_
    refine lv_if_ne (tgt := 102) hx hb dX10_goDay_95 (by decide) (fun hc => ?_) (fun hc => ?_)
    · have hf := o_f hc hf
      refine lv_iconst (v := (1 : Int32)) hx hb dX10_goDay_102 (by decide) ?_
      exact k103 v1 v2 v2 (1 : Int32) rc7 hrc7 _ hf H locs ls hS (lv_sub hl [0, 1, 2] rfl)
    · have hf := o_t hc hf
      refine lv_iconst (v := (0 : Int32)) hx hb dX10_goDay_98 (by decide) ?_
      refine lv_goto (tgt := 103) hx hb dX10_goDay_99 (by decide) ?_
      exact k103 v1 v2 v2 (0 : Int32) rc7 hrc7 _ hf H locs ls hS (lv_sub hl [0, 1, 2] rfl)
  have k7 : ∀ (v1 : Int32), ∀ (n : Nat) (v2 : Int32) (c : Mm), m_lp1 (X10_goDay_b7 v1) n v2 c = some R → m_G p l e (m_rm 6 145) s m args below meth cd Q D (mkM q cI cZ) 29 q 4 7 [(0, .ref (q 0)), (1, .int v1), (2, .int v2)] [] c := by
    intro v1
    refine m_lp1_i ?_
    intro rc7 hrc7 v2 c hf H locs ls hS hl
    unfold X10_goDay_b7 at hf
    refine lv_iload_n hx hb dX10_goDay_7 rfl (lv_at hl 2 rfl) ?_
    refine lv_aload_n hx hb dX10_goDay_8 rfl (lv_at hl 0 rfl) ?_
    refine m_get X hS fl_10_13 (vM_0_2 q cI cZ _) dX10_goDay_9 ?_
    refine lv_iconst (v := (0 : Int32)) hx hb dX10_goDay_12 (by decide) ?_
    refine m_ildN X hS 0 (by decide +kernel) (aM_2 q cI cZ) (by decide +kernel) dX10_goDay_13 ?_
    refine lv_icmp_ge (tgt := 110) hx hb dX10_goDay_14 (by decide) (fun hc => ?_) (fun hc => ?_)
    · have hf := o_t hc hf
      exact k110 v1 _ hf H locs ls hS (lv_sub hl [0, 1] rfl)
    · have hf := o_f hc hf
      refine lv_aload_n hx hb dX10_goDay_17 rfl (lv_at hl 0 rfl) ?_
      refine m_get X hS fl_10_61 (vM_0_22 q cI cZ _) dX10_goDay_18 ?_
      refine lv_iload_n hx hb dX10_goDay_21 rfl (lv_at hl 2 rfl) ?_
      refine lv_aload_n hx hb dX10_goDay_22 rfl (lv_at hl 0 rfl) ?_
      refine m_get X hS fl_10_16 (vM_0_3 q cI cZ _) dX10_goDay_23 ?_
      refine lv_iload_n hx hb dX10_goDay_26 rfl (lv_at hl 2 rfl) ?_
      obtain ⟨hg, hf⟩ := o_gi hf
      refine m_ild X hS (aM_3 q cI cZ) hg dX10_goDay_27 ?_
      obtain ⟨hg, hf⟩ := o_gi hf
      refine m_ist X hS (aM_18 q cI cZ) hg dX10_goDay_28 (fun c10 ec H locs hS => ?_)
      have hf := o_bnd hf c10 ec
      refine lv_aload_n hx hb dX10_goDay_29 rfl (lv_at hl 0 rfl) ?_
      refine m_get X hS fl_10_64 (vM_0_23 q cI cZ _) dX10_goDay_30 ?_
      refine lv_iload_n hx hb dX10_goDay_33 rfl (lv_at hl 2 rfl) ?_
      refine lv_aload_n hx hb dX10_goDay_34 rfl (lv_at hl 0 rfl) ?_
      refine m_get X hS fl_10_43 (vM_0_12 q cI cZ _) dX10_goDay_35 ?_
      refine lv_bipush (v := (6 : Int32)) hx hb dX10_goDay_38 (by decide) ?_
      refine lv_iload_n hx hb dX10_goDay_40 rfl (lv_at hl 2 rfl) ?_
      refine lv_iadd hx hb dX10_goDay_41 ?_
      obtain ⟨hg, hf⟩ := o_gi hf
      refine m_ild X hS (aM_12 q cI cZ) hg dX10_goDay_42 ?_
      obtain ⟨hg, hf⟩ := o_gi hf
      refine m_ist X hS (aM_19 q cI cZ) hg dX10_goDay_43 (fun c11 ec H locs hS => ?_)
      have hf := o_bnd hf c11 ec
      refine lv_aload_n hx hb dX10_goDay_44 rfl (lv_at hl 0 rfl) ?_
      refine m_get X hS fl_10_67 (vM_0_24 q cI cZ _) dX10_goDay_45 ?_
      refine lv_iload_n hx hb dX10_goDay_48 rfl (lv_at hl 2 rfl) ?_
      refine lv_aload_n hx hb dX10_goDay_49 rfl (lv_at hl 0 rfl) ?_
      refine m_get X hS fl_10_16 (vM_0_3 q cI cZ _) dX10_goDay_50 ?_
      refine lv_iload_n hx hb dX10_goDay_53 rfl (lv_at hl 2 rfl) ?_
      obtain ⟨hg, hf⟩ := o_gi hf
      refine m_ild X hS (aM_3 q cI cZ) hg dX10_goDay_54 ?_
      refine lv_aload_n hx hb dX10_goDay_55 rfl (lv_at hl 0 rfl) ?_
      refine lv_iload_n hx hb dX10_goDay_56 rfl (lv_at hl 2 rfl) ?_
      obtain ⟨r12, c13, hq, hf⟩ := o_cal hf
      refine m_calli (rest := [.int (c11 3 (m_ix v2)), .int v2, .ref (q 20)]) X hS hl.1 (c_X10_endOf l D cI cZ q _ _ v2 _ hq) cv_10_182 (oM_0 q cI cZ _) rfl rfl ⟨Nat.le_of_ble_eq_true rfl, Nat.le_of_ble_eq_true rfl⟩ ⟨Nat.zero_le _, Nat.zero_le _⟩ (Nat.le_of_ble_eq_true rfl) dX10_goDay_57 (fun H locs hS => ?_)
      refine lv_icmp_ne (tgt := 67) hx hb dX10_goDay_60 (by decide) (fun hc => ?_) (fun hc => ?_)
      · have hf := o_f hc hf
        refine lv_bipush (v := (-4 : Int32)) hx hb dX10_goDay_67 (by decide) ?_
        exact k69 v1 v2 v2 (-4 : Int32) rc7 hrc7 _ hf H locs ls hS (lv_sub hl [0, 1, 2] rfl)
      · have hf := o_t hc hf
        refine lv_iconst (v := (0 : Int32)) hx hb dX10_goDay_63 (by decide) ?_
        refine lv_goto (tgt := 69) hx hb dX10_goDay_64 (by decide) ?_
        exact k69 v1 v2 v2 (0 : Int32) rc7 hrc7 _ hf H locs ls hS (lv_sub hl [0, 1, 2] rfl)
  intro H locs ls hS hl
  have hl : lv_has ls 4 [(0, .ref (q 0)), (1, .int v1)] := hl
  unfold X10_goDay at hf
  refine lv_aload_n hx hb dX10_goDay_0 rfl (lv_at hl 0 rfl) ?_
  refine lv_iconst (v := (0 : Int32)) hx hb dX10_goDay_1 (by decide) ?_
  refine m_put X hS fp_10_195 (pM_0_28 q cI cZ) dX10_goDay_2 (fun c14 ec H locs hS => ?_)
  have hf := o_bnd hf c14 ec
  refine lv_iconst (v := (0 : Int32)) hx hb dX10_goDay_5 (by decide) ?_
  refine lv_istore_n (lv' := [(2, .int (0 : Int32)), (0, .ref (q 0)), (1, .int v1)]) hx hb dX10_goDay_6 rfl hl (by decide) rfl (fun ls hl => ?_)
  exact k7 v1 _ (0 : Int32) _ hf H locs ls hS (lv_sub hl [1, 2, 0] rfl)

set_option maxHeartbeats 40000000 in
set_option maxRecDepth 100000 in
theorem c_X10_where (l : Launch) (D : va_G) (cI cZ : ClassId) (q : Nat → Nat) (c : Mm) (sz : Nat) (v1 : Int32) (v2 : Int32) (v3 : Int32) (R : Int32 × Mm) (hf : X10_where v1 v2 v3 c = some R) : m_Mi l yX10_where cX10_where 4 (some .int) 7 168 D cI cZ (mkM q cI cZ) 29 q [.ref (q 0), .int v1, .int v2, .int v3] c sz R := by
  refine m_enter_i (own := RX10) (by decide) rfl (Nat.le_of_ble_eq_true rfl) ?_
  intro p e s m args below meth cd Q X ret
  have hx := X.1
  have hb := X.2.1
  intro H locs ls hS hl
  have hl : lv_has ls 4 [(0, .ref (q 0)), (1, .int v1), (2, .int v2), (3, .int v3)] := hl
  unfold X10_where at hf
  refine lv_iload_n hx hb dX10_where_0 rfl (lv_at hl 1 rfl) ?_
  obtain ⟨r1, c2, hq, hf⟩ := o_cal hf
  refine m_calls (rest := []) X hS hl.1 (c_X10_isRule l D cI cZ q _ _ v1 _ hq) cs_10_209 rfl rfl ⟨Nat.le_of_ble_eq_true rfl, Nat.le_of_ble_eq_true rfl⟩ ⟨Nat.zero_le _, Nat.zero_le _⟩ (Nat.le_of_ble_eq_true rfl) dX10_where_1 (fun H locs hS => ?_)
  refine lv_if_eq (tgt := 27) hx hb dX10_where_4 (by decide) (fun hc => ?_) (fun hc => ?_)
  · have hf := o_t hc hf
    refine lv_iconst (v := (-1 : Int32)) hx hb dX10_where_27 (by decide) ?_
    exact ret hf hS dX10_where_28
  · have hf := o_f hc hf
    refine lv_aload_n hx hb dX10_where_7 rfl (lv_at hl 0 rfl) ?_
    refine lv_iload_n hx hb dX10_where_8 rfl (lv_at hl 2 rfl) ?_
    obtain ⟨r3, c4, hq, hf⟩ := o_cal hf
    refine m_calli (rest := []) X hS hl.1 (c_X10_isBoat l D cI cZ q _ _ v2 _ hq) cv_10_163 (oM_0 q cI cZ _) rfl rfl ⟨Nat.le_of_ble_eq_true rfl, Nat.le_of_ble_eq_true rfl⟩ ⟨Nat.zero_le _, Nat.zero_le _⟩ (Nat.le_of_ble_eq_true rfl) dX10_where_9 (fun H locs hS => ?_)
    refine lv_if_eq (tgt := 27) hx hb dX10_where_12 (by decide) (fun hc => ?_) (fun hc => ?_)
    · have hf := o_t hc hf
      refine lv_iconst (v := (-1 : Int32)) hx hb dX10_where_27 (by decide) ?_
      exact ret hf hS dX10_where_28
    · have hf := o_f hc hf
      refine lv_iload_n hx hb dX10_where_15 rfl (lv_at hl 3 rfl) ?_
      refine lv_i2l hx hb dX10_where_16 rfl ?_
      refine lv_lconst (v := (0 : Int64)) hx hb dX10_where_17 (by decide) ?_
      refine lv_ldc2 hx hb X.2.2.2.1 (X.2.2.2.2.1 (.constantLong RX10 212 (120 : Int64)) (m_t4 199 rfl rfl)) dX10_where_18 ?_
      obtain ⟨r5, c6, hq, hf⟩ := o_cal hf
      refine m_calls (rest := []) X hS hl.1 (c_X10_in l D cI cZ q _ _ (Int32.toInt64 v3) (0 : Int64) (120 : Int64) _ hq) cs_10_109 rfl rfl ⟨Nat.le_of_ble_eq_true rfl, Nat.le_of_ble_eq_true rfl⟩ ⟨Nat.zero_le _, Nat.zero_le _⟩ (Nat.le_of_ble_eq_true rfl) dX10_where_21 (fun H locs hS => ?_)
      refine lv_if_ne (tgt := 29) hx hb dX10_where_24 (by decide) (fun hc => ?_) (fun hc => ?_)
      · have hf := o_f hc hf
        refine lv_aload_n hx hb dX10_where_29 rfl (lv_at hl 0 rfl) ?_
        refine lv_iload_n hx hb dX10_where_30 rfl (lv_at hl 1 rfl) ?_
        obtain ⟨r7, c8, hq, hf⟩ := o_cal hf
        refine m_calli (rest := []) X hS hl.1 (c_X10_goDay l D cI cZ q _ _ v1 _ hq) cv_10_214 (oM_0 q cI cZ _) rfl rfl ⟨Nat.le_of_ble_eq_true rfl, Nat.le_of_ble_eq_true rfl⟩ ⟨Nat.zero_le _, Nat.zero_le _⟩ (Nat.le_of_ble_eq_true rfl) dX10_where_31 (fun H locs hS => ?_)
        refine lv_pop hx hb dX10_where_34 rfl ?_
        refine lv_aload_n hx hb dX10_where_35 rfl (lv_at hl 0 rfl) ?_
        refine m_get X hS fl_10_61 (vM_0_22 q cI cZ _) dX10_where_36 ?_
        refine lv_bipush (v := (6 : Int32)) hx hb dX10_where_39 (by decide) ?_
        refine lv_iload_n hx hb dX10_where_41 rfl (lv_at hl 3 rfl) ?_
        refine lv_imul hx hb dX10_where_42 ?_
        refine lv_iload_n hx hb dX10_where_43 rfl (lv_at hl 2 rfl) ?_
        refine lv_iadd hx hb dX10_where_44 ?_
        obtain ⟨hg, hf⟩ := o_gi hf
        refine m_ild X hS (aM_18 q cI cZ) hg dX10_where_45 ?_
        exact ret hf hS dX10_where_46
      · have hf := o_t hc hf
        refine lv_iconst (v := (-1 : Int32)) hx hb dX10_where_27 (by decide) ?_
        exact ret hf hS dX10_where_28
