set_option maxHeartbeats 40000000 in
set_option maxRecDepth 100000 in
theorem c_X10_noCut (l : Launch) (D : va_G) (cI cZ : ClassId) (q : Nat → Nat) (c : Mm) (sz : Nat) (v1 : Int32) (R : Mm) (hf : X10_noCut v1 c = some R) : m_Mv l yX10_noCut cX10_noCut 2 0 0 D cI cZ (mkM q cI cZ) 29 q [.ref (q 0), .int v1] c sz R := by
  refine m_enter_v (own := RX10) (by decide) rfl (Nat.le_of_ble_eq_true rfl) ?_
  intro p e s m args below meth cd Q X ret
  have hx := X.1
  have hb := X.2.1
  intro H locs ls hS hl
  have hl : lv_has ls 2 [(0, .ref (q 0)), (1, .int v1)] := hl
  unfold X10_noCut at hf
  refine lv_aload_n hx hb dX10_noCut_0 rfl (lv_at hl 0 rfl) ?_
  refine m_get X hS fl_10_13 (vM_0_2 q cI cZ _) dX10_noCut_1 ?_
  refine lv_iload_n hx hb dX10_noCut_4 rfl (lv_at hl 1 rfl) ?_
  refine lv_iconst (v := (0 : Int32)) hx hb dX10_noCut_5 (by decide) ?_
  obtain ⟨hg, hf⟩ := o_gi hf
  refine m_ist X hS (aM_2 q cI cZ) hg dX10_noCut_6 (fun c1 ec H locs hS => ?_)
  have hf := o_bnd hf c1 ec
  refine lv_aload_n hx hb dX10_noCut_7 rfl (lv_at hl 0 rfl) ?_
  refine m_get X hS fl_10_31 (vM_0_8 q cI cZ _) dX10_noCut_8 ?_
  refine lv_iload_n hx hb dX10_noCut_11 rfl (lv_at hl 1 rfl) ?_
  refine lv_iconst (v := (0 : Int32)) hx hb dX10_noCut_12 (by decide) ?_
  obtain ⟨hg, hf⟩ := o_gi hf
  refine m_ist X hS (aM_8 q cI cZ) hg dX10_noCut_13 (fun c2 ec H locs hS => ?_)
  have hf := o_bnd hf c2 ec
  refine lv_aload_n hx hb dX10_noCut_14 rfl (lv_at hl 0 rfl) ?_
  refine m_get X hS fl_10_40 (vM_0_11 q cI cZ _) dX10_noCut_15 ?_
  refine lv_iconst (v := (4 : Int32)) hx hb dX10_noCut_18 (by decide) ?_
  refine lv_iload_n hx hb dX10_noCut_19 rfl (lv_at hl 1 rfl) ?_
  refine lv_imul hx hb dX10_noCut_20 ?_
  refine lv_iconst (v := (4 : Int32)) hx hb dX10_noCut_21 (by decide) ?_
  obtain ⟨hg, hf⟩ := o_gi hf
  refine m_ist X hS (aM_11 q cI cZ) hg dX10_noCut_22 (fun c3 ec H locs hS => ?_)
  have hf := o_bnd hf c3 ec
  refine lv_aload_n hx hb dX10_noCut_23 rfl (lv_at hl 0 rfl) ?_
  refine m_get X hS fl_10_40 (vM_0_11 q cI cZ _) dX10_noCut_24 ?_
  refine lv_iconst (v := (4 : Int32)) hx hb dX10_noCut_27 (by decide) ?_
  refine lv_iload_n hx hb dX10_noCut_28 rfl (lv_at hl 1 rfl) ?_
  refine lv_imul hx hb dX10_noCut_29 ?_
  refine lv_iconst (v := (1 : Int32)) hx hb dX10_noCut_30 (by decide) ?_
  refine lv_iadd hx hb dX10_noCut_31 ?_
  refine lv_bipush (v := (10 : Int32)) hx hb dX10_noCut_32 (by decide) ?_
  obtain ⟨hg, hf⟩ := o_gi hf
  refine m_ist X hS (aM_11 q cI cZ) hg dX10_noCut_34 (fun c4 ec H locs hS => ?_)
  have hf := o_bnd hf c4 ec
  refine lv_aload_n hx hb dX10_noCut_35 rfl (lv_at hl 0 rfl) ?_
  refine m_get X hS fl_10_40 (vM_0_11 q cI cZ _) dX10_noCut_36 ?_
  refine lv_iconst (v := (4 : Int32)) hx hb dX10_noCut_39 (by decide) ?_
  refine lv_iload_n hx hb dX10_noCut_40 rfl (lv_at hl 1 rfl) ?_
  refine lv_imul hx hb dX10_noCut_41 ?_
  refine lv_iconst (v := (2 : Int32)) hx hb dX10_noCut_42 (by decide) ?_
  refine lv_iadd hx hb dX10_noCut_43 ?_
  refine lv_iconst (v := (2 : Int32)) hx hb dX10_noCut_44 (by decide) ?_
  obtain ⟨hg, hf⟩ := o_gi hf
  refine m_ist X hS (aM_11 q cI cZ) hg dX10_noCut_45 (fun c5 ec H locs hS => ?_)
  have hf := o_bnd hf c5 ec
  refine lv_aload_n hx hb dX10_noCut_46 rfl (lv_at hl 0 rfl) ?_
  refine m_get X hS fl_10_40 (vM_0_11 q cI cZ _) dX10_noCut_47 ?_
  refine lv_iconst (v := (4 : Int32)) hx hb dX10_noCut_50 (by decide) ?_
  refine lv_iload_n hx hb dX10_noCut_51 rfl (lv_at hl 1 rfl) ?_
  refine lv_imul hx hb dX10_noCut_52 ?_
  refine lv_iconst (v := (3 : Int32)) hx hb dX10_noCut_53 (by decide) ?_
  refine lv_iadd hx hb dX10_noCut_54 ?_
  refine lv_iconst (v := (4 : Int32)) hx hb dX10_noCut_55 (by decide) ?_
  obtain ⟨hg, hf⟩ := o_gi hf
  refine m_ist X hS (aM_11 q cI cZ) hg dX10_noCut_56 (fun c6 ec H locs hS => ?_)
  have hf := o_bnd hf c6 ec
  exact ret hf hS dX10_noCut_57

set_option maxHeartbeats 40000000 in
set_option maxRecDepth 100000 in
theorem c_X10_addBoat (l : Launch) (D : va_G) (cI cZ : ClassId) (q : Nat → Nat) (c : Mm) (sz : Nat) (v1 : Int32) (v2 : Int32) (v3 : Int32) (v4 : Int32) (v5 : Int32) (v6 : Int32) (R : Mm) (hf : X10_addBoat v1 v2 v3 v4 v5 v6 c = some R) : m_Mv l yX10_addBoat cX10_addBoat 8 0 0 D cI cZ (mkM q cI cZ) 29 q [.ref (q 0), .int v1, .int v2, .int v3, .int v4, .int v5, .int v6] c sz R := by
  refine m_enter_v (own := RX10) (by decide) rfl (Nat.le_of_ble_eq_true rfl) ?_
  intro p e s m args below meth cd Q X ret
  have hx := X.1
  have hb := X.2.1
  intro H locs ls hS hl
  have hl : lv_has ls 8 [(0, .ref (q 0)), (1, .int v1), (2, .int v2), (3, .int v3), (4, .int v4), (5, .int v5), (6, .int v6)] := hl
  unfold X10_addBoat at hf
  refine lv_bipush (v := (6 : Int32)) hx hb dX10_addBoat_0 (by decide) ?_
  refine lv_iload_n hx hb dX10_addBoat_2 rfl (lv_at hl 1 rfl) ?_
  refine lv_imul hx hb dX10_addBoat_3 ?_
  refine lv_aload_n hx hb dX10_addBoat_4 rfl (lv_at hl 0 rfl) ?_
  refine m_get X hS fl_10_13 (vM_0_2 q cI cZ _) dX10_addBoat_5 ?_
  refine lv_iload_n hx hb dX10_addBoat_8 rfl (lv_at hl 1 rfl) ?_
  obtain ⟨hg, hf⟩ := o_gi hf
  refine m_ild X hS (aM_2 q cI cZ) hg dX10_addBoat_9 ?_
  refine lv_iadd hx hb dX10_addBoat_10 ?_
  refine lv_topi (fun x1 ex => ?_)
  have hf := o_bnd hf x1 ex
  refine lv_istore (lv' := [(7, .int x1), (0, .ref (q 0)), (1, .int v1), (2, .int v2), (3, .int v3), (4, .int v4), (5, .int v5), (6, .int v6)]) hx hb dX10_addBoat_11 hl (by decide) rfl (fun ls hl => ?_)
  refine lv_aload_n hx hb dX10_addBoat_13 rfl (lv_at hl 1 rfl) ?_
  refine m_get X hS fl_10_16 (vM_0_3 q cI cZ _) dX10_addBoat_14 ?_
  refine lv_iload hx hb dX10_addBoat_17 (lv_at hl 0 rfl) ?_
  refine lv_iload_n hx hb dX10_addBoat_19 rfl (lv_at hl 3 rfl) ?_
  obtain ⟨hg, hf⟩ := o_gi hf
  refine m_ist X hS (aM_3 q cI cZ) hg dX10_addBoat_20 (fun c2 ec H locs hS => ?_)
  have hf := o_bnd hf c2 ec
  refine lv_aload_n hx hb dX10_addBoat_21 rfl (lv_at hl 1 rfl) ?_
  refine m_get X hS fl_10_19 (vM_0_4 q cI cZ _) dX10_addBoat_22 ?_
  refine lv_iload hx hb dX10_addBoat_25 (lv_at hl 0 rfl) ?_
  refine lv_iload_n hx hb dX10_addBoat_27 rfl (lv_at hl 4 rfl) ?_
  obtain ⟨hg, hf⟩ := o_gi hf
  refine m_ist X hS (aM_4 q cI cZ) hg dX10_addBoat_28 (fun c3 ec H locs hS => ?_)
  have hf := o_bnd hf c3 ec
  refine lv_aload_n hx hb dX10_addBoat_29 rfl (lv_at hl 1 rfl) ?_
  refine m_get X hS fl_10_22 (vM_0_5 q cI cZ _) dX10_addBoat_30 ?_
  refine lv_iload hx hb dX10_addBoat_33 (lv_at hl 0 rfl) ?_
  refine lv_iload hx hb dX10_addBoat_35 (lv_at hl 5 rfl) ?_
  obtain ⟨hg, hf⟩ := o_gi hf
  refine m_ist X hS (aM_5 q cI cZ) hg dX10_addBoat_37 (fun c4 ec H locs hS => ?_)
  have hf := o_bnd hf c4 ec
  refine lv_aload_n hx hb dX10_addBoat_38 rfl (lv_at hl 1 rfl) ?_
  refine m_get X hS fl_10_25 (vM_0_6 q cI cZ _) dX10_addBoat_39 ?_
  refine lv_iload hx hb dX10_addBoat_42 (lv_at hl 0 rfl) ?_
  refine lv_iload hx hb dX10_addBoat_44 (lv_at hl 6 rfl) ?_
  obtain ⟨hg, hf⟩ := o_gi hf
  refine m_ist X hS (aM_6 q cI cZ) hg dX10_addBoat_46 (fun c5 ec H locs hS => ?_)
  have hf := o_bnd hf c5 ec
  refine lv_aload_n hx hb dX10_addBoat_47 rfl (lv_at hl 1 rfl) ?_
  refine m_get X hS fl_10_28 (vM_0_7 q cI cZ _) dX10_addBoat_48 ?_
  refine lv_iload hx hb dX10_addBoat_51 (lv_at hl 0 rfl) ?_
  refine lv_iload hx hb dX10_addBoat_53 (lv_at hl 7 rfl) ?_
  obtain ⟨hg, hf⟩ := o_gi hf
  refine m_ist X hS (aM_7 q cI cZ) hg dX10_addBoat_55 (fun c6 ec H locs hS => ?_)
  have hf := o_bnd hf c6 ec
  refine lv_aload_n hx hb dX10_addBoat_56 rfl (lv_at hl 1 rfl) ?_
  refine m_get X hS fl_10_13 (vM_0_2 q cI cZ _) dX10_addBoat_57 ?_
  refine lv_iload_n hx hb dX10_addBoat_60 rfl (lv_at hl 2 rfl) ?_
  refine lv_dup2_11 hx hb dX10_addBoat_61 rfl rfl ?_
  obtain ⟨hg, hf⟩ := o_gi hf
  refine m_ild X hS (aM_2 q cI cZ) hg dX10_addBoat_62 ?_
  refine lv_iconst (v := (1 : Int32)) hx hb dX10_addBoat_63 (by decide) ?_
  refine lv_iadd hx hb dX10_addBoat_64 ?_
  obtain ⟨hg, hf⟩ := o_gi hf
  refine m_ist X hS (aM_2 q cI cZ) hg dX10_addBoat_65 (fun c7 ec H locs hS => ?_)
  have hf := o_bnd hf c7 ec
  exact ret hf hS dX10_addBoat_66

set_option maxHeartbeats 40000000 in
set_option maxRecDepth 100000 in
theorem c_X10_begin (l : Launch) (D : va_G) (cI cZ : ClassId) (q : Nat → Nat) (c : Mm) (sz : Nat) (R : Mm) (hf : X10_begin c = some R) : m_Mv l yX10_begin cX10_begin 2 0 0 D cI cZ (mkM q cI cZ) 29 q [.ref (q 0)] c sz R := by
  refine m_enter_v (own := RX10) (by decide) rfl (Nat.le_of_ble_eq_true rfl) ?_
  intro p e s m args below meth cd Q X ret
  have hx := X.1
  have hb := X.2.1
  have k36 : ∀ (c : Mm), X10_begin_j36 c = some R → m_G p l e (m_rm 0 0) s m args below meth cd Q D (mkM q cI cZ) 29 q 2 36 [(0, .ref (q 0))] [] c := by
    intro c hf H locs ls hS hl
    unfold X10_begin_j36 at hf
    refine lv_aload_n hx hb dX10_begin_36 rfl (lv_at hl 0 rfl) ?_
    refine lv_iconst (v := (0 : Int32)) hx hb dX10_begin_37 (by decide) ?_
    refine m_put X hS fp_10_154 (pM_0_14 q cI cZ) dX10_begin_38 (fun c1 ec H locs hS => ?_)
    have hf := o_bnd hf c1 ec
    refine lv_aload_n hx hb dX10_begin_41 rfl (lv_at hl 0 rfl) ?_
    refine lv_iconst (v := (0 : Int32)) hx hb dX10_begin_42 (by decide) ?_
    refine m_put X hS fp_10_157 (pM_0_16 q cI cZ) dX10_begin_43 (fun c2 ec H locs hS => ?_)
    have hf := o_bnd hf c2 ec
    refine lv_aload_n hx hb dX10_begin_46 rfl (lv_at hl 0 rfl) ?_
    refine lv_iconst (v := (0 : Int32)) hx hb dX10_begin_47 (by decide) ?_
    refine m_put X hS fp_10_160 (pM_0_17 q cI cZ) dX10_begin_48 (fun c3 ec H locs hS => ?_)
    have hf := o_bnd hf c3 ec
    exact ret hf hS dX10_begin_51
  have k2 : ∀ (n : Nat) (v1 : Int32) (c : Mm), m_lp1 (X10_begin_b2) n v1 c = some R → m_G p l e (m_rm 0 0) s m args below meth cd Q D (mkM q cI cZ) 29 q 2 2 [(0, .ref (q 0)), (1, .int v1)] [] c := by
    refine m_lp1_i ?_
    intro rc2 hrc2 v1 c hf H locs ls hS hl
    unfold X10_begin_b2 at hf
    refine lv_iload_n hx hb dX10_begin_2 rfl (lv_at hl 1 rfl) ?_
    refine lv_bipush (v := (6 : Int32)) hx hb dX10_begin_3 (by decide) ?_
    refine lv_icmp_ge (tgt := 36) hx hb dX10_begin_5 (by decide) (fun hc => ?_) (fun hc => ?_)
    · have hf := o_t hc hf
      exact k36 _ hf H locs ls hS (lv_sub hl [0] rfl)
    · have hf := o_f hc hf
      refine lv_aload_n hx hb dX10_begin_8 rfl (lv_at hl 0 rfl) ?_
      refine m_get X hS fl_10_43 (vM_0_12 q cI cZ _) dX10_begin_9 ?_
      refine lv_iload_n hx hb dX10_begin_12 rfl (lv_at hl 1 rfl) ?_
      refine lv_aload_n hx hb dX10_begin_13 rfl (lv_at hl 0 rfl) ?_
      refine m_get X hS fl_10_25 (vM_0_6 q cI cZ _) dX10_begin_14 ?_
      refine lv_iload_n hx hb dX10_begin_17 rfl (lv_at hl 1 rfl) ?_
      obtain ⟨hg, hf⟩ := o_gi hf
      refine m_ild X hS (aM_6 q cI cZ) hg dX10_begin_18 ?_
      obtain ⟨hg, hf⟩ := o_gi hf
      refine m_ist X hS (aM_12 q cI cZ) hg dX10_begin_19 (fun c4 ec H locs hS => ?_)
      have hf := o_bnd hf c4 ec
      refine lv_aload_n hx hb dX10_begin_20 rfl (lv_at hl 0 rfl) ?_
      refine m_get X hS fl_10_43 (vM_0_12 q cI cZ _) dX10_begin_21 ?_
      refine lv_bipush (v := (6 : Int32)) hx hb dX10_begin_24 (by decide) ?_
      refine lv_iload_n hx hb dX10_begin_26 rfl (lv_at hl 1 rfl) ?_
      refine lv_iadd hx hb dX10_begin_27 ?_
      refine lv_iconst (v := (0 : Int32)) hx hb dX10_begin_28 (by decide) ?_
      obtain ⟨hg, hf⟩ := o_gi hf
      refine m_ist X hS (aM_12 q cI cZ) hg dX10_begin_29 (fun c5 ec H locs hS => ?_)
      have hf := o_bnd hf c5 ec
      obtain ⟨x6, ex⟩ : ∃ y : Int32, y = v1 + (1 : Int32) := ⟨_, rfl⟩
      have hf := o_bnd hf x6 ex
      refine lv_iinc (v := x6) (lv' := [(1, .int x6), (0, .ref (q 0))]) hx hb dX10_begin_30 hl (k := 1) rfl (by rw [ex]; rfl) (by decide) rfl (fun ls hl => ?_)
      refine lv_goto (tgt := 2) hx hb dX10_begin_33 (by decide) ?_
      exact hrc2 x6 _ hf H locs ls hS (lv_sub hl [1, 0] rfl)
  intro H locs ls hS hl
  have hl : lv_has ls 2 [(0, .ref (q 0))] := hl
  unfold X10_begin at hf
  refine lv_iconst (v := (0 : Int32)) hx hb dX10_begin_0 (by decide) ?_
  refine lv_istore_n (lv' := [(1, .int (0 : Int32)), (0, .ref (q 0))]) hx hb dX10_begin_1 rfl hl (by decide) rfl (fun ls hl => ?_)
  exact k2 _ (0 : Int32) _ hf H locs ls hS (lv_sub hl [1, 0] rfl)

set_option maxHeartbeats 40000000 in
set_option maxRecDepth 100000 in
theorem c_X10_in (l : Launch) (D : va_G) (cI cZ : ClassId) (q : Nat → Nat) (c : Mm) (sz : Nat) (v0 : Int64) (v2 : Int64) (v4 : Int64) (R : Int32 × Mm) (hf : X10_in v0 v2 v4 c = some R) : m_Mi l yX10_in cX10_in 6 (some .boolean) 0 0 D cI cZ (mkM q cI cZ) 29 q [.long v0, .long v2, .long v4] c sz R := by
  refine m_enter_z (own := RX10) (by decide) rfl (Nat.le_of_ble_eq_true rfl) ?_
  intro p e s m args below meth cd Q X ret
  have hx := X.1
  have hb := X.2.1
  intro H locs ls hS hl
  have hl : lv_has ls 6 [(0, .long v0), (2, .long v2), (4, .long v4)] := hl
  unfold X10_in at hf
  refine lv_lload_n hx hb dX10_in_0 rfl (lv_at hl 0 rfl) ?_
  refine lv_lload_n hx hb dX10_in_1 rfl (lv_at hl 1 rfl) ?_
  refine W.lcmp hx hb dX10_in_2 ?_
  refine lv_if_lt (tgt := 17) hx hb dX10_in_3 (by decide) (fun hc => ?_) (fun hc => ?_)
  · have hf := o_t hc hf
    refine lv_iconst (v := (0 : Int32)) hx hb dX10_in_17 (by decide) ?_
    exact ret (Or.inl rfl) hf hS dX10_in_18
  · have hf := o_f hc hf
    refine lv_lload_n hx hb dX10_in_6 rfl (lv_at hl 0 rfl) ?_
    refine lv_lload hx hb dX10_in_7 (lv_at hl 2 rfl) ?_
    refine W.lcmp hx hb dX10_in_9 ?_
    refine lv_if_gt (tgt := 17) hx hb dX10_in_10 (by decide) (fun hc => ?_) (fun hc => ?_)
    · have hf := o_t hc hf
      refine lv_iconst (v := (0 : Int32)) hx hb dX10_in_17 (by decide) ?_
      exact ret (Or.inl rfl) hf hS dX10_in_18
    · have hf := o_f hc hf
      refine lv_iconst (v := (1 : Int32)) hx hb dX10_in_13 (by decide) ?_
      refine lv_goto (tgt := 18) hx hb dX10_in_14 (by decide) ?_
      exact ret (Or.inr rfl) hf hS dX10_in_18

set_option maxHeartbeats 40000000 in
set_option maxRecDepth 100000 in
theorem c_X10_write (l : Launch) (D : va_G) (cI cZ : ClassId) (q : Nat → Nat) (c : Mm) (sz : Nat) (v1 : Int32) (R : Int32 × Mm) (hf : X10_write v1 c = some R) : m_Mi l yX10_write cX10_write 2 (some .int) 1 25 D cI cZ (mkM q cI cZ) 29 q [.ref (q 0), .int v1] c sz R := by
  refine m_enter_i (own := RX10) (by decide) rfl (Nat.le_of_ble_eq_true rfl) ?_
  intro p e s m args below meth cd Q X ret
  have hx := X.1
  have hb := X.2.1
  intro H locs ls hS hl
  have hl : lv_has ls 2 [(0, .ref (q 0)), (1, .int v1)] := hl
  unfold X10_write at hf
  refine lv_iload_n hx hb dX10_write_0 rfl (lv_at hl 1 rfl) ?_
  refine lv_i2l hx hb dX10_write_1 rfl ?_
  refine lv_ldc2 hx hb X.2.2.2.1 (X.2.2.2.2.1 (.constantLong RX10 105 (32 : Int64)) (m_t4 134 rfl rfl)) dX10_write_2 ?_
  refine lv_ldc2 hx hb X.2.2.2.1 (X.2.2.2.2.1 (.constantLong RX10 107 (126 : Int64)) (m_t4 135 rfl rfl)) dX10_write_5 ?_
  obtain ⟨r1, c2, hq, hf⟩ := o_cal hf
  refine m_calls (rest := []) X hS hl.1 (c_X10_in l D cI cZ q _ _ (Int32.toInt64 v1) (32 : Int64) (126 : Int64) _ hq) cs_10_109 rfl rfl ⟨Nat.le_of_ble_eq_true rfl, Nat.le_of_ble_eq_true rfl⟩ ⟨Nat.zero_le _, Nat.zero_le _⟩ (Nat.le_of_ble_eq_true rfl) dX10_write_8 (fun H locs hS => ?_)
  refine lv_if_ne (tgt := 16) hx hb dX10_write_11 (by decide) (fun hc => ?_) (fun hc => ?_)
  · have hf := o_f hc hf
    refine lv_aload_n hx hb dX10_write_16 rfl (lv_at hl 0 rfl) ?_
    refine m_get X hS fl_10_113 (vM_0_0 q cI cZ _) dX10_write_17 ?_
    refine lv_sipush (v := (200 : Int32)) hx hb dX10_write_20 (by decide) ?_
    refine lv_icmp_ne (tgt := 29) hx hb dX10_write_23 (by decide) (fun hc => ?_) (fun hc => ?_)
    · have hf := o_f hc hf
      refine lv_aload_n hx hb dX10_write_29 rfl (lv_at hl 0 rfl) ?_
      refine m_get X hS fl_10_7 (vM_0_1 q cI cZ _) dX10_write_30 ?_
      refine lv_aload_n hx hb dX10_write_33 rfl (lv_at hl 0 rfl) ?_
      refine m_get X hS fl_10_113 (vM_0_0 q cI cZ _) dX10_write_34 ?_
      refine lv_iload_n hx hb dX10_write_37 rfl (lv_at hl 1 rfl) ?_
      obtain ⟨hg, hf⟩ := o_gi hf
      refine m_ist X hS (aM_1 q cI cZ) hg dX10_write_38 (fun c3 ec H locs hS => ?_)
      have hf := o_bnd hf c3 ec
      refine lv_aload_n hx hb dX10_write_39 rfl (lv_at hl 0 rfl) ?_
      refine lv_dup hx hb dX10_write_40 rfl ?_
      refine m_get X hS fl_10_113 (vM_0_0 q cI cZ _) dX10_write_41 ?_
      refine lv_iconst (v := (1 : Int32)) hx hb dX10_write_44 (by decide) ?_
      refine lv_iadd hx hb dX10_write_45 ?_
      refine m_put X hS fp_10_113 (pM_0_0 q cI cZ) dX10_write_46 (fun c4 ec H locs hS => ?_)
      have hf := o_bnd hf c4 ec
      refine lv_aload_n hx hb dX10_write_49 rfl (lv_at hl 0 rfl) ?_
      refine m_get X hS fl_10_113 (vM_0_0 q cI cZ _) dX10_write_50 ?_
      exact ret hf hS dX10_write_53
    · have hf := o_t hc hf
      refine lv_bipush (v := (-3 : Int32)) hx hb dX10_write_26 (by decide) ?_
      exact ret hf hS dX10_write_28
  · have hf := o_t hc hf
    refine lv_iconst (v := (-1 : Int32)) hx hb dX10_write_14 (by decide) ?_
    exact ret hf hS dX10_write_15

set_option maxHeartbeats 40000000 in
set_option maxRecDepth 100000 in
theorem c_X10_wipe (l : Launch) (D : va_G) (cI cZ : ClassId) (q : Nat → Nat) (c : Mm) (sz : Nat) (R : Int32 × Mm) (hf : X10_wipe c = some R) : m_Mi l yX10_wipe cX10_wipe 2 (some .int) 0 0 D cI cZ (mkM q cI cZ) 29 q [.ref (q 0)] c sz R := by
  refine m_enter_i (own := RX10) (by decide) rfl (Nat.le_of_ble_eq_true rfl) ?_
  intro p e s m args below meth cd Q X ret
  have hx := X.1
  have hb := X.2.1
  intro H locs ls hS hl
  have hl : lv_has ls 2 [(0, .ref (q 0))] := hl
  unfold X10_wipe at hf
  refine lv_aload_n hx hb dX10_wipe_0 rfl (lv_at hl 0 rfl) ?_
  refine m_get X hS fl_10_113 (vM_0_0 q cI cZ _) dX10_wipe_1 ?_
  refine lv_topi (fun x1 ex => ?_)
  have hf := o_bnd hf x1 ex
  refine lv_istore_n (lv' := [(1, .int x1), (0, .ref (q 0))]) hx hb dX10_wipe_4 rfl hl (by decide) rfl (fun ls hl => ?_)
  refine lv_aload_n hx hb dX10_wipe_5 rfl (lv_at hl 1 rfl) ?_
  refine lv_iconst (v := (0 : Int32)) hx hb dX10_wipe_6 (by decide) ?_
  refine m_put X hS fp_10_113 (pM_0_0 q cI cZ) dX10_wipe_7 (fun c2 ec H locs hS => ?_)
  have hf := o_bnd hf c2 ec
  refine lv_iload_n hx hb dX10_wipe_10 rfl (lv_at hl 0 rfl) ?_
  exact ret hf hS dX10_wipe_11

set_option maxHeartbeats 40000000 in
set_option maxRecDepth 100000 in
theorem c_X10_letterAt (l : Launch) (D : va_G) (cI cZ : ClassId) (q : Nat → Nat) (c : Mm) (sz : Nat) (v1 : Int32) (R : Int32 × Mm) (hf : X10_letterAt v1 c = some R) : m_Mi l yX10_letterAt cX10_letterAt 2 (some .int) 0 0 D cI cZ (mkM q cI cZ) 29 q [.ref (q 0), .int v1] c sz R := by
  refine m_enter_i (own := RX10) (by decide) rfl (Nat.le_of_ble_eq_true rfl) ?_
  intro p e s m args below meth cd Q X ret
  have hx := X.1
  have hb := X.2.1
  intro H locs ls hS hl
  have hl : lv_has ls 2 [(0, .ref (q 0)), (1, .int v1)] := hl
  unfold X10_letterAt at hf
  refine lv_iload_n hx hb dX10_letterAt_0 rfl (lv_at hl 1 rfl) ?_
  refine lv_aload_n hx hb dX10_letterAt_1 rfl (lv_at hl 0 rfl) ?_
  refine m_get X hS fl_10_113 (vM_0_0 q cI cZ _) dX10_letterAt_2 ?_
  refine lv_icmp_ge (tgt := 17) hx hb dX10_letterAt_5 (by decide) (fun hc => ?_) (fun hc => ?_)
  · have hf := o_t hc hf
    refine lv_iconst (v := (0 : Int32)) hx hb dX10_letterAt_17 (by decide) ?_
    exact ret hf hS dX10_letterAt_18
  · have hf := o_f hc hf
    refine lv_aload_n hx hb dX10_letterAt_8 rfl (lv_at hl 0 rfl) ?_
    refine m_get X hS fl_10_7 (vM_0_1 q cI cZ _) dX10_letterAt_9 ?_
    refine lv_iload_n hx hb dX10_letterAt_12 rfl (lv_at hl 1 rfl) ?_
    obtain ⟨hg, hf⟩ := o_gi hf
    refine m_ild X hS (aM_1 q cI cZ) hg dX10_letterAt_13 ?_
    refine lv_goto (tgt := 18) hx hb dX10_letterAt_14 (by decide) ?_
    exact ret hf hS dX10_letterAt_18

set_option maxHeartbeats 40000000 in
set_option maxRecDepth 100000 in
theorem c_X10_figures (l : Launch) (D : va_G) (cI cZ : ClassId) (q : Nat → Nat) (c : Mm) (sz : Nat) (v1 : Int32) (R : Int32 × Mm) (hf : X10_figures v1 c = some R) : m_Mi l yX10_figures cX10_figures 5 (some .boolean) 1 25 D cI cZ (mkM q cI cZ) 29 q [.ref (q 0), .int v1] c sz R := by
  refine m_enter_z (own := RX10) (by decide) rfl (Nat.le_of_ble_eq_true rfl) ?_
  intro p e s m args below meth cd Q X ret
  have hx := X.1
  have hb := X.2.1
  have k107 : ∀ (v1 : Int32) (v2 : Int32) (v4 : Int32) (s0 : Int32) (s1 : Int32) (rc2 : Int32 → Mm → Option (Int32 × Mm)) (hrc2 : ∀ (w2 : Int32) (c : Mm), rc2 w2 c = some R → m_G p l e (m_rm 1 25) s m args below meth cd Q D (mkM q cI cZ) 29 q 5 2 [(0, .ref (q 0)), (1, .int v1), (2, .int w2)] [] c) (c : Mm), X10_figures_j107 rc2 v1 v2 v4 s0 s1 c = some R → m_G p l e (m_rm 1 25) s m args below meth cd Q D (mkM q cI cZ) 29 q 5 107 [(0, .ref (q 0)), (1, .int v1), (2, .int v2), (4, .int v4)] [.int s1, .int s0] c := by
    intro v1 v2 v4 s0 s1 rc2 hrc2 c hf H locs ls hS hl
    unfold X10_figures_j107 at hf
    refine lv_icmp_eq (tgt := 112) hx hb dX10_figures_107 (by decide) (fun hc => ?_) (fun hc => ?_)
    · have hf := o_t hc hf
      refine lv_aload_n hx hb dX10_figures_112 rfl (lv_at hl 0 rfl) ?_
      refine m_get X hS fl_10_58 (vM_0_21 q cI cZ _) dX10_figures_113 ?_
      refine lv_iload_n hx hb dX10_figures_116 rfl (lv_at hl 2 rfl) ?_
      refine lv_iload hx hb dX10_figures_117 (lv_at hl 3 rfl) ?_
      obtain ⟨hg, hf⟩ := o_gi hf
      refine m_ist X hS (aM_17 q cI cZ) hg dX10_figures_119 (fun c1 ec H locs hS => ?_)
      have hf := o_bnd hf c1 ec
      refine lv_aload_n hx hb dX10_figures_120 rfl (lv_at hl 0 rfl) ?_
      refine lv_dup hx hb dX10_figures_121 rfl ?_
      refine m_get X hS fl_10_117 (vM_0_20 q cI cZ _) dX10_figures_122 ?_
      refine lv_iconst (v := (1 : Int32)) hx hb dX10_figures_125 (by decide) ?_
      refine lv_iadd hx hb dX10_figures_126 ?_
      refine m_put X hS fp_10_117 (pM_0_20 q cI cZ) dX10_figures_127 (fun c2 ec H locs hS => ?_)
      have hf := o_bnd hf c2 ec
      obtain ⟨x3, ex⟩ : ∃ y : Int32, y = v2 + (1 : Int32) := ⟨_, rfl⟩
      have hf := o_bnd hf x3 ex
      refine lv_iinc (v := x3) (lv' := [(2, .int x3), (0, .ref (q 0)), (1, .int v1), (4, .int v4)]) hx hb dX10_figures_130 hl (k := 2) rfl (by rw [ex]; rfl) (by decide) rfl (fun ls hl => ?_)
      refine lv_goto (tgt := 2) hx hb dX10_figures_133 (by decide) ?_
      exact hrc2 x3 _ hf H locs ls hS (lv_sub hl [1, 2, 0] rfl)
    · have hf := o_f hc hf
      refine lv_iconst (v := (0 : Int32)) hx hb dX10_figures_110 (by decide) ?_
      exact ret (Or.inl rfl) hf hS dX10_figures_111
  have k73 : ∀ (v1 : Int32) (v2 : Int32) (v3 : Int32) (v4 : Int32) (rc2 : Int32 → Mm → Option (Int32 × Mm)) (hrc2 : ∀ (w2 : Int32) (c : Mm), rc2 w2 c = some R → m_G p l e (m_rm 1 25) s m args below meth cd Q D (mkM q cI cZ) 29 q 5 2 [(0, .ref (q 0)), (1, .int v1), (2, .int w2)] [] c) (c : Mm), X10_figures_j73 rc2 v1 v2 v3 v4 c = some R → m_G p l e (m_rm 1 25) s m args below meth cd Q D (mkM q cI cZ) 29 q 5 73 [(0, .ref (q 0)), (1, .int v1), (2, .int v2), (3, .int v3), (4, .int v4)] [] c := by
    intro v1 v2 v3 v4 rc2 hrc2 c hf H locs ls hS hl
    unfold X10_figures_j73 at hf
    refine lv_iload_n hx hb dX10_figures_73 rfl (lv_at hl 3 rfl) ?_
    refine lv_i2l hx hb dX10_figures_74 rfl ?_
    refine lv_lconst (v := (1 : Int64)) hx hb dX10_figures_75 (by decide) ?_
    refine lv_ldc2 hx hb X.2.2.2.1 (X.2.2.2.2.1 (.constantLong RX10 128 (2 : Int64)) (m_t4 169 rfl rfl)) dX10_figures_76 ?_
    obtain ⟨r4, c5, hq, hf⟩ := o_cal hf
    refine m_calls (rest := []) X hS hl.1 (c_X10_in l D cI cZ q _ _ (Int32.toInt64 v3) (1 : Int64) (2 : Int64) _ hq) cs_10_109 rfl rfl ⟨Nat.le_of_ble_eq_true rfl, Nat.le_of_ble_eq_true rfl⟩ ⟨Nat.zero_le _, Nat.zero_le _⟩ (Nat.le_of_ble_eq_true rfl) dX10_figures_79 (fun H locs hS => ?_)
    refine lv_if_eq (tgt := 110) hx hb dX10_figures_82 (by decide) (fun hc => ?_) (fun hc => ?_)
    · have hf := o_t hc hf
      refine lv_iconst (v := (0 : Int32)) hx hb dX10_figures_110 (by decide) ?_
      exact ret (Or.inl rfl) hf hS dX10_figures_111
    · have hf := o_f hc hf
      refine lv_aload_n hx hb dX10_figures_85 rfl (lv_at hl 0 rfl) ?_
      refine lv_aload_n hx hb dX10_figures_86 rfl (lv_at hl 0 rfl) ?_
      refine m_get X hS fl_10_117 (vM_0_20 q cI cZ _) dX10_figures_87 ?_
      obtain ⟨r6, c7, hq, hf⟩ := o_cal hf
      refine m_calli (rest := []) X hS hl.1 (c_X10_letterAt l D cI cZ q _ _ (c5 0 20) _ hq) cv_10_120 (oM_0 q cI cZ _) rfl rfl ⟨Nat.le_of_ble_eq_true rfl, Nat.le_of_ble_eq_true rfl⟩ ⟨Nat.zero_le _, Nat.zero_le _⟩ (Nat.le_of_ble_eq_true rfl) dX10_figures_90 (fun H locs hS => ?_)
      refine lv_iload_n hx hb dX10_figures_93 rfl (lv_at hl 2 rfl) ?_
      refine lv_iload_n hx hb dX10_figures_94 rfl (lv_at hl 1 rfl) ?_
      refine lv_iconst (v := (1 : Int32)) hx hb dX10_figures_95 (by decide) ?_
      refine lv_isub hx hb dX10_figures_96 ?_
      refine lv_icmp_ge (tgt := 105) hx hb dX10_figures_97 (by decide) (fun hc => ?_) (fun hc => ?_)
      · have hf := o_t hc hf
        refine lv_bipush (v := (59 : Int32)) hx hb dX10_figures_105 (by decide) ?_
        exact k107 v1 v2 v4 r6 (59 : Int32) rc2 hrc2 _ hf H locs ls hS (lv_sub hl [0, 1, 2, 4] rfl)
      · have hf := o_f hc hf
        refine lv_bipush (v := (44 : Int32)) hx hb dX10_figures_100 (by decide) ?_
        refine lv_goto (tgt := 107) hx hb dX10_figures_102 (by decide) ?_
        exact k107 v1 v2 v4 r6 (44 : Int32) rc2 hrc2 _ hf H locs ls hS (lv_sub hl [0, 1, 2, 4] rfl)
  have k12 : ∀ (v1 : Int32) (v2 : Int32) (rc2 : Int32 → Mm → Option (Int32 × Mm)) (hrc2 : ∀ (w2 : Int32) (c : Mm), rc2 w2 c = some R → m_G p l e (m_rm 1 25) s m args below meth cd Q D (mkM q cI cZ) 29 q 5 2 [(0, .ref (q 0)), (1, .int v1), (2, .int w2)] [] c), ∀ (n : Nat) (v3 : Int32) (v4 : Int32) (c : Mm), m_lp2 (X10_figures_b12 rc2 v1 v2) n v3 v4 c = some R → m_G p l e (m_rm 1 25) s m args below meth cd Q D (mkM q cI cZ) 29 q 5 12 [(0, .ref (q 0)), (1, .int v1), (2, .int v2), (3, .int v3), (4, .int v4)] [] c := by
    intro v1 v2 rc2 hrc2
    refine m_lp2_i ?_
    intro rc12 hrc12 v3 v4 c hf H locs ls hS hl
    unfold X10_figures_b12 at hf
    refine lv_aload_n hx hb dX10_figures_12 rfl (lv_at hl 0 rfl) ?_
    refine lv_aload_n hx hb dX10_figures_13 rfl (lv_at hl 0 rfl) ?_
    refine m_get X hS fl_10_117 (vM_0_20 q cI cZ _) dX10_figures_14 ?_
    obtain ⟨r8, c9, hq, hf⟩ := o_cal hf
    refine m_calli (rest := []) X hS hl.1 (c_X10_letterAt l D cI cZ q _ _ (c 0 20) _ hq) cv_10_120 (oM_0 q cI cZ _) rfl rfl ⟨Nat.le_of_ble_eq_true rfl, Nat.le_of_ble_eq_true rfl⟩ ⟨Nat.zero_le _, Nat.zero_le _⟩ (Nat.le_of_ble_eq_true rfl) dX10_figures_17 (fun H locs hS => ?_)
    refine lv_i2l hx hb dX10_figures_20 rfl ?_
    refine lv_ldc2 hx hb X.2.2.2.1 (X.2.2.2.2.1 (.constantLong RX10 124 (48 : Int64)) (m_t4 167 rfl rfl)) dX10_figures_21 ?_
    refine lv_ldc2 hx hb X.2.2.2.1 (X.2.2.2.2.1 (.constantLong RX10 126 (57 : Int64)) (m_t4 168 rfl rfl)) dX10_figures_24 ?_
    obtain ⟨r10, c11, hq, hf⟩ := o_cal hf
    refine m_calls (rest := []) X hS hl.1 (c_X10_in l D cI cZ q _ _ (Int32.toInt64 r8) (48 : Int64) (57 : Int64) _ hq) cs_10_109 rfl rfl ⟨Nat.le_of_ble_eq_true rfl, Nat.le_of_ble_eq_true rfl⟩ ⟨Nat.zero_le _, Nat.zero_le _⟩ (Nat.le_of_ble_eq_true rfl) dX10_figures_27 (fun H locs hS => ?_)
    refine lv_if_eq (tgt := 73) hx hb dX10_figures_30 (by decide) (fun hc => ?_) (fun hc => ?_)
    · have hf := o_t hc hf
      exact k73 v1 v2 v3 v4 rc2 hrc2 _ hf H locs ls hS (lv_sub hl [0, 1, 2, 3, 4] rfl)
    · have hf := o_f hc hf
      refine lv_iload_n hx hb dX10_figures_33 rfl (lv_at hl 3 rfl) ?_
      refine lv_iconst (v := (3 : Int32)) hx hb dX10_figures_34 (by decide) ?_
      refine lv_icmp_ge (tgt := 73) hx hb dX10_figures_35 (by decide) (fun hc => ?_) (fun hc => ?_)
      · have hf := o_t hc hf
        exact k73 v1 v2 v3 v4 rc2 hrc2 _ hf H locs ls hS (lv_sub hl [0, 1, 2, 3, 4] rfl)
      · have hf := o_f hc hf
        refine lv_bipush (v := (10 : Int32)) hx hb dX10_figures_38 (by decide) ?_
        refine lv_iload hx hb dX10_figures_40 (lv_at hl 4 rfl) ?_
        refine lv_imul hx hb dX10_figures_42 ?_
        refine lv_aload_n hx hb dX10_figures_43 rfl (lv_at hl 0 rfl) ?_
        refine lv_aload_n hx hb dX10_figures_44 rfl (lv_at hl 0 rfl) ?_
        refine m_get X hS fl_10_117 (vM_0_20 q cI cZ _) dX10_figures_45 ?_
        obtain ⟨r12, c13, hq, hf⟩ := o_cal hf
        refine m_calli (rest := [.int ((10 : Int32) * v4)]) X hS hl.1 (c_X10_letterAt l D cI cZ q _ _ (c11 0 20) _ hq) cv_10_120 (oM_0 q cI cZ _) rfl rfl ⟨Nat.le_of_ble_eq_true rfl, Nat.le_of_ble_eq_true rfl⟩ ⟨Nat.zero_le _, Nat.zero_le _⟩ (Nat.le_of_ble_eq_true rfl) dX10_figures_48 (fun H locs hS => ?_)
        refine lv_iadd hx hb dX10_figures_51 ?_
        refine lv_bipush (v := (48 : Int32)) hx hb dX10_figures_52 (by decide) ?_
        refine lv_isub hx hb dX10_figures_54 ?_
        refine lv_topi (fun x14 ex => ?_)
        have hf := o_bnd hf x14 ex
        refine lv_istore (lv' := [(4, .int x14), (0, .ref (q 0)), (1, .int v1), (2, .int v2), (3, .int v3)]) hx hb dX10_figures_55 hl (by decide) rfl (fun ls hl => ?_)
        obtain ⟨x15, ex⟩ : ∃ y : Int32, y = v3 + (1 : Int32) := ⟨_, rfl⟩
        have hf := o_bnd hf x15 ex
        refine lv_iinc (v := x15) (lv' := [(3, .int x15), (4, .int x14), (0, .ref (q 0)), (1, .int v1), (2, .int v2)]) hx hb dX10_figures_57 hl (k := 4) rfl (by rw [ex]; rfl) (by decide) rfl (fun ls hl => ?_)
        refine lv_aload_n hx hb dX10_figures_60 rfl (lv_at hl 2 rfl) ?_
        refine lv_dup hx hb dX10_figures_61 rfl ?_
        refine m_get X hS fl_10_117 (vM_0_20 q cI cZ _) dX10_figures_62 ?_
        refine lv_iconst (v := (1 : Int32)) hx hb dX10_figures_65 (by decide) ?_
        refine lv_iadd hx hb dX10_figures_66 ?_
        refine m_put X hS fp_10_117 (pM_0_20 q cI cZ) dX10_figures_67 (fun c16 ec H locs hS => ?_)
        have hf := o_bnd hf c16 ec
        refine lv_goto (tgt := 12) hx hb dX10_figures_70 (by decide) ?_
        exact hrc12 x15 x14 _ hf H locs ls hS (lv_sub hl [2, 3, 4, 0, 1] rfl)
  have k2 : ∀ (v1 : Int32), ∀ (n : Nat) (v2 : Int32) (c : Mm), m_lp1 (X10_figures_b2 v1) n v2 c = some R → m_G p l e (m_rm 1 25) s m args below meth cd Q D (mkM q cI cZ) 29 q 5 2 [(0, .ref (q 0)), (1, .int v1), (2, .int v2)] [] c := by
    intro v1
    refine m_lp1_i ?_
    intro rc2 hrc2 v2 c hf H locs ls hS hl
    unfold X10_figures_b2 at hf
    refine lv_iload_n hx hb dX10_figures_2 rfl (lv_at hl 2 rfl) ?_
    refine lv_iload_n hx hb dX10_figures_3 rfl (lv_at hl 1 rfl) ?_
    refine lv_icmp_ge (tgt := 136) hx hb dX10_figures_4 (by decide) (fun hc => ?_) (fun hc => ?_)
    · have hf := o_t hc hf
      refine lv_iconst (v := (1 : Int32)) hx hb dX10_figures_136 (by decide) ?_
      exact ret (Or.inr rfl) hf hS dX10_figures_137
    · have hf := o_f hc hf
      refine lv_iconst (v := (0 : Int32)) hx hb dX10_figures_7 (by decide) ?_
      refine lv_istore_n (lv' := [(3, .int (0 : Int32)), (0, .ref (q 0)), (1, .int v1), (2, .int v2)]) hx hb dX10_figures_8 rfl hl (by decide) rfl (fun ls hl => ?_)
      refine lv_iconst (v := (0 : Int32)) hx hb dX10_figures_9 (by decide) ?_
      refine lv_istore (lv' := [(4, .int (0 : Int32)), (3, .int (0 : Int32)), (0, .ref (q 0)), (1, .int v1), (2, .int v2)]) hx hb dX10_figures_10 hl (by decide) rfl (fun ls hl => ?_)
      exact k12 v1 v2 rc2 hrc2 _ (0 : Int32) (0 : Int32) _ hf H locs ls hS (lv_sub hl [2, 3, 4, 1, 0] rfl)
  intro H locs ls hS hl
  have hl : lv_has ls 5 [(0, .ref (q 0)), (1, .int v1)] := hl
  unfold X10_figures at hf
  refine lv_iconst (v := (0 : Int32)) hx hb dX10_figures_0 (by decide) ?_
  refine lv_istore_n (lv' := [(2, .int (0 : Int32)), (0, .ref (q 0)), (1, .int v1)]) hx hb dX10_figures_1 rfl hl (by decide) rfl (fun ls hl => ?_)
  exact k2 v1 _ (0 : Int32) _ hf H locs ls hS (lv_sub hl [1, 2, 0] rfl)

set_option maxHeartbeats 40000000 in
set_option maxRecDepth 100000 in
theorem c_X10_boatItem (l : Launch) (D : va_G) (cI cZ : ClassId) (q : Nat → Nat) (c : Mm) (sz : Nat) (R : Int32 × Mm) (hf : X10_boatItem c = some R) : m_Mi l yX10_boatItem cX10_boatItem 2 (some .boolean) 2 49 D cI cZ (mkM q cI cZ) 29 q [.ref (q 0)] c sz R := by
  refine m_enter_z (own := RX10) (by decide) rfl (Nat.le_of_ble_eq_true rfl) ?_
  intro p e s m args below meth cd Q X ret
  have hx := X.1
  have hb := X.2.1
  have k83 : ∀ (s0 : Int32) (c : Mm), X10_boatItem_j83 s0 c = some R → m_G p l e (m_rm 2 49) s m args below meth cd Q D (mkM q cI cZ) 29 q 2 83 [(0, .ref (q 0))] [.int s0] c := by
    intro s0 c hf H locs ls hS hl
    unfold X10_boatItem_j83 at hf
    refine lv_istore_n (lv' := [(1, .int s0), (0, .ref (q 0))]) hx hb dX10_boatItem_83 rfl hl (by decide) rfl (fun ls hl => ?_)
    refine lv_iload_n hx hb dX10_boatItem_84 rfl (lv_at hl 0 rfl) ?_
    refine lv_if_eq (tgt := 123) hx hb dX10_boatItem_85 (by decide) (fun hc => ?_) (fun hc => ?_)
    · have hf := o_t hc hf
      refine lv_iload_n hx hb dX10_boatItem_123 rfl (lv_at hl 0 rfl) ?_
      obtain ⟨hz, hf⟩ := o_gb hf
      exact ret hz hf hS dX10_boatItem_124
    · have hf := o_f hc hf
      refine lv_aload_n hx hb dX10_boatItem_88 rfl (lv_at hl 1 rfl) ?_
      refine lv_iconst (v := (1 : Int32)) hx hb dX10_boatItem_89 (by decide) ?_
      refine lv_aload_n hx hb dX10_boatItem_90 rfl (lv_at hl 1 rfl) ?_
      refine m_get X hS fl_10_58 (vM_0_21 q cI cZ _) dX10_boatItem_91 ?_
      refine lv_iconst (v := (0 : Int32)) hx hb dX10_boatItem_94 (by decide) ?_
      refine m_ildN X hS 0 (by decide +kernel) (aM_17 q cI cZ) (by decide +kernel) dX10_boatItem_95 ?_
      refine lv_aload_n hx hb dX10_boatItem_96 rfl (lv_at hl 1 rfl) ?_
      refine m_get X hS fl_10_58 (vM_0_21 q cI cZ _) dX10_boatItem_97 ?_
      refine lv_iconst (v := (1 : Int32)) hx hb dX10_boatItem_100 (by decide) ?_
      refine m_ildN X hS 1 (by decide +kernel) (aM_17 q cI cZ) (by decide +kernel) dX10_boatItem_101 ?_
      refine lv_aload_n hx hb dX10_boatItem_102 rfl (lv_at hl 1 rfl) ?_
      refine m_get X hS fl_10_58 (vM_0_21 q cI cZ _) dX10_boatItem_103 ?_
      refine lv_iconst (v := (2 : Int32)) hx hb dX10_boatItem_106 (by decide) ?_
      refine m_ildN X hS 2 (by decide +kernel) (aM_17 q cI cZ) (by decide +kernel) dX10_boatItem_107 ?_
      refine lv_aload_n hx hb dX10_boatItem_108 rfl (lv_at hl 1 rfl) ?_
      refine m_get X hS fl_10_58 (vM_0_21 q cI cZ _) dX10_boatItem_109 ?_
      refine lv_iconst (v := (3 : Int32)) hx hb dX10_boatItem_112 (by decide) ?_
      refine m_ildN X hS 3 (by decide +kernel) (aM_17 q cI cZ) (by decide +kernel) dX10_boatItem_113 ?_
      refine lv_aload_n hx hb dX10_boatItem_114 rfl (lv_at hl 1 rfl) ?_
      refine m_get X hS fl_10_58 (vM_0_21 q cI cZ _) dX10_boatItem_115 ?_
      refine lv_iconst (v := (4 : Int32)) hx hb dX10_boatItem_118 (by decide) ?_
      refine m_ildN X hS 4 (by decide +kernel) (aM_17 q cI cZ) (by decide +kernel) dX10_boatItem_119 ?_
      obtain ⟨c1, hq, hf⟩ := o_cav hf
      refine m_callv (rest := []) X hS hl.1 (c_X10_addBoat l D cI cZ q _ _ (1 : Int32) (c 17 0) (c 17 1) (c 17 2) (c 17 3) (c 17 4) _ hq) cv_10_98 (oM_0 q cI cZ _) rfl rfl ⟨Nat.le_of_ble_eq_true rfl, Nat.le_of_ble_eq_true rfl⟩ ⟨Nat.zero_le _, Nat.zero_le _⟩ (Nat.le_of_ble_eq_true rfl) dX10_boatItem_120 (fun H locs hS => ?_)
      refine lv_iload_n hx hb dX10_boatItem_123 rfl (lv_at hl 0 rfl) ?_
      obtain ⟨hz, hf⟩ := o_gb hf
      exact ret hz hf hS dX10_boatItem_124
  have k82 : ∀ (c : Mm), X10_boatItem_j82 c = some R → m_G p l e (m_rm 2 49) s m args below meth cd Q D (mkM q cI cZ) 29 q 2 82 [(0, .ref (q 0))] [] c := by
    intro c hf H locs ls hS hl
    unfold X10_boatItem_j82 at hf
    refine lv_iconst (v := (0 : Int32)) hx hb dX10_boatItem_82 (by decide) ?_
    exact k83 (0 : Int32) _ hf H locs ls hS (lv_sub hl [0] rfl)
  intro H locs ls hS hl
  have hl : lv_has ls 2 [(0, .ref (q 0))] := hl
  unfold X10_boatItem at hf
  refine lv_aload_n hx hb dX10_boatItem_0 rfl (lv_at hl 0 rfl) ?_
  refine lv_iconst (v := (5 : Int32)) hx hb dX10_boatItem_1 (by decide) ?_
  obtain ⟨r2, c3, hq, hf⟩ := o_cal hf
  refine m_calli (rest := []) X hS hl.1 (c_X10_figures l D cI cZ q _ _ (5 : Int32) _ hq) cv_10_130 (oM_0 q cI cZ _) rfl rfl ⟨Nat.le_of_ble_eq_true rfl, Nat.le_of_ble_eq_true rfl⟩ ⟨Nat.zero_le _, Nat.zero_le _⟩ (Nat.le_of_ble_eq_true rfl) dX10_boatItem_2 (fun H locs hS => ?_)
  refine lv_if_eq (tgt := 82) hx hb dX10_boatItem_5 (by decide) (fun hc => ?_) (fun hc => ?_)
  · have hf := o_t hc hf
    exact k82 _ hf H locs ls hS (lv_sub hl [0] rfl)
  · have hf := o_f hc hf
    refine lv_aload_n hx hb dX10_boatItem_8 rfl (lv_at hl 0 rfl) ?_
    refine m_get X hS fl_10_13 (vM_0_2 q cI cZ _) dX10_boatItem_9 ?_
    refine lv_iconst (v := (1 : Int32)) hx hb dX10_boatItem_12 (by decide) ?_
    refine m_ildN X hS 1 (by decide +kernel) (aM_2 q cI cZ) (by decide +kernel) dX10_boatItem_13 ?_
    refine lv_bipush (v := (6 : Int32)) hx hb dX10_boatItem_14 (by decide) ?_
    refine lv_icmp_ge (tgt := 82) hx hb dX10_boatItem_16 (by decide) (fun hc => ?_) (fun hc => ?_)
    · have hf := o_t hc hf
      exact k82 _ hf H locs ls hS (lv_sub hl [0] rfl)
    · have hf := o_f hc hf
      refine lv_aload_n hx hb dX10_boatItem_19 rfl (lv_at hl 0 rfl) ?_
      refine m_get X hS fl_10_58 (vM_0_21 q cI cZ _) dX10_boatItem_20 ?_
      refine lv_iconst (v := (0 : Int32)) hx hb dX10_boatItem_23 (by decide) ?_
      refine m_ildN X hS 0 (by decide +kernel) (aM_17 q cI cZ) (by decide +kernel) dX10_boatItem_24 ?_
      refine lv_bipush (v := (60 : Int32)) hx hb dX10_boatItem_25 (by decide) ?_
      refine lv_icmp_gt (tgt := 82) hx hb dX10_boatItem_27 (by decide) (fun hc => ?_) (fun hc => ?_)
      · have hf := o_t hc hf
        exact k82 _ hf H locs ls hS (lv_sub hl [0] rfl)
      · have hf := o_f hc hf
        refine lv_aload_n hx hb dX10_boatItem_30 rfl (lv_at hl 0 rfl) ?_
        refine m_get X hS fl_10_58 (vM_0_21 q cI cZ _) dX10_boatItem_31 ?_
        refine lv_iconst (v := (1 : Int32)) hx hb dX10_boatItem_34 (by decide) ?_
        refine m_ildN X hS 1 (by decide +kernel) (aM_17 q cI cZ) (by decide +kernel) dX10_boatItem_35 ?_
        refine lv_iconst (v := (1 : Int32)) hx hb dX10_boatItem_36 (by decide) ?_
        refine lv_icmp_gt (tgt := 82) hx hb dX10_boatItem_37 (by decide) (fun hc => ?_) (fun hc => ?_)
        · have hf := o_t hc hf
          exact k82 _ hf H locs ls hS (lv_sub hl [0] rfl)
        · have hf := o_f hc hf
          refine lv_aload_n hx hb dX10_boatItem_40 rfl (lv_at hl 0 rfl) ?_
          refine m_get X hS fl_10_58 (vM_0_21 q cI cZ _) dX10_boatItem_41 ?_
          refine lv_iconst (v := (2 : Int32)) hx hb dX10_boatItem_44 (by decide) ?_
          refine m_ildN X hS 2 (by decide +kernel) (aM_17 q cI cZ) (by decide +kernel) dX10_boatItem_45 ?_
          refine lv_i2l hx hb dX10_boatItem_46 rfl ?_
          refine lv_lconst (v := (1 : Int64)) hx hb dX10_boatItem_47 (by decide) ?_
          refine lv_ldc2 hx hb X.2.2.2.1 (X.2.2.2.2.1 (.constantLong RX10 134 (3 : Int64)) (m_t4 170 rfl rfl)) dX10_boatItem_48 ?_
          obtain ⟨r4, c5, hq, hf⟩ := o_cal hf
          refine m_calls (rest := []) X hS hl.1 (c_X10_in l D cI cZ q _ _ (Int32.toInt64 (c3 17 2)) (1 : Int64) (3 : Int64) _ hq) cs_10_109 rfl rfl ⟨Nat.le_of_ble_eq_true rfl, Nat.le_of_ble_eq_true rfl⟩ ⟨Nat.zero_le _, Nat.zero_le _⟩ (Nat.le_of_ble_eq_true rfl) dX10_boatItem_51 (fun H locs hS => ?_)
          refine lv_if_eq (tgt := 82) hx hb dX10_boatItem_54 (by decide) (fun hc => ?_) (fun hc => ?_)
          · have hf := o_t hc hf
            exact k82 _ hf H locs ls hS (lv_sub hl [0] rfl)
          · have hf := o_f hc hf
            refine lv_aload_n hx hb dX10_boatItem_57 rfl (lv_at hl 0 rfl) ?_
            refine m_get X hS fl_10_58 (vM_0_21 q cI cZ _) dX10_boatItem_58 ?_
            refine lv_iconst (v := (3 : Int32)) hx hb dX10_boatItem_61 (by decide) ?_
            refine m_ildN X hS 3 (by decide +kernel) (aM_17 q cI cZ) (by decide +kernel) dX10_boatItem_62 ?_
            refine lv_bipush (v := (9 : Int32)) hx hb dX10_boatItem_63 (by decide) ?_
            refine lv_icmp_gt (tgt := 82) hx hb dX10_boatItem_65 (by decide) (fun hc => ?_) (fun hc => ?_)
            · have hf := o_t hc hf
              exact k82 _ hf H locs ls hS (lv_sub hl [0] rfl)
            · have hf := o_f hc hf
              refine lv_aload_n hx hb dX10_boatItem_68 rfl (lv_at hl 0 rfl) ?_
              refine m_get X hS fl_10_58 (vM_0_21 q cI cZ _) dX10_boatItem_69 ?_
              refine lv_iconst (v := (4 : Int32)) hx hb dX10_boatItem_72 (by decide) ?_
              refine m_ildN X hS 4 (by decide +kernel) (aM_17 q cI cZ) (by decide +kernel) dX10_boatItem_73 ?_
              refine lv_iconst (v := (3 : Int32)) hx hb dX10_boatItem_74 (by decide) ?_
              refine lv_icmp_gt (tgt := 82) hx hb dX10_boatItem_75 (by decide) (fun hc => ?_) (fun hc => ?_)
              · have hf := o_t hc hf
                exact k82 _ hf H locs ls hS (lv_sub hl [0] rfl)
              · have hf := o_f hc hf
                refine lv_iconst (v := (1 : Int32)) hx hb dX10_boatItem_78 (by decide) ?_
                refine lv_goto (tgt := 83) hx hb dX10_boatItem_79 (by decide) ?_
                exact k83 (1 : Int32) _ hf H locs ls hS (lv_sub hl [0] rfl)

set_option maxHeartbeats 40000000 in
set_option maxRecDepth 100000 in
theorem c_X10_narrowItem (l : Launch) (D : va_G) (cI cZ : ClassId) (q : Nat → Nat) (c : Mm) (sz : Nat) (R : Int32 × Mm) (hf : X10_narrowItem c = some R) : m_Mi l yX10_narrowItem cX10_narrowItem 1 (some .boolean) 2 49 D cI cZ (mkM q cI cZ) 29 q [.ref (q 0)] c sz R := by
  refine m_enter_z (own := RX10) (by decide) rfl (Nat.le_of_ble_eq_true rfl) ?_
  intro p e s m args below meth cd Q X ret
  have hx := X.1
  have hb := X.2.1
  intro H locs ls hS hl
  have hl : lv_has ls 1 [(0, .ref (q 0))] := hl
  unfold X10_narrowItem at hf
  refine lv_aload_n hx hb dX10_narrowItem_0 rfl (lv_at hl 0 rfl) ?_
  refine lv_iconst (v := (2 : Int32)) hx hb dX10_narrowItem_1 (by decide) ?_
  obtain ⟨r1, c2, hq, hf⟩ := o_cal hf
  refine m_calli (rest := []) X hS hl.1 (c_X10_figures l D cI cZ q _ _ (2 : Int32) _ hq) cv_10_130 (oM_0 q cI cZ _) rfl rfl ⟨Nat.le_of_ble_eq_true rfl, Nat.le_of_ble_eq_true rfl⟩ ⟨Nat.zero_le _, Nat.zero_le _⟩ (Nat.le_of_ble_eq_true rfl) dX10_narrowItem_2 (fun H locs hS => ?_)
  refine lv_if_eq (tgt := 44) hx hb dX10_narrowItem_5 (by decide) (fun hc => ?_) (fun hc => ?_)
  · have hf := o_t hc hf
    refine lv_iconst (v := (0 : Int32)) hx hb dX10_narrowItem_44 (by decide) ?_
    exact ret (Or.inl rfl) hf hS dX10_narrowItem_45
  · have hf := o_f hc hf
    refine lv_aload_n hx hb dX10_narrowItem_8 rfl (lv_at hl 0 rfl) ?_
    refine m_get X hS fl_10_31 (vM_0_8 q cI cZ _) dX10_narrowItem_9 ?_
    refine lv_iconst (v := (1 : Int32)) hx hb dX10_narrowItem_12 (by decide) ?_
    refine m_ildN X hS 1 (by decide +kernel) (aM_8 q cI cZ) (by decide +kernel) dX10_narrowItem_13 ?_
    refine lv_iconst (v := (3 : Int32)) hx hb dX10_narrowItem_14 (by decide) ?_
    refine lv_icmp_eq (tgt := 44) hx hb dX10_narrowItem_15 (by decide) (fun hc => ?_) (fun hc => ?_)
    · have hf := o_t hc hf
      refine lv_iconst (v := (0 : Int32)) hx hb dX10_narrowItem_44 (by decide) ?_
      exact ret (Or.inl rfl) hf hS dX10_narrowItem_45
    · have hf := o_f hc hf
      refine lv_aload_n hx hb dX10_narrowItem_18 rfl (lv_at hl 0 rfl) ?_
      refine m_get X hS fl_10_58 (vM_0_21 q cI cZ _) dX10_narrowItem_19 ?_
      refine lv_iconst (v := (1 : Int32)) hx hb dX10_narrowItem_22 (by decide) ?_
      refine m_ildN X hS 1 (by decide +kernel) (aM_17 q cI cZ) (by decide +kernel) dX10_narrowItem_23 ?_
      refine lv_bipush (v := (60 : Int32)) hx hb dX10_narrowItem_24 (by decide) ?_
      refine lv_icmp_gt (tgt := 44) hx hb dX10_narrowItem_26 (by decide) (fun hc => ?_) (fun hc => ?_)
      · have hf := o_t hc hf
        refine lv_iconst (v := (0 : Int32)) hx hb dX10_narrowItem_44 (by decide) ?_
        exact ret (Or.inl rfl) hf hS dX10_narrowItem_45
      · have hf := o_f hc hf
        refine lv_aload_n hx hb dX10_narrowItem_29 rfl (lv_at hl 0 rfl) ?_
        refine m_get X hS fl_10_58 (vM_0_21 q cI cZ _) dX10_narrowItem_30 ?_
        refine lv_iconst (v := (0 : Int32)) hx hb dX10_narrowItem_33 (by decide) ?_
        refine m_ildN X hS 0 (by decide +kernel) (aM_17 q cI cZ) (by decide +kernel) dX10_narrowItem_34 ?_
        refine lv_aload_n hx hb dX10_narrowItem_35 rfl (lv_at hl 0 rfl) ?_
        refine m_get X hS fl_10_58 (vM_0_21 q cI cZ _) dX10_narrowItem_36 ?_
        refine lv_iconst (v := (1 : Int32)) hx hb dX10_narrowItem_39 (by decide) ?_
        refine m_ildN X hS 1 (by decide +kernel) (aM_17 q cI cZ) (by decide +kernel) dX10_narrowItem_40 ?_
        refine lv_icmp_le (tgt := 46) hx hb dX10_narrowItem_41 (by decide) (fun hc => ?_) (fun hc => ?_)
        · have hf := o_t hc hf
          refine lv_aload_n hx hb dX10_narrowItem_46 rfl (lv_at hl 0 rfl) ?_
          refine m_get X hS fl_10_34 (vM_0_9 q cI cZ _) dX10_narrowItem_47 ?_
          refine lv_iconst (v := (3 : Int32)) hx hb dX10_narrowItem_50 (by decide) ?_
          refine lv_aload_n hx hb dX10_narrowItem_51 rfl (lv_at hl 0 rfl) ?_
          refine m_get X hS fl_10_31 (vM_0_8 q cI cZ _) dX10_narrowItem_52 ?_
          refine lv_iconst (v := (1 : Int32)) hx hb dX10_narrowItem_55 (by decide) ?_
          refine m_ildN X hS 1 (by decide +kernel) (aM_8 q cI cZ) (by decide +kernel) dX10_narrowItem_56 ?_
          refine lv_iadd hx hb dX10_narrowItem_57 ?_
          refine lv_aload_n hx hb dX10_narrowItem_58 rfl (lv_at hl 0 rfl) ?_
          refine m_get X hS fl_10_58 (vM_0_21 q cI cZ _) dX10_narrowItem_59 ?_
          refine lv_iconst (v := (0 : Int32)) hx hb dX10_narrowItem_62 (by decide) ?_
          refine m_ildN X hS 0 (by decide +kernel) (aM_17 q cI cZ) (by decide +kernel) dX10_narrowItem_63 ?_
          obtain ⟨hg, hf⟩ := o_gi hf
          refine m_ist X hS (aM_9 q cI cZ) hg dX10_narrowItem_64 (fun c3 ec H locs hS => ?_)
          have hf := o_bnd hf c3 ec
          refine lv_aload_n hx hb dX10_narrowItem_65 rfl (lv_at hl 0 rfl) ?_
          refine m_get X hS fl_10_37 (vM_0_10 q cI cZ _) dX10_narrowItem_66 ?_
          refine lv_iconst (v := (3 : Int32)) hx hb dX10_narrowItem_69 (by decide) ?_
          refine lv_aload_n hx hb dX10_narrowItem_70 rfl (lv_at hl 0 rfl) ?_
          refine m_get X hS fl_10_31 (vM_0_8 q cI cZ _) dX10_narrowItem_71 ?_
          refine lv_iconst (v := (1 : Int32)) hx hb dX10_narrowItem_74 (by decide) ?_
          refine m_ildN X hS 1 (by decide +kernel) (aM_8 q cI cZ) (by decide +kernel) dX10_narrowItem_75 ?_
          refine lv_iadd hx hb dX10_narrowItem_76 ?_
          refine lv_aload_n hx hb dX10_narrowItem_77 rfl (lv_at hl 0 rfl) ?_
          refine m_get X hS fl_10_58 (vM_0_21 q cI cZ _) dX10_narrowItem_78 ?_
          refine lv_iconst (v := (1 : Int32)) hx hb dX10_narrowItem_81 (by decide) ?_
          refine m_ildN X hS 1 (by decide +kernel) (aM_17 q cI cZ) (by decide +kernel) dX10_narrowItem_82 ?_
          obtain ⟨hg, hf⟩ := o_gi hf
          refine m_ist X hS (aM_10 q cI cZ) hg dX10_narrowItem_83 (fun c4 ec H locs hS => ?_)
          have hf := o_bnd hf c4 ec
          refine lv_aload_n hx hb dX10_narrowItem_84 rfl (lv_at hl 0 rfl) ?_
          refine m_get X hS fl_10_31 (vM_0_8 q cI cZ _) dX10_narrowItem_85 ?_
          refine lv_iconst (v := (1 : Int32)) hx hb dX10_narrowItem_88 (by decide) ?_
          refine lv_dup2_11 hx hb dX10_narrowItem_89 rfl rfl ?_
          refine m_ildN X hS 1 (by decide +kernel) (aM_8 q cI cZ) (by decide +kernel) dX10_narrowItem_90 ?_
          refine lv_iconst (v := (1 : Int32)) hx hb dX10_narrowItem_91 (by decide) ?_
          refine lv_iadd hx hb dX10_narrowItem_92 ?_
          refine m_istN X hS 1 (by decide +kernel) (aM_8 q cI cZ) (by decide +kernel) dX10_narrowItem_93 (fun c5 ec H locs hS => ?_)
          have hf := o_bnd hf c5 ec
          refine lv_iconst (v := (1 : Int32)) hx hb dX10_narrowItem_94 (by decide) ?_
          exact ret (Or.inr rfl) hf hS dX10_narrowItem_95
        · have hf := o_f hc hf
          refine lv_iconst (v := (0 : Int32)) hx hb dX10_narrowItem_44 (by decide) ?_
          exact ret (Or.inl rfl) hf hS dX10_narrowItem_45

set_option maxHeartbeats 40000000 in
set_option maxRecDepth 100000 in
theorem c_X10_setLaw (l : Launch) (D : va_G) (cI cZ : ClassId) (q : Nat → Nat) (c : Mm) (sz : Nat) (v1 : Int32) (v2 : Int32) (v3 : Int32) (R : Int32 × Mm) (hf : X10_setLaw v1 v2 v3 c = some R) : m_Mi l yX10_setLaw cX10_setLaw 4 (some .boolean) 1 25 D cI cZ (mkM q cI cZ) 29 q [.ref (q 0), .int v1, .int v2, .int v3] c sz R := by
  refine m_enter_z (own := RX10) (by decide) rfl (Nat.le_of_ble_eq_true rfl) ?_
  intro p e s m args below meth cd Q X ret
  have hx := X.1
  have hb := X.2.1
  intro H locs ls hS hl
  have hl : lv_has ls 4 [(0, .ref (q 0)), (1, .int v1), (2, .int v2), (3, .int v3)] := hl
  unfold X10_setLaw at hf
  refine lv_aload_n hx hb dX10_setLaw_0 rfl (lv_at hl 0 rfl) ?_
  refine m_get X hS fl_10_40 (vM_0_11 q cI cZ _) dX10_setLaw_1 ?_
  refine lv_iconst (v := (4 : Int32)) hx hb dX10_setLaw_4 (by decide) ?_
  refine lv_iload_n hx hb dX10_setLaw_5 rfl (lv_at hl 1 rfl) ?_
  refine lv_iadd hx hb dX10_setLaw_6 ?_
  refine lv_iload_n hx hb dX10_setLaw_7 rfl (lv_at hl 2 rfl) ?_
  obtain ⟨hg, hf⟩ := o_gi hf
  refine m_ist X hS (aM_11 q cI cZ) hg dX10_setLaw_8 (fun c1 ec H locs hS => ?_)
  have hf := o_bnd hf c1 ec
  refine lv_iload_n hx hb dX10_setLaw_9 rfl (lv_at hl 2 rfl) ?_
  refine lv_i2l hx hb dX10_setLaw_10 rfl ?_
  refine lv_lconst (v := (1 : Int64)) hx hb dX10_setLaw_11 (by decide) ?_
  refine lv_iload_n hx hb dX10_setLaw_12 rfl (lv_at hl 3 rfl) ?_
  refine lv_i2l hx hb dX10_setLaw_13 rfl ?_
  obtain ⟨r2, c3, hq, hf⟩ := o_cal hf
  refine m_calls (rest := []) X hS hl.1 (c_X10_in l D cI cZ q _ _ (Int32.toInt64 v2) (1 : Int64) (Int32.toInt64 v3) _ hq) cs_10_109 rfl rfl ⟨Nat.le_of_ble_eq_true rfl, Nat.le_of_ble_eq_true rfl⟩ ⟨Nat.zero_le _, Nat.zero_le _⟩ (Nat.le_of_ble_eq_true rfl) dX10_setLaw_14 (fun H locs hS => ?_)
  obtain ⟨hz, hf⟩ := o_gb hf
  exact ret hz hf hS dX10_setLaw_17

set_option maxHeartbeats 40000000 in
set_option maxRecDepth 100000 in
theorem c_X10_item (l : Launch) (D : va_G) (cI cZ : ClassId) (q : Nat → Nat) (c : Mm) (sz : Nat) (R : Int32 × Mm) (hf : X10_item c = some R) : m_Mi l yX10_item cX10_item 2 (some .boolean) 3 70 D cI cZ (mkM q cI cZ) 29 q [.ref (q 0)] c sz R := by
  refine m_enter_z (own := RX10) (by decide) rfl (Nat.le_of_ble_eq_true rfl) ?_
  intro p e s m args below meth cd Q X ret
  have hx := X.1
  have hb := X.2.1
  intro H locs ls hS hl
  have hl : lv_has ls 2 [(0, .ref (q 0))] := hl
  unfold X10_item at hf
  refine lv_aload_n hx hb dX10_item_0 rfl (lv_at hl 0 rfl) ?_
  refine lv_aload_n hx hb dX10_item_1 rfl (lv_at hl 0 rfl) ?_
  refine m_get X hS fl_10_117 (vM_0_20 q cI cZ _) dX10_item_2 ?_
  obtain ⟨r1, c2, hq, hf⟩ := o_cal hf
  refine m_calli (rest := []) X hS hl.1 (c_X10_letterAt l D cI cZ q _ _ (c 0 20) _ hq) cv_10_120 (oM_0 q cI cZ _) rfl rfl ⟨Nat.le_of_ble_eq_true rfl, Nat.le_of_ble_eq_true rfl⟩ ⟨Nat.zero_le _, Nat.zero_le _⟩ (Nat.le_of_ble_eq_true rfl) dX10_item_5 (fun H locs hS => ?_)
  refine lv_istore_n (lv' := [(1, .int r1), (0, .ref (q 0))]) hx hb dX10_item_8 rfl hl (by decide) rfl (fun ls hl => ?_)
  refine lv_aload_n hx hb dX10_item_9 rfl (lv_at hl 1 rfl) ?_
  refine lv_dup hx hb dX10_item_10 rfl ?_
  refine m_get X hS fl_10_117 (vM_0_20 q cI cZ _) dX10_item_11 ?_
  refine lv_iconst (v := (1 : Int32)) hx hb dX10_item_14 (by decide) ?_
  refine lv_iadd hx hb dX10_item_15 ?_
  refine m_put X hS fp_10_117 (pM_0_20 q cI cZ) dX10_item_16 (fun c3 ec H locs hS => ?_)
  have hf := o_bnd hf c3 ec
  refine lv_iload_n hx hb dX10_item_19 rfl (lv_at hl 0 rfl) ?_
  by_cases h_98 : r1 = (98 : Int32)
  · have hf := o_t h_98 hf
    refine lv_lookup (off := 52) (tgt := 72) hx hb dX10_item_20 (by decide) (by rw [h_98]; decide) (by decide) ?_
    refine lv_aload_n hx hb dX10_item_72 rfl (lv_at hl 1 rfl) ?_
    obtain ⟨r4, c5, hq, hf⟩ := o_cal hf
    refine m_calli (rest := []) X hS hl.1 (c_X10_boatItem l D cI cZ q _ _ _ hq) cv_10_136 (oM_0 q cI cZ _) rfl rfl ⟨Nat.le_of_ble_eq_true rfl, Nat.le_of_ble_eq_true rfl⟩ ⟨Nat.zero_le _, Nat.zero_le _⟩ (Nat.le_of_ble_eq_true rfl) dX10_item_73 (fun H locs hS => ?_)
    obtain ⟨hz, hf⟩ := o_gb hf
    exact ret hz hf hS dX10_item_76
  have hf := o_f h_98 hf
  by_cases h_104 : r1 = (104 : Int32)
  · have hf := o_t h_104 hf
    refine lv_lookup (off := 92) (tgt := 112) hx hb dX10_item_20 (by decide) (by rw [h_104]; decide) (by decide) ?_
    refine lv_aload_n hx hb dX10_item_112 rfl (lv_at hl 1 rfl) ?_
    refine lv_iconst (v := (1 : Int32)) hx hb dX10_item_113 (by decide) ?_
    obtain ⟨r6, c7, hq, hf⟩ := o_cal hf
    refine m_calli (rest := []) X hS hl.1 (c_X10_figures l D cI cZ q _ _ (1 : Int32) _ hq) cv_10_130 (oM_0 q cI cZ _) rfl rfl ⟨Nat.le_of_ble_eq_true rfl, Nat.le_of_ble_eq_true rfl⟩ ⟨Nat.zero_le _, Nat.zero_le _⟩ (Nat.le_of_ble_eq_true rfl) dX10_item_114 (fun H locs hS => ?_)
    refine lv_if_eq (tgt := 140) hx hb dX10_item_117 (by decide) (fun hc => ?_) (fun hc => ?_)
    · have hf := o_t hc hf
      refine lv_iconst (v := (0 : Int32)) hx hb dX10_item_140 (by decide) ?_
      exact ret (Or.inl rfl) hf hS dX10_item_141
    · have hf := o_f hc hf
      refine lv_aload_n hx hb dX10_item_120 rfl (lv_at hl 1 rfl) ?_
      refine lv_iconst (v := (1 : Int32)) hx hb dX10_item_121 (by decide) ?_
      refine lv_aload_n hx hb dX10_item_122 rfl (lv_at hl 1 rfl) ?_
      refine m_get X hS fl_10_58 (vM_0_21 q cI cZ _) dX10_item_123 ?_
      refine lv_iconst (v := (0 : Int32)) hx hb dX10_item_126 (by decide) ?_
      refine m_ildN X hS 0 (by decide +kernel) (aM_17 q cI cZ) (by decide +kernel) dX10_item_127 ?_
      refine lv_bipush (v := (30 : Int32)) hx hb dX10_item_128 (by decide) ?_
      obtain ⟨r8, c9, hq, hf⟩ := o_cal hf
      refine m_calli (rest := []) X hS hl.1 (c_X10_setLaw l D cI cZ q _ _ (1 : Int32) (c7 17 0) (30 : Int32) _ hq) cv_10_143 (oM_0 q cI cZ _) rfl rfl ⟨Nat.le_of_ble_eq_true rfl, Nat.le_of_ble_eq_true rfl⟩ ⟨Nat.zero_le _, Nat.zero_le _⟩ (Nat.le_of_ble_eq_true rfl) dX10_item_130 (fun H locs hS => ?_)
      refine lv_if_eq (tgt := 140) hx hb dX10_item_133 (by decide) (fun hc => ?_) (fun hc => ?_)
      · have hf := o_t hc hf
        refine lv_iconst (v := (0 : Int32)) hx hb dX10_item_140 (by decide) ?_
        exact ret (Or.inl rfl) hf hS dX10_item_141
      · have hf := o_f hc hf
        refine lv_iconst (v := (1 : Int32)) hx hb dX10_item_136 (by decide) ?_
        refine lv_goto (tgt := 141) hx hb dX10_item_137 (by decide) ?_
        exact ret (Or.inr rfl) hf hS dX10_item_141
  have hf := o_f h_104 hf
  by_cases h_108 : r1 = (108 : Int32)
  · have hf := o_t h_108 hf
    refine lv_lookup (off := 122) (tgt := 142) hx hb dX10_item_20 (by decide) (by rw [h_108]; decide) (by decide) ?_
    refine lv_aload_n hx hb dX10_item_142 rfl (lv_at hl 1 rfl) ?_
    refine lv_iconst (v := (2 : Int32)) hx hb dX10_item_143 (by decide) ?_
    obtain ⟨r10, c11, hq, hf⟩ := o_cal hf
    refine m_calli (rest := []) X hS hl.1 (c_X10_figures l D cI cZ q _ _ (2 : Int32) _ hq) cv_10_130 (oM_0 q cI cZ _) rfl rfl ⟨Nat.le_of_ble_eq_true rfl, Nat.le_of_ble_eq_true rfl⟩ ⟨Nat.zero_le _, Nat.zero_le _⟩ (Nat.le_of_ble_eq_true rfl) dX10_item_144 (fun H locs hS => ?_)
    refine lv_if_eq (tgt := 185) hx hb dX10_item_147 (by decide) (fun hc => ?_) (fun hc => ?_)
    · have hf := o_t hc hf
      refine lv_iconst (v := (0 : Int32)) hx hb dX10_item_185 (by decide) ?_
      exact ret (Or.inl rfl) hf hS dX10_item_186
    · have hf := o_f hc hf
      refine lv_aload_n hx hb dX10_item_150 rfl (lv_at hl 1 rfl) ?_
      refine lv_iconst (v := (2 : Int32)) hx hb dX10_item_151 (by decide) ?_
      refine lv_aload_n hx hb dX10_item_152 rfl (lv_at hl 1 rfl) ?_
      refine m_get X hS fl_10_58 (vM_0_21 q cI cZ _) dX10_item_153 ?_
      refine lv_iconst (v := (0 : Int32)) hx hb dX10_item_156 (by decide) ?_
      refine m_ildN X hS 0 (by decide +kernel) (aM_17 q cI cZ) (by decide +kernel) dX10_item_157 ?_
      refine lv_iconst (v := (5 : Int32)) hx hb dX10_item_158 (by decide) ?_
      obtain ⟨r12, c13, hq, hf⟩ := o_cal hf
      refine m_calli (rest := []) X hS hl.1 (c_X10_setLaw l D cI cZ q _ _ (2 : Int32) (c11 17 0) (5 : Int32) _ hq) cv_10_143 (oM_0 q cI cZ _) rfl rfl ⟨Nat.le_of_ble_eq_true rfl, Nat.le_of_ble_eq_true rfl⟩ ⟨Nat.zero_le _, Nat.zero_le _⟩ (Nat.le_of_ble_eq_true rfl) dX10_item_159 (fun H locs hS => ?_)
      refine lv_if_eq (tgt := 185) hx hb dX10_item_162 (by decide) (fun hc => ?_) (fun hc => ?_)
      · have hf := o_t hc hf
        refine lv_iconst (v := (0 : Int32)) hx hb dX10_item_185 (by decide) ?_
        exact ret (Or.inl rfl) hf hS dX10_item_186
      · have hf := o_f hc hf
        refine lv_aload_n hx hb dX10_item_165 rfl (lv_at hl 1 rfl) ?_
        refine lv_iconst (v := (3 : Int32)) hx hb dX10_item_166 (by decide) ?_
        refine lv_aload_n hx hb dX10_item_167 rfl (lv_at hl 1 rfl) ?_
        refine m_get X hS fl_10_58 (vM_0_21 q cI cZ _) dX10_item_168 ?_
        refine lv_iconst (v := (1 : Int32)) hx hb dX10_item_171 (by decide) ?_
        refine m_ildN X hS 1 (by decide +kernel) (aM_17 q cI cZ) (by decide +kernel) dX10_item_172 ?_
        refine lv_bipush (v := (9 : Int32)) hx hb dX10_item_173 (by decide) ?_
        obtain ⟨r14, c15, hq, hf⟩ := o_cal hf
        refine m_calli (rest := []) X hS hl.1 (c_X10_setLaw l D cI cZ q _ _ (3 : Int32) (c13 17 1) (9 : Int32) _ hq) cv_10_143 (oM_0 q cI cZ _) rfl rfl ⟨Nat.le_of_ble_eq_true rfl, Nat.le_of_ble_eq_true rfl⟩ ⟨Nat.zero_le _, Nat.zero_le _⟩ (Nat.le_of_ble_eq_true rfl) dX10_item_175 (fun H locs hS => ?_)
        refine lv_if_eq (tgt := 185) hx hb dX10_item_178 (by decide) (fun hc => ?_) (fun hc => ?_)
        · have hf := o_t hc hf
          refine lv_iconst (v := (0 : Int32)) hx hb dX10_item_185 (by decide) ?_
          exact ret (Or.inl rfl) hf hS dX10_item_186
        · have hf := o_f hc hf
          refine lv_iconst (v := (1 : Int32)) hx hb dX10_item_181 (by decide) ?_
          refine lv_goto (tgt := 186) hx hb dX10_item_182 (by decide) ?_
          exact ret (Or.inr rfl) hf hS dX10_item_186
  have hf := o_f h_108 hf
  by_cases h_110 : r1 = (110 : Int32)
  · have hf := o_t h_110 hf
    refine lv_lookup (off := 57) (tgt := 77) hx hb dX10_item_20 (by decide) (by rw [h_110]; decide) (by decide) ?_
    refine lv_aload_n hx hb dX10_item_77 rfl (lv_at hl 1 rfl) ?_
    obtain ⟨r16, c17, hq, hf⟩ := o_cal hf
    refine m_calli (rest := []) X hS hl.1 (c_X10_narrowItem l D cI cZ q _ _ _ hq) cv_10_140 (oM_0 q cI cZ _) rfl rfl ⟨Nat.le_of_ble_eq_true rfl, Nat.le_of_ble_eq_true rfl⟩ ⟨Nat.zero_le _, Nat.zero_le _⟩ (Nat.le_of_ble_eq_true rfl) dX10_item_78 (fun H locs hS => ?_)
    obtain ⟨hz, hf⟩ := o_gb hf
    exact ret hz hf hS dX10_item_81
  have hf := o_f h_110 hf
  by_cases h_121 : r1 = (121 : Int32)
  · have hf := o_t h_121 hf
    refine lv_lookup (off := 62) (tgt := 82) hx hb dX10_item_20 (by decide) (by rw [h_121]; decide) (by decide) ?_
    refine lv_aload_n hx hb dX10_item_82 rfl (lv_at hl 1 rfl) ?_
    refine lv_iconst (v := (1 : Int32)) hx hb dX10_item_83 (by decide) ?_
    obtain ⟨r18, c19, hq, hf⟩ := o_cal hf
    refine m_calli (rest := []) X hS hl.1 (c_X10_figures l D cI cZ q _ _ (1 : Int32) _ hq) cv_10_130 (oM_0 q cI cZ _) rfl rfl ⟨Nat.le_of_ble_eq_true rfl, Nat.le_of_ble_eq_true rfl⟩ ⟨Nat.zero_le _, Nat.zero_le _⟩ (Nat.le_of_ble_eq_true rfl) dX10_item_84 (fun H locs hS => ?_)
    refine lv_if_eq (tgt := 110) hx hb dX10_item_87 (by decide) (fun hc => ?_) (fun hc => ?_)
    · have hf := o_t hc hf
      refine lv_iconst (v := (0 : Int32)) hx hb dX10_item_110 (by decide) ?_
      exact ret (Or.inl rfl) hf hS dX10_item_111
    · have hf := o_f hc hf
      refine lv_aload_n hx hb dX10_item_90 rfl (lv_at hl 1 rfl) ?_
      refine lv_iconst (v := (0 : Int32)) hx hb dX10_item_91 (by decide) ?_
      refine lv_aload_n hx hb dX10_item_92 rfl (lv_at hl 1 rfl) ?_
      refine m_get X hS fl_10_58 (vM_0_21 q cI cZ _) dX10_item_93 ?_
      refine lv_iconst (v := (0 : Int32)) hx hb dX10_item_96 (by decide) ?_
      refine m_ildN X hS 0 (by decide +kernel) (aM_17 q cI cZ) (by decide +kernel) dX10_item_97 ?_
      refine lv_bipush (v := (9 : Int32)) hx hb dX10_item_98 (by decide) ?_
      obtain ⟨r20, c21, hq, hf⟩ := o_cal hf
      refine m_calli (rest := []) X hS hl.1 (c_X10_setLaw l D cI cZ q _ _ (0 : Int32) (c19 17 0) (9 : Int32) _ hq) cv_10_143 (oM_0 q cI cZ _) rfl rfl ⟨Nat.le_of_ble_eq_true rfl, Nat.le_of_ble_eq_true rfl⟩ ⟨Nat.zero_le _, Nat.zero_le _⟩ (Nat.le_of_ble_eq_true rfl) dX10_item_100 (fun H locs hS => ?_)
      refine lv_if_eq (tgt := 110) hx hb dX10_item_103 (by decide) (fun hc => ?_) (fun hc => ?_)
      · have hf := o_t hc hf
        refine lv_iconst (v := (0 : Int32)) hx hb dX10_item_110 (by decide) ?_
        exact ret (Or.inl rfl) hf hS dX10_item_111
      · have hf := o_f hc hf
        refine lv_iconst (v := (1 : Int32)) hx hb dX10_item_106 (by decide) ?_
        refine lv_goto (tgt := 111) hx hb dX10_item_107 (by decide) ?_
        exact ret (Or.inr rfl) hf hS dX10_item_111
  have hf := o_f h_121 hf
  refine lv_lookup (off := 167) (tgt := 187) hx hb dX10_item_20 (by decide) ((lv_osw h_98 (by decide)).trans ((lv_osw h_104 (by decide)).trans ((lv_osw h_108 (by decide)).trans ((lv_osw h_110 (by decide)).trans ((lv_osw h_121 (by decide)).trans rfl))))) (by decide) ?_
  refine lv_iconst (v := (0 : Int32)) hx hb dX10_item_187 (by decide) ?_
  exact ret (Or.inl rfl) hf hS dX10_item_188

set_option maxHeartbeats 40000000 in
set_option maxRecDepth 100000 in
theorem c_X10_readAll (l : Launch) (D : va_G) (cI cZ : ClassId) (q : Nat → Nat) (c : Mm) (sz : Nat) (R : Int32 × Mm) (hf : X10_readAll c = some R) : m_Mi l yX10_readAll cX10_readAll 2 (some .int) 4 91 D cI cZ (mkM q cI cZ) 29 q [.ref (q 0)] c sz R := by
  refine m_enter_i (own := RX10) (by decide) rfl (Nat.le_of_ble_eq_true rfl) ?_
  intro p e s m args below meth cd Q X ret
  have hx := X.1
  have hb := X.2.1
  have k10 : ∀ (n : Nat) (c : Mm), m_lp0 (X10_readAll_b10) n c = some R → m_G p l e (m_rm 4 91) s m args below meth cd Q D (mkM q cI cZ) 29 q 2 10 [(0, .ref (q 0))] [] c := by
    refine m_lp0_i ?_
    intro rc10 hrc10 c hf H locs ls hS hl
    unfold X10_readAll_b10 at hf
    refine lv_aload_n hx hb dX10_readAll_10 rfl (lv_at hl 0 rfl) ?_
    refine m_get X hS fl_10_117 (vM_0_20 q cI cZ _) dX10_readAll_11 ?_
    refine lv_aload_n hx hb dX10_readAll_14 rfl (lv_at hl 0 rfl) ?_
    refine m_get X hS fl_10_113 (vM_0_0 q cI cZ _) dX10_readAll_15 ?_
    refine lv_icmp_ge (tgt := 38) hx hb dX10_readAll_18 (by decide) (fun hc => ?_) (fun hc => ?_)
    · have hf := o_t hc hf
      refine lv_bipush (v := (-4 : Int32)) hx hb dX10_readAll_38 (by decide) ?_
      exact ret hf hS dX10_readAll_40
    · have hf := o_f hc hf
      refine lv_aload_n hx hb dX10_readAll_21 rfl (lv_at hl 0 rfl) ?_
      refine m_get X hS fl_10_117 (vM_0_20 q cI cZ _) dX10_readAll_22 ?_
      refine lv_topi (fun x1 ex => ?_)
      have hf := o_bnd hf x1 ex
      refine lv_istore_n (lv' := [(1, .int x1), (0, .ref (q 0))]) hx hb dX10_readAll_25 rfl hl (by decide) rfl (fun ls hl => ?_)
      refine lv_aload_n hx hb dX10_readAll_26 rfl (lv_at hl 1 rfl) ?_
      obtain ⟨r2, c3, hq, hf⟩ := o_cal hf
      refine m_calli (rest := []) X hS hl.1 (c_X10_item l D cI cZ q _ _ _ hq) cv_10_147 (oM_0 q cI cZ _) rfl rfl ⟨Nat.le_of_ble_eq_true rfl, Nat.le_of_ble_eq_true rfl⟩ ⟨Nat.zero_le _, Nat.zero_le _⟩ (Nat.le_of_ble_eq_true rfl) dX10_readAll_27 (fun H locs hS => ?_)
      refine lv_if_ne (tgt := 35) hx hb dX10_readAll_30 (by decide) (fun hc => ?_) (fun hc => ?_)
      · have hf := o_f hc hf
        refine lv_goto (tgt := 10) hx hb dX10_readAll_35 (by decide) ?_
        exact hrc10 _ hf H locs ls hS (lv_sub hl [1] rfl)
      · have hf := o_t hc hf
        refine lv_iload_n hx hb dX10_readAll_33 rfl (lv_at hl 0 rfl) ?_
        exact ret hf hS dX10_readAll_34
  intro H locs ls hS hl
  have hl : lv_has ls 2 [(0, .ref (q 0))] := hl
  unfold X10_readAll at hf
  refine lv_aload_n hx hb dX10_readAll_0 rfl (lv_at hl 0 rfl) ?_
  refine lv_iconst (v := (1 : Int32)) hx hb dX10_readAll_1 (by decide) ?_
  obtain ⟨c4, hq, hf⟩ := o_cav hf
  refine m_callv (rest := []) X hS hl.1 (c_X10_noCut l D cI cZ q _ _ (1 : Int32) _ hq) cv_10_94 (oM_0 q cI cZ _) rfl rfl ⟨Nat.le_of_ble_eq_true rfl, Nat.le_of_ble_eq_true rfl⟩ ⟨Nat.zero_le _, Nat.zero_le _⟩ (Nat.le_of_ble_eq_true rfl) dX10_readAll_2 (fun H locs hS => ?_)
  refine lv_aload_n hx hb dX10_readAll_5 rfl (lv_at hl 0 rfl) ?_
  refine lv_iconst (v := (0 : Int32)) hx hb dX10_readAll_6 (by decide) ?_
  refine m_put X hS fp_10_117 (pM_0_20 q cI cZ) dX10_readAll_7 (fun c5 ec H locs hS => ?_)
  have hf := o_bnd hf c5 ec
  exact k10 _ _ hf H locs ls hS (lv_sub hl [0] rfl)

set_option maxHeartbeats 40000000 in
set_option maxRecDepth 100000 in
theorem c_X10_fault (l : Launch) (D : va_G) (cI cZ : ClassId) (q : Nat → Nat) (c : Mm) (sz : Nat) (R : Int32 × Mm) (hf : X10_fault c = some R) : m_Mi l yX10_fault cX10_fault 1 (some .int) 5 112 D cI cZ (mkM q cI cZ) 29 q [.ref (q 0)] c sz R := by
  refine m_enter_i (own := RX10) (by decide) rfl (Nat.le_of_ble_eq_true rfl) ?_
  intro p e s m args below meth cd Q X ret
  have hx := X.1
  have hb := X.2.1
  intro H locs ls hS hl
  have hl : lv_has ls 1 [(0, .ref (q 0))] := hl
  unfold X10_fault at hf
  refine lv_aload_n hx hb dX10_fault_0 rfl (lv_at hl 0 rfl) ?_
  obtain ⟨r1, c2, hq, hf⟩ := o_cal hf
  refine m_calli (rest := []) X hS hl.1 (c_X10_readAll l D cI cZ q _ _ _ hq) cv_10_150 (oM_0 q cI cZ _) rfl rfl ⟨Nat.le_of_ble_eq_true rfl, Nat.le_of_ble_eq_true rfl⟩ ⟨Nat.zero_le _, Nat.zero_le _⟩ (Nat.le_of_ble_eq_true rfl) dX10_fault_1 (fun H locs hS => ?_)
  exact ret hf hS dX10_fault_4

set_option maxHeartbeats 40000000 in
set_option maxRecDepth 100000 in
theorem c_X10_lay (l : Launch) (D : va_G) (cI cZ : ClassId) (q : Nat → Nat) (c : Mm) (sz : Nat) (R : Int32 × Mm) (hf : X10_lay c = some R) : m_Mi l yX10_lay cX10_lay 2 (some .int) 5 112 D cI cZ (mkM q cI cZ) 29 q [.ref (q 0)] c sz R := by
  refine m_enter_i (own := RX10) (by decide) rfl (Nat.le_of_ble_eq_true rfl) ?_
  intro p e s m args below meth cd Q X ret
  have hx := X.1
  have hb := X.2.1
  have k202 : ∀ (c : Mm), X10_lay_j202 c = some R → m_G p l e (m_rm 5 112) s m args below meth cd Q D (mkM q cI cZ) 29 q 2 202 [(0, .ref (q 0))] [] c := by
    intro c hf H locs ls hS hl
    unfold X10_lay_j202 at hf
    refine lv_aload_n hx hb dX10_lay_202 rfl (lv_at hl 0 rfl) ?_
    obtain ⟨c1, hq, hf⟩ := o_cav hf
    refine m_callv (rest := []) X hS hl.1 (c_X10_begin l D cI cZ q _ _ _ hq) cv_10_102 (oM_0 q cI cZ _) rfl rfl ⟨Nat.le_of_ble_eq_true rfl, Nat.le_of_ble_eq_true rfl⟩ ⟨Nat.zero_le _, Nat.zero_le _⟩ (Nat.le_of_ble_eq_true rfl) dX10_lay_203 (fun H locs hS => ?_)
    refine lv_aload_n hx hb dX10_lay_206 rfl (lv_at hl 0 rfl) ?_
    refine m_get X hS fl_10_13 (vM_0_2 q cI cZ _) dX10_lay_207 ?_
    refine lv_iconst (v := (0 : Int32)) hx hb dX10_lay_210 (by decide) ?_
    refine m_ildN X hS 0 (by decide +kernel) (aM_2 q cI cZ) (by decide +kernel) dX10_lay_211 ?_
    exact ret hf hS dX10_lay_212
  have k177 : ∀ (n : Nat) (v1 : Int32) (c : Mm), m_lp1 (X10_lay_b177) n v1 c = some R → m_G p l e (m_rm 5 112) s m args below meth cd Q D (mkM q cI cZ) 29 q 2 177 [(0, .ref (q 0)), (1, .int v1)] [] c := by
    refine m_lp1_i ?_
    intro rc177 hrc177 v1 c hf H locs ls hS hl
    unfold X10_lay_b177 at hf
    refine lv_iload_n hx hb dX10_lay_177 rfl (lv_at hl 1 rfl) ?_
    refine lv_iconst (v := (4 : Int32)) hx hb dX10_lay_178 (by decide) ?_
    refine lv_icmp_ge (tgt := 202) hx hb dX10_lay_179 (by decide) (fun hc => ?_) (fun hc => ?_)
    · have hf := o_t hc hf
      exact k202 _ hf H locs ls hS (lv_sub hl [0] rfl)
    · have hf := o_f hc hf
      refine lv_aload_n hx hb dX10_lay_182 rfl (lv_at hl 0 rfl) ?_
      refine m_get X hS fl_10_40 (vM_0_11 q cI cZ _) dX10_lay_183 ?_
      refine lv_iload_n hx hb dX10_lay_186 rfl (lv_at hl 1 rfl) ?_
      refine lv_aload_n hx hb dX10_lay_187 rfl (lv_at hl 0 rfl) ?_
      refine m_get X hS fl_10_40 (vM_0_11 q cI cZ _) dX10_lay_188 ?_
      refine lv_iconst (v := (4 : Int32)) hx hb dX10_lay_191 (by decide) ?_
      refine lv_iload_n hx hb dX10_lay_192 rfl (lv_at hl 1 rfl) ?_
      refine lv_iadd hx hb dX10_lay_193 ?_
      obtain ⟨hg, hf⟩ := o_gi hf
      refine m_ild X hS (aM_11 q cI cZ) hg dX10_lay_194 ?_
      obtain ⟨hg, hf⟩ := o_gi hf
      refine m_ist X hS (aM_11 q cI cZ) hg dX10_lay_195 (fun c2 ec H locs hS => ?_)
      have hf := o_bnd hf c2 ec
      obtain ⟨x3, ex⟩ : ∃ y : Int32, y = v1 + (1 : Int32) := ⟨_, rfl⟩
      have hf := o_bnd hf x3 ex
      refine lv_iinc (v := x3) (lv' := [(1, .int x3), (0, .ref (q 0))]) hx hb dX10_lay_196 hl (k := 1) rfl (by rw [ex]; rfl) (by decide) rfl (fun ls hl => ?_)
      refine lv_goto (tgt := 177) hx hb dX10_lay_199 (by decide) ?_
      exact hrc177 x3 _ hf H locs ls hS (lv_sub hl [1, 0] rfl)
  have k175 : ∀ (c : Mm), X10_lay_j175 c = some R → m_G p l e (m_rm 5 112) s m args below meth cd Q D (mkM q cI cZ) 29 q 2 175 [(0, .ref (q 0))] [] c := by
    intro c hf H locs ls hS hl
    unfold X10_lay_j175 at hf
    refine lv_iconst (v := (0 : Int32)) hx hb dX10_lay_175 (by decide) ?_
    refine lv_istore_n (lv' := [(1, .int (0 : Int32)), (0, .ref (q 0))]) hx hb dX10_lay_176 rfl hl (by decide) rfl (fun ls hl => ?_)
    exact k177 _ (0 : Int32) _ hf H locs ls hS (lv_sub hl [1, 0] rfl)
  have k136 : ∀ (n : Nat) (v1 : Int32) (c : Mm), m_lp1 (X10_lay_b136) n v1 c = some R → m_G p l e (m_rm 5 112) s m args below meth cd Q D (mkM q cI cZ) 29 q 2 136 [(0, .ref (q 0)), (1, .int v1)] [] c := by
    refine m_lp1_i ?_
    intro rc136 hrc136 v1 c hf H locs ls hS hl
    unfold X10_lay_b136 at hf
    refine lv_iload_n hx hb dX10_lay_136 rfl (lv_at hl 1 rfl) ?_
    refine lv_iconst (v := (3 : Int32)) hx hb dX10_lay_137 (by decide) ?_
    refine lv_icmp_ge (tgt := 175) hx hb dX10_lay_138 (by decide) (fun hc => ?_) (fun hc => ?_)
    · have hf := o_t hc hf
      exact k175 _ hf H locs ls hS (lv_sub hl [0] rfl)
    · have hf := o_f hc hf
      refine lv_aload_n hx hb dX10_lay_141 rfl (lv_at hl 0 rfl) ?_
      refine m_get X hS fl_10_34 (vM_0_9 q cI cZ _) dX10_lay_142 ?_
      refine lv_iload_n hx hb dX10_lay_145 rfl (lv_at hl 1 rfl) ?_
      refine lv_aload_n hx hb dX10_lay_146 rfl (lv_at hl 0 rfl) ?_
      refine m_get X hS fl_10_34 (vM_0_9 q cI cZ _) dX10_lay_147 ?_
      refine lv_iconst (v := (3 : Int32)) hx hb dX10_lay_150 (by decide) ?_
      refine lv_iload_n hx hb dX10_lay_151 rfl (lv_at hl 1 rfl) ?_
      refine lv_iadd hx hb dX10_lay_152 ?_
      obtain ⟨hg, hf⟩ := o_gi hf
      refine m_ild X hS (aM_9 q cI cZ) hg dX10_lay_153 ?_
      obtain ⟨hg, hf⟩ := o_gi hf
      refine m_ist X hS (aM_9 q cI cZ) hg dX10_lay_154 (fun c4 ec H locs hS => ?_)
      have hf := o_bnd hf c4 ec
      refine lv_aload_n hx hb dX10_lay_155 rfl (lv_at hl 0 rfl) ?_
      refine m_get X hS fl_10_37 (vM_0_10 q cI cZ _) dX10_lay_156 ?_
      refine lv_iload_n hx hb dX10_lay_159 rfl (lv_at hl 1 rfl) ?_
      refine lv_aload_n hx hb dX10_lay_160 rfl (lv_at hl 0 rfl) ?_
      refine m_get X hS fl_10_37 (vM_0_10 q cI cZ _) dX10_lay_161 ?_
      refine lv_iconst (v := (3 : Int32)) hx hb dX10_lay_164 (by decide) ?_
      refine lv_iload_n hx hb dX10_lay_165 rfl (lv_at hl 1 rfl) ?_
      refine lv_iadd hx hb dX10_lay_166 ?_
      obtain ⟨hg, hf⟩ := o_gi hf
      refine m_ild X hS (aM_10 q cI cZ) hg dX10_lay_167 ?_
      obtain ⟨hg, hf⟩ := o_gi hf
      refine m_ist X hS (aM_10 q cI cZ) hg dX10_lay_168 (fun c5 ec H locs hS => ?_)
      have hf := o_bnd hf c5 ec
      obtain ⟨x6, ex⟩ : ∃ y : Int32, y = v1 + (1 : Int32) := ⟨_, rfl⟩
      have hf := o_bnd hf x6 ex
      refine lv_iinc (v := x6) (lv' := [(1, .int x6), (0, .ref (q 0))]) hx hb dX10_lay_169 hl (k := 1) rfl (by rw [ex]; rfl) (by decide) rfl (fun ls hl => ?_)
      refine lv_goto (tgt := 136) hx hb dX10_lay_172 (by decide) ?_
      exact hrc136 x6 _ hf H locs ls hS (lv_sub hl [1, 0] rfl)
  have k134 : ∀ (c : Mm), X10_lay_j134 c = some R → m_G p l e (m_rm 5 112) s m args below meth cd Q D (mkM q cI cZ) 29 q 2 134 [(0, .ref (q 0))] [] c := by
    intro c hf H locs ls hS hl
    unfold X10_lay_j134 at hf
    refine lv_iconst (v := (0 : Int32)) hx hb dX10_lay_134 (by decide) ?_
    refine lv_istore_n (lv' := [(1, .int (0 : Int32)), (0, .ref (q 0))]) hx hb dX10_lay_135 rfl hl (by decide) rfl (fun ls hl => ?_)
    exact k136 _ (0 : Int32) _ hf H locs ls hS (lv_sub hl [1, 0] rfl)
  have k47 : ∀ (n : Nat) (v1 : Int32) (c : Mm), m_lp1 (X10_lay_b47) n v1 c = some R → m_G p l e (m_rm 5 112) s m args below meth cd Q D (mkM q cI cZ) 29 q 2 47 [(0, .ref (q 0)), (1, .int v1)] [] c := by
    refine m_lp1_i ?_
    intro rc47 hrc47 v1 c hf H locs ls hS hl
    unfold X10_lay_b47 at hf
    refine lv_iload_n hx hb dX10_lay_47 rfl (lv_at hl 1 rfl) ?_
    refine lv_bipush (v := (6 : Int32)) hx hb dX10_lay_48 (by decide) ?_
    refine lv_icmp_ge (tgt := 134) hx hb dX10_lay_50 (by decide) (fun hc => ?_) (fun hc => ?_)
    · have hf := o_t hc hf
      exact k134 _ hf H locs ls hS (lv_sub hl [0] rfl)
    · have hf := o_f hc hf
      refine lv_aload_n hx hb dX10_lay_53 rfl (lv_at hl 0 rfl) ?_
      refine m_get X hS fl_10_16 (vM_0_3 q cI cZ _) dX10_lay_54 ?_
      refine lv_iload_n hx hb dX10_lay_57 rfl (lv_at hl 1 rfl) ?_
      refine lv_aload_n hx hb dX10_lay_58 rfl (lv_at hl 0 rfl) ?_
      refine m_get X hS fl_10_16 (vM_0_3 q cI cZ _) dX10_lay_59 ?_
      refine lv_bipush (v := (6 : Int32)) hx hb dX10_lay_62 (by decide) ?_
      refine lv_iload_n hx hb dX10_lay_64 rfl (lv_at hl 1 rfl) ?_
      refine lv_iadd hx hb dX10_lay_65 ?_
      obtain ⟨hg, hf⟩ := o_gi hf
      refine m_ild X hS (aM_3 q cI cZ) hg dX10_lay_66 ?_
      obtain ⟨hg, hf⟩ := o_gi hf
      refine m_ist X hS (aM_3 q cI cZ) hg dX10_lay_67 (fun c7 ec H locs hS => ?_)
      have hf := o_bnd hf c7 ec
      refine lv_aload_n hx hb dX10_lay_68 rfl (lv_at hl 0 rfl) ?_
      refine m_get X hS fl_10_19 (vM_0_4 q cI cZ _) dX10_lay_69 ?_
      refine lv_iload_n hx hb dX10_lay_72 rfl (lv_at hl 1 rfl) ?_
      refine lv_aload_n hx hb dX10_lay_73 rfl (lv_at hl 0 rfl) ?_
      refine m_get X hS fl_10_19 (vM_0_4 q cI cZ _) dX10_lay_74 ?_
      refine lv_bipush (v := (6 : Int32)) hx hb dX10_lay_77 (by decide) ?_
      refine lv_iload_n hx hb dX10_lay_79 rfl (lv_at hl 1 rfl) ?_
      refine lv_iadd hx hb dX10_lay_80 ?_
      obtain ⟨hg, hf⟩ := o_gi hf
      refine m_ild X hS (aM_4 q cI cZ) hg dX10_lay_81 ?_
      obtain ⟨hg, hf⟩ := o_gi hf
      refine m_ist X hS (aM_4 q cI cZ) hg dX10_lay_82 (fun c8 ec H locs hS => ?_)
      have hf := o_bnd hf c8 ec
      refine lv_aload_n hx hb dX10_lay_83 rfl (lv_at hl 0 rfl) ?_
      refine m_get X hS fl_10_22 (vM_0_5 q cI cZ _) dX10_lay_84 ?_
      refine lv_iload_n hx hb dX10_lay_87 rfl (lv_at hl 1 rfl) ?_
      refine lv_aload_n hx hb dX10_lay_88 rfl (lv_at hl 0 rfl) ?_
      refine m_get X hS fl_10_22 (vM_0_5 q cI cZ _) dX10_lay_89 ?_
      refine lv_bipush (v := (6 : Int32)) hx hb dX10_lay_92 (by decide) ?_
      refine lv_iload_n hx hb dX10_lay_94 rfl (lv_at hl 1 rfl) ?_
      refine lv_iadd hx hb dX10_lay_95 ?_
      obtain ⟨hg, hf⟩ := o_gi hf
      refine m_ild X hS (aM_5 q cI cZ) hg dX10_lay_96 ?_
      obtain ⟨hg, hf⟩ := o_gi hf
      refine m_ist X hS (aM_5 q cI cZ) hg dX10_lay_97 (fun c9 ec H locs hS => ?_)
      have hf := o_bnd hf c9 ec
      refine lv_aload_n hx hb dX10_lay_98 rfl (lv_at hl 0 rfl) ?_
      refine m_get X hS fl_10_25 (vM_0_6 q cI cZ _) dX10_lay_99 ?_
      refine lv_iload_n hx hb dX10_lay_102 rfl (lv_at hl 1 rfl) ?_
      refine lv_aload_n hx hb dX10_lay_103 rfl (lv_at hl 0 rfl) ?_
      refine m_get X hS fl_10_25 (vM_0_6 q cI cZ _) dX10_lay_104 ?_
      refine lv_bipush (v := (6 : Int32)) hx hb dX10_lay_107 (by decide) ?_
      refine lv_iload_n hx hb dX10_lay_109 rfl (lv_at hl 1 rfl) ?_
      refine lv_iadd hx hb dX10_lay_110 ?_
      obtain ⟨hg, hf⟩ := o_gi hf
      refine m_ild X hS (aM_6 q cI cZ) hg dX10_lay_111 ?_
      obtain ⟨hg, hf⟩ := o_gi hf
      refine m_ist X hS (aM_6 q cI cZ) hg dX10_lay_112 (fun c10 ec H locs hS => ?_)
      have hf := o_bnd hf c10 ec
      refine lv_aload_n hx hb dX10_lay_113 rfl (lv_at hl 0 rfl) ?_
      refine m_get X hS fl_10_28 (vM_0_7 q cI cZ _) dX10_lay_114 ?_
      refine lv_iload_n hx hb dX10_lay_117 rfl (lv_at hl 1 rfl) ?_
      refine lv_aload_n hx hb dX10_lay_118 rfl (lv_at hl 0 rfl) ?_
      refine m_get X hS fl_10_28 (vM_0_7 q cI cZ _) dX10_lay_119 ?_
      refine lv_bipush (v := (6 : Int32)) hx hb dX10_lay_122 (by decide) ?_
      refine lv_iload_n hx hb dX10_lay_124 rfl (lv_at hl 1 rfl) ?_
      refine lv_iadd hx hb dX10_lay_125 ?_
      obtain ⟨hg, hf⟩ := o_gi hf
      refine m_ild X hS (aM_7 q cI cZ) hg dX10_lay_126 ?_
      obtain ⟨hg, hf⟩ := o_gi hf
      refine m_ist X hS (aM_7 q cI cZ) hg dX10_lay_127 (fun c11 ec H locs hS => ?_)
      have hf := o_bnd hf c11 ec
      obtain ⟨x12, ex⟩ : ∃ y : Int32, y = v1 + (1 : Int32) := ⟨_, rfl⟩
      have hf := o_bnd hf x12 ex
      refine lv_iinc (v := x12) (lv' := [(1, .int x12), (0, .ref (q 0))]) hx hb dX10_lay_128 hl (k := 1) rfl (by rw [ex]; rfl) (by decide) rfl (fun ls hl => ?_)
      refine lv_goto (tgt := 47) hx hb dX10_lay_131 (by decide) ?_
      exact hrc47 x12 _ hf H locs ls hS (lv_sub hl [1, 0] rfl)
  intro H locs ls hS hl
  have hl : lv_has ls 2 [(0, .ref (q 0))] := hl
  unfold X10_lay at hf
  refine lv_aload_n hx hb dX10_lay_0 rfl (lv_at hl 0 rfl) ?_
  obtain ⟨r13, c14, hq, hf⟩ := o_cal hf
  refine m_calli (rest := []) X hS hl.1 (c_X10_readAll l D cI cZ q _ _ _ hq) cv_10_150 (oM_0 q cI cZ _) rfl rfl ⟨Nat.le_of_ble_eq_true rfl, Nat.le_of_ble_eq_true rfl⟩ ⟨Nat.zero_le _, Nat.zero_le _⟩ (Nat.le_of_ble_eq_true rfl) dX10_lay_1 (fun H locs hS => ?_)
  refine lv_bipush (v := (-4 : Int32)) hx hb dX10_lay_4 (by decide) ?_
  refine lv_icmp_ne (tgt := 18) hx hb dX10_lay_6 (by decide) (fun hc => ?_) (fun hc => ?_)
  · have hf := o_f hc hf
    refine lv_bipush (v := (-2 : Int32)) hx hb dX10_lay_18 (by decide) ?_
    exact ret hf hS dX10_lay_20
  · have hf := o_t hc hf
    refine lv_aload_n hx hb dX10_lay_9 rfl (lv_at hl 0 rfl) ?_
    refine m_get X hS fl_10_13 (vM_0_2 q cI cZ _) dX10_lay_10 ?_
    refine lv_iconst (v := (1 : Int32)) hx hb dX10_lay_13 (by decide) ?_
    refine m_ildN X hS 1 (by decide +kernel) (aM_2 q cI cZ) (by decide +kernel) dX10_lay_14 ?_
    refine lv_if_ne (tgt := 21) hx hb dX10_lay_15 (by decide) (fun hc => ?_) (fun hc => ?_)
    · have hf := o_f hc hf
      refine lv_aload_n hx hb dX10_lay_21 rfl (lv_at hl 0 rfl) ?_
      refine m_get X hS fl_10_13 (vM_0_2 q cI cZ _) dX10_lay_22 ?_
      refine lv_iconst (v := (0 : Int32)) hx hb dX10_lay_25 (by decide) ?_
      refine lv_aload_n hx hb dX10_lay_26 rfl (lv_at hl 0 rfl) ?_
      refine m_get X hS fl_10_13 (vM_0_2 q cI cZ _) dX10_lay_27 ?_
      refine lv_iconst (v := (1 : Int32)) hx hb dX10_lay_30 (by decide) ?_
      refine m_ildN X hS 1 (by decide +kernel) (aM_2 q cI cZ) (by decide +kernel) dX10_lay_31 ?_
      refine m_istN X hS 0 (by decide +kernel) (aM_2 q cI cZ) (by decide +kernel) dX10_lay_32 (fun c15 ec H locs hS => ?_)
      have hf := o_bnd hf c15 ec
      refine lv_aload_n hx hb dX10_lay_33 rfl (lv_at hl 0 rfl) ?_
      refine m_get X hS fl_10_31 (vM_0_8 q cI cZ _) dX10_lay_34 ?_
      refine lv_iconst (v := (0 : Int32)) hx hb dX10_lay_37 (by decide) ?_
      refine lv_aload_n hx hb dX10_lay_38 rfl (lv_at hl 0 rfl) ?_
      refine m_get X hS fl_10_31 (vM_0_8 q cI cZ _) dX10_lay_39 ?_
      refine lv_iconst (v := (1 : Int32)) hx hb dX10_lay_42 (by decide) ?_
      refine m_ildN X hS 1 (by decide +kernel) (aM_8 q cI cZ) (by decide +kernel) dX10_lay_43 ?_
      refine m_istN X hS 0 (by decide +kernel) (aM_8 q cI cZ) (by decide +kernel) dX10_lay_44 (fun c16 ec H locs hS => ?_)
      have hf := o_bnd hf c16 ec
      refine lv_iconst (v := (0 : Int32)) hx hb dX10_lay_45 (by decide) ?_
      refine lv_istore_n (lv' := [(1, .int (0 : Int32)), (0, .ref (q 0))]) hx hb dX10_lay_46 rfl hl (by decide) rfl (fun ls hl => ?_)
      exact k47 _ (0 : Int32) _ hf H locs ls hS (lv_sub hl [1, 0] rfl)
    · have hf := o_t hc hf
      refine lv_bipush (v := (-2 : Int32)) hx hb dX10_lay_18 (by decide) ?_
      exact ret hf hS dX10_lay_20

set_option maxHeartbeats 40000000 in
set_option maxRecDepth 100000 in
theorem c_X10_isBoat (l : Launch) (D : va_G) (cI cZ : ClassId) (q : Nat → Nat) (c : Mm) (sz : Nat) (v1 : Int32) (R : Int32 × Mm) (hf : X10_isBoat v1 c = some R) : m_Mi l yX10_isBoat cX10_isBoat 2 (some .boolean) 1 25 D cI cZ (mkM q cI cZ) 29 q [.ref (q 0), .int v1] c sz R := by
  refine m_enter_z (own := RX10) (by decide) rfl (Nat.le_of_ble_eq_true rfl) ?_
  intro p e s m args below meth cd Q X ret
  have hx := X.1
  have hb := X.2.1
  intro H locs ls hS hl
  have hl : lv_has ls 2 [(0, .ref (q 0)), (1, .int v1)] := hl
  unfold X10_isBoat at hf
  refine lv_iload_n hx hb dX10_isBoat_0 rfl (lv_at hl 1 rfl) ?_
  refine lv_i2l hx hb dX10_isBoat_1 rfl ?_
  refine lv_lconst (v := (0 : Int64)) hx hb dX10_isBoat_2 (by decide) ?_
  refine lv_aload_n hx hb dX10_isBoat_3 rfl (lv_at hl 0 rfl) ?_
  refine m_get X hS fl_10_13 (vM_0_2 q cI cZ _) dX10_isBoat_4 ?_
  refine lv_iconst (v := (0 : Int32)) hx hb dX10_isBoat_7 (by decide) ?_
  refine m_ildN X hS 0 (by decide +kernel) (aM_2 q cI cZ) (by decide +kernel) dX10_isBoat_8 ?_
  refine lv_iconst (v := (1 : Int32)) hx hb dX10_isBoat_9 (by decide) ?_
  refine lv_isub hx hb dX10_isBoat_10 ?_
  refine lv_i2l hx hb dX10_isBoat_11 rfl ?_
  obtain ⟨r1, c2, hq, hf⟩ := o_cal hf
  refine m_calls (rest := []) X hS hl.1 (c_X10_in l D cI cZ q _ _ (Int32.toInt64 v1) (0 : Int64) (Int32.toInt64 ((c 2 0) - (1 : Int32))) _ hq) cs_10_109 rfl rfl ⟨Nat.le_of_ble_eq_true rfl, Nat.le_of_ble_eq_true rfl⟩ ⟨Nat.zero_le _, Nat.zero_le _⟩ (Nat.le_of_ble_eq_true rfl) dX10_isBoat_12 (fun H locs hS => ?_)
  obtain ⟨hz, hf⟩ := o_gb hf
  exact ret hz hf hS dX10_isBoat_15

set_option maxHeartbeats 40000000 in
set_option maxRecDepth 100000 in
theorem c_X10_boat (l : Launch) (D : va_G) (cI cZ : ClassId) (q : Nat → Nat) (c : Mm) (sz : Nat) (v1 : Int32) (v2 : Int32) (R : Int32 × Mm) (hf : X10_boat v1 v2 c = some R) : m_Mi l yX10_boat cX10_boat 3 (some .int) 2 46 D cI cZ (mkM q cI cZ) 29 q [.ref (q 0), .int v1, .int v2] c sz R := by
  refine m_enter_i (own := RX10) (by decide) rfl (Nat.le_of_ble_eq_true rfl) ?_
  intro p e s m args below meth cd Q X ret
  have hx := X.1
  have hb := X.2.1
  intro H locs ls hS hl
  have hl : lv_has ls 3 [(0, .ref (q 0)), (1, .int v1), (2, .int v2)] := hl
  unfold X10_boat at hf
  refine lv_aload_n hx hb dX10_boat_0 rfl (lv_at hl 0 rfl) ?_
  refine lv_iload_n hx hb dX10_boat_1 rfl (lv_at hl 1 rfl) ?_
  obtain ⟨r1, c2, hq, hf⟩ := o_cal hf
  refine m_calli (rest := []) X hS hl.1 (c_X10_isBoat l D cI cZ q _ _ v1 _ hq) cv_10_163 (oM_0 q cI cZ _) rfl rfl ⟨Nat.le_of_ble_eq_true rfl, Nat.le_of_ble_eq_true rfl⟩ ⟨Nat.zero_le _, Nat.zero_le _⟩ (Nat.le_of_ble_eq_true rfl) dX10_boat_2 (fun H locs hS => ?_)
  refine lv_if_eq (tgt := 20) hx hb dX10_boat_5 (by decide) (fun hc => ?_) (fun hc => ?_)
  · have hf := o_t hc hf
    refine lv_iconst (v := (-1 : Int32)) hx hb dX10_boat_20 (by decide) ?_
    exact ret hf hS dX10_boat_21
  · have hf := o_f hc hf
    refine lv_iload_n hx hb dX10_boat_8 rfl (lv_at hl 2 rfl) ?_
    refine lv_i2l hx hb dX10_boat_9 rfl ?_
    refine lv_lconst (v := (0 : Int64)) hx hb dX10_boat_10 (by decide) ?_
    refine lv_ldc2 hx hb X.2.2.2.1 (X.2.2.2.2.1 (.constantLong RX10 166 (5 : Int64)) (m_t4 191 rfl rfl)) dX10_boat_11 ?_
    obtain ⟨r3, c4, hq, hf⟩ := o_cal hf
    refine m_calls (rest := []) X hS hl.1 (c_X10_in l D cI cZ q _ _ (Int32.toInt64 v2) (0 : Int64) (5 : Int64) _ hq) cs_10_109 rfl rfl ⟨Nat.le_of_ble_eq_true rfl, Nat.le_of_ble_eq_true rfl⟩ ⟨Nat.zero_le _, Nat.zero_le _⟩ (Nat.le_of_ble_eq_true rfl) dX10_boat_14 (fun H locs hS => ?_)
    refine lv_if_ne (tgt := 22) hx hb dX10_boat_17 (by decide) (fun hc => ?_) (fun hc => ?_)
    · have hf := o_f hc hf
      refine lv_iload_n hx hb dX10_boat_22 rfl (lv_at hl 2 rfl) ?_
      by_cases h_0 : v2 = (0 : Int32)
      · have hf := o_t h_0 hf
        refine lv_tableIn (off := 33) (tgt := 56) hx hb dX10_boat_23 (by rw [h_0]; decide) (by rw [h_0]; decide) (by rw [h_0]; decide) (by decide) ?_
        refine lv_aload_n hx hb dX10_boat_56 rfl (lv_at hl 0 rfl) ?_
        refine m_get X hS fl_10_16 (vM_0_3 q cI cZ _) dX10_boat_57 ?_
        refine lv_iload_n hx hb dX10_boat_60 rfl (lv_at hl 1 rfl) ?_
        obtain ⟨hg, hf⟩ := o_gi hf
        refine m_ild X hS (aM_3 q cI cZ) hg dX10_boat_61 ?_
        exact ret hf hS dX10_boat_62
      have hf := o_f h_0 hf
      by_cases h_1 : v2 = (1 : Int32)
      · have hf := o_t h_1 hf
        refine lv_tableIn (off := 40) (tgt := 63) hx hb dX10_boat_23 (by rw [h_1]; decide) (by rw [h_1]; decide) (by rw [h_1]; decide) (by decide) ?_
        refine lv_aload_n hx hb dX10_boat_63 rfl (lv_at hl 0 rfl) ?_
        refine m_get X hS fl_10_19 (vM_0_4 q cI cZ _) dX10_boat_64 ?_
        refine lv_iload_n hx hb dX10_boat_67 rfl (lv_at hl 1 rfl) ?_
        obtain ⟨hg, hf⟩ := o_gi hf
        refine m_ild X hS (aM_4 q cI cZ) hg dX10_boat_68 ?_
        exact ret hf hS dX10_boat_69
      have hf := o_f h_1 hf
      by_cases h_2 : v2 = (2 : Int32)
      · have hf := o_t h_2 hf
        refine lv_tableIn (off := 47) (tgt := 70) hx hb dX10_boat_23 (by rw [h_2]; decide) (by rw [h_2]; decide) (by rw [h_2]; decide) (by decide) ?_
        refine lv_aload_n hx hb dX10_boat_70 rfl (lv_at hl 0 rfl) ?_
        refine m_get X hS fl_10_22 (vM_0_5 q cI cZ _) dX10_boat_71 ?_
        refine lv_iload_n hx hb dX10_boat_74 rfl (lv_at hl 1 rfl) ?_
        obtain ⟨hg, hf⟩ := o_gi hf
        refine m_ild X hS (aM_5 q cI cZ) hg dX10_boat_75 ?_
        exact ret hf hS dX10_boat_76
      have hf := o_f h_2 hf
      by_cases h_3 : v2 = (3 : Int32)
      · have hf := o_t h_3 hf
        refine lv_tableIn (off := 54) (tgt := 77) hx hb dX10_boat_23 (by rw [h_3]; decide) (by rw [h_3]; decide) (by rw [h_3]; decide) (by decide) ?_
        refine lv_aload_n hx hb dX10_boat_77 rfl (lv_at hl 0 rfl) ?_
        refine m_get X hS fl_10_43 (vM_0_12 q cI cZ _) dX10_boat_78 ?_
        refine lv_iload_n hx hb dX10_boat_81 rfl (lv_at hl 1 rfl) ?_
        obtain ⟨hg, hf⟩ := o_gi hf
        refine m_ild X hS (aM_12 q cI cZ) hg dX10_boat_82 ?_
        exact ret hf hS dX10_boat_83
      have hf := o_f h_3 hf
      by_cases h_4 : v2 = (4 : Int32)
      · have hf := o_t h_4 hf
        refine lv_tableIn (off := 61) (tgt := 84) hx hb dX10_boat_23 (by rw [h_4]; decide) (by rw [h_4]; decide) (by rw [h_4]; decide) (by decide) ?_
        refine lv_aload_n hx hb dX10_boat_84 rfl (lv_at hl 0 rfl) ?_
        refine m_get X hS fl_10_28 (vM_0_7 q cI cZ _) dX10_boat_85 ?_
        refine lv_iload_n hx hb dX10_boat_88 rfl (lv_at hl 1 rfl) ?_
        obtain ⟨hg, hf⟩ := o_gi hf
        refine m_ild X hS (aM_7 q cI cZ) hg dX10_boat_89 ?_
        exact ret hf hS dX10_boat_90
      have hf := o_f h_4 hf
      refine lv_tableOut (tgt := 91) hx hb dX10_boat_23 (by have := lv_neT h_0 (by decide : ((0 : Int32)).toInt = 0); have := lv_neT h_1 (by decide : ((1 : Int32)).toInt = 1); have := lv_neT h_2 (by decide : ((2 : Int32)).toInt = 2); have := lv_neT h_3 (by decide : ((3 : Int32)).toInt = 3); have := lv_neT h_4 (by decide : ((4 : Int32)).toInt = 4); omega) (by decide) ?_
      refine lv_aload_n hx hb dX10_boat_91 rfl (lv_at hl 0 rfl) ?_
      refine m_get X hS fl_10_43 (vM_0_12 q cI cZ _) dX10_boat_92 ?_
      refine lv_bipush (v := (6 : Int32)) hx hb dX10_boat_95 (by decide) ?_
      refine lv_iload_n hx hb dX10_boat_97 rfl (lv_at hl 1 rfl) ?_
      refine lv_iadd hx hb dX10_boat_98 ?_
      obtain ⟨hg, hf⟩ := o_gi hf
      refine m_ild X hS (aM_12 q cI cZ) hg dX10_boat_99 ?_
      exact ret hf hS dX10_boat_100
    · have hf := o_t hc hf
      refine lv_iconst (v := (-1 : Int32)) hx hb dX10_boat_20 (by decide) ?_
      exact ret hf hS dX10_boat_21

set_option maxHeartbeats 40000000 in
set_option maxRecDepth 100000 in
theorem c_X10_isRule (l : Launch) (D : va_G) (cI cZ : ClassId) (q : Nat → Nat) (c : Mm) (sz : Nat) (v0 : Int32) (R : Int32 × Mm) (hf : X10_isRule v0 c = some R) : m_Mi l yX10_isRule cX10_isRule 1 (some .boolean) 1 25 D cI cZ (mkM q cI cZ) 29 q [.int v0] c sz R := by
  refine m_enter_z (own := RX10) (by decide) rfl (Nat.le_of_ble_eq_true rfl) ?_
  intro p e s m args below meth cd Q X ret
  have hx := X.1
  have hb := X.2.1
  intro H locs ls hS hl
  have hl : lv_has ls 1 [(0, .int v0)] := hl
  unfold X10_isRule at hf
  refine lv_iload_n hx hb dX10_isRule_0 rfl (lv_at hl 0 rfl) ?_
  refine lv_i2l hx hb dX10_isRule_1 rfl ?_
  refine lv_lconst (v := (0 : Int64)) hx hb dX10_isRule_2 (by decide) ?_
  refine lv_ldc2 hx hb X.2.2.2.1 (X.2.2.2.2.1 (.constantLong RX10 134 (3 : Int64)) (m_t4 170 rfl rfl)) dX10_isRule_3 ?_
  obtain ⟨r1, c2, hq, hf⟩ := o_cal hf
  refine m_calls (rest := []) X hS hl.1 (c_X10_in l D cI cZ q _ _ (Int32.toInt64 v0) (0 : Int64) (3 : Int64) _ hq) cs_10_109 rfl rfl ⟨Nat.le_of_ble_eq_true rfl, Nat.le_of_ble_eq_true rfl⟩ ⟨Nat.zero_le _, Nat.zero_le _⟩ (Nat.le_of_ble_eq_true rfl) dX10_isRule_6 (fun H locs hS => ?_)
  obtain ⟨hz, hf⟩ := o_gb hf
  exact ret hz hf hS dX10_isRule_9

set_option maxHeartbeats 40000000 in
set_option maxRecDepth 100000 in
theorem c_X10_endOf (l : Launch) (D : va_G) (cI cZ : ClassId) (q : Nat → Nat) (c : Mm) (sz : Nat) (v1 : Int32) (R : Int32 × Mm) (hf : X10_endOf v1 c = some R) : m_Mi l yX10_endOf cX10_endOf 2 (some .int) 0 0 D cI cZ (mkM q cI cZ) 29 q [.ref (q 0), .int v1] c sz R := by
  refine m_enter_i (own := RX10) (by decide) rfl (Nat.le_of_ble_eq_true rfl) ?_
  intro p e s m args below meth cd Q X ret
  have hx := X.1
  have hb := X.2.1
  intro H locs ls hS hl
  have hl : lv_has ls 2 [(0, .ref (q 0)), (1, .int v1)] := hl
  unfold X10_endOf at hf
  refine lv_aload_n hx hb dX10_endOf_0 rfl (lv_at hl 0 rfl) ?_
  refine m_get X hS fl_10_19 (vM_0_4 q cI cZ _) dX10_endOf_1 ?_
  refine lv_iload_n hx hb dX10_endOf_4 rfl (lv_at hl 1 rfl) ?_
  obtain ⟨hg, hf⟩ := o_gi hf
  refine m_ild X hS (aM_4 q cI cZ) hg dX10_endOf_5 ?_
  refine lv_if_ne (tgt := 14) hx hb dX10_endOf_6 (by decide) (fun hc => ?_) (fun hc => ?_)
  · have hf := o_f hc hf
    refine lv_iconst (v := (0 : Int32)) hx hb dX10_endOf_14 (by decide) ?_
    exact ret hf hS dX10_endOf_15
  · have hf := o_t hc hf
    refine lv_bipush (v := (60 : Int32)) hx hb dX10_endOf_9 (by decide) ?_
    refine lv_goto (tgt := 15) hx hb dX10_endOf_11 (by decide) ?_
    exact ret hf hS dX10_endOf_15

set_option maxHeartbeats 40000000 in
set_option maxRecDepth 100000 in
theorem c_X10_doMeet (l : Launch) (D : va_G) (cI cZ : ClassId) (q : Nat → Nat) (c : Mm) (sz : Nat) (v1 : Int32) (v2 : Int32) (v3 : Int32) (R : Int32 × Mm) (hf : X10_doMeet v1 v2 v3 c = some R) : m_Mi l yX10_doMeet cX10_doMeet 7 (some .boolean) 0 0 D cI cZ (mkM q cI cZ) 29 q [.ref (q 0), .int v1, .int v2, .int v3] c sz R := by
  refine m_enter_z (own := RX10) (by decide) rfl (Nat.le_of_ble_eq_true rfl) ?_
  intro p e s m args below meth cd Q X ret
  have hx := X.1
  have hb := X.2.1
  have k70 : ∀ (v3 : Int32) (v4 : Int32) (v5 : Int32) (s0 : Int32) (c : Mm), X10_doMeet_j70 v3 v4 v5 s0 c = some R → m_G p l e (m_rm 0 0) s m args below meth cd Q D (mkM q cI cZ) 29 q 7 70 [(0, .ref (q 0)), (3, .int v3), (4, .int v4), (5, .int v5)] [.int s0] c := by
    intro v3 v4 v5 s0 c hf H locs ls hS hl
    unfold X10_doMeet_j70 at hf
    refine lv_istore (lv' := [(6, .int s0), (0, .ref (q 0)), (3, .int v3), (4, .int v4), (5, .int v5)]) hx hb dX10_doMeet_70 hl (by decide) rfl (fun ls hl => ?_)
    refine lv_iload hx hb dX10_doMeet_72 (lv_at hl 0 rfl) ?_
    refine lv_if_eq (tgt := 141) hx hb dX10_doMeet_74 (by decide) (fun hc => ?_) (fun hc => ?_)
    · have hf := o_t hc hf
      refine lv_iconst (v := (0 : Int32)) hx hb dX10_doMeet_141 (by decide) ?_
      exact ret (Or.inl rfl) hf hS dX10_doMeet_142
    · have hf := o_f hc hf
      refine lv_aload_n hx hb dX10_doMeet_77 rfl (lv_at hl 1 rfl) ?_
      refine m_get X hS fl_10_61 (vM_0_22 q cI cZ _) dX10_doMeet_78 ?_
      refine lv_bipush (v := (6 : Int32)) hx hb dX10_doMeet_81 (by decide) ?_
      refine lv_iload_n hx hb dX10_doMeet_83 rfl (lv_at hl 2 rfl) ?_
      refine lv_imul hx hb dX10_doMeet_84 ?_
      refine lv_bipush (v := (6 : Int32)) hx hb dX10_doMeet_85 (by decide) ?_
      refine lv_isub hx hb dX10_doMeet_87 ?_
      refine lv_iload hx hb dX10_doMeet_88 (lv_at hl 3 rfl) ?_
      refine lv_iadd hx hb dX10_doMeet_90 ?_
      obtain ⟨hg, hf⟩ := o_gi hf
      refine m_ild X hS (aM_18 q cI cZ) hg dX10_doMeet_91 ?_
      refine lv_aload_n hx hb dX10_doMeet_92 rfl (lv_at hl 1 rfl) ?_
      refine m_get X hS fl_10_61 (vM_0_22 q cI cZ _) dX10_doMeet_93 ?_
      refine lv_bipush (v := (6 : Int32)) hx hb dX10_doMeet_96 (by decide) ?_
      refine lv_iload_n hx hb dX10_doMeet_98 rfl (lv_at hl 2 rfl) ?_
      refine lv_imul hx hb dX10_doMeet_99 ?_
      refine lv_bipush (v := (6 : Int32)) hx hb dX10_doMeet_100 (by decide) ?_
      refine lv_isub hx hb dX10_doMeet_102 ?_
      refine lv_iload hx hb dX10_doMeet_103 (lv_at hl 4 rfl) ?_
      refine lv_iadd hx hb dX10_doMeet_105 ?_
      obtain ⟨hg, hf⟩ := o_gi hf
      refine m_ild X hS (aM_18 q cI cZ) hg dX10_doMeet_106 ?_
      refine lv_icmp_ge (tgt := 141) hx hb dX10_doMeet_107 (by decide) (fun hc => ?_) (fun hc => ?_)
      · have hf := o_t hc hf
        refine lv_iconst (v := (0 : Int32)) hx hb dX10_doMeet_141 (by decide) ?_
        exact ret (Or.inl rfl) hf hS dX10_doMeet_142
      · have hf := o_f hc hf
        refine lv_aload_n hx hb dX10_doMeet_110 rfl (lv_at hl 1 rfl) ?_
        refine m_get X hS fl_10_61 (vM_0_22 q cI cZ _) dX10_doMeet_111 ?_
        refine lv_bipush (v := (6 : Int32)) hx hb dX10_doMeet_114 (by decide) ?_
        refine lv_iload_n hx hb dX10_doMeet_116 rfl (lv_at hl 2 rfl) ?_
        refine lv_imul hx hb dX10_doMeet_117 ?_
        refine lv_iload hx hb dX10_doMeet_118 (lv_at hl 3 rfl) ?_
        refine lv_iadd hx hb dX10_doMeet_120 ?_
        obtain ⟨hg, hf⟩ := o_gi hf
        refine m_ild X hS (aM_18 q cI cZ) hg dX10_doMeet_121 ?_
        refine lv_aload_n hx hb dX10_doMeet_122 rfl (lv_at hl 1 rfl) ?_
        refine m_get X hS fl_10_61 (vM_0_22 q cI cZ _) dX10_doMeet_123 ?_
        refine lv_bipush (v := (6 : Int32)) hx hb dX10_doMeet_126 (by decide) ?_
        refine lv_iload_n hx hb dX10_doMeet_128 rfl (lv_at hl 2 rfl) ?_
        refine lv_imul hx hb dX10_doMeet_129 ?_
        refine lv_iload hx hb dX10_doMeet_130 (lv_at hl 4 rfl) ?_
        refine lv_iadd hx hb dX10_doMeet_132 ?_
        obtain ⟨hg, hf⟩ := o_gi hf
        refine m_ild X hS (aM_18 q cI cZ) hg dX10_doMeet_133 ?_
        refine lv_icmp_lt (tgt := 141) hx hb dX10_doMeet_134 (by decide) (fun hc => ?_) (fun hc => ?_)
        · have hf := o_t hc hf
          refine lv_iconst (v := (0 : Int32)) hx hb dX10_doMeet_141 (by decide) ?_
          exact ret (Or.inl rfl) hf hS dX10_doMeet_142
        · have hf := o_f hc hf
          refine lv_iconst (v := (1 : Int32)) hx hb dX10_doMeet_137 (by decide) ?_
          refine lv_goto (tgt := 142) hx hb dX10_doMeet_138 (by decide) ?_
          exact ret (Or.inr rfl) hf hS dX10_doMeet_142
  have k69 : ∀ (v3 : Int32) (v4 : Int32) (v5 : Int32) (c : Mm), X10_doMeet_j69 v3 v4 v5 c = some R → m_G p l e (m_rm 0 0) s m args below meth cd Q D (mkM q cI cZ) 29 q 7 69 [(0, .ref (q 0)), (3, .int v3), (4, .int v4), (5, .int v5)] [] c := by
    intro v3 v4 v5 c hf H locs ls hS hl
    unfold X10_doMeet_j69 at hf
    refine lv_iconst (v := (0 : Int32)) hx hb dX10_doMeet_69 (by decide) ?_
    exact k70 v3 v4 v5 (0 : Int32) _ hf H locs ls hS (lv_sub hl [0, 1, 2, 3] rfl)
  have k30 : ∀ (v1 : Int32) (v2 : Int32) (v3 : Int32) (v4 : Int32) (s0 : Int32) (c : Mm), X10_doMeet_j30 v1 v2 v3 v4 s0 c = some R → m_G p l e (m_rm 0 0) s m args below meth cd Q D (mkM q cI cZ) 29 q 7 30 [(0, .ref (q 0)), (1, .int v1), (2, .int v2), (3, .int v3), (4, .int v4)] [.int s0] c := by
    intro v1 v2 v3 v4 s0 c hf H locs ls hS hl
    unfold X10_doMeet_j30 at hf
    refine lv_istore (lv' := [(5, .int s0), (0, .ref (q 0)), (1, .int v1), (2, .int v2), (3, .int v3), (4, .int v4)]) hx hb dX10_doMeet_30 hl (by decide) rfl (fun ls hl => ?_)
    refine lv_aload_n hx hb dX10_doMeet_32 rfl (lv_at hl 1 rfl) ?_
    refine m_get X hS fl_10_19 (vM_0_4 q cI cZ _) dX10_doMeet_33 ?_
    refine lv_iload_n hx hb dX10_doMeet_36 rfl (lv_at hl 2 rfl) ?_
    obtain ⟨hg, hf⟩ := o_gi hf
    refine m_ild X hS (aM_4 q cI cZ) hg dX10_doMeet_37 ?_
    refine lv_aload_n hx hb dX10_doMeet_38 rfl (lv_at hl 1 rfl) ?_
    refine m_get X hS fl_10_19 (vM_0_4 q cI cZ _) dX10_doMeet_39 ?_
    refine lv_iload_n hx hb dX10_doMeet_42 rfl (lv_at hl 3 rfl) ?_
    obtain ⟨hg, hf⟩ := o_gi hf
    refine m_ild X hS (aM_4 q cI cZ) hg dX10_doMeet_43 ?_
    refine lv_icmp_eq (tgt := 69) hx hb dX10_doMeet_44 (by decide) (fun hc => ?_) (fun hc => ?_)
    · have hf := o_t hc hf
      exact k69 v3 v4 s0 _ hf H locs ls hS (lv_sub hl [1, 4, 5, 0] rfl)
    · have hf := o_f hc hf
      refine lv_aload_n hx hb dX10_doMeet_47 rfl (lv_at hl 1 rfl) ?_
      refine m_get X hS fl_10_67 (vM_0_24 q cI cZ _) dX10_doMeet_48 ?_
      refine lv_iload_n hx hb dX10_doMeet_51 rfl (lv_at hl 2 rfl) ?_
      obtain ⟨hg, hf⟩ := o_gi hf
      refine m_ild X hS (aM_20 q cI cZ) hg dX10_doMeet_52 ?_
      refine lv_if_ge (tgt := 69) hx hb dX10_doMeet_53 (by decide) (fun hc => ?_) (fun hc => ?_)
      · have hf := o_t hc hf
        exact k69 v3 v4 s0 _ hf H locs ls hS (lv_sub hl [1, 4, 5, 0] rfl)
      · have hf := o_f hc hf
        refine lv_aload_n hx hb dX10_doMeet_56 rfl (lv_at hl 1 rfl) ?_
        refine m_get X hS fl_10_67 (vM_0_24 q cI cZ _) dX10_doMeet_57 ?_
        refine lv_iload_n hx hb dX10_doMeet_60 rfl (lv_at hl 3 rfl) ?_
        obtain ⟨hg, hf⟩ := o_gi hf
        refine m_ild X hS (aM_20 q cI cZ) hg dX10_doMeet_61 ?_
        refine lv_if_ge (tgt := 69) hx hb dX10_doMeet_62 (by decide) (fun hc => ?_) (fun hc => ?_)
        · have hf := o_t hc hf
          exact k69 v3 v4 s0 _ hf H locs ls hS (lv_sub hl [1, 4, 5, 0] rfl)
        · have hf := o_f hc hf
          refine lv_iconst (v := (1 : Int32)) hx hb dX10_doMeet_65 (by decide) ?_
          refine lv_goto (tgt := 70) hx hb dX10_doMeet_66 (by decide) ?_
          exact k70 v3 v4 s0 (1 : Int32) _ hf H locs ls hS (lv_sub hl [1, 4, 5, 0] rfl)
  have k14 : ∀ (v1 : Int32) (v2 : Int32) (v3 : Int32) (s0 : Int32) (c : Mm), X10_doMeet_j14 v1 v2 v3 s0 c = some R → m_G p l e (m_rm 0 0) s m args below meth cd Q D (mkM q cI cZ) 29 q 7 14 [(0, .ref (q 0)), (1, .int v1), (2, .int v2), (3, .int v3)] [.int s0] c := by
    intro v1 v2 v3 s0 c hf H locs ls hS hl
    unfold X10_doMeet_j14 at hf
    refine lv_istore (lv' := [(4, .int s0), (0, .ref (q 0)), (1, .int v1), (2, .int v2), (3, .int v3)]) hx hb dX10_doMeet_14 hl (by decide) rfl (fun ls hl => ?_)
    refine lv_aload_n hx hb dX10_doMeet_16 rfl (lv_at hl 1 rfl) ?_
    refine m_get X hS fl_10_19 (vM_0_4 q cI cZ _) dX10_doMeet_17 ?_
    refine lv_iload_n hx hb dX10_doMeet_20 rfl (lv_at hl 2 rfl) ?_
    obtain ⟨hg, hf⟩ := o_gi hf
    refine m_ild X hS (aM_4 q cI cZ) hg dX10_doMeet_21 ?_
    refine lv_if_ne (tgt := 29) hx hb dX10_doMeet_22 (by decide) (fun hc => ?_) (fun hc => ?_)
    · have hf := o_f hc hf
      refine lv_iload_n hx hb dX10_doMeet_29 rfl (lv_at hl 2 rfl) ?_
      exact k30 v1 v2 v3 s0 v1 _ hf H locs ls hS (lv_sub hl [1, 2, 3, 4, 0] rfl)
    · have hf := o_t hc hf
      refine lv_iload_n hx hb dX10_doMeet_25 rfl (lv_at hl 3 rfl) ?_
      refine lv_goto (tgt := 30) hx hb dX10_doMeet_26 (by decide) ?_
      exact k30 v1 v2 v3 s0 v2 _ hf H locs ls hS (lv_sub hl [1, 2, 3, 4, 0] rfl)
  intro H locs ls hS hl
  have hl : lv_has ls 7 [(0, .ref (q 0)), (1, .int v1), (2, .int v2), (3, .int v3)] := hl
  unfold X10_doMeet at hf
  refine lv_aload_n hx hb dX10_doMeet_0 rfl (lv_at hl 0 rfl) ?_
  refine m_get X hS fl_10_19 (vM_0_4 q cI cZ _) dX10_doMeet_1 ?_
  refine lv_iload_n hx hb dX10_doMeet_4 rfl (lv_at hl 1 rfl) ?_
  obtain ⟨hg, hf⟩ := o_gi hf
  refine m_ild X hS (aM_4 q cI cZ) hg dX10_doMeet_5 ?_
  refine lv_if_ne (tgt := 13) hx hb dX10_doMeet_6 (by decide) (fun hc => ?_) (fun hc => ?_)
  · have hf := o_f hc hf
    refine lv_iload_n hx hb dX10_doMeet_13 rfl (lv_at hl 2 rfl) ?_
    exact k14 v1 v2 v3 v2 _ hf H locs ls hS (lv_sub hl [0, 1, 2, 3] rfl)
  · have hf := o_t hc hf
    refine lv_iload_n hx hb dX10_doMeet_9 rfl (lv_at hl 1 rfl) ?_
    refine lv_goto (tgt := 14) hx hb dX10_doMeet_10 (by decide) ?_
    exact k14 v1 v2 v3 v1 _ hf H locs ls hS (lv_sub hl [0, 1, 2, 3] rfl)
