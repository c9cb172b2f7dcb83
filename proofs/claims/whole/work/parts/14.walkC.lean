set_option maxHeartbeats 40000000 in
set_option maxRecDepth 100000 in
theorem c_X2_begin (l : Launch) (D : va_G) (cI cZ : ClassId) (q : Nat → Nat) (c : Mm) (sz : Nat) (pk : Nat) (hpk : pk = 5 ∨ pk = 6) (R : Mm) (hf : X2_begin pk c = some R) : m_Mv l yX2_begin cX2_begin 3 2 43 D cI cZ (mkC q cI cZ) 50 q [.ref (q 8), .ref (q pk)] c sz R := by
  refine m_enter_v (own := RX2) (by decide) rfl (Nat.le_of_ble_eq_true rfl) ?_
  intro p e s m args below meth cd Q X ret
  have hx := X.1
  have hb := X.2.1
  have k108 : ∀ (c : Mm), X2_begin_j108 pk c = some R → m_G p l e (m_rm 2 43) s m args below meth cd Q D (mkC q cI cZ) 50 q 3 108 [(0, .ref (q 8))] [] c := by
    intro c hf H locs ls hS hl
    unfold X2_begin_j108 at hf
    refine lv_aload_n hx hb dX2_begin_108 rfl (lv_at hl 0 rfl) ?_
    refine lv_iconst (v := (0 : Int32)) hx hb dX2_begin_109 (by decide) ?_
    obtain ⟨c1, hq, hf⟩ := o_cav hf
    refine m_callv (rest := []) X hS hl.1 (c_X2_arrive l D cI cZ q _ _ (0 : Int32) _ hq) cv_2_68 (oC_8 q cI cZ _) rfl rfl ⟨Nat.le_of_ble_eq_true rfl, Nat.le_of_ble_eq_true rfl⟩ ⟨Nat.zero_le _, Nat.zero_le _⟩ (Nat.le_of_ble_eq_true rfl) dX2_begin_110 (fun H locs hS => ?_)
    exact ret hf hS dX2_begin_113
  have k101 : ∀ (v2 : Int32) (s1 : Int32) (s2 : Int32) (rc23 : Int32 → Mm → Option (Mm)) (hrc23 : ∀ (w2 : Int32) (c : Mm), rc23 w2 c = some R → m_G p l e (m_rm 2 43) s m args below meth cd Q D (mkC q cI cZ) 50 q 3 23 [(0, .ref (q 8)), (1, .ref (q pk)), (2, .int w2)] [] c) (c : Mm), X2_begin_j101 pk rc23 v2 s1 s2 c = some R → m_G p l e (m_rm 2 43) s m args below meth cd Q D (mkC q cI cZ) 50 q 3 101 [(0, .ref (q 8)), (1, .ref (q pk)), (2, .int v2)] [.int s2, .int s1, .ref (q 38)] c := by
    intro v2 s1 s2 rc23 hrc23 c hf H locs ls hS hl
    unfold X2_begin_j101 at hf
    obtain ⟨hg, hf⟩ := o_gi hf
    refine m_ist X hS (aC_38 q cI cZ) hg dX2_begin_101 (fun c2 ec H locs hS => ?_)
    have hf := o_bnd hf c2 ec
    obtain ⟨x3, ex⟩ : ∃ y : Int32, y = v2 + (1 : Int32) := ⟨_, rfl⟩
    have hf := o_bnd hf x3 ex
    refine lv_iinc (v := x3) (lv' := [(2, .int x3), (0, .ref (q 8)), (1, .ref (q pk))]) hx hb dX2_begin_102 hl (k := 2) rfl (by rw [ex]; rfl) (by decide) rfl (fun ls hl => ?_)
    refine lv_goto (tgt := 23) hx hb dX2_begin_105 (by decide) ?_
    exact hrc23 x3 _ hf H locs ls hS (lv_sub hl [1, 2, 0] rfl)
  have k23 : ∀ (n : Nat) (v2 : Int32) (c : Mm), m_lp1 (X2_begin_b23 pk) n v2 c = some R → m_G p l e (m_rm 2 43) s m args below meth cd Q D (mkC q cI cZ) 50 q 3 23 [(0, .ref (q 8)), (1, .ref (q pk)), (2, .int v2)] [] c := by
    refine m_lp1_i ?_
    intro rc23 hrc23 v2 c hf H locs ls hS hl
    unfold X2_begin_b23 at hf
    refine lv_iload_n hx hb dX2_begin_23 rfl (lv_at hl 2 rfl) ?_
    refine lv_aload_n hx hb dX2_begin_24 rfl (lv_at hl 0 rfl) ?_
    refine m_get X hS fl_2_45 (vC_8_0 q cI cZ _) dX2_begin_25 ?_
    refine m_get X hS fl_2_78 (vC_4_0 q cI cZ _) dX2_begin_28 ?_
    refine lv_icmp_ge (tgt := 108) hx hb dX2_begin_31 (by decide) (fun hc => ?_) (fun hc => ?_)
    · have hf := o_t hc hf
      exact k108 _ hf H locs ls hS (lv_sub hl [0] rfl)
    · have hf := o_f hc hf
      refine lv_aload_n hx hb dX2_begin_34 rfl (lv_at hl 0 rfl) ?_
      refine m_get X hS fl_2_15 (vC_8_3 q cI cZ _) dX2_begin_35 ?_
      refine lv_iload_n hx hb dX2_begin_38 rfl (lv_at hl 2 rfl) ?_
      refine lv_aload_n hx hb dX2_begin_39 rfl (lv_at hl 0 rfl) ?_
      refine m_get X hS fl_2_45 (vC_8_0 q cI cZ _) dX2_begin_40 ?_
      refine m_get X hS fl_2_83 (vC_4_6 q cI cZ _) dX2_begin_43 ?_
      refine lv_iload_n hx hb dX2_begin_46 rfl (lv_at hl 2 rfl) ?_
      obtain ⟨hg, hf⟩ := o_gi hf
      refine m_ild X hS (aC_21 q cI cZ) hg dX2_begin_47 ?_
      obtain ⟨hg, hf⟩ := o_gi hf
      refine m_ist X hS (aC_33 q cI cZ) hg dX2_begin_48 (fun c4 ec H locs hS => ?_)
      have hf := o_bnd hf c4 ec
      refine lv_aload_n hx hb dX2_begin_49 rfl (lv_at hl 0 rfl) ?_
      refine m_get X hS fl_2_18 (vC_8_4 q cI cZ _) dX2_begin_50 ?_
      refine lv_iload_n hx hb dX2_begin_53 rfl (lv_at hl 2 rfl) ?_
      refine lv_aload_n hx hb dX2_begin_54 rfl (lv_at hl 1 rfl) ?_
      refine m_get X hS fl_2_86 (vC_pk_1 hpk _) dX2_begin_55 ?_
      refine lv_iload_n hx hb dX2_begin_58 rfl (lv_at hl 2 rfl) ?_
      obtain ⟨hg, hf⟩ := o_gi hf
      refine m_ild X hS (aC_pkD hpk) hg dX2_begin_59 ?_
      obtain ⟨hg, hf⟩ := o_gi hf
      refine m_ist X hS (aC_34 q cI cZ) hg dX2_begin_60 (fun c5 ec H locs hS => ?_)
      have hf := o_bnd hf c5 ec
      refine lv_aload_n hx hb dX2_begin_61 rfl (lv_at hl 0 rfl) ?_
      refine m_get X hS fl_2_21 (vC_8_5 q cI cZ _) dX2_begin_62 ?_
      refine lv_iload_n hx hb dX2_begin_65 rfl (lv_at hl 2 rfl) ?_
      refine lv_bipush (v := (-4 : Int32)) hx hb dX2_begin_66 (by decide) ?_
      obtain ⟨hg, hf⟩ := o_gi hf
      refine m_ist X hS (aC_35 q cI cZ) hg dX2_begin_68 (fun c6 ec H locs hS => ?_)
      have hf := o_bnd hf c6 ec
      refine lv_aload_n hx hb dX2_begin_69 rfl (lv_at hl 0 rfl) ?_
      refine m_get X hS fl_2_24 (vC_8_6 q cI cZ _) dX2_begin_70 ?_
      refine lv_iload_n hx hb dX2_begin_73 rfl (lv_at hl 2 rfl) ?_
      refine lv_iconst (v := (0 : Int32)) hx hb dX2_begin_74 (by decide) ?_
      obtain ⟨hg, hf⟩ := o_gi hf
      refine m_ist X hS (aC_36 q cI cZ) hg dX2_begin_75 (fun c7 ec H locs hS => ?_)
      have hf := o_bnd hf c7 ec
      refine lv_aload_n hx hb dX2_begin_76 rfl (lv_at hl 0 rfl) ?_
      refine m_get X hS fl_2_27 (vC_8_7 q cI cZ _) dX2_begin_77 ?_
      refine lv_iload_n hx hb dX2_begin_80 rfl (lv_at hl 2 rfl) ?_
      refine lv_iconst (v := (0 : Int32)) hx hb dX2_begin_81 (by decide) ?_
      obtain ⟨hg, hf⟩ := o_gi hf
      refine m_ist X hS (aC_37 q cI cZ) hg dX2_begin_82 (fun c8 ec H locs hS => ?_)
      have hf := o_bnd hf c8 ec
      refine lv_aload_n hx hb dX2_begin_83 rfl (lv_at hl 0 rfl) ?_
      refine m_get X hS fl_2_30 (vC_8_8 q cI cZ _) dX2_begin_84 ?_
      refine lv_iload_n hx hb dX2_begin_87 rfl (lv_at hl 2 rfl) ?_
      refine lv_aload_n hx hb dX2_begin_88 rfl (lv_at hl 0 rfl) ?_
      refine lv_iload_n hx hb dX2_begin_89 rfl (lv_at hl 2 rfl) ?_
      obtain ⟨r9, c10, hq, hf⟩ := o_cal hf
      refine m_calli (rest := [.int v2, .ref (q 38)]) X hS hl.1 (c_X2_isAtEnd l D cI cZ q _ _ v2 _ hq) cv_2_91 (oC_8 q cI cZ _) rfl rfl ⟨Nat.le_of_ble_eq_true rfl, Nat.le_of_ble_eq_true rfl⟩ ⟨Nat.zero_le _, Nat.zero_le _⟩ (Nat.le_of_ble_eq_true rfl) dX2_begin_90 (fun H locs hS => ?_)
      refine lv_if_eq (tgt := 100) hx hb dX2_begin_93 (by decide) (fun hc => ?_) (fun hc => ?_)
      · have hf := o_t hc hf
        refine lv_iconst (v := (1 : Int32)) hx hb dX2_begin_100 (by decide) ?_
        exact k101 v2 v2 (1 : Int32) rc23 hrc23 _ hf H locs ls hS (lv_sub hl [0, 1, 2] rfl)
      · have hf := o_f hc hf
        refine lv_iconst (v := (0 : Int32)) hx hb dX2_begin_96 (by decide) ?_
        refine lv_goto (tgt := 101) hx hb dX2_begin_97 (by decide) ?_
        exact k101 v2 v2 (0 : Int32) rc23 hrc23 _ hf H locs ls hS (lv_sub hl [0, 1, 2] rfl)
  intro H locs ls hS hl
  have hl : lv_has ls 3 [(0, .ref (q 8)), (1, .ref (q pk))] := hl
  unfold X2_begin at hf
  refine lv_aload_n hx hb dX2_begin_0 rfl (lv_at hl 0 rfl) ?_
  refine lv_iconst (v := (0 : Int32)) hx hb dX2_begin_1 (by decide) ?_
  refine m_put X hS fp_2_75 (pC_8_11 q cI cZ) dX2_begin_2 (fun c11 ec H locs hS => ?_)
  have hf := o_bnd hf c11 ec
  refine lv_aload_n hx hb dX2_begin_5 rfl (lv_at hl 0 rfl) ?_
  refine lv_iconst (v := (0 : Int32)) hx hb dX2_begin_6 (by decide) ?_
  refine m_put X hS fp_2_72 (pC_8_9 q cI cZ) dX2_begin_7 (fun c12 ec H locs hS => ?_)
  have hf := o_bnd hf c12 ec
  refine lv_aload_n hx hb dX2_begin_10 rfl (lv_at hl 0 rfl) ?_
  refine lv_aload_n hx hb dX2_begin_11 rfl (lv_at hl 0 rfl) ?_
  refine m_get X hS fl_2_45 (vC_8_0 q cI cZ _) dX2_begin_12 ?_
  refine m_get X hS fl_2_78 (vC_4_0 q cI cZ _) dX2_begin_15 ?_
  refine m_put X hS fp_2_57 (pC_8_10 q cI cZ) dX2_begin_18 (fun c13 ec H locs hS => ?_)
  have hf := o_bnd hf c13 ec
  refine lv_iconst (v := (0 : Int32)) hx hb dX2_begin_21 (by decide) ?_
  refine lv_istore_n (lv' := [(2, .int (0 : Int32)), (0, .ref (q 8)), (1, .ref (q pk))]) hx hb dX2_begin_22 rfl hl (by decide) rfl (fun ls hl => ?_)
  exact k23 _ (0 : Int32) _ hf H locs ls hS (lv_sub hl [1, 2, 0] rfl)

set_option maxHeartbeats 40000000 in
set_option maxRecDepth 100000 in
theorem c_X2_goOn (l : Launch) (D : va_G) (cI cZ : ClassId) (q : Nat → Nat) (c : Mm) (sz : Nat) (R : Mm) (hf : X2_goOn c = some R) : m_Mv l yX2_goOn cX2_goOn 2 1 21 D cI cZ (mkC q cI cZ) 50 q [.ref (q 8)] c sz R := by
  refine m_enter_v (own := RX2) (by decide) rfl (Nat.le_of_ble_eq_true rfl) ?_
  intro p e s m args below meth cd Q X ret
  have hx := X.1
  have hb := X.2.1
  have k129 : ∀ (v1 : Int32) (rc2 : Int32 → Mm → Option (Mm)) (hrc2 : ∀ (w1 : Int32) (c : Mm), rc2 w1 c = some R → m_G p l e (m_rm 1 21) s m args below meth cd Q D (mkC q cI cZ) 50 q 2 2 [(0, .ref (q 8)), (1, .int w1)] [] c) (c : Mm), X2_goOn_j129 rc2 v1 c = some R → m_G p l e (m_rm 1 21) s m args below meth cd Q D (mkC q cI cZ) 50 q 2 129 [(0, .ref (q 8)), (1, .int v1)] [] c := by
    intro v1 rc2 hrc2 c hf H locs ls hS hl
    unfold X2_goOn_j129 at hf
    obtain ⟨x1, ex⟩ : ∃ y : Int32, y = v1 + (1 : Int32) := ⟨_, rfl⟩
    have hf := o_bnd hf x1 ex
    refine lv_iinc (v := x1) (lv' := [(1, .int x1), (0, .ref (q 8))]) hx hb dX2_goOn_129 hl (k := 1) rfl (by rw [ex]; rfl) (by decide) rfl (fun ls hl => ?_)
    refine lv_goto (tgt := 2) hx hb dX2_goOn_132 (by decide) ?_
    exact hrc2 x1 _ hf H locs ls hS (lv_sub hl [1, 0] rfl)
  have k2 : ∀ (n : Nat) (v1 : Int32) (c : Mm), m_lp1 (X2_goOn_b2) n v1 c = some R → m_G p l e (m_rm 1 21) s m args below meth cd Q D (mkC q cI cZ) 50 q 2 2 [(0, .ref (q 8)), (1, .int v1)] [] c := by
    refine m_lp1_i ?_
    intro rc2 hrc2 v1 c hf H locs ls hS hl
    unfold X2_goOn_b2 at hf
    refine lv_iload_n hx hb dX2_goOn_2 rfl (lv_at hl 1 rfl) ?_
    refine lv_aload_n hx hb dX2_goOn_3 rfl (lv_at hl 0 rfl) ?_
    refine m_get X hS fl_2_45 (vC_8_0 q cI cZ _) dX2_goOn_4 ?_
    refine m_get X hS fl_2_78 (vC_4_0 q cI cZ _) dX2_goOn_7 ?_
    refine lv_icmp_ge (tgt := 135) hx hb dX2_goOn_10 (by decide) (fun hc => ?_) (fun hc => ?_)
    · have hf := o_t hc hf
      exact ret hf hS dX2_goOn_135
    · have hf := o_f hc hf
      refine lv_aload_n hx hb dX2_goOn_13 rfl (lv_at hl 0 rfl) ?_
      refine m_get X hS fl_2_9 (vC_8_2 q cI cZ _) dX2_goOn_14 ?_
      refine lv_iload_n hx hb dX2_goOn_17 rfl (lv_at hl 1 rfl) ?_
      refine lv_aload_n hx hb dX2_goOn_18 rfl (lv_at hl 0 rfl) ?_
      refine m_get X hS fl_2_15 (vC_8_3 q cI cZ _) dX2_goOn_19 ?_
      refine lv_iload_n hx hb dX2_goOn_22 rfl (lv_at hl 1 rfl) ?_
      obtain ⟨hg, hf⟩ := o_gi hf
      refine m_ild X hS (aC_33 q cI cZ) hg dX2_goOn_23 ?_
      obtain ⟨hg, hf⟩ := o_gi hf
      refine m_ist X hS (aC_32 q cI cZ) hg dX2_goOn_24 (fun c2 ec H locs hS => ?_)
      have hf := o_bnd hf c2 ec
      refine lv_aload_n hx hb dX2_goOn_25 rfl (lv_at hl 0 rfl) ?_
      refine m_get X hS fl_2_21 (vC_8_5 q cI cZ _) dX2_goOn_26 ?_
      refine lv_iload_n hx hb dX2_goOn_29 rfl (lv_at hl 1 rfl) ?_
      obtain ⟨hg, hf⟩ := o_gi hf
      refine m_ild X hS (aC_35 q cI cZ) hg dX2_goOn_30 ?_
      refine lv_bipush (v := (-4 : Int32)) hx hb dX2_goOn_31 (by decide) ?_
      refine lv_icmp_eq (tgt := 39) hx hb dX2_goOn_33 (by decide) (fun hc => ?_) (fun hc => ?_)
      · have hf := o_t hc hf
        refine lv_aload_n hx hb dX2_goOn_39 rfl (lv_at hl 0 rfl) ?_
        refine m_get X hS fl_2_18 (vC_8_4 q cI cZ _) dX2_goOn_40 ?_
        refine lv_iload_n hx hb dX2_goOn_43 rfl (lv_at hl 1 rfl) ?_
        obtain ⟨hg, hf⟩ := o_gi hf
        refine m_ild X hS (aC_34 q cI cZ) hg dX2_goOn_44 ?_
        refine lv_if_le (tgt := 61) hx hb dX2_goOn_45 (by decide) (fun hc => ?_) (fun hc => ?_)
        · have hf := o_t hc hf
          refine lv_aload_n hx hb dX2_goOn_61 rfl (lv_at hl 0 rfl) ?_
          refine m_get X hS fl_2_45 (vC_8_0 q cI cZ _) dX2_goOn_62 ?_
          refine m_get X hS fl_2_95 (vC_4_7 q cI cZ _) dX2_goOn_65 ?_
          refine lv_iload_n hx hb dX2_goOn_68 rfl (lv_at hl 1 rfl) ?_
          obtain ⟨hg, hf⟩ := o_gi hf
          refine m_ild X hS (aC_22 q cI cZ) hg dX2_goOn_69 ?_
          refine lv_if_ne (tgt := 103) hx hb dX2_goOn_70 (by decide) (fun hc => ?_) (fun hc => ?_)
          · have hf := o_f hc hf
            refine lv_aload_n hx hb dX2_goOn_103 rfl (lv_at hl 0 rfl) ?_
            refine m_get X hS fl_2_15 (vC_8_3 q cI cZ _) dX2_goOn_104 ?_
            refine lv_iload_n hx hb dX2_goOn_107 rfl (lv_at hl 1 rfl) ?_
            refine lv_aload_n hx hb dX2_goOn_108 rfl (lv_at hl 0 rfl) ?_
            refine m_get X hS fl_2_15 (vC_8_3 q cI cZ _) dX2_goOn_109 ?_
            refine lv_iload_n hx hb dX2_goOn_112 rfl (lv_at hl 1 rfl) ?_
            obtain ⟨hg, hf⟩ := o_gi hf
            refine m_ild X hS (aC_33 q cI cZ) hg dX2_goOn_113 ?_
            refine lv_aload_n hx hb dX2_goOn_114 rfl (lv_at hl 0 rfl) ?_
            refine m_get X hS fl_2_45 (vC_8_0 q cI cZ _) dX2_goOn_115 ?_
            refine m_get X hS fl_2_98 (vC_4_8 q cI cZ _) dX2_goOn_118 ?_
            refine lv_iload_n hx hb dX2_goOn_121 rfl (lv_at hl 1 rfl) ?_
            obtain ⟨hg, hf⟩ := o_gi hf
            refine m_ild X hS (aC_23 q cI cZ) hg dX2_goOn_122 ?_
            refine lv_isub hx hb dX2_goOn_123 ?_
            refine lv_iconst (v := (0 : Int32)) hx hb dX2_goOn_124 (by decide) ?_
            refine m_max X hl.1 cm_2_107 (Nat.le_of_ble_eq_true rfl) (Nat.le_of_ble_eq_true rfl) (Nat.zero_le _) (Nat.zero_le _) dX2_goOn_125 ?_
            obtain ⟨hg, hf⟩ := o_gi hf
            refine m_ist X hS (aC_33 q cI cZ) hg dX2_goOn_128 (fun c3 ec H locs hS => ?_)
            have hf := o_bnd hf c3 ec
            exact k129 v1 rc2 hrc2 _ hf H locs ls hS (lv_sub hl [0, 1] rfl)
          · have hf := o_t hc hf
            refine lv_aload_n hx hb dX2_goOn_73 rfl (lv_at hl 0 rfl) ?_
            refine m_get X hS fl_2_15 (vC_8_3 q cI cZ _) dX2_goOn_74 ?_
            refine lv_iload_n hx hb dX2_goOn_77 rfl (lv_at hl 1 rfl) ?_
            refine lv_aload_n hx hb dX2_goOn_78 rfl (lv_at hl 0 rfl) ?_
            refine m_get X hS fl_2_15 (vC_8_3 q cI cZ _) dX2_goOn_79 ?_
            refine lv_iload_n hx hb dX2_goOn_82 rfl (lv_at hl 1 rfl) ?_
            obtain ⟨hg, hf⟩ := o_gi hf
            refine m_ild X hS (aC_33 q cI cZ) hg dX2_goOn_83 ?_
            refine lv_aload_n hx hb dX2_goOn_84 rfl (lv_at hl 0 rfl) ?_
            refine m_get X hS fl_2_45 (vC_8_0 q cI cZ _) dX2_goOn_85 ?_
            refine m_get X hS fl_2_98 (vC_4_8 q cI cZ _) dX2_goOn_88 ?_
            refine lv_iload_n hx hb dX2_goOn_91 rfl (lv_at hl 1 rfl) ?_
            obtain ⟨hg, hf⟩ := o_gi hf
            refine m_ild X hS (aC_23 q cI cZ) hg dX2_goOn_92 ?_
            refine lv_iadd hx hb dX2_goOn_93 ?_
            refine lv_bipush (v := (60 : Int32)) hx hb dX2_goOn_94 (by decide) ?_
            refine m_min X hl.1 cm_2_101 (Nat.le_of_ble_eq_true rfl) (Nat.le_of_ble_eq_true rfl) (Nat.zero_le _) (Nat.zero_le _) dX2_goOn_96 ?_
            obtain ⟨hg, hf⟩ := o_gi hf
            refine m_ist X hS (aC_33 q cI cZ) hg dX2_goOn_99 (fun c4 ec H locs hS => ?_)
            have hf := o_bnd hf c4 ec
            refine lv_goto (tgt := 129) hx hb dX2_goOn_100 (by decide) ?_
            exact k129 v1 rc2 hrc2 _ hf H locs ls hS (lv_sub hl [0, 1] rfl)
        · have hf := o_f hc hf
          refine lv_aload_n hx hb dX2_goOn_48 rfl (lv_at hl 0 rfl) ?_
          refine m_get X hS fl_2_18 (vC_8_4 q cI cZ _) dX2_goOn_49 ?_
          refine lv_iload_n hx hb dX2_goOn_52 rfl (lv_at hl 1 rfl) ?_
          refine lv_dup2_11 hx hb dX2_goOn_53 rfl rfl ?_
          obtain ⟨hg, hf⟩ := o_gi hf
          refine m_ild X hS (aC_34 q cI cZ) hg dX2_goOn_54 ?_
          refine lv_iconst (v := (1 : Int32)) hx hb dX2_goOn_55 (by decide) ?_
          refine lv_isub hx hb dX2_goOn_56 ?_
          obtain ⟨hg, hf⟩ := o_gi hf
          refine m_ist X hS (aC_34 q cI cZ) hg dX2_goOn_57 (fun c5 ec H locs hS => ?_)
          have hf := o_bnd hf c5 ec
          refine lv_goto (tgt := 129) hx hb dX2_goOn_58 (by decide) ?_
          exact k129 v1 rc2 hrc2 _ hf H locs ls hS (lv_sub hl [0, 1] rfl)
      · have hf := o_f hc hf
        refine lv_goto (tgt := 129) hx hb dX2_goOn_36 (by decide) ?_
        exact k129 v1 rc2 hrc2 _ hf H locs ls hS (lv_sub hl [0, 1] rfl)
  intro H locs ls hS hl
  have hl : lv_has ls 2 [(0, .ref (q 8))] := hl
  unfold X2_goOn at hf
  refine lv_iconst (v := (0 : Int32)) hx hb dX2_goOn_0 (by decide) ?_
  refine lv_istore_n (lv' := [(1, .int (0 : Int32)), (0, .ref (q 8))]) hx hb dX2_goOn_1 rfl hl (by decide) rfl (fun ls hl => ?_)
  exact k2 _ (0 : Int32) _ hf H locs ls hS (lv_sub hl [1, 0] rfl)

set_option maxHeartbeats 40000000 in
set_option maxRecDepth 100000 in
theorem c_X2_doMeet (l : Launch) (D : va_G) (cI cZ : ClassId) (q : Nat → Nat) (c : Mm) (sz : Nat) (v1 : Int32) (v2 : Int32) (R : Int32 × Mm) (hf : X2_doMeet v1 v2 c = some R) : m_Mi l yX2_doMeet cX2_doMeet 5 (some .boolean) 0 0 D cI cZ (mkC q cI cZ) 50 q [.ref (q 8), .int v1, .int v2] c sz R := by
  refine m_enter_z (own := RX2) (by decide) rfl (Nat.le_of_ble_eq_true rfl) ?_
  intro p e s m args below meth cd Q X ret
  have hx := X.1
  have hb := X.2.1
  have k59 : ∀ (v3 : Int32) (s0 : Int32) (c : Mm), X2_doMeet_j59 v3 s0 c = some R → m_G p l e (m_rm 0 0) s m args below meth cd Q D (mkC q cI cZ) 50 q 5 59 [(0, .ref (q 8)), (3, .int v3)] [.int s0] c := by
    intro v3 s0 c hf H locs ls hS hl
    unfold X2_doMeet_j59 at hf
    refine lv_istore (lv' := [(4, .int s0), (0, .ref (q 8)), (3, .int v3)]) hx hb dX2_doMeet_59 hl (by decide) rfl (fun ls hl => ?_)
    refine lv_aload_n hx hb dX2_doMeet_61 rfl (lv_at hl 1 rfl) ?_
    refine m_get X hS fl_2_9 (vC_8_2 q cI cZ _) dX2_doMeet_62 ?_
    refine lv_iload_n hx hb dX2_doMeet_65 rfl (lv_at hl 2 rfl) ?_
    obtain ⟨hg, hf⟩ := o_gi hf
    refine m_ild X hS (aC_32 q cI cZ) hg dX2_doMeet_66 ?_
    refine lv_aload_n hx hb dX2_doMeet_67 rfl (lv_at hl 1 rfl) ?_
    refine m_get X hS fl_2_9 (vC_8_2 q cI cZ _) dX2_doMeet_68 ?_
    refine lv_iload hx hb dX2_doMeet_71 (lv_at hl 0 rfl) ?_
    obtain ⟨hg, hf⟩ := o_gi hf
    refine m_ild X hS (aC_32 q cI cZ) hg dX2_doMeet_73 ?_
    refine lv_icmp_ge (tgt := 97) hx hb dX2_doMeet_74 (by decide) (fun hc => ?_) (fun hc => ?_)
    · have hf := o_t hc hf
      refine lv_iconst (v := (0 : Int32)) hx hb dX2_doMeet_97 (by decide) ?_
      exact ret (Or.inl rfl) hf hS dX2_doMeet_98
    · have hf := o_f hc hf
      refine lv_aload_n hx hb dX2_doMeet_77 rfl (lv_at hl 1 rfl) ?_
      refine m_get X hS fl_2_15 (vC_8_3 q cI cZ _) dX2_doMeet_78 ?_
      refine lv_iload_n hx hb dX2_doMeet_81 rfl (lv_at hl 2 rfl) ?_
      obtain ⟨hg, hf⟩ := o_gi hf
      refine m_ild X hS (aC_33 q cI cZ) hg dX2_doMeet_82 ?_
      refine lv_aload_n hx hb dX2_doMeet_83 rfl (lv_at hl 1 rfl) ?_
      refine m_get X hS fl_2_15 (vC_8_3 q cI cZ _) dX2_doMeet_84 ?_
      refine lv_iload hx hb dX2_doMeet_87 (lv_at hl 0 rfl) ?_
      obtain ⟨hg, hf⟩ := o_gi hf
      refine m_ild X hS (aC_33 q cI cZ) hg dX2_doMeet_89 ?_
      refine lv_icmp_lt (tgt := 97) hx hb dX2_doMeet_90 (by decide) (fun hc => ?_) (fun hc => ?_)
      · have hf := o_t hc hf
        refine lv_iconst (v := (0 : Int32)) hx hb dX2_doMeet_97 (by decide) ?_
        exact ret (Or.inl rfl) hf hS dX2_doMeet_98
      · have hf := o_f hc hf
        refine lv_iconst (v := (1 : Int32)) hx hb dX2_doMeet_93 (by decide) ?_
        refine lv_goto (tgt := 98) hx hb dX2_doMeet_94 (by decide) ?_
        exact ret (Or.inr rfl) hf hS dX2_doMeet_98
  have k41 : ∀ (v1 : Int32) (v2 : Int32) (s0 : Int32) (c : Mm), X2_doMeet_j41 v1 v2 s0 c = some R → m_G p l e (m_rm 0 0) s m args below meth cd Q D (mkC q cI cZ) 50 q 5 41 [(0, .ref (q 8)), (1, .int v1), (2, .int v2)] [.int s0] c := by
    intro v1 v2 s0 c hf H locs ls hS hl
    unfold X2_doMeet_j41 at hf
    refine lv_istore_n (lv' := [(3, .int s0), (0, .ref (q 8)), (1, .int v1), (2, .int v2)]) hx hb dX2_doMeet_41 rfl hl (by decide) rfl (fun ls hl => ?_)
    refine lv_aload_n hx hb dX2_doMeet_42 rfl (lv_at hl 1 rfl) ?_
    refine m_get X hS fl_2_45 (vC_8_0 q cI cZ _) dX2_doMeet_43 ?_
    refine m_get X hS fl_2_95 (vC_4_7 q cI cZ _) dX2_doMeet_46 ?_
    refine lv_iload_n hx hb dX2_doMeet_49 rfl (lv_at hl 2 rfl) ?_
    obtain ⟨hg, hf⟩ := o_gi hf
    refine m_ild X hS (aC_22 q cI cZ) hg dX2_doMeet_50 ?_
    refine lv_if_ne (tgt := 58) hx hb dX2_doMeet_51 (by decide) (fun hc => ?_) (fun hc => ?_)
    · have hf := o_f hc hf
      refine lv_iload_n hx hb dX2_doMeet_58 rfl (lv_at hl 2 rfl) ?_
      exact k59 s0 v1 _ hf H locs ls hS (lv_sub hl [1, 0] rfl)
    · have hf := o_t hc hf
      refine lv_iload_n hx hb dX2_doMeet_54 rfl (lv_at hl 3 rfl) ?_
      refine lv_goto (tgt := 59) hx hb dX2_doMeet_55 (by decide) ?_
      exact k59 s0 v2 _ hf H locs ls hS (lv_sub hl [1, 0] rfl)
  intro H locs ls hS hl
  have hl : lv_has ls 5 [(0, .ref (q 8)), (1, .int v1), (2, .int v2)] := hl
  unfold X2_doMeet at hf
  refine lv_aload_n hx hb dX2_doMeet_0 rfl (lv_at hl 0 rfl) ?_
  refine m_get X hS fl_2_21 (vC_8_5 q cI cZ _) dX2_doMeet_1 ?_
  refine lv_iload_n hx hb dX2_doMeet_4 rfl (lv_at hl 1 rfl) ?_
  obtain ⟨hg, hf⟩ := o_gi hf
  refine m_ild X hS (aC_35 q cI cZ) hg dX2_doMeet_5 ?_
  refine lv_bipush (v := (-4 : Int32)) hx hb dX2_doMeet_6 (by decide) ?_
  refine lv_icmp_ne (tgt := 22) hx hb dX2_doMeet_8 (by decide) (fun hc => ?_) (fun hc => ?_)
  · have hf := o_f hc hf
    refine lv_iconst (v := (0 : Int32)) hx hb dX2_doMeet_22 (by decide) ?_
    exact ret (Or.inl rfl) hf hS dX2_doMeet_23
  · have hf := o_t hc hf
    refine lv_aload_n hx hb dX2_doMeet_11 rfl (lv_at hl 0 rfl) ?_
    refine m_get X hS fl_2_21 (vC_8_5 q cI cZ _) dX2_doMeet_12 ?_
    refine lv_iload_n hx hb dX2_doMeet_15 rfl (lv_at hl 2 rfl) ?_
    obtain ⟨hg, hf⟩ := o_gi hf
    refine m_ild X hS (aC_35 q cI cZ) hg dX2_doMeet_16 ?_
    refine lv_bipush (v := (-4 : Int32)) hx hb dX2_doMeet_17 (by decide) ?_
    refine lv_icmp_eq (tgt := 24) hx hb dX2_doMeet_19 (by decide) (fun hc => ?_) (fun hc => ?_)
    · have hf := o_t hc hf
      refine lv_aload_n hx hb dX2_doMeet_24 rfl (lv_at hl 0 rfl) ?_
      refine m_get X hS fl_2_45 (vC_8_0 q cI cZ _) dX2_doMeet_25 ?_
      refine m_get X hS fl_2_95 (vC_4_7 q cI cZ _) dX2_doMeet_28 ?_
      refine lv_iload_n hx hb dX2_doMeet_31 rfl (lv_at hl 1 rfl) ?_
      obtain ⟨hg, hf⟩ := o_gi hf
      refine m_ild X hS (aC_22 q cI cZ) hg dX2_doMeet_32 ?_
      refine lv_if_ne (tgt := 40) hx hb dX2_doMeet_33 (by decide) (fun hc => ?_) (fun hc => ?_)
      · have hf := o_f hc hf
        refine lv_iload_n hx hb dX2_doMeet_40 rfl (lv_at hl 2 rfl) ?_
        exact k41 v1 v2 v2 _ hf H locs ls hS (lv_sub hl [0, 1, 2] rfl)
      · have hf := o_t hc hf
        refine lv_iload_n hx hb dX2_doMeet_36 rfl (lv_at hl 1 rfl) ?_
        refine lv_goto (tgt := 41) hx hb dX2_doMeet_37 (by decide) ?_
        exact k41 v1 v2 v1 _ hf H locs ls hS (lv_sub hl [0, 1, 2] rfl)
    · have hf := o_f hc hf
      refine lv_iconst (v := (0 : Int32)) hx hb dX2_doMeet_22 (by decide) ?_
      exact ret (Or.inl rfl) hf hS dX2_doMeet_23

set_option maxHeartbeats 40000000 in
set_option maxRecDepth 100000 in
theorem c_X5_weight (l : Launch) (D : va_G) (cI cZ : ClassId) (q : Nat → Nat) (c : Mm) (sz : Nat) (pk : Nat) (hpk : pk = 5 ∨ pk = 6) (v2 : Int32) (v3 : Int32) (R : Int32 × Mm) (hf : X5_weight pk v2 v3 c = some R) : m_Mi l yX5_weight cX5_weight 4 (some .int) 0 0 D cI cZ (mkC q cI cZ) 50 q [.ref (q 7), .ref (q pk), .int v2, .int v3] c sz R := by
  refine m_enter_i (own := RX5) (by decide) rfl (Nat.le_of_ble_eq_true rfl) ?_
  intro p e s m args below meth cd Q X ret
  have hx := X.1
  have hb := X.2.1
  intro H locs ls hS hl
  have hl : lv_has ls 4 [(0, .ref (q 7)), (1, .ref (q pk)), (2, .int v2), (3, .int v3)] := hl
  unfold X5_weight at hf
  refine lv_iload_n hx hb dX5_weight_0 rfl (lv_at hl 2 rfl) ?_
  by_cases h_1 : v2 = (1 : Int32)
  · have hf := o_t h_1 hf
    refine lv_tableIn (off := 27) (tgt := 28) hx hb dX5_weight_1 (by rw [h_1]; decide) (by rw [h_1]; decide) (by rw [h_1]; decide) (by decide) ?_
    refine lv_aload_n hx hb dX5_weight_28 rfl (lv_at hl 1 rfl) ?_
    refine m_get X hS fl_5_28 (vC_pk_0 hpk _) dX5_weight_29 ?_
    refine lv_iload_n hx hb dX5_weight_32 rfl (lv_at hl 3 rfl) ?_
    obtain ⟨hg, hf⟩ := o_gi hf
    refine m_ild X hS (aC_pkL hpk) hg dX5_weight_33 ?_
    exact ret hf hS dX5_weight_34
  have hf := o_f h_1 hf
  by_cases h_2 : v2 = (2 : Int32)
  · have hf := o_t h_2 hf
    refine lv_tableIn (off := 34) (tgt := 35) hx hb dX5_weight_1 (by rw [h_2]; decide) (by rw [h_2]; decide) (by rw [h_2]; decide) (by decide) ?_
    refine lv_aload_n hx hb dX5_weight_35 rfl (lv_at hl 0 rfl) ?_
    refine m_get X hS fl_5_9 (vC_7_0 q cI cZ _) dX5_weight_36 ?_
    refine m_get X hS fl_5_33 (vC_4_8 q cI cZ _) dX5_weight_39 ?_
    refine lv_iload_n hx hb dX5_weight_42 rfl (lv_at hl 3 rfl) ?_
    obtain ⟨hg, hf⟩ := o_gi hf
    refine m_ild X hS (aC_23 q cI cZ) hg dX5_weight_43 ?_
    exact ret hf hS dX5_weight_44
  have hf := o_f h_2 hf
  by_cases h_3 : v2 = (3 : Int32)
  · have hf := o_t h_3 hf
    refine lv_tableIn (off := 44) (tgt := 45) hx hb dX5_weight_1 (by rw [h_3]; decide) (by rw [h_3]; decide) (by rw [h_3]; decide) (by decide) ?_
    refine lv_aload_n hx hb dX5_weight_45 rfl (lv_at hl 0 rfl) ?_
    refine m_get X hS fl_5_9 (vC_7_0 q cI cZ _) dX5_weight_46 ?_
    refine m_get X hS fl_5_36 (vC_4_2 q cI cZ _) dX5_weight_49 ?_
    refine lv_aload_n hx hb dX5_weight_52 rfl (lv_at hl 1 rfl) ?_
    refine m_get X hS fl_5_28 (vC_pk_0 hpk _) dX5_weight_53 ?_
    refine lv_iload_n hx hb dX5_weight_56 rfl (lv_at hl 3 rfl) ?_
    obtain ⟨hg, hf⟩ := o_gi hf
    refine m_ild X hS (aC_pkL hpk) hg dX5_weight_57 ?_
    refine lv_iadd hx hb dX5_weight_58 ?_
    refine lv_aload_n hx hb dX5_weight_59 rfl (lv_at hl 1 rfl) ?_
    refine m_get X hS fl_5_28 (vC_pk_0 hpk _) dX5_weight_60 ?_
    refine lv_iload_n hx hb dX5_weight_63 rfl (lv_at hl 3 rfl) ?_
    obtain ⟨hg, hf⟩ := o_gi hf
    refine m_ild X hS (aC_pkL hpk) hg dX5_weight_64 ?_
    refine lv_iconst (v := (1 : Int32)) hx hb dX5_weight_65 (by decide) ?_
    refine lv_iadd hx hb dX5_weight_66 ?_
    refine lv_imul hx hb dX5_weight_67 ?_
    exact ret hf hS dX5_weight_68
  have hf := o_f h_3 hf
  refine lv_tableOut (tgt := 69) hx hb dX5_weight_1 (by have := lv_neT h_1 (by decide : ((1 : Int32)).toInt = 1); have := lv_neT h_2 (by decide : ((2 : Int32)).toInt = 2); have := lv_neT h_3 (by decide : ((3 : Int32)).toInt = 3); omega) (by decide) ?_
  refine lv_iconst (v := (0 : Int32)) hx hb dX5_weight_69 (by decide) ?_
  exact ret hf hS dX5_weight_70

set_option maxHeartbeats 40000000 in
set_option maxRecDepth 100000 in
theorem c_X5_byCustom (l : Launch) (D : va_G) (cI cZ : ClassId) (q : Nat → Nat) (c : Mm) (sz : Nat) (pk : Nat) (hpk : pk = 5 ∨ pk = 6) (v2 : Int32) (v3 : Int32) (R : Int32 × Mm) (hf : X5_byCustom pk v2 v3 c = some R) : m_Mi l yX5_byCustom cX5_byCustom 6 (some .int) 0 0 D cI cZ (mkC q cI cZ) 50 q [.ref (q 7), .ref (q pk), .int v2, .int v3] c sz R := by
  refine m_enter_i (own := RX5) (by decide) rfl (Nat.le_of_ble_eq_true rfl) ?_
  intro p e s m args below meth cd Q X ret
  have hx := X.1
  have hb := X.2.1
  have k86 : ∀ (v2 : Int32) (v3 : Int32) (v5 : Int32) (s0 : Int32) (s1 : Int32) (c : Mm), X5_byCustom_j86 pk v2 v3 v5 s0 s1 c = some R → m_G p l e (m_rm 0 0) s m args below meth cd Q D (mkC q cI cZ) 50 q 6 86 [(0, .ref (q 7)), (2, .int v2), (3, .int v3), (5, .int v5)] [.int s1, .int s0] c := by
    intro v2 v3 v5 s0 s1 c hf H locs ls hS hl
    unfold X5_byCustom_j86 at hf
    refine lv_icmp_eq (tgt := 100) hx hb dX5_byCustom_86 (by decide) (fun hc => ?_) (fun hc => ?_)
    · have hf := o_t hc hf
      refine lv_aload_n hx hb dX5_byCustom_100 rfl (lv_at hl 0 rfl) ?_
      refine m_get X hS fl_5_9 (vC_7_0 q cI cZ _) dX5_byCustom_101 ?_
      refine m_get X hS fl_5_40 (vC_4_7 q cI cZ _) dX5_byCustom_104 ?_
      refine lv_iload_n hx hb dX5_byCustom_107 rfl (lv_at hl 1 rfl) ?_
      obtain ⟨hg, hf⟩ := o_gi hf
      refine m_ild X hS (aC_22 q cI cZ) hg dX5_byCustom_108 ?_
      refine lv_iconst (v := (1 : Int32)) hx hb dX5_byCustom_109 (by decide) ?_
      refine lv_icmp_ne (tgt := 117) hx hb dX5_byCustom_110 (by decide) (fun hc => ?_) (fun hc => ?_)
      · have hf := o_f hc hf
        refine lv_iload_n hx hb dX5_byCustom_117 rfl (lv_at hl 2 rfl) ?_
        exact ret hf hS dX5_byCustom_118
      · have hf := o_t hc hf
        refine lv_iload_n hx hb dX5_byCustom_113 rfl (lv_at hl 1 rfl) ?_
        refine lv_goto (tgt := 118) hx hb dX5_byCustom_114 (by decide) ?_
        exact ret hf hS dX5_byCustom_118
    · have hf := o_f hc hf
      refine lv_iload hx hb dX5_byCustom_89 (lv_at hl 3 rfl) ?_
      refine lv_if_eq (tgt := 98) hx hb dX5_byCustom_91 (by decide) (fun hc => ?_) (fun hc => ?_)
      · have hf := o_t hc hf
        refine lv_iload_n hx hb dX5_byCustom_98 rfl (lv_at hl 2 rfl) ?_
        exact ret hf hS dX5_byCustom_99
      · have hf := o_f hc hf
        refine lv_iload_n hx hb dX5_byCustom_94 rfl (lv_at hl 1 rfl) ?_
        refine lv_goto (tgt := 99) hx hb dX5_byCustom_95 (by decide) ?_
        exact ret hf hS dX5_byCustom_99
  have k68 : ∀ (v2 : Int32) (v3 : Int32) (s0 : Int32) (c : Mm), X5_byCustom_j68 pk v2 v3 s0 c = some R → m_G p l e (m_rm 0 0) s m args below meth cd Q D (mkC q cI cZ) 50 q 6 68 [(0, .ref (q 7)), (1, .ref (q pk)), (2, .int v2), (3, .int v3)] [.int s0] c := by
    intro v2 v3 s0 c hf H locs ls hS hl
    unfold X5_byCustom_j68 at hf
    refine lv_istore (lv' := [(5, .int s0), (0, .ref (q 7)), (1, .ref (q pk)), (2, .int v2), (3, .int v3)]) hx hb dX5_byCustom_68 hl (by decide) rfl (fun ls hl => ?_)
    refine lv_iload hx hb dX5_byCustom_70 (lv_at hl 0 rfl) ?_
    refine lv_aload_n hx hb dX5_byCustom_72 rfl (lv_at hl 2 rfl) ?_
    refine m_get X hS fl_5_28 (vC_pk_0 hpk _) dX5_byCustom_73 ?_
    refine lv_iload_n hx hb dX5_byCustom_76 rfl (lv_at hl 4 rfl) ?_
    obtain ⟨hg, hf⟩ := o_gi hf
    refine m_ild X hS (aC_pkL hpk) hg dX5_byCustom_77 ?_
    refine lv_if_ne (tgt := 85) hx hb dX5_byCustom_78 (by decide) (fun hc => ?_) (fun hc => ?_)
    · have hf := o_f hc hf
      refine lv_iconst (v := (0 : Int32)) hx hb dX5_byCustom_85 (by decide) ?_
      exact k86 v2 v3 s0 s0 (0 : Int32) _ hf H locs ls hS (lv_sub hl [1, 3, 4, 0] rfl)
    · have hf := o_t hc hf
      refine lv_iconst (v := (1 : Int32)) hx hb dX5_byCustom_81 (by decide) ?_
      refine lv_goto (tgt := 86) hx hb dX5_byCustom_82 (by decide) ?_
      exact k86 v2 v3 s0 s0 (1 : Int32) _ hf H locs ls hS (lv_sub hl [1, 3, 4, 0] rfl)
  have k40 : ∀ (v2 : Int32) (v3 : Int32) (v4 : Int32) (s0 : Int32) (s1 : Int32) (c : Mm), X5_byCustom_j40 pk v2 v3 v4 s0 s1 c = some R → m_G p l e (m_rm 0 0) s m args below meth cd Q D (mkC q cI cZ) 50 q 6 40 [(0, .ref (q 7)), (1, .ref (q pk)), (2, .int v2), (3, .int v3), (4, .int v4)] [.int s1, .int s0] c := by
    intro v2 v3 v4 s0 s1 c hf H locs ls hS hl
    unfold X5_byCustom_j40 at hf
    refine lv_icmp_eq (tgt := 54) hx hb dX5_byCustom_40 (by decide) (fun hc => ?_) (fun hc => ?_)
    · have hf := o_t hc hf
      refine lv_aload_n hx hb dX5_byCustom_54 rfl (lv_at hl 1 rfl) ?_
      refine m_get X hS fl_5_28 (vC_pk_0 hpk _) dX5_byCustom_55 ?_
      refine lv_iload_n hx hb dX5_byCustom_58 rfl (lv_at hl 2 rfl) ?_
      obtain ⟨hg, hf⟩ := o_gi hf
      refine m_ild X hS (aC_pkL hpk) hg dX5_byCustom_59 ?_
      refine lv_if_ne (tgt := 67) hx hb dX5_byCustom_60 (by decide) (fun hc => ?_) (fun hc => ?_)
      · have hf := o_f hc hf
        refine lv_iconst (v := (0 : Int32)) hx hb dX5_byCustom_67 (by decide) ?_
        exact k68 v2 v3 (0 : Int32) _ hf H locs ls hS (lv_sub hl [0, 1, 2, 3] rfl)
      · have hf := o_t hc hf
        refine lv_iconst (v := (1 : Int32)) hx hb dX5_byCustom_63 (by decide) ?_
        refine lv_goto (tgt := 68) hx hb dX5_byCustom_64 (by decide) ?_
        exact k68 v2 v3 (1 : Int32) _ hf H locs ls hS (lv_sub hl [0, 1, 2, 3] rfl)
    · have hf := o_f hc hf
      refine lv_iload hx hb dX5_byCustom_43 (lv_at hl 4 rfl) ?_
      refine lv_if_eq (tgt := 52) hx hb dX5_byCustom_45 (by decide) (fun hc => ?_) (fun hc => ?_)
      · have hf := o_t hc hf
        refine lv_iload_n hx hb dX5_byCustom_52 rfl (lv_at hl 2 rfl) ?_
        exact ret hf hS dX5_byCustom_53
      · have hf := o_f hc hf
        refine lv_iload_n hx hb dX5_byCustom_48 rfl (lv_at hl 3 rfl) ?_
        refine lv_goto (tgt := 53) hx hb dX5_byCustom_49 (by decide) ?_
        exact ret hf hS dX5_byCustom_53
  have k18 : ∀ (v2 : Int32) (v3 : Int32) (s0 : Int32) (c : Mm), X5_byCustom_j18 pk v2 v3 s0 c = some R → m_G p l e (m_rm 0 0) s m args below meth cd Q D (mkC q cI cZ) 50 q 6 18 [(0, .ref (q 7)), (1, .ref (q pk)), (2, .int v2), (3, .int v3)] [.int s0] c := by
    intro v2 v3 s0 c hf H locs ls hS hl
    unfold X5_byCustom_j18 at hf
    refine lv_istore (lv' := [(4, .int s0), (0, .ref (q 7)), (1, .ref (q pk)), (2, .int v2), (3, .int v3)]) hx hb dX5_byCustom_18 hl (by decide) rfl (fun ls hl => ?_)
    refine lv_iload hx hb dX5_byCustom_20 (lv_at hl 0 rfl) ?_
    refine lv_aload_n hx hb dX5_byCustom_22 rfl (lv_at hl 1 rfl) ?_
    refine m_get X hS fl_5_9 (vC_7_0 q cI cZ _) dX5_byCustom_23 ?_
    refine m_get X hS fl_5_15 (vC_4_10 q cI cZ _) dX5_byCustom_26 ?_
    refine lv_iload_n hx hb dX5_byCustom_29 rfl (lv_at hl 4 rfl) ?_
    obtain ⟨hg, hf⟩ := o_gi hf
    refine m_ild X hS (aC_25 q cI cZ) hg dX5_byCustom_30 ?_
    refine lv_iconst (v := (1 : Int32)) hx hb dX5_byCustom_31 (by decide) ?_
    refine lv_icmp_ne (tgt := 39) hx hb dX5_byCustom_32 (by decide) (fun hc => ?_) (fun hc => ?_)
    · have hf := o_f hc hf
      refine lv_iconst (v := (0 : Int32)) hx hb dX5_byCustom_39 (by decide) ?_
      exact k40 v2 v3 s0 s0 (0 : Int32) _ hf H locs ls hS (lv_sub hl [1, 2, 3, 4, 0] rfl)
    · have hf := o_t hc hf
      refine lv_iconst (v := (1 : Int32)) hx hb dX5_byCustom_35 (by decide) ?_
      refine lv_goto (tgt := 40) hx hb dX5_byCustom_36 (by decide) ?_
      exact k40 v2 v3 s0 s0 (1 : Int32) _ hf H locs ls hS (lv_sub hl [1, 2, 3, 4, 0] rfl)
  intro H locs ls hS hl
  have hl : lv_has ls 6 [(0, .ref (q 7)), (1, .ref (q pk)), (2, .int v2), (3, .int v3)] := hl
  unfold X5_byCustom at hf
  refine lv_aload_n hx hb dX5_byCustom_0 rfl (lv_at hl 0 rfl) ?_
  refine m_get X hS fl_5_9 (vC_7_0 q cI cZ _) dX5_byCustom_1 ?_
  refine m_get X hS fl_5_15 (vC_4_10 q cI cZ _) dX5_byCustom_4 ?_
  refine lv_iload_n hx hb dX5_byCustom_7 rfl (lv_at hl 2 rfl) ?_
  obtain ⟨hg, hf⟩ := o_gi hf
  refine m_ild X hS (aC_25 q cI cZ) hg dX5_byCustom_8 ?_
  refine lv_iconst (v := (1 : Int32)) hx hb dX5_byCustom_9 (by decide) ?_
  refine lv_icmp_ne (tgt := 17) hx hb dX5_byCustom_10 (by decide) (fun hc => ?_) (fun hc => ?_)
  · have hf := o_f hc hf
    refine lv_iconst (v := (0 : Int32)) hx hb dX5_byCustom_17 (by decide) ?_
    exact k18 v2 v3 (0 : Int32) _ hf H locs ls hS (lv_sub hl [0, 1, 2, 3] rfl)
  · have hf := o_t hc hf
    refine lv_iconst (v := (1 : Int32)) hx hb dX5_byCustom_13 (by decide) ?_
    refine lv_goto (tgt := 18) hx hb dX5_byCustom_14 (by decide) ?_
    exact k18 v2 v3 (1 : Int32) _ hf H locs ls hS (lv_sub hl [0, 1, 2, 3] rfl)

set_option maxHeartbeats 40000000 in
set_option maxRecDepth 100000 in
theorem c_X5_yielder (l : Launch) (D : va_G) (cI cZ : ClassId) (q : Nat → Nat) (c : Mm) (sz : Nat) (pk : Nat) (hpk : pk = 5 ∨ pk = 6) (v2 : Int32) (v3 : Int32) (v4 : Int32) (R : Int32 × Mm) (hf : X5_yielder pk v2 v3 v4 c = some R) : m_Mi l yX5_yielder cX5_yielder 10 (some .int) 1 25 D cI cZ (mkC q cI cZ) 50 q [.ref (q 7), .ref (q pk), .int v2, .int v3, .int v4] c sz R := by
  refine m_enter_i (own := RX5) (by decide) rfl (Nat.le_of_ble_eq_true rfl) ?_
  intro p e s m args below meth cd Q X ret
  have hx := X.1
  have hb := X.2.1
  have k117 : ∀ (v2 : Int32) (v3 : Int32) (v4 : Int32) (v7 : Int32) (s0 : Int32) (s1 : Int32) (c : Mm), X5_yielder_j117 pk v2 v3 v4 v7 s0 s1 c = some R → m_G p l e (m_rm 1 25) s m args below meth cd Q D (mkC q cI cZ) 50 q 10 117 [(0, .ref (q 7)), (1, .ref (q pk)), (2, .int v2), (3, .int v3), (4, .int v4), (7, .int v7)] [.int s1, .int s0] c := by
    intro v2 v3 v4 v7 s0 s1 c hf H locs ls hS hl
    unfold X5_yielder_j117 at hf
    refine lv_icmp_eq (tgt := 132) hx hb dX5_yielder_117 (by decide) (fun hc => ?_) (fun hc => ?_)
    · have hf := o_t hc hf
      refine lv_aload_n hx hb dX5_yielder_132 rfl (lv_at hl 0 rfl) ?_
      refine lv_aload_n hx hb dX5_yielder_133 rfl (lv_at hl 1 rfl) ?_
      refine lv_iload_n hx hb dX5_yielder_134 rfl (lv_at hl 2 rfl) ?_
      refine lv_iload_n hx hb dX5_yielder_135 rfl (lv_at hl 3 rfl) ?_
      obtain ⟨r1, c2, hq, hf⟩ := o_cal hf
      refine m_calli (rest := []) X hS hl.1 (c_X5_weight l D cI cZ q _ _ pk hpk v2 v3 _ hq) cv_5_21 (oC_7 q cI cZ _) rfl rfl ⟨Nat.le_of_ble_eq_true rfl, Nat.le_of_ble_eq_true rfl⟩ ⟨Nat.zero_le _, Nat.zero_le _⟩ (Nat.le_of_ble_eq_true rfl) dX5_yielder_136 (fun H locs hS => ?_)
      refine lv_istore (lv' := [(8, .int r1), (0, .ref (q 7)), (1, .ref (q pk)), (2, .int v2), (3, .int v3), (4, .int v4), (7, .int v7)]) hx hb dX5_yielder_139 hl (by decide) rfl (fun ls hl => ?_)
      refine lv_aload_n hx hb dX5_yielder_141 rfl (lv_at hl 1 rfl) ?_
      refine lv_aload_n hx hb dX5_yielder_142 rfl (lv_at hl 2 rfl) ?_
      refine lv_iload_n hx hb dX5_yielder_143 rfl (lv_at hl 3 rfl) ?_
      refine lv_iload hx hb dX5_yielder_144 (lv_at hl 5 rfl) ?_
      obtain ⟨r3, c4, hq, hf⟩ := o_cal hf
      refine m_calli (rest := []) X hS hl.1 (c_X5_weight l D cI cZ q _ _ pk hpk v2 v4 _ hq) cv_5_21 (oC_7 q cI cZ _) rfl rfl ⟨Nat.le_of_ble_eq_true rfl, Nat.le_of_ble_eq_true rfl⟩ ⟨Nat.zero_le _, Nat.zero_le _⟩ (Nat.le_of_ble_eq_true rfl) dX5_yielder_146 (fun H locs hS => ?_)
      refine lv_istore (lv' := [(9, .int r3), (8, .int r1), (0, .ref (q 7)), (1, .ref (q pk)), (2, .int v2), (3, .int v3), (4, .int v4), (7, .int v7)]) hx hb dX5_yielder_149 hl (by decide) rfl (fun ls hl => ?_)
      refine lv_iload hx hb dX5_yielder_151 (lv_at hl 1 rfl) ?_
      refine lv_iload hx hb dX5_yielder_153 (lv_at hl 0 rfl) ?_
      refine lv_icmp_ne (tgt := 167) hx hb dX5_yielder_155 (by decide) (fun hc => ?_) (fun hc => ?_)
      · have hf := o_f hc hf
        refine lv_iload hx hb dX5_yielder_167 (lv_at hl 1 rfl) ?_
        refine lv_iload hx hb dX5_yielder_169 (lv_at hl 0 rfl) ?_
        refine lv_icmp_ge (tgt := 178) hx hb dX5_yielder_171 (by decide) (fun hc => ?_) (fun hc => ?_)
        · have hf := o_t hc hf
          refine lv_iload hx hb dX5_yielder_178 (lv_at hl 6 rfl) ?_
          exact ret hf hS dX5_yielder_180
        · have hf := o_f hc hf
          refine lv_iload_n hx hb dX5_yielder_174 rfl (lv_at hl 5 rfl) ?_
          refine lv_goto (tgt := 180) hx hb dX5_yielder_175 (by decide) ?_
          exact ret hf hS dX5_yielder_180
      · have hf := o_t hc hf
        refine lv_aload_n hx hb dX5_yielder_158 rfl (lv_at hl 2 rfl) ?_
        refine lv_aload_n hx hb dX5_yielder_159 rfl (lv_at hl 3 rfl) ?_
        refine lv_iload_n hx hb dX5_yielder_160 rfl (lv_at hl 5 rfl) ?_
        refine lv_iload hx hb dX5_yielder_161 (lv_at hl 6 rfl) ?_
        obtain ⟨r5, c6, hq, hf⟩ := o_cal hf
        refine m_calli (rest := []) X hS hl.1 (c_X5_byCustom l D cI cZ q _ _ pk hpk v3 v4 _ hq) cv_5_25 (oC_7 q cI cZ _) rfl rfl ⟨Nat.le_of_ble_eq_true rfl, Nat.le_of_ble_eq_true rfl⟩ ⟨Nat.zero_le _, Nat.zero_le _⟩ (Nat.le_of_ble_eq_true rfl) dX5_yielder_163 (fun H locs hS => ?_)
        exact ret hf hS dX5_yielder_166
    · have hf := o_f hc hf
      refine lv_iload hx hb dX5_yielder_120 (lv_at hl 5 rfl) ?_
      refine lv_if_eq (tgt := 129) hx hb dX5_yielder_122 (by decide) (fun hc => ?_) (fun hc => ?_)
      · have hf := o_t hc hf
        refine lv_iload hx hb dX5_yielder_129 (lv_at hl 4 rfl) ?_
        exact ret hf hS dX5_yielder_131
      · have hf := o_f hc hf
        refine lv_iload_n hx hb dX5_yielder_125 rfl (lv_at hl 3 rfl) ?_
        refine lv_goto (tgt := 131) hx hb dX5_yielder_126 (by decide) ?_
        exact ret hf hS dX5_yielder_131
  have k94 : ∀ (v2 : Int32) (v3 : Int32) (v4 : Int32) (s0 : Int32) (c : Mm), X5_yielder_j94 pk v2 v3 v4 s0 c = some R → m_G p l e (m_rm 1 25) s m args below meth cd Q D (mkC q cI cZ) 50 q 10 94 [(0, .ref (q 7)), (1, .ref (q pk)), (2, .int v2), (3, .int v3), (4, .int v4)] [.int s0] c := by
    intro v2 v3 v4 s0 c hf H locs ls hS hl
    unfold X5_yielder_j94 at hf
    refine lv_istore (lv' := [(7, .int s0), (0, .ref (q 7)), (1, .ref (q pk)), (2, .int v2), (3, .int v3), (4, .int v4)]) hx hb dX5_yielder_94 hl (by decide) rfl (fun ls hl => ?_)
    refine lv_iload hx hb dX5_yielder_96 (lv_at hl 0 rfl) ?_
    refine lv_aload_n hx hb dX5_yielder_98 rfl (lv_at hl 1 rfl) ?_
    refine m_get X hS fl_5_9 (vC_7_0 q cI cZ _) dX5_yielder_99 ?_
    refine m_get X hS fl_5_15 (vC_4_10 q cI cZ _) dX5_yielder_102 ?_
    refine lv_iload hx hb dX5_yielder_105 (lv_at hl 5 rfl) ?_
    obtain ⟨hg, hf⟩ := o_gi hf
    refine m_ild X hS (aC_25 q cI cZ) hg dX5_yielder_107 ?_
    refine lv_iconst (v := (3 : Int32)) hx hb dX5_yielder_108 (by decide) ?_
    refine lv_icmp_ne (tgt := 116) hx hb dX5_yielder_109 (by decide) (fun hc => ?_) (fun hc => ?_)
    · have hf := o_f hc hf
      refine lv_iconst (v := (0 : Int32)) hx hb dX5_yielder_116 (by decide) ?_
      exact k117 v2 v3 v4 s0 s0 (0 : Int32) _ hf H locs ls hS (lv_sub hl [1, 2, 3, 4, 5, 0] rfl)
    · have hf := o_t hc hf
      refine lv_iconst (v := (1 : Int32)) hx hb dX5_yielder_112 (by decide) ?_
      refine lv_goto (tgt := 117) hx hb dX5_yielder_113 (by decide) ?_
      exact k117 v2 v3 v4 s0 s0 (1 : Int32) _ hf H locs ls hS (lv_sub hl [1, 2, 3, 4, 5, 0] rfl)
  have k64 : ∀ (v3 : Int32) (v4 : Int32) (v5 : Int32) (c : Mm), X5_yielder_j64 pk v3 v4 v5 c = some R → m_G p l e (m_rm 1 25) s m args below meth cd Q D (mkC q cI cZ) 50 q 10 64 [(3, .int v3), (4, .int v4), (5, .int v5)] [] c := by
    intro v3 v4 v5 c hf H locs ls hS hl
    unfold X5_yielder_j64 at hf
    refine lv_iload hx hb dX5_yielder_64 (lv_at hl 2 rfl) ?_
    refine lv_if_eq (tgt := 74) hx hb dX5_yielder_66 (by decide) (fun hc => ?_) (fun hc => ?_)
    · have hf := o_t hc hf
      refine lv_iload_n hx hb dX5_yielder_74 rfl (lv_at hl 0 rfl) ?_
      exact ret hf hS dX5_yielder_75
    · have hf := o_f hc hf
      refine lv_iload hx hb dX5_yielder_69 (lv_at hl 1 rfl) ?_
      refine lv_goto (tgt := 75) hx hb dX5_yielder_71 (by decide) ?_
      exact ret hf hS dX5_yielder_75
  have k54 : ∀ (v2 : Int32) (v3 : Int32) (v4 : Int32) (v5 : Int32) (v6 : Int32) (c : Mm), X5_yielder_j54 pk v2 v3 v4 v5 v6 c = some R → m_G p l e (m_rm 1 25) s m args below meth cd Q D (mkC q cI cZ) 50 q 10 54 [(0, .ref (q 7)), (1, .ref (q pk)), (2, .int v2), (3, .int v3), (4, .int v4), (5, .int v5), (6, .int v6)] [] c := by
    intro v2 v3 v4 v5 v6 c hf H locs ls hS hl
    unfold X5_yielder_j54 at hf
    refine lv_iload hx hb dX5_yielder_54 (lv_at hl 5 rfl) ?_
    refine lv_if_ne (tgt := 64) hx hb dX5_yielder_56 (by decide) (fun hc => ?_) (fun hc => ?_)
    · have hf := o_f hc hf
      exact k64 v3 v4 v5 _ hf H locs ls hS (lv_sub hl [3, 4, 5] rfl)
    · have hf := o_t hc hf
      refine lv_iload hx hb dX5_yielder_59 (lv_at hl 6 rfl) ?_
      refine lv_if_eq (tgt := 76) hx hb dX5_yielder_61 (by decide) (fun hc => ?_) (fun hc => ?_)
      · have hf := o_t hc hf
        refine lv_aload_n hx hb dX5_yielder_76 rfl (lv_at hl 0 rfl) ?_
        refine m_get X hS fl_5_9 (vC_7_0 q cI cZ _) dX5_yielder_77 ?_
        refine m_get X hS fl_5_15 (vC_4_10 q cI cZ _) dX5_yielder_80 ?_
        refine lv_iload_n hx hb dX5_yielder_83 rfl (lv_at hl 3 rfl) ?_
        obtain ⟨hg, hf⟩ := o_gi hf
        refine m_ild X hS (aC_25 q cI cZ) hg dX5_yielder_84 ?_
        refine lv_iconst (v := (3 : Int32)) hx hb dX5_yielder_85 (by decide) ?_
        refine lv_icmp_ne (tgt := 93) hx hb dX5_yielder_86 (by decide) (fun hc => ?_) (fun hc => ?_)
        · have hf := o_f hc hf
          refine lv_iconst (v := (0 : Int32)) hx hb dX5_yielder_93 (by decide) ?_
          exact k94 v2 v3 v4 (0 : Int32) _ hf H locs ls hS (lv_sub hl [0, 1, 2, 3, 4] rfl)
        · have hf := o_t hc hf
          refine lv_iconst (v := (1 : Int32)) hx hb dX5_yielder_89 (by decide) ?_
          refine lv_goto (tgt := 94) hx hb dX5_yielder_90 (by decide) ?_
          exact k94 v2 v3 v4 (1 : Int32) _ hf H locs ls hS (lv_sub hl [0, 1, 2, 3, 4] rfl)
      · have hf := o_f hc hf
        exact k64 v3 v4 v5 _ hf H locs ls hS (lv_sub hl [3, 4, 5] rfl)
  have k39 : ∀ (v2 : Int32) (v3 : Int32) (v4 : Int32) (v5 : Int32) (s0 : Int32) (c : Mm), X5_yielder_j39 pk v2 v3 v4 v5 s0 c = some R → m_G p l e (m_rm 1 25) s m args below meth cd Q D (mkC q cI cZ) 50 q 10 39 [(0, .ref (q 7)), (1, .ref (q pk)), (2, .int v2), (3, .int v3), (4, .int v4), (5, .int v5)] [.int s0] c := by
    intro v2 v3 v4 v5 s0 c hf H locs ls hS hl
    unfold X5_yielder_j39 at hf
    refine lv_istore (lv' := [(6, .int s0), (0, .ref (q 7)), (1, .ref (q pk)), (2, .int v2), (3, .int v3), (4, .int v4), (5, .int v5)]) hx hb dX5_yielder_39 hl (by decide) rfl (fun ls hl => ?_)
    refine lv_iload hx hb dX5_yielder_41 (lv_at hl 6 rfl) ?_
    refine lv_if_eq (tgt := 54) hx hb dX5_yielder_43 (by decide) (fun hc => ?_) (fun hc => ?_)
    · have hf := o_t hc hf
      exact k54 v2 v3 v4 v5 s0 _ hf H locs ls hS (lv_sub hl [1, 2, 3, 4, 5, 6, 0] rfl)
    · have hf := o_f hc hf
      refine lv_iload hx hb dX5_yielder_46 (lv_at hl 0 rfl) ?_
      refine lv_if_eq (tgt := 54) hx hb dX5_yielder_48 (by decide) (fun hc => ?_) (fun hc => ?_)
      · have hf := o_t hc hf
        exact k54 v2 v3 v4 v5 s0 _ hf H locs ls hS (lv_sub hl [1, 2, 3, 4, 5, 6, 0] rfl)
      · have hf := o_f hc hf
        refine lv_bipush (v := (-4 : Int32)) hx hb dX5_yielder_51 (by decide) ?_
        exact ret hf hS dX5_yielder_53
  have k18 : ∀ (v2 : Int32) (v3 : Int32) (v4 : Int32) (s0 : Int32) (c : Mm), X5_yielder_j18 pk v2 v3 v4 s0 c = some R → m_G p l e (m_rm 1 25) s m args below meth cd Q D (mkC q cI cZ) 50 q 10 18 [(0, .ref (q 7)), (1, .ref (q pk)), (2, .int v2), (3, .int v3), (4, .int v4)] [.int s0] c := by
    intro v2 v3 v4 s0 c hf H locs ls hS hl
    unfold X5_yielder_j18 at hf
    refine lv_istore (lv' := [(5, .int s0), (0, .ref (q 7)), (1, .ref (q pk)), (2, .int v2), (3, .int v3), (4, .int v4)]) hx hb dX5_yielder_18 hl (by decide) rfl (fun ls hl => ?_)
    refine lv_aload_n hx hb dX5_yielder_20 rfl (lv_at hl 1 rfl) ?_
    refine m_get X hS fl_5_9 (vC_7_0 q cI cZ _) dX5_yielder_21 ?_
    refine m_get X hS fl_5_15 (vC_4_10 q cI cZ _) dX5_yielder_24 ?_
    refine lv_iload hx hb dX5_yielder_27 (lv_at hl 5 rfl) ?_
    obtain ⟨hg, hf⟩ := o_gi hf
    refine m_ild X hS (aC_25 q cI cZ) hg dX5_yielder_29 ?_
    refine lv_iconst (v := (2 : Int32)) hx hb dX5_yielder_30 (by decide) ?_
    refine lv_icmp_ne (tgt := 38) hx hb dX5_yielder_31 (by decide) (fun hc => ?_) (fun hc => ?_)
    · have hf := o_f hc hf
      refine lv_iconst (v := (0 : Int32)) hx hb dX5_yielder_38 (by decide) ?_
      exact k39 v2 v3 v4 s0 (0 : Int32) _ hf H locs ls hS (lv_sub hl [1, 2, 3, 4, 5, 0] rfl)
    · have hf := o_t hc hf
      refine lv_iconst (v := (1 : Int32)) hx hb dX5_yielder_34 (by decide) ?_
      refine lv_goto (tgt := 39) hx hb dX5_yielder_35 (by decide) ?_
      exact k39 v2 v3 v4 s0 (1 : Int32) _ hf H locs ls hS (lv_sub hl [1, 2, 3, 4, 5, 0] rfl)
  intro H locs ls hS hl
  have hl : lv_has ls 10 [(0, .ref (q 7)), (1, .ref (q pk)), (2, .int v2), (3, .int v3), (4, .int v4)] := hl
  unfold X5_yielder at hf
  refine lv_aload_n hx hb dX5_yielder_0 rfl (lv_at hl 0 rfl) ?_
  refine m_get X hS fl_5_9 (vC_7_0 q cI cZ _) dX5_yielder_1 ?_
  refine m_get X hS fl_5_15 (vC_4_10 q cI cZ _) dX5_yielder_4 ?_
  refine lv_iload_n hx hb dX5_yielder_7 rfl (lv_at hl 3 rfl) ?_
  obtain ⟨hg, hf⟩ := o_gi hf
  refine m_ild X hS (aC_25 q cI cZ) hg dX5_yielder_8 ?_
  refine lv_iconst (v := (2 : Int32)) hx hb dX5_yielder_9 (by decide) ?_
  refine lv_icmp_ne (tgt := 17) hx hb dX5_yielder_10 (by decide) (fun hc => ?_) (fun hc => ?_)
  · have hf := o_f hc hf
    refine lv_iconst (v := (0 : Int32)) hx hb dX5_yielder_17 (by decide) ?_
    exact k18 v2 v3 v4 (0 : Int32) _ hf H locs ls hS (lv_sub hl [0, 1, 2, 3, 4] rfl)
  · have hf := o_t hc hf
    refine lv_iconst (v := (1 : Int32)) hx hb dX5_yielder_13 (by decide) ?_
    refine lv_goto (tgt := 18) hx hb dX5_yielder_14 (by decide) ?_
    exact k18 v2 v3 v4 (1 : Int32) _ hf H locs ls hS (lv_sub hl [0, 1, 2, 3, 4] rfl)

set_option maxHeartbeats 40000000 in
set_option maxRecDepth 100000 in
theorem c_X1_isNarrow (l : Launch) (D : va_G) (cI cZ : ClassId) (q : Nat → Nat) (c : Mm) (sz : Nat) (v1 : Int32) (R : Int32 × Mm) (hf : X1_isNarrow v1 c = some R) : m_Mi l yX1_isNarrow cX1_isNarrow 3 (some .boolean) 1 22 D cI cZ (mkC q cI cZ) 50 q [.ref (q 4), .int v1] c sz R := by
  refine m_enter_z (own := RX1) (by decide) rfl (Nat.le_of_ble_eq_true rfl) ?_
  intro p e s m args below meth cd Q X ret
  have hx := X.1
  have hb := X.2.1
  have k2 : ∀ (v1 : Int32), ∀ (n : Nat) (v2 : Int32) (c : Mm), m_lp1 (X1_isNarrow_b2 v1) n v2 c = some R → m_G p l e (m_rm 1 22) s m args below meth cd Q D (mkC q cI cZ) 50 q 3 2 [(0, .ref (q 4)), (1, .int v1), (2, .int v2)] [] c := by
    intro v1
    refine m_lp1_i ?_
    intro rc2 hrc2 v2 c hf H locs ls hS hl
    unfold X1_isNarrow_b2 at hf
    refine lv_iload_n hx hb dX1_isNarrow_2 rfl (lv_at hl 2 rfl) ?_
    refine lv_aload_n hx hb dX1_isNarrow_3 rfl (lv_at hl 0 rfl) ?_
    refine m_get X hS fl_1_37 (vC_4_1 q cI cZ _) dX1_isNarrow_4 ?_
    refine lv_icmp_ge (tgt := 37) hx hb dX1_isNarrow_7 (by decide) (fun hc => ?_) (fun hc => ?_)
    · have hf := o_t hc hf
      refine lv_iconst (v := (0 : Int32)) hx hb dX1_isNarrow_37 (by decide) ?_
      exact ret (Or.inl rfl) hf hS dX1_isNarrow_38
    · have hf := o_f hc hf
      refine lv_iload_n hx hb dX1_isNarrow_10 rfl (lv_at hl 1 rfl) ?_
      refine lv_aload_n hx hb dX1_isNarrow_11 rfl (lv_at hl 0 rfl) ?_
      refine m_get X hS fl_1_27 (vC_4_11 q cI cZ _) dX1_isNarrow_12 ?_
      refine lv_iload_n hx hb dX1_isNarrow_15 rfl (lv_at hl 2 rfl) ?_
      obtain ⟨hg, hf⟩ := o_gi hf
      refine m_ild X hS (aC_26 q cI cZ) hg dX1_isNarrow_16 ?_
      refine lv_aload_n hx hb dX1_isNarrow_17 rfl (lv_at hl 0 rfl) ?_
      refine m_get X hS fl_1_30 (vC_4_12 q cI cZ _) dX1_isNarrow_18 ?_
      refine lv_iload_n hx hb dX1_isNarrow_21 rfl (lv_at hl 2 rfl) ?_
      obtain ⟨hg, hf⟩ := o_gi hf
      refine m_ild X hS (aC_27 q cI cZ) hg dX1_isNarrow_22 ?_
      obtain ⟨r1, c2, hq, hf⟩ := o_cal hf
      refine m_calln (rest := []) X hS hl.1 X.2.2.2.2.2.2.2.2.2 (c_X9_isWithin l D cI cZ q _ _ v1 (c 26 (m_ix v2)) (c 27 (m_ix v2)) _ hq) cn_X9_isWithin rfl rfl ⟨Nat.le_of_ble_eq_true rfl, Nat.le_of_ble_eq_true rfl⟩ ⟨Nat.zero_le _, Nat.zero_le _⟩ (Nat.le_of_ble_eq_true rfl) dX1_isNarrow_23 (fun H locs hS => ?_)
      refine lv_if_eq (tgt := 31) hx hb dX1_isNarrow_26 (by decide) (fun hc => ?_) (fun hc => ?_)
      · have hf := o_t hc hf
        obtain ⟨x3, ex⟩ : ∃ y : Int32, y = v2 + (1 : Int32) := ⟨_, rfl⟩
        have hf := o_bnd hf x3 ex
        refine lv_iinc (v := x3) (lv' := [(2, .int x3), (0, .ref (q 4)), (1, .int v1)]) hx hb dX1_isNarrow_31 hl (k := 2) rfl (by rw [ex]; rfl) (by decide) rfl (fun ls hl => ?_)
        refine lv_goto (tgt := 2) hx hb dX1_isNarrow_34 (by decide) ?_
        exact hrc2 x3 _ hf H locs ls hS (lv_sub hl [1, 2, 0] rfl)
      · have hf := o_f hc hf
        refine lv_iconst (v := (1 : Int32)) hx hb dX1_isNarrow_29 (by decide) ?_
        exact ret (Or.inr rfl) hf hS dX1_isNarrow_30
  intro H locs ls hS hl
  have hl : lv_has ls 3 [(0, .ref (q 4)), (1, .int v1)] := hl
  unfold X1_isNarrow at hf
  refine lv_iconst (v := (0 : Int32)) hx hb dX1_isNarrow_0 (by decide) ?_
  refine lv_istore_n (lv' := [(2, .int (0 : Int32)), (0, .ref (q 4)), (1, .int v1)]) hx hb dX1_isNarrow_1 rfl hl (by decide) rfl (fun ls hl => ?_)
  exact k2 v1 _ (0 : Int32) _ hf H locs ls hS (lv_sub hl [1, 2, 0] rfl)

set_option maxHeartbeats 40000000 in
set_option maxRecDepth 100000 in
theorem c_X2_makeStand (l : Launch) (D : va_G) (cI cZ : ClassId) (q : Nat → Nat) (c : Mm) (sz : Nat) (v1 : Int32) (v2 : Int32) (R : Mm) (hf : X2_makeStand v1 v2 c = some R) : m_Mv l yX2_makeStand cX2_makeStand 3 1 21 D cI cZ (mkC q cI cZ) 50 q [.ref (q 8), .int v1, .int v2] c sz R := by
  refine m_enter_v (own := RX2) (by decide) rfl (Nat.le_of_ble_eq_true rfl) ?_
  intro p e s m args below meth cd Q X ret
  have hx := X.1
  have hb := X.2.1
  have k32 : ∀ (v1 : Int32) (v2 : Int32) (c : Mm), X2_makeStand_j32 v1 v2 c = some R → m_G p l e (m_rm 1 21) s m args below meth cd Q D (mkC q cI cZ) 50 q 3 32 [(0, .ref (q 8)), (1, .int v1), (2, .int v2)] [] c := by
    intro v1 v2 c hf H locs ls hS hl
    unfold X2_makeStand_j32 at hf
    refine lv_aload_n hx hb dX2_makeStand_32 rfl (lv_at hl 0 rfl) ?_
    refine m_get X hS fl_2_18 (vC_8_4 q cI cZ _) dX2_makeStand_33 ?_
    refine lv_iload_n hx hb dX2_makeStand_36 rfl (lv_at hl 1 rfl) ?_
    refine lv_dup2_11 hx hb dX2_makeStand_37 rfl rfl ?_
    obtain ⟨hg, hf⟩ := o_gi hf
    refine m_ild X hS (aC_34 q cI cZ) hg dX2_makeStand_38 ?_
    refine lv_iload_n hx hb dX2_makeStand_39 rfl (lv_at hl 2 rfl) ?_
    refine lv_iadd hx hb dX2_makeStand_40 ?_
    obtain ⟨hg, hf⟩ := o_gi hf
    refine m_ist X hS (aC_34 q cI cZ) hg dX2_makeStand_41 (fun c1 ec H locs hS => ?_)
    have hf := o_bnd hf c1 ec
    refine lv_aload_n hx hb dX2_makeStand_42 rfl (lv_at hl 0 rfl) ?_
    refine m_get X hS fl_2_24 (vC_8_6 q cI cZ _) dX2_makeStand_43 ?_
    refine lv_iload_n hx hb dX2_makeStand_46 rfl (lv_at hl 1 rfl) ?_
    refine lv_dup2_11 hx hb dX2_makeStand_47 rfl rfl ?_
    obtain ⟨hg, hf⟩ := o_gi hf
    refine m_ild X hS (aC_36 q cI cZ) hg dX2_makeStand_48 ?_
    refine lv_iload_n hx hb dX2_makeStand_49 rfl (lv_at hl 2 rfl) ?_
    refine lv_iadd hx hb dX2_makeStand_50 ?_
    obtain ⟨hg, hf⟩ := o_gi hf
    refine m_ist X hS (aC_36 q cI cZ) hg dX2_makeStand_51 (fun c2 ec H locs hS => ?_)
    have hf := o_bnd hf c2 ec
    refine lv_aload_n hx hb dX2_makeStand_52 rfl (lv_at hl 0 rfl) ?_
    refine lv_dup hx hb dX2_makeStand_53 rfl ?_
    refine m_get X hS fl_2_72 (vC_8_9 q cI cZ _) dX2_makeStand_54 ?_
    refine lv_iload_n hx hb dX2_makeStand_57 rfl (lv_at hl 2 rfl) ?_
    refine lv_iadd hx hb dX2_makeStand_58 ?_
    refine m_put X hS fp_2_72 (pC_8_9 q cI cZ) dX2_makeStand_59 (fun c3 ec H locs hS => ?_)
    have hf := o_bnd hf c3 ec
    exact ret hf hS dX2_makeStand_62
  intro H locs ls hS hl
  have hl : lv_has ls 3 [(0, .ref (q 8)), (1, .int v1), (2, .int v2)] := hl
  unfold X2_makeStand at hf
  refine lv_iload_n hx hb dX2_makeStand_0 rfl (lv_at hl 2 rfl) ?_
  refine lv_if_gt (tgt := 5) hx hb dX2_makeStand_1 (by decide) (fun hc => ?_) (fun hc => ?_)
  · have hf := o_t hc hf
    refine lv_aload_n hx hb dX2_makeStand_5 rfl (lv_at hl 0 rfl) ?_
    refine m_get X hS fl_2_18 (vC_8_4 q cI cZ _) dX2_makeStand_6 ?_
    refine lv_iload_n hx hb dX2_makeStand_9 rfl (lv_at hl 1 rfl) ?_
    obtain ⟨hg, hf⟩ := o_gi hf
    refine m_ild X hS (aC_34 q cI cZ) hg dX2_makeStand_10 ?_
    refine lv_if_ne (tgt := 32) hx hb dX2_makeStand_11 (by decide) (fun hc => ?_) (fun hc => ?_)
    · have hf := o_f hc hf
      exact k32 v1 v2 _ hf H locs ls hS (lv_sub hl [0, 1, 2] rfl)
    · have hf := o_t hc hf
      refine lv_aload_n hx hb dX2_makeStand_14 rfl (lv_at hl 0 rfl) ?_
      refine lv_iload_n hx hb dX2_makeStand_15 rfl (lv_at hl 1 rfl) ?_
      obtain ⟨r4, c5, hq, hf⟩ := o_cal hf
      refine m_calli (rest := []) X hS hl.1 (c_X2_isAtEnd l D cI cZ q _ _ v1 _ hq) cv_2_91 (oC_8 q cI cZ _) rfl rfl ⟨Nat.le_of_ble_eq_true rfl, Nat.le_of_ble_eq_true rfl⟩ ⟨Nat.zero_le _, Nat.zero_le _⟩ (Nat.le_of_ble_eq_true rfl) dX2_makeStand_16 (fun H locs hS => ?_)
      refine lv_if_ne (tgt := 32) hx hb dX2_makeStand_19 (by decide) (fun hc => ?_) (fun hc => ?_)
      · have hf := o_f hc hf
        exact k32 v1 v2 _ hf H locs ls hS (lv_sub hl [0, 1, 2] rfl)
      · have hf := o_t hc hf
        refine lv_aload_n hx hb dX2_makeStand_22 rfl (lv_at hl 0 rfl) ?_
        refine m_get X hS fl_2_30 (vC_8_8 q cI cZ _) dX2_makeStand_23 ?_
        refine lv_iload_n hx hb dX2_makeStand_26 rfl (lv_at hl 1 rfl) ?_
        refine lv_dup2_11 hx hb dX2_makeStand_27 rfl rfl ?_
        obtain ⟨hg, hf⟩ := o_gi hf
        refine m_ild X hS (aC_38 q cI cZ) hg dX2_makeStand_28 ?_
        refine lv_iconst (v := (1 : Int32)) hx hb dX2_makeStand_29 (by decide) ?_
        refine lv_iadd hx hb dX2_makeStand_30 ?_
        obtain ⟨hg, hf⟩ := o_gi hf
        refine m_ist X hS (aC_38 q cI cZ) hg dX2_makeStand_31 (fun c6 ec H locs hS => ?_)
        have hf := o_bnd hf c6 ec
        exact k32 v1 v2 _ hf H locs ls hS (lv_sub hl [0, 1, 2] rfl)
  · have hf := o_f hc hf
    exact ret hf hS dX2_makeStand_4

set_option maxHeartbeats 40000000 in
set_option maxRecDepth 100000 in
theorem c_X2_noteMeeting (l : Launch) (D : va_G) (cI cZ : ClassId) (q : Nat → Nat) (c : Mm) (sz : Nat) (v1 : Int32) (v2 : Int32) (v3 : Int32) (v4 : Int32) (R : Mm) (hf : X2_noteMeeting v1 v2 v3 v4 c = some R) : m_Mv l yX2_noteMeeting cX2_noteMeeting 5 0 0 D cI cZ (mkC q cI cZ) 50 q [.ref (q 8), .int v1, .int v2, .int v3, .int v4] c sz R := by
  refine m_enter_v (own := RX2) (by decide) rfl (Nat.le_of_ble_eq_true rfl) ?_
  intro p e s m args below meth cd Q X ret
  have hx := X.1
  have hb := X.2.1
  intro H locs ls hS hl
  have hl : lv_has ls 5 [(0, .ref (q 8)), (1, .int v1), (2, .int v2), (3, .int v3), (4, .int v4)] := hl
  unfold X2_noteMeeting at hf
  refine lv_aload_n hx hb dX2_noteMeeting_0 rfl (lv_at hl 0 rfl) ?_
  refine m_get X hS fl_2_75 (vC_8_11 q cI cZ _) dX2_noteMeeting_1 ?_
  refine lv_bipush (v := (15 : Int32)) hx hb dX2_noteMeeting_4 (by decide) ?_
  refine lv_icmp_lt (tgt := 10) hx hb dX2_noteMeeting_6 (by decide) (fun hc => ?_) (fun hc => ?_)
  · have hf := o_t hc hf
    refine lv_aload_n hx hb dX2_noteMeeting_10 rfl (lv_at hl 0 rfl) ?_
    refine m_get X hS fl_2_33 (vC_8_12 q cI cZ _) dX2_noteMeeting_11 ?_
    refine lv_aload_n hx hb dX2_noteMeeting_14 rfl (lv_at hl 0 rfl) ?_
    refine m_get X hS fl_2_75 (vC_8_11 q cI cZ _) dX2_noteMeeting_15 ?_
    refine lv_iload_n hx hb dX2_noteMeeting_18 rfl (lv_at hl 1 rfl) ?_
    obtain ⟨hg, hf⟩ := o_gi hf
    refine m_ist X hS (aC_39 q cI cZ) hg dX2_noteMeeting_19 (fun c1 ec H locs hS => ?_)
    have hf := o_bnd hf c1 ec
    refine lv_aload_n hx hb dX2_noteMeeting_20 rfl (lv_at hl 0 rfl) ?_
    refine m_get X hS fl_2_36 (vC_8_13 q cI cZ _) dX2_noteMeeting_21 ?_
    refine lv_aload_n hx hb dX2_noteMeeting_24 rfl (lv_at hl 0 rfl) ?_
    refine m_get X hS fl_2_75 (vC_8_11 q cI cZ _) dX2_noteMeeting_25 ?_
    refine lv_iload_n hx hb dX2_noteMeeting_28 rfl (lv_at hl 2 rfl) ?_
    obtain ⟨hg, hf⟩ := o_gi hf
    refine m_ist X hS (aC_40 q cI cZ) hg dX2_noteMeeting_29 (fun c2 ec H locs hS => ?_)
    have hf := o_bnd hf c2 ec
    refine lv_aload_n hx hb dX2_noteMeeting_30 rfl (lv_at hl 0 rfl) ?_
    refine m_get X hS fl_2_39 (vC_8_14 q cI cZ _) dX2_noteMeeting_31 ?_
    refine lv_aload_n hx hb dX2_noteMeeting_34 rfl (lv_at hl 0 rfl) ?_
    refine m_get X hS fl_2_75 (vC_8_11 q cI cZ _) dX2_noteMeeting_35 ?_
    refine lv_iload_n hx hb dX2_noteMeeting_38 rfl (lv_at hl 3 rfl) ?_
    obtain ⟨hg, hf⟩ := o_gi hf
    refine m_ist X hS (aC_41 q cI cZ) hg dX2_noteMeeting_39 (fun c3 ec H locs hS => ?_)
    have hf := o_bnd hf c3 ec
    refine lv_aload_n hx hb dX2_noteMeeting_40 rfl (lv_at hl 0 rfl) ?_
    refine m_get X hS fl_2_42 (vC_8_15 q cI cZ _) dX2_noteMeeting_41 ?_
    refine lv_aload_n hx hb dX2_noteMeeting_44 rfl (lv_at hl 0 rfl) ?_
    refine m_get X hS fl_2_75 (vC_8_11 q cI cZ _) dX2_noteMeeting_45 ?_
    refine lv_iload hx hb dX2_noteMeeting_48 (lv_at hl 4 rfl) ?_
    obtain ⟨hg, hf⟩ := o_gi hf
    refine m_ist X hS (aC_42 q cI cZ) hg dX2_noteMeeting_50 (fun c4 ec H locs hS => ?_)
    have hf := o_bnd hf c4 ec
    refine lv_aload_n hx hb dX2_noteMeeting_51 rfl (lv_at hl 0 rfl) ?_
    refine lv_dup hx hb dX2_noteMeeting_52 rfl ?_
    refine m_get X hS fl_2_75 (vC_8_11 q cI cZ _) dX2_noteMeeting_53 ?_
    refine lv_iconst (v := (1 : Int32)) hx hb dX2_noteMeeting_56 (by decide) ?_
    refine lv_iadd hx hb dX2_noteMeeting_57 ?_
    refine m_put X hS fp_2_75 (pC_8_11 q cI cZ) dX2_noteMeeting_58 (fun c5 ec H locs hS => ?_)
    have hf := o_bnd hf c5 ec
    exact ret hf hS dX2_noteMeeting_61
  · have hf := o_f hc hf
    exact ret hf hS dX2_noteMeeting_9

set_option maxHeartbeats 40000000 in
set_option maxRecDepth 100000 in
theorem c_X2_meet (l : Launch) (D : va_G) (cI cZ : ClassId) (q : Nat → Nat) (c : Mm) (sz : Nat) (pk : Nat) (hpk : pk = 5 ∨ pk = 6) (v2 : Int32) (v3 : Int32) (v4 : Int32) (v5 : Int32) (R : Mm) (hf : X2_meet pk v2 v3 v4 v5 c = some R) : m_Mv l yX2_meet cX2_meet 8 2 54 D cI cZ (mkC q cI cZ) 50 q [.ref (q 8), .ref (q pk), .int v2, .int v3, .int v4, .int v5] c sz R := by
  refine m_enter_v (own := RX2) (by decide) rfl (Nat.le_of_ble_eq_true rfl) ?_
  intro p e s m args below meth cd Q X ret
  have hx := X.1
  have hb := X.2.1
  have k205 : ∀ (s1 : Int32) (s2 : Int32) (s3 : Int32) (s5 : Int32) (c : Mm), X2_meet_j205 pk s1 s2 s3 s5 c = some R → m_G p l e (m_rm 2 54) s m args below meth cd Q D (mkC q cI cZ) 50 q 8 205 [] [.int s5, .ref (q 33), .int s3, .int s2, .int s1, .ref (q 8)] c := by
    intro s1 s2 s3 s5 c hf H locs ls hS hl
    unfold X2_meet_j205 at hf
    obtain ⟨hg, hf⟩ := o_gi hf
    refine m_ild X hS (aC_33 q cI cZ) hg dX2_meet_205 ?_
    obtain ⟨c1, hq, hf⟩ := o_cav hf
    refine m_callv (rest := []) X hS hl.1 (c_X2_noteMeeting l D cI cZ q _ _ s1 s2 s3 (c 33 (m_ix s5)) _ hq) cv_2_140 (oC_8 q cI cZ _) rfl rfl ⟨Nat.le_of_ble_eq_true rfl, Nat.le_of_ble_eq_true rfl⟩ ⟨Nat.zero_le _, Nat.zero_le _⟩ (Nat.le_of_ble_eq_true rfl) dX2_meet_206 (fun H locs hS => ?_)
    exact ret hf hS dX2_meet_209
  have k169 : ∀ (v3 : Int32) (v4 : Int32) (v5 : Int32) (v6 : Int32) (c : Mm), X2_meet_j169 pk v3 v4 v5 v6 c = some R → m_G p l e (m_rm 2 54) s m args below meth cd Q D (mkC q cI cZ) 50 q 8 169 [(0, .ref (q 8)), (3, .int v3), (4, .int v4), (5, .int v5), (6, .int v6)] [] c := by
    intro v3 v4 v5 v6 c hf H locs ls hS hl
    unfold X2_meet_j169 at hf
    refine lv_aload_n hx hb dX2_meet_169 rfl (lv_at hl 0 rfl) ?_
    refine lv_iload_n hx hb dX2_meet_170 rfl (lv_at hl 1 rfl) ?_
    refine lv_bipush (v := (8 : Int32)) hx hb dX2_meet_171 (by decide) ?_
    refine lv_iload hx hb dX2_meet_173 (lv_at hl 2 rfl) ?_
    refine lv_imul hx hb dX2_meet_175 ?_
    refine lv_iload hx hb dX2_meet_176 (lv_at hl 3 rfl) ?_
    refine lv_iadd hx hb dX2_meet_178 ?_
    refine lv_iload hx hb dX2_meet_179 (lv_at hl 4 rfl) ?_
    refine lv_aload_n hx hb dX2_meet_181 rfl (lv_at hl 0 rfl) ?_
    refine m_get X hS fl_2_15 (vC_8_3 q cI cZ _) dX2_meet_182 ?_
    refine lv_aload_n hx hb dX2_meet_185 rfl (lv_at hl 0 rfl) ?_
    refine m_get X hS fl_2_45 (vC_8_0 q cI cZ _) dX2_meet_186 ?_
    refine m_get X hS fl_2_95 (vC_4_7 q cI cZ _) dX2_meet_189 ?_
    refine lv_iload hx hb dX2_meet_192 (lv_at hl 2 rfl) ?_
    obtain ⟨hg, hf⟩ := o_gi hf
    refine m_ild X hS (aC_22 q cI cZ) hg dX2_meet_194 ?_
    refine lv_if_ne (tgt := 203) hx hb dX2_meet_195 (by decide) (fun hc => ?_) (fun hc => ?_)
    · have hf := o_f hc hf
      refine lv_iload hx hb dX2_meet_203 (lv_at hl 3 rfl) ?_
      exact k205 v3 (((8 : Int32) * v4) + v5) v6 v5 _ hf H locs ls hS (lv_sub hl [] rfl)
    · have hf := o_t hc hf
      refine lv_iload hx hb dX2_meet_198 (lv_at hl 2 rfl) ?_
      refine lv_goto (tgt := 205) hx hb dX2_meet_200 (by decide) ?_
      exact k205 v3 (((8 : Int32) * v4) + v5) v6 v4 _ hf H locs ls hS (lv_sub hl [] rfl)
  have k153 : ∀ (v3 : Int32) (v4 : Int32) (v5 : Int32) (v6 : Int32) (v7 : Int32) (s1 : Int32) (c : Mm), X2_meet_j153 pk v3 v4 v5 v6 v7 s1 c = some R → m_G p l e (m_rm 2 54) s m args below meth cd Q D (mkC q cI cZ) 50 q 8 153 [(0, .ref (q 8)), (3, .int v3), (4, .int v4), (5, .int v5), (6, .int v6), (7, .int v7)] [.int s1, .ref (q 8)] c := by
    intro v3 v4 v5 v6 v7 s1 c hf H locs ls hS hl
    unfold X2_meet_j153 at hf
    refine lv_iload hx hb dX2_meet_153 (lv_at hl 5 rfl) ?_
    obtain ⟨c2, hq, hf⟩ := o_cav hf
    refine m_callv (rest := []) X hS hl.1 (c_X2_makeStand l D cI cZ q _ _ s1 v7 _ hq) cv_2_130 (oC_8 q cI cZ _) rfl rfl ⟨Nat.le_of_ble_eq_true rfl, Nat.le_of_ble_eq_true rfl⟩ ⟨Nat.zero_le _, Nat.zero_le _⟩ (Nat.le_of_ble_eq_true rfl) dX2_meet_155 (fun H locs hS => ?_)
    refine lv_aload_n hx hb dX2_meet_158 rfl (lv_at hl 0 rfl) ?_
    refine m_get X hS fl_2_27 (vC_8_7 q cI cZ _) dX2_meet_159 ?_
    refine lv_iload hx hb dX2_meet_162 (lv_at hl 4 rfl) ?_
    refine lv_dup2_11 hx hb dX2_meet_164 rfl rfl ?_
    obtain ⟨hg, hf⟩ := o_gi hf
    refine m_ild X hS (aC_37 q cI cZ) hg dX2_meet_165 ?_
    refine lv_iconst (v := (1 : Int32)) hx hb dX2_meet_166 (by decide) ?_
    refine lv_iadd hx hb dX2_meet_167 ?_
    obtain ⟨hg, hf⟩ := o_gi hf
    refine m_ist X hS (aC_37 q cI cZ) hg dX2_meet_168 (fun c3 ec H locs hS => ?_)
    have hf := o_bnd hf c3 ec
    exact k169 v3 v4 v5 v6 _ hf H locs ls hS (lv_sub hl [0, 1, 2, 3, 4] rfl)
  have k112 : ∀ (v3 : Int32) (v4 : Int32) (v5 : Int32) (v6 : Int32) (s0 : Int32) (c : Mm), X2_meet_j112 pk v3 v4 v5 v6 s0 c = some R → m_G p l e (m_rm 2 54) s m args below meth cd Q D (mkC q cI cZ) 50 q 8 112 [(0, .ref (q 8)), (1, .ref (q pk)), (3, .int v3), (4, .int v4), (5, .int v5), (6, .int v6)] [.int s0] c := by
    intro v3 v4 v5 v6 s0 c hf H locs ls hS hl
    unfold X2_meet_j112 at hf
    refine lv_istore (lv' := [(7, .int s0), (0, .ref (q 8)), (1, .ref (q pk)), (3, .int v3), (4, .int v4), (5, .int v5), (6, .int v6)]) hx hb dX2_meet_112 hl (by decide) rfl (fun ls hl => ?_)
    refine lv_aload_n hx hb dX2_meet_114 rfl (lv_at hl 1 rfl) ?_
    refine lv_iload hx hb dX2_meet_115 (lv_at hl 6 rfl) ?_
    refine lv_aload_n hx hb dX2_meet_117 rfl (lv_at hl 1 rfl) ?_
    refine m_get X hS fl_2_45 (vC_8_0 q cI cZ _) dX2_meet_118 ?_
    refine m_get X hS fl_2_134 (vC_4_2 q cI cZ _) dX2_meet_121 ?_
    refine lv_aload_n hx hb dX2_meet_124 rfl (lv_at hl 2 rfl) ?_
    refine m_get X hS fl_2_137 (vC_pk_0 hpk _) dX2_meet_125 ?_
    refine lv_iload hx hb dX2_meet_128 (lv_at hl 6 rfl) ?_
    obtain ⟨hg, hf⟩ := o_gi hf
    refine m_ild X hS (aC_pkL hpk) hg dX2_meet_130 ?_
    refine lv_iadd hx hb dX2_meet_131 ?_
    refine lv_iload hx hb dX2_meet_132 (lv_at hl 0 rfl) ?_
    refine lv_iadd hx hb dX2_meet_134 ?_
    obtain ⟨c4, hq, hf⟩ := o_cav hf
    refine m_callv (rest := []) X hS hl.1 (c_X2_makeStand l D cI cZ q _ _ v6 (((c 4 2) + (c (m_pL pk) (m_ix v6))) + s0) _ hq) cv_2_130 (oC_8 q cI cZ _) rfl rfl ⟨Nat.le_of_ble_eq_true rfl, Nat.le_of_ble_eq_true rfl⟩ ⟨Nat.zero_le _, Nat.zero_le _⟩ (Nat.le_of_ble_eq_true rfl) dX2_meet_135 (fun H locs hS => ?_)
    refine lv_aload_n hx hb dX2_meet_138 rfl (lv_at hl 1 rfl) ?_
    refine lv_iload hx hb dX2_meet_139 (lv_at hl 6 rfl) ?_
    refine lv_iload hx hb dX2_meet_141 (lv_at hl 4 rfl) ?_
    refine lv_icmp_ne (tgt := 151) hx hb dX2_meet_143 (by decide) (fun hc => ?_) (fun hc => ?_)
    · have hf := o_f hc hf
      refine lv_iload hx hb dX2_meet_151 (lv_at hl 4 rfl) ?_
      exact k153 v3 v4 v5 v6 s0 v4 _ hf H locs ls hS (lv_sub hl [1, 3, 4, 5, 6, 0] rfl)
    · have hf := o_t hc hf
      refine lv_iload hx hb dX2_meet_146 (lv_at hl 5 rfl) ?_
      refine lv_goto (tgt := 153) hx hb dX2_meet_148 (by decide) ?_
      exact k153 v3 v4 v5 v6 s0 v5 _ hf H locs ls hS (lv_sub hl [1, 3, 4, 5, 6, 0] rfl)
  have k68 : ∀ (v3 : Int32) (v4 : Int32) (v5 : Int32) (v6 : Int32) (s0 : Int32) (s1 : Int32) (c : Mm), X2_meet_j68 pk v3 v4 v5 v6 s0 s1 c = some R → m_G p l e (m_rm 2 54) s m args below meth cd Q D (mkC q cI cZ) 50 q 8 68 [(0, .ref (q 8)), (3, .int v3), (4, .int v4), (5, .int v5), (6, .int v6)] [.int s1, .int s0] c := by
    intro v3 v4 v5 v6 s0 s1 c hf H locs ls hS hl
    unfold X2_meet_j68 at hf
    refine lv_iadd hx hb dX2_meet_68 ?_
    refine lv_topi (fun x5 ex => ?_)
    have hf := o_bnd hf x5 ex
    refine lv_istore (lv' := [(7, .int x5), (0, .ref (q 8)), (3, .int v3), (4, .int v4), (5, .int v5), (6, .int v6)]) hx hb dX2_meet_69 hl (by decide) rfl (fun ls hl => ?_)
    refine lv_aload_n hx hb dX2_meet_71 rfl (lv_at hl 1 rfl) ?_
    refine lv_iload hx hb dX2_meet_72 (lv_at hl 3 rfl) ?_
    refine lv_iload hx hb dX2_meet_74 (lv_at hl 0 rfl) ?_
    obtain ⟨c6, hq, hf⟩ := o_cav hf
    refine m_callv (rest := []) X hS hl.1 (c_X2_makeStand l D cI cZ q _ _ v4 x5 _ hq) cv_2_130 (oC_8 q cI cZ _) rfl rfl ⟨Nat.le_of_ble_eq_true rfl, Nat.le_of_ble_eq_true rfl⟩ ⟨Nat.zero_le _, Nat.zero_le _⟩ (Nat.le_of_ble_eq_true rfl) dX2_meet_76 (fun H locs hS => ?_)
    refine lv_aload_n hx hb dX2_meet_79 rfl (lv_at hl 1 rfl) ?_
    refine lv_iload hx hb dX2_meet_80 (lv_at hl 4 rfl) ?_
    refine lv_iload hx hb dX2_meet_82 (lv_at hl 0 rfl) ?_
    obtain ⟨c7, hq, hf⟩ := o_cav hf
    refine m_callv (rest := []) X hS hl.1 (c_X2_makeStand l D cI cZ q _ _ v5 x5 _ hq) cv_2_130 (oC_8 q cI cZ _) rfl rfl ⟨Nat.le_of_ble_eq_true rfl, Nat.le_of_ble_eq_true rfl⟩ ⟨Nat.zero_le _, Nat.zero_le _⟩ (Nat.le_of_ble_eq_true rfl) dX2_meet_84 (fun H locs hS => ?_)
    refine lv_goto (tgt := 169) hx hb dX2_meet_87 (by decide) ?_
    exact k169 v3 v4 v5 v6 _ hf H locs ls hS (lv_sub hl [1, 2, 3, 4, 5] rfl)
  have k63 : ∀ (v3 : Int32) (v4 : Int32) (v5 : Int32) (v6 : Int32) (s0 : Int32) (c : Mm), X2_meet_j63 pk v3 v4 v5 v6 s0 c = some R → m_G p l e (m_rm 2 54) s m args below meth cd Q D (mkC q cI cZ) 50 q 8 63 [(0, .ref (q 8)), (3, .int v3), (4, .int v4), (5, .int v5), (6, .int v6)] [.int s0] c := by
    intro v3 v4 v5 v6 s0 c hf H locs ls hS hl
    unfold X2_meet_j63 at hf
    refine lv_iconst (v := (3 : Int32)) hx hb dX2_meet_63 (by decide) ?_
    refine lv_goto (tgt := 68) hx hb dX2_meet_64 (by decide) ?_
    exact k68 v3 v4 v5 v6 s0 (3 : Int32) _ hf H locs ls hS (lv_sub hl [0, 1, 2, 3, 4] rfl)
  intro H locs ls hS hl
  have hl : lv_has ls 8 [(0, .ref (q 8)), (1, .ref (q pk)), (2, .int v2), (3, .int v3), (4, .int v4), (5, .int v5)] := hl
  unfold X2_meet at hf
  refine lv_aload_n hx hb dX2_meet_0 rfl (lv_at hl 0 rfl) ?_
  refine m_get X hS fl_2_49 (vC_8_1 q cI cZ _) dX2_meet_1 ?_
  refine lv_aload_n hx hb dX2_meet_4 rfl (lv_at hl 1 rfl) ?_
  refine lv_iload_n hx hb dX2_meet_5 rfl (lv_at hl 2 rfl) ?_
  refine lv_iload hx hb dX2_meet_6 (lv_at hl 4 rfl) ?_
  refine lv_iload hx hb dX2_meet_8 (lv_at hl 5 rfl) ?_
  obtain ⟨r8, c9, hq, hf⟩ := o_cal hf
  refine m_calli (rest := []) X hS hl.1 (c_X5_yielder l D cI cZ q _ _ pk hpk v2 v4 v5 _ hq) cv_2_118 (oC_7 q cI cZ _) rfl rfl ⟨Nat.le_of_ble_eq_true rfl, Nat.le_of_ble_eq_true rfl⟩ ⟨Nat.zero_le _, Nat.zero_le _⟩ (Nat.le_of_ble_eq_true rfl) dX2_meet_10 (fun H locs hS => ?_)
  refine lv_istore (lv' := [(6, .int r8), (0, .ref (q 8)), (1, .ref (q pk)), (2, .int v2), (3, .int v3), (4, .int v4), (5, .int v5)]) hx hb dX2_meet_13 hl (by decide) rfl (fun ls hl => ?_)
  refine lv_iload hx hb dX2_meet_15 (lv_at hl 0 rfl) ?_
  refine lv_bipush (v := (-4 : Int32)) hx hb dX2_meet_17 (by decide) ?_
  refine lv_icmp_ne (tgt := 90) hx hb dX2_meet_19 (by decide) (fun hc => ?_) (fun hc => ?_)
  · have hf := o_f hc hf
    refine lv_aload_n hx hb dX2_meet_90 rfl (lv_at hl 1 rfl) ?_
    refine m_get X hS fl_2_45 (vC_8_0 q cI cZ _) dX2_meet_91 ?_
    refine lv_aload_n hx hb dX2_meet_94 rfl (lv_at hl 1 rfl) ?_
    refine m_get X hS fl_2_15 (vC_8_3 q cI cZ _) dX2_meet_95 ?_
    refine lv_iload hx hb dX2_meet_98 (lv_at hl 0 rfl) ?_
    obtain ⟨hg, hf⟩ := o_gi hf
    refine m_ild X hS (aC_33 q cI cZ) hg dX2_meet_100 ?_
    obtain ⟨r10, c11, hq, hf⟩ := o_cal hf
    refine m_calli (rest := []) X hS hl.1 (c_X1_isNarrow l D cI cZ q _ _ (c9 33 (m_ix r8)) _ hq) cv_2_127 (oC_4 q cI cZ _) rfl rfl ⟨Nat.le_of_ble_eq_true rfl, Nat.le_of_ble_eq_true rfl⟩ ⟨Nat.zero_le _, Nat.zero_le _⟩ (Nat.le_of_ble_eq_true rfl) dX2_meet_101 (fun H locs hS => ?_)
    refine lv_if_eq (tgt := 111) hx hb dX2_meet_104 (by decide) (fun hc => ?_) (fun hc => ?_)
    · have hf := o_t hc hf
      refine lv_iconst (v := (0 : Int32)) hx hb dX2_meet_111 (by decide) ?_
      exact k112 v3 v4 v5 r8 (0 : Int32) _ hf H locs ls hS (lv_sub hl [1, 2, 4, 5, 6, 0] rfl)
    · have hf := o_f hc hf
      refine lv_iconst (v := (3 : Int32)) hx hb dX2_meet_107 (by decide) ?_
      refine lv_goto (tgt := 112) hx hb dX2_meet_108 (by decide) ?_
      exact k112 v3 v4 v5 r8 (3 : Int32) _ hf H locs ls hS (lv_sub hl [1, 2, 4, 5, 6, 0] rfl)
  · have hf := o_t hc hf
    refine lv_aload_n hx hb dX2_meet_22 rfl (lv_at hl 1 rfl) ?_
    refine m_get X hS fl_2_45 (vC_8_0 q cI cZ _) dX2_meet_23 ?_
    refine m_get X hS fl_2_124 (vC_4_3 q cI cZ _) dX2_meet_26 ?_
    refine lv_aload_n hx hb dX2_meet_29 rfl (lv_at hl 1 rfl) ?_
    refine m_get X hS fl_2_45 (vC_8_0 q cI cZ _) dX2_meet_30 ?_
    refine lv_aload_n hx hb dX2_meet_33 rfl (lv_at hl 1 rfl) ?_
    refine m_get X hS fl_2_15 (vC_8_3 q cI cZ _) dX2_meet_34 ?_
    refine lv_iload hx hb dX2_meet_37 (lv_at hl 5 rfl) ?_
    obtain ⟨hg, hf⟩ := o_gi hf
    refine m_ild X hS (aC_33 q cI cZ) hg dX2_meet_39 ?_
    obtain ⟨r12, c13, hq, hf⟩ := o_cal hf
    refine m_calli (rest := [.int (c9 4 3)]) X hS hl.1 (c_X1_isNarrow l D cI cZ q _ _ (c9 33 (m_ix v4)) _ hq) cv_2_127 (oC_4 q cI cZ _) rfl rfl ⟨Nat.le_of_ble_eq_true rfl, Nat.le_of_ble_eq_true rfl⟩ ⟨Nat.zero_le _, Nat.zero_le _⟩ (Nat.le_of_ble_eq_true rfl) dX2_meet_40 (fun H locs hS => ?_)
    refine lv_if_ne (tgt := 63) hx hb dX2_meet_43 (by decide) (fun hc => ?_) (fun hc => ?_)
    · have hf := o_f hc hf
      exact k63 v3 v4 v5 r8 (c9 4 3) _ hf H locs ls hS (lv_sub hl [1, 4, 5, 6, 0] rfl)
    · have hf := o_t hc hf
      refine lv_aload_n hx hb dX2_meet_46 rfl (lv_at hl 1 rfl) ?_
      refine m_get X hS fl_2_45 (vC_8_0 q cI cZ _) dX2_meet_47 ?_
      refine lv_aload_n hx hb dX2_meet_50 rfl (lv_at hl 1 rfl) ?_
      refine m_get X hS fl_2_15 (vC_8_3 q cI cZ _) dX2_meet_51 ?_
      refine lv_iload hx hb dX2_meet_54 (lv_at hl 6 rfl) ?_
      obtain ⟨hg, hf⟩ := o_gi hf
      refine m_ild X hS (aC_33 q cI cZ) hg dX2_meet_56 ?_
      obtain ⟨r14, c15, hq, hf⟩ := o_cal hf
      refine m_calli (rest := [.int (c9 4 3)]) X hS hl.1 (c_X1_isNarrow l D cI cZ q _ _ (c13 33 (m_ix v5)) _ hq) cv_2_127 (oC_4 q cI cZ _) rfl rfl ⟨Nat.le_of_ble_eq_true rfl, Nat.le_of_ble_eq_true rfl⟩ ⟨Nat.zero_le _, Nat.zero_le _⟩ (Nat.le_of_ble_eq_true rfl) dX2_meet_57 (fun H locs hS => ?_)
      refine lv_if_eq (tgt := 67) hx hb dX2_meet_60 (by decide) (fun hc => ?_) (fun hc => ?_)
      · have hf := o_t hc hf
        refine lv_iconst (v := (0 : Int32)) hx hb dX2_meet_67 (by decide) ?_
        exact k68 v3 v4 v5 r8 (c9 4 3) (0 : Int32) _ hf H locs ls hS (lv_sub hl [1, 4, 5, 6, 0] rfl)
      · have hf := o_f hc hf
        exact k63 v3 v4 v5 r8 (c9 4 3) _ hf H locs ls hS (lv_sub hl [1, 4, 5, 6, 0] rfl)

set_option maxHeartbeats 40000000 in
set_option maxRecDepth 100000 in
theorem c_X2_meetAll (l : Launch) (D : va_G) (cI cZ : ClassId) (q : Nat → Nat) (c : Mm) (sz : Nat) (pk : Nat) (hpk : pk = 5 ∨ pk = 6) (v2 : Int32) (v3 : Int32) (R : Mm) (hf : X2_meetAll pk v2 v3 c = some R) : m_Mv l yX2_meetAll cX2_meetAll 6 3 81 D cI cZ (mkC q cI cZ) 50 q [.ref (q 8), .ref (q pk), .int v2, .int v3] c sz R := by
  refine m_enter_v (own := RX2) (by decide) rfl (Nat.le_of_ble_eq_true rfl) ?_
  intro p e s m args below meth cd Q X ret
  have hx := X.1
  have hb := X.2.1
  have k84 : ∀ (v2 : Int32) (v3 : Int32) (v4 : Int32) (rc3 : Int32 → Mm → Option (Mm)) (hrc3 : ∀ (w4 : Int32) (c : Mm), rc3 w4 c = some R → m_G p l e (m_rm 3 81) s m args below meth cd Q D (mkC q cI cZ) 50 q 6 3 [(0, .ref (q 8)), (1, .ref (q pk)), (2, .int v2), (3, .int v3), (4, .int w4)] [] c) (c : Mm), X2_meetAll_j84 pk rc3 v2 v3 v4 c = some R → m_G p l e (m_rm 3 81) s m args below meth cd Q D (mkC q cI cZ) 50 q 6 84 [(0, .ref (q 8)), (1, .ref (q pk)), (2, .int v2), (3, .int v3), (4, .int v4)] [] c := by
    intro v2 v3 v4 rc3 hrc3 c hf H locs ls hS hl
    unfold X2_meetAll_j84 at hf
    obtain ⟨x1, ex⟩ : ∃ y : Int32, y = v4 + (1 : Int32) := ⟨_, rfl⟩
    have hf := o_bnd hf x1 ex
    refine lv_iinc (v := x1) (lv' := [(4, .int x1), (0, .ref (q 8)), (1, .ref (q pk)), (2, .int v2), (3, .int v3)]) hx hb dX2_meetAll_84 hl (k := 4) rfl (by rw [ex]; rfl) (by decide) rfl (fun ls hl => ?_)
    refine lv_goto (tgt := 3) hx hb dX2_meetAll_87 (by decide) ?_
    exact hrc3 x1 _ hf H locs ls hS (lv_sub hl [1, 2, 3, 4, 0] rfl)
  have k78 : ∀ (v2 : Int32) (v3 : Int32) (v4 : Int32) (v5 : Int32) (rc3 : Int32 → Mm → Option (Mm)) (hrc3 : ∀ (w4 : Int32) (c : Mm), rc3 w4 c = some R → m_G p l e (m_rm 3 81) s m args below meth cd Q D (mkC q cI cZ) 50 q 6 3 [(0, .ref (q 8)), (1, .ref (q pk)), (2, .int v2), (3, .int v3), (4, .int w4)] [] c) (rc21 : Int32 → Mm → Option (Mm)) (hrc21 : ∀ (w5 : Int32) (c : Mm), rc21 w5 c = some R → m_G p l e (m_rm 3 81) s m args below meth cd Q D (mkC q cI cZ) 50 q 6 21 [(0, .ref (q 8)), (1, .ref (q pk)), (2, .int v2), (3, .int v3), (4, .int v4), (5, .int w5)] [] c) (c : Mm), X2_meetAll_j78 pk rc3 rc21 v2 v3 v4 v5 c = some R → m_G p l e (m_rm 3 81) s m args below meth cd Q D (mkC q cI cZ) 50 q 6 78 [(0, .ref (q 8)), (1, .ref (q pk)), (2, .int v2), (3, .int v3), (4, .int v4), (5, .int v5)] [] c := by
    intro v2 v3 v4 v5 rc3 hrc3 rc21 hrc21 c hf H locs ls hS hl
    unfold X2_meetAll_j78 at hf
    obtain ⟨x2, ex⟩ : ∃ y : Int32, y = v5 + (1 : Int32) := ⟨_, rfl⟩
    have hf := o_bnd hf x2 ex
    refine lv_iinc (v := x2) (lv' := [(5, .int x2), (0, .ref (q 8)), (1, .ref (q pk)), (2, .int v2), (3, .int v3), (4, .int v4)]) hx hb dX2_meetAll_78 hl (k := 5) rfl (by rw [ex]; rfl) (by decide) rfl (fun ls hl => ?_)
    refine lv_goto (tgt := 21) hx hb dX2_meetAll_81 (by decide) ?_
    exact hrc21 x2 _ hf H locs ls hS (lv_sub hl [1, 2, 3, 4, 5, 0] rfl)
  have k21 : ∀ (v2 : Int32) (v3 : Int32) (v4 : Int32) (rc3 : Int32 → Mm → Option (Mm)) (hrc3 : ∀ (w4 : Int32) (c : Mm), rc3 w4 c = some R → m_G p l e (m_rm 3 81) s m args below meth cd Q D (mkC q cI cZ) 50 q 6 3 [(0, .ref (q 8)), (1, .ref (q pk)), (2, .int v2), (3, .int v3), (4, .int w4)] [] c), ∀ (n : Nat) (v5 : Int32) (c : Mm), m_lp1 (X2_meetAll_b21 pk rc3 v2 v3 v4) n v5 c = some R → m_G p l e (m_rm 3 81) s m args below meth cd Q D (mkC q cI cZ) 50 q 6 21 [(0, .ref (q 8)), (1, .ref (q pk)), (2, .int v2), (3, .int v3), (4, .int v4), (5, .int v5)] [] c := by
    intro v2 v3 v4 rc3 hrc3
    refine m_lp1_i ?_
    intro rc21 hrc21 v5 c hf H locs ls hS hl
    unfold X2_meetAll_b21 at hf
    refine lv_iload hx hb dX2_meetAll_21 (lv_at hl 5 rfl) ?_
    refine lv_aload_n hx hb dX2_meetAll_23 rfl (lv_at hl 0 rfl) ?_
    refine m_get X hS fl_2_45 (vC_8_0 q cI cZ _) dX2_meetAll_24 ?_
    refine m_get X hS fl_2_78 (vC_4_0 q cI cZ _) dX2_meetAll_27 ?_
    refine lv_icmp_ge (tgt := 84) hx hb dX2_meetAll_30 (by decide) (fun hc => ?_) (fun hc => ?_)
    · have hf := o_t hc hf
      exact k84 v2 v3 v4 rc3 hrc3 _ hf H locs ls hS (lv_sub hl [0, 1, 2, 3, 4] rfl)
    · have hf := o_f hc hf
      refine lv_aload_n hx hb dX2_meetAll_33 rfl (lv_at hl 0 rfl) ?_
      refine m_get X hS fl_2_45 (vC_8_0 q cI cZ _) dX2_meetAll_34 ?_
      refine m_get X hS fl_2_95 (vC_4_7 q cI cZ _) dX2_meetAll_37 ?_
      refine lv_iload hx hb dX2_meetAll_40 (lv_at hl 4 rfl) ?_
      obtain ⟨hg, hf⟩ := o_gi hf
      refine m_ild X hS (aC_22 q cI cZ) hg dX2_meetAll_42 ?_
      refine lv_aload_n hx hb dX2_meetAll_43 rfl (lv_at hl 0 rfl) ?_
      refine m_get X hS fl_2_45 (vC_8_0 q cI cZ _) dX2_meetAll_44 ?_
      refine m_get X hS fl_2_95 (vC_4_7 q cI cZ _) dX2_meetAll_47 ?_
      refine lv_iload hx hb dX2_meetAll_50 (lv_at hl 5 rfl) ?_
      obtain ⟨hg, hf⟩ := o_gi hf
      refine m_ild X hS (aC_22 q cI cZ) hg dX2_meetAll_52 ?_
      refine lv_icmp_eq (tgt := 78) hx hb dX2_meetAll_53 (by decide) (fun hc => ?_) (fun hc => ?_)
      · have hf := o_t hc hf
        exact k78 v2 v3 v4 v5 rc3 hrc3 rc21 hrc21 _ hf H locs ls hS (lv_sub hl [0, 1, 2, 3, 4, 5] rfl)
      · have hf := o_f hc hf
        refine lv_aload_n hx hb dX2_meetAll_56 rfl (lv_at hl 0 rfl) ?_
        refine lv_iload hx hb dX2_meetAll_57 (lv_at hl 4 rfl) ?_
        refine lv_iload hx hb dX2_meetAll_59 (lv_at hl 5 rfl) ?_
        obtain ⟨r3, c4, hq, hf⟩ := o_cal hf
        refine m_calli (rest := []) X hS hl.1 (c_X2_doMeet l D cI cZ q _ _ v4 v5 _ hq) cv_2_110 (oC_8 q cI cZ _) rfl rfl ⟨Nat.le_of_ble_eq_true rfl, Nat.le_of_ble_eq_true rfl⟩ ⟨Nat.zero_le _, Nat.zero_le _⟩ (Nat.le_of_ble_eq_true rfl) dX2_meetAll_61 (fun H locs hS => ?_)
        refine lv_if_eq (tgt := 78) hx hb dX2_meetAll_64 (by decide) (fun hc => ?_) (fun hc => ?_)
        · have hf := o_t hc hf
          exact k78 v2 v3 v4 v5 rc3 hrc3 rc21 hrc21 _ hf H locs ls hS (lv_sub hl [0, 1, 2, 3, 4, 5] rfl)
        · have hf := o_f hc hf
          refine lv_aload_n hx hb dX2_meetAll_67 rfl (lv_at hl 0 rfl) ?_
          refine lv_aload_n hx hb dX2_meetAll_68 rfl (lv_at hl 1 rfl) ?_
          refine lv_iload_n hx hb dX2_meetAll_69 rfl (lv_at hl 2 rfl) ?_
          refine lv_iload_n hx hb dX2_meetAll_70 rfl (lv_at hl 3 rfl) ?_
          refine lv_iload hx hb dX2_meetAll_71 (lv_at hl 4 rfl) ?_
          refine lv_iload hx hb dX2_meetAll_73 (lv_at hl 5 rfl) ?_
          obtain ⟨c5, hq, hf⟩ := o_cav hf
          refine m_callv (rest := []) X hS hl.1 (c_X2_meet l D cI cZ q _ _ pk hpk v2 v3 v4 v5 _ hq) cv_2_114 (oC_8 q cI cZ _) rfl rfl ⟨Nat.le_of_ble_eq_true rfl, Nat.le_of_ble_eq_true rfl⟩ ⟨Nat.zero_le _, Nat.zero_le _⟩ (Nat.le_of_ble_eq_true rfl) dX2_meetAll_75 (fun H locs hS => ?_)
          exact k78 v2 v3 v4 v5 rc3 hrc3 rc21 hrc21 _ hf H locs ls hS (lv_sub hl [0, 1, 2, 3, 4, 5] rfl)
  have k3 : ∀ (v2 : Int32) (v3 : Int32), ∀ (n : Nat) (v4 : Int32) (c : Mm), m_lp1 (X2_meetAll_b3 pk v2 v3) n v4 c = some R → m_G p l e (m_rm 3 81) s m args below meth cd Q D (mkC q cI cZ) 50 q 6 3 [(0, .ref (q 8)), (1, .ref (q pk)), (2, .int v2), (3, .int v3), (4, .int v4)] [] c := by
    intro v2 v3
    refine m_lp1_i ?_
    intro rc3 hrc3 v4 c hf H locs ls hS hl
    unfold X2_meetAll_b3 at hf
    refine lv_iload hx hb dX2_meetAll_3 (lv_at hl 4 rfl) ?_
    refine lv_aload_n hx hb dX2_meetAll_5 rfl (lv_at hl 0 rfl) ?_
    refine m_get X hS fl_2_45 (vC_8_0 q cI cZ _) dX2_meetAll_6 ?_
    refine m_get X hS fl_2_78 (vC_4_0 q cI cZ _) dX2_meetAll_9 ?_
    refine lv_icmp_ge (tgt := 90) hx hb dX2_meetAll_12 (by decide) (fun hc => ?_) (fun hc => ?_)
    · have hf := o_t hc hf
      exact ret hf hS dX2_meetAll_90
    · have hf := o_f hc hf
      refine lv_iload hx hb dX2_meetAll_15 (lv_at hl 4 rfl) ?_
      refine lv_iconst (v := (1 : Int32)) hx hb dX2_meetAll_17 (by decide) ?_
      refine lv_iadd hx hb dX2_meetAll_18 ?_
      refine lv_topi (fun x6 ex => ?_)
      have hf := o_bnd hf x6 ex
      refine lv_istore (lv' := [(5, .int x6), (0, .ref (q 8)), (1, .ref (q pk)), (2, .int v2), (3, .int v3), (4, .int v4)]) hx hb dX2_meetAll_19 hl (by decide) rfl (fun ls hl => ?_)
      exact k21 v2 v3 v4 rc3 hrc3 _ x6 _ hf H locs ls hS (lv_sub hl [1, 2, 3, 4, 5, 0] rfl)
  intro H locs ls hS hl
  have hl : lv_has ls 6 [(0, .ref (q 8)), (1, .ref (q pk)), (2, .int v2), (3, .int v3)] := hl
  unfold X2_meetAll at hf
  refine lv_iconst (v := (0 : Int32)) hx hb dX2_meetAll_0 (by decide) ?_
  refine lv_istore (lv' := [(4, .int (0 : Int32)), (0, .ref (q 8)), (1, .ref (q pk)), (2, .int v2), (3, .int v3)]) hx hb dX2_meetAll_1 hl (by decide) rfl (fun ls hl => ?_)
  exact k3 v2 v3 _ (0 : Int32) _ hf H locs ls hS (lv_sub hl [1, 2, 3, 4, 0] rfl)

set_option maxHeartbeats 40000000 in
set_option maxRecDepth 100000 in
theorem c_X2_run (l : Launch) (D : va_G) (cI cZ : ClassId) (q : Nat → Nat) (c : Mm) (sz : Nat) (pk : Nat) (hpk : pk = 5 ∨ pk = 6) (v2 : Int32) (v3 : Int32) (R : Int32 × Mm) (hf : X2_run pk v2 v3 c = some R) : m_Mi l yX2_run cX2_run 5 (some .int) 4 106 D cI cZ (mkC q cI cZ) 50 q [.ref (q 8), .ref (q pk), .int v2, .int v3] c sz R := by
  refine m_enter_i (own := RX2) (by decide) rfl (Nat.le_of_ble_eq_true rfl) ?_
  intro p e s m args below meth cd Q X ret
  have hx := X.1
  have hb := X.2.1
  have k45 : ∀ (c : Mm), X2_run_j45 pk c = some R → m_G p l e (m_rm 4 106) s m args below meth cd Q D (mkC q cI cZ) 50 q 5 45 [(0, .ref (q 8))] [] c := by
    intro c hf H locs ls hS hl
    unfold X2_run_j45 at hf
    refine lv_aload_n hx hb dX2_run_45 rfl (lv_at hl 0 rfl) ?_
    refine m_get X hS fl_2_72 (vC_8_9 q cI cZ _) dX2_run_46 ?_
    exact ret hf hS dX2_run_49
  have k8 : ∀ (v2 : Int32) (v3 : Int32), ∀ (n : Nat) (v4 : Int32) (c : Mm), m_lp1 (X2_run_b8 pk v2 v3) n v4 c = some R → m_G p l e (m_rm 4 106) s m args below meth cd Q D (mkC q cI cZ) 50 q 5 8 [(0, .ref (q 8)), (1, .ref (q pk)), (2, .int v2), (3, .int v3), (4, .int v4)] [] c := by
    intro v2 v3
    refine m_lp1_i ?_
    intro rc8 hrc8 v4 c hf H locs ls hS hl
    unfold X2_run_b8 at hf
    refine lv_iload hx hb dX2_run_8 (lv_at hl 4 rfl) ?_
    refine lv_iload_n hx hb dX2_run_10 rfl (lv_at hl 3 rfl) ?_
    refine lv_icmp_gt (tgt := 45) hx hb dX2_run_11 (by decide) (fun hc => ?_) (fun hc => ?_)
    · have hf := o_t hc hf
      exact k45 _ hf H locs ls hS (lv_sub hl [0] rfl)
    · have hf := o_f hc hf
      refine lv_aload_n hx hb dX2_run_14 rfl (lv_at hl 0 rfl) ?_
      refine m_get X hS fl_2_57 (vC_8_10 q cI cZ _) dX2_run_15 ?_
      refine lv_if_le (tgt := 45) hx hb dX2_run_18 (by decide) (fun hc => ?_) (fun hc => ?_)
      · have hf := o_t hc hf
        exact k45 _ hf H locs ls hS (lv_sub hl [0] rfl)
      · have hf := o_f hc hf
        refine lv_aload_n hx hb dX2_run_21 rfl (lv_at hl 0 rfl) ?_
        obtain ⟨c1, hq, hf⟩ := o_cav hf
        refine m_callv (rest := []) X hS hl.1 (c_X2_goOn l D cI cZ q _ _ _ hq) cv_2_61 (oC_8 q cI cZ _) rfl rfl ⟨Nat.le_of_ble_eq_true rfl, Nat.le_of_ble_eq_true rfl⟩ ⟨Nat.zero_le _, Nat.zero_le _⟩ (Nat.le_of_ble_eq_true rfl) dX2_run_22 (fun H locs hS => ?_)
        refine lv_aload_n hx hb dX2_run_25 rfl (lv_at hl 0 rfl) ?_
        refine lv_aload_n hx hb dX2_run_26 rfl (lv_at hl 1 rfl) ?_
        refine lv_iload_n hx hb dX2_run_27 rfl (lv_at hl 2 rfl) ?_
        refine lv_iload hx hb dX2_run_28 (lv_at hl 4 rfl) ?_
        obtain ⟨c2, hq, hf⟩ := o_cav hf
        refine m_callv (rest := []) X hS hl.1 (c_X2_meetAll l D cI cZ q _ _ pk hpk v2 v4 _ hq) cv_2_64 (oC_8 q cI cZ _) rfl rfl ⟨Nat.le_of_ble_eq_true rfl, Nat.le_of_ble_eq_true rfl⟩ ⟨Nat.zero_le _, Nat.zero_le _⟩ (Nat.le_of_ble_eq_true rfl) dX2_run_30 (fun H locs hS => ?_)
        refine lv_aload_n hx hb dX2_run_33 rfl (lv_at hl 0 rfl) ?_
        refine lv_iload hx hb dX2_run_34 (lv_at hl 4 rfl) ?_
        obtain ⟨c3, hq, hf⟩ := o_cav hf
        refine m_callv (rest := []) X hS hl.1 (c_X2_arrive l D cI cZ q _ _ v4 _ hq) cv_2_68 (oC_8 q cI cZ _) rfl rfl ⟨Nat.le_of_ble_eq_true rfl, Nat.le_of_ble_eq_true rfl⟩ ⟨Nat.zero_le _, Nat.zero_le _⟩ (Nat.le_of_ble_eq_true rfl) dX2_run_36 (fun H locs hS => ?_)
        obtain ⟨x4, ex⟩ : ∃ y : Int32, y = v4 + (1 : Int32) := ⟨_, rfl⟩
        have hf := o_bnd hf x4 ex
        refine lv_iinc (v := x4) (lv' := [(4, .int x4), (0, .ref (q 8)), (1, .ref (q pk)), (2, .int v2), (3, .int v3)]) hx hb dX2_run_39 hl (k := 4) rfl (by rw [ex]; rfl) (by decide) rfl (fun ls hl => ?_)
        refine lv_goto (tgt := 8) hx hb dX2_run_42 (by decide) ?_
        exact hrc8 x4 _ hf H locs ls hS (lv_sub hl [1, 2, 3, 4, 0] rfl)
  intro H locs ls hS hl
  have hl : lv_has ls 5 [(0, .ref (q 8)), (1, .ref (q pk)), (2, .int v2), (3, .int v3)] := hl
  unfold X2_run at hf
  refine lv_aload_n hx hb dX2_run_0 rfl (lv_at hl 0 rfl) ?_
  refine lv_aload_n hx hb dX2_run_1 rfl (lv_at hl 1 rfl) ?_
  obtain ⟨c5, hq, hf⟩ := o_cav hf
  refine m_callv (rest := []) X hS hl.1 (c_X2_begin l D cI cZ q _ _ pk hpk _ hq) cv_2_53 (oC_8 q cI cZ _) rfl rfl ⟨Nat.le_of_ble_eq_true rfl, Nat.le_of_ble_eq_true rfl⟩ ⟨Nat.zero_le _, Nat.zero_le _⟩ (Nat.le_of_ble_eq_true rfl) dX2_run_2 (fun H locs hS => ?_)
  refine lv_iconst (v := (1 : Int32)) hx hb dX2_run_5 (by decide) ?_
  refine lv_istore (lv' := [(4, .int (1 : Int32)), (0, .ref (q 8)), (1, .ref (q pk)), (2, .int v2), (3, .int v3)]) hx hb dX2_run_6 hl (by decide) rfl (fun ls hl => ?_)
  exact k8 v2 v3 _ (1 : Int32) _ hf H locs ls hS (lv_sub hl [1, 2, 3, 4, 0] rfl)

set_option maxHeartbeats 40000000 in
set_option maxRecDepth 100000 in
theorem c_X9_where (l : Launch) (D : va_G) (cI cZ : ClassId) (q : Nat → Nat) (c : Mm) (sz : Nat) (v1 : Int32) (v2 : Int32) (v3 : Int32) (R : Int32 × Mm) (hf : X9_where v1 v2 v3 c = some R) : m_Mi l yX9_where cX9_where 4 (some .int) 5 130 D cI cZ (mkC q cI cZ) 50 q [.ref (q 0), .int v1, .int v2, .int v3] c sz R := by
  refine m_enter_i (own := RX9) (by decide) rfl (Nat.le_of_ble_eq_true rfl) ?_
  intro p e s m args below meth cd Q X ret
  have hx := X.1
  have hb := X.2.1
  intro H locs ls hS hl
  have hl : lv_has ls 4 [(0, .ref (q 0)), (1, .int v1), (2, .int v2), (3, .int v3)] := hl
  unfold X9_where at hf
  refine lv_iload_n hx hb dX9_where_0 rfl (lv_at hl 1 rfl) ?_
  obtain ⟨r1, c2, hq, hf⟩ := o_cal hf
  refine m_calls (rest := []) X hS hl.1 (c_X9_isRule l D cI cZ q _ _ v1 _ hq) cs_9_142 rfl rfl ⟨Nat.le_of_ble_eq_true rfl, Nat.le_of_ble_eq_true rfl⟩ ⟨Nat.zero_le _, Nat.zero_le _⟩ (Nat.le_of_ble_eq_true rfl) dX9_where_1 (fun H locs hS => ?_)
  refine lv_if_eq (tgt := 25) hx hb dX9_where_4 (by decide) (fun hc => ?_) (fun hc => ?_)
  · have hf := o_t hc hf
    refine lv_iconst (v := (-1 : Int32)) hx hb dX9_where_25 (by decide) ?_
    exact ret hf hS dX9_where_26
  · have hf := o_f hc hf
    refine lv_aload_n hx hb dX9_where_7 rfl (lv_at hl 0 rfl) ?_
    refine lv_iload_n hx hb dX9_where_8 rfl (lv_at hl 2 rfl) ?_
    obtain ⟨r3, c4, hq, hf⟩ := o_cal hf
    refine m_calli (rest := []) X hS hl.1 (c_X9_isBoat l D cI cZ q _ _ v2 _ hq) cv_9_120 (oC_0 q cI cZ _) rfl rfl ⟨Nat.le_of_ble_eq_true rfl, Nat.le_of_ble_eq_true rfl⟩ ⟨Nat.zero_le _, Nat.zero_le _⟩ (Nat.le_of_ble_eq_true rfl) dX9_where_9 (fun H locs hS => ?_)
    refine lv_if_eq (tgt := 25) hx hb dX9_where_12 (by decide) (fun hc => ?_) (fun hc => ?_)
    · have hf := o_t hc hf
      refine lv_iconst (v := (-1 : Int32)) hx hb dX9_where_25 (by decide) ?_
      exact ret hf hS dX9_where_26
    · have hf := o_f hc hf
      refine lv_iload_n hx hb dX9_where_15 rfl (lv_at hl 3 rfl) ?_
      refine lv_iconst (v := (0 : Int32)) hx hb dX9_where_16 (by decide) ?_
      refine lv_bipush (v := (120 : Int32)) hx hb dX9_where_17 (by decide) ?_
      obtain ⟨r5, c6, hq, hf⟩ := o_cal hf
      refine m_calls (rest := []) X hS hl.1 (c_X9_isWithin l D cI cZ q _ _ v3 (0 : Int32) (120 : Int32) _ hq) cs_9_107 rfl rfl ⟨Nat.le_of_ble_eq_true rfl, Nat.le_of_ble_eq_true rfl⟩ ⟨Nat.zero_le _, Nat.zero_le _⟩ (Nat.le_of_ble_eq_true rfl) dX9_where_19 (fun H locs hS => ?_)
      refine lv_if_ne (tgt := 27) hx hb dX9_where_22 (by decide) (fun hc => ?_) (fun hc => ?_)
      · have hf := o_f hc hf
        refine lv_aload_n hx hb dX9_where_27 rfl (lv_at hl 0 rfl) ?_
        refine m_get X hS fl_9_59 (vC_0_7 q cI cZ _) dX9_where_28 ?_
        refine lv_aload_n hx hb dX9_where_31 rfl (lv_at hl 0 rfl) ?_
        refine m_get X hS fl_9_38 (vC_0_4 q cI cZ _) dX9_where_32 ?_
        refine lv_iload_n hx hb dX9_where_35 rfl (lv_at hl 1 rfl) ?_
        refine lv_iload_n hx hb dX9_where_36 rfl (lv_at hl 3 rfl) ?_
        obtain ⟨r7, c8, hq, hf⟩ := o_cal hf
        refine m_calli (rest := []) X hS hl.1 (c_X2_run l D cI cZ q _ _ 5 (Or.inl rfl) v1 v3 _ hq) cv_9_145 (oC_8 q cI cZ _) rfl rfl ⟨Nat.le_of_ble_eq_true rfl, Nat.le_of_ble_eq_true rfl⟩ ⟨Nat.zero_le _, Nat.zero_le _⟩ (Nat.le_of_ble_eq_true rfl) dX9_where_37 (fun H locs hS => ?_)
        refine lv_pop hx hb dX9_where_40 rfl ?_
        refine lv_aload_n hx hb dX9_where_41 rfl (lv_at hl 0 rfl) ?_
        refine m_get X hS fl_9_59 (vC_0_7 q cI cZ _) dX9_where_42 ?_
        refine m_get X hS fl_9_149 (vC_8_3 q cI cZ _) dX9_where_45 ?_
        refine lv_iload_n hx hb dX9_where_48 rfl (lv_at hl 2 rfl) ?_
        obtain ⟨hg, hf⟩ := o_gi hf
        refine m_ild X hS (aC_33 q cI cZ) hg dX9_where_49 ?_
        exact ret hf hS dX9_where_50
      · have hf := o_t hc hf
        refine lv_iconst (v := (-1 : Int32)) hx hb dX9_where_25 (by decide) ?_
        exact ret hf hS dX9_where_26

set_option maxHeartbeats 40000000 in
set_option maxRecDepth 100000 in
theorem c_X9_there (l : Launch) (D : va_G) (cI cZ : ClassId) (q : Nat → Nat) (c : Mm) (sz : Nat) (v1 : Int32) (v2 : Int32) (R : Int32 × Mm) (hf : X9_there v1 v2 c = some R) : m_Mi l yX9_there cX9_there 3 (some .int) 5 130 D cI cZ (mkC q cI cZ) 50 q [.ref (q 0), .int v1, .int v2] c sz R := by
  refine m_enter_i (own := RX9) (by decide) rfl (Nat.le_of_ble_eq_true rfl) ?_
  intro p e s m args below meth cd Q X ret
  have hx := X.1
  have hb := X.2.1
  intro H locs ls hS hl
  have hl : lv_has ls 3 [(0, .ref (q 0)), (1, .int v1), (2, .int v2)] := hl
  unfold X9_there at hf
  refine lv_iload_n hx hb dX9_there_0 rfl (lv_at hl 1 rfl) ?_
  obtain ⟨r1, c2, hq, hf⟩ := o_cal hf
  refine m_calls (rest := []) X hS hl.1 (c_X9_isRule l D cI cZ q _ _ v1 _ hq) cs_9_142 rfl rfl ⟨Nat.le_of_ble_eq_true rfl, Nat.le_of_ble_eq_true rfl⟩ ⟨Nat.zero_le _, Nat.zero_le _⟩ (Nat.le_of_ble_eq_true rfl) dX9_there_1 (fun H locs hS => ?_)
  refine lv_if_eq (tgt := 15) hx hb dX9_there_4 (by decide) (fun hc => ?_) (fun hc => ?_)
  · have hf := o_t hc hf
    refine lv_iconst (v := (-1 : Int32)) hx hb dX9_there_15 (by decide) ?_
    exact ret hf hS dX9_there_16
  · have hf := o_f hc hf
    refine lv_aload_n hx hb dX9_there_7 rfl (lv_at hl 0 rfl) ?_
    refine lv_iload_n hx hb dX9_there_8 rfl (lv_at hl 2 rfl) ?_
    obtain ⟨r3, c4, hq, hf⟩ := o_cal hf
    refine m_calli (rest := []) X hS hl.1 (c_X9_isBoat l D cI cZ q _ _ v2 _ hq) cv_9_120 (oC_0 q cI cZ _) rfl rfl ⟨Nat.le_of_ble_eq_true rfl, Nat.le_of_ble_eq_true rfl⟩ ⟨Nat.zero_le _, Nat.zero_le _⟩ (Nat.le_of_ble_eq_true rfl) dX9_there_9 (fun H locs hS => ?_)
    refine lv_if_ne (tgt := 17) hx hb dX9_there_12 (by decide) (fun hc => ?_) (fun hc => ?_)
    · have hf := o_f hc hf
      refine lv_aload_n hx hb dX9_there_17 rfl (lv_at hl 0 rfl) ?_
      refine m_get X hS fl_9_59 (vC_0_7 q cI cZ _) dX9_there_18 ?_
      refine lv_aload_n hx hb dX9_there_21 rfl (lv_at hl 0 rfl) ?_
      refine m_get X hS fl_9_38 (vC_0_4 q cI cZ _) dX9_there_22 ?_
      refine lv_iload_n hx hb dX9_there_25 rfl (lv_at hl 1 rfl) ?_
      refine lv_bipush (v := (120 : Int32)) hx hb dX9_there_26 (by decide) ?_
      obtain ⟨r5, c6, hq, hf⟩ := o_cal hf
      refine m_calli (rest := []) X hS hl.1 (c_X2_run l D cI cZ q _ _ 5 (Or.inl rfl) v1 (120 : Int32) _ hq) cv_9_145 (oC_8 q cI cZ _) rfl rfl ⟨Nat.le_of_ble_eq_true rfl, Nat.le_of_ble_eq_true rfl⟩ ⟨Nat.zero_le _, Nat.zero_le _⟩ (Nat.le_of_ble_eq_true rfl) dX9_there_28 (fun H locs hS => ?_)
      refine lv_pop hx hb dX9_there_31 rfl ?_
      refine lv_aload_n hx hb dX9_there_32 rfl (lv_at hl 0 rfl) ?_
      refine m_get X hS fl_9_59 (vC_0_7 q cI cZ _) dX9_there_33 ?_
      refine m_get X hS fl_9_152 (vC_8_5 q cI cZ _) dX9_there_36 ?_
      refine lv_iload_n hx hb dX9_there_39 rfl (lv_at hl 2 rfl) ?_
      obtain ⟨hg, hf⟩ := o_gi hf
      refine m_ild X hS (aC_35 q cI cZ) hg dX9_there_40 ?_
      exact ret hf hS dX9_there_41
    · have hf := o_t hc hf
      refine lv_iconst (v := (-1 : Int32)) hx hb dX9_there_15 (by decide) ?_
      exact ret hf hS dX9_there_16

set_option maxHeartbeats 40000000 in
set_option maxRecDepth 100000 in
theorem c_X9_stands (l : Launch) (D : va_G) (cI cZ : ClassId) (q : Nat → Nat) (c : Mm) (sz : Nat) (v1 : Int32) (v2 : Int32) (R : Int32 × Mm) (hf : X9_stands v1 v2 c = some R) : m_Mi l yX9_stands cX9_stands 4 (some .int) 5 130 D cI cZ (mkC q cI cZ) 50 q [.ref (q 0), .int v1, .int v2] c sz R := by
  refine m_enter_i (own := RX9) (by decide) rfl (Nat.le_of_ble_eq_true rfl) ?_
  intro p e s m args below meth cd Q X ret
  have hx := X.1
  have hb := X.2.1
  have k22 : ∀ (v1 : Int32) (v2 : Int32) (c : Mm), X9_stands_j22 v1 v2 c = some R → m_G p l e (m_rm 5 130) s m args below meth cd Q D (mkC q cI cZ) 50 q 4 22 [(0, .ref (q 0)), (1, .int v1), (2, .int v2)] [] c := by
    intro v1 v2 c hf H locs ls hS hl
    unfold X9_stands_j22 at hf
    refine lv_aload_n hx hb dX9_stands_22 rfl (lv_at hl 0 rfl) ?_
    refine m_get X hS fl_9_59 (vC_0_7 q cI cZ _) dX9_stands_23 ?_
    refine lv_aload_n hx hb dX9_stands_26 rfl (lv_at hl 0 rfl) ?_
    refine m_get X hS fl_9_38 (vC_0_4 q cI cZ _) dX9_stands_27 ?_
    refine lv_iload_n hx hb dX9_stands_30 rfl (lv_at hl 1 rfl) ?_
    refine lv_bipush (v := (120 : Int32)) hx hb dX9_stands_31 (by decide) ?_
    obtain ⟨r1, c2, hq, hf⟩ := o_cal hf
    refine m_calli (rest := []) X hS hl.1 (c_X2_run l D cI cZ q _ _ 5 (Or.inl rfl) v1 (120 : Int32) _ hq) cv_9_145 (oC_8 q cI cZ _) rfl rfl ⟨Nat.le_of_ble_eq_true rfl, Nat.le_of_ble_eq_true rfl⟩ ⟨Nat.zero_le _, Nat.zero_le _⟩ (Nat.le_of_ble_eq_true rfl) dX9_stands_33 (fun H locs hS => ?_)
    refine lv_istore_n (lv' := [(3, .int r1), (0, .ref (q 0)), (1, .int v1), (2, .int v2)]) hx hb dX9_stands_36 rfl hl (by decide) rfl (fun ls hl => ?_)
    refine lv_iload_n hx hb dX9_stands_37 rfl (lv_at hl 3 rfl) ?_
    refine lv_iconst (v := (-1 : Int32)) hx hb dX9_stands_38 (by decide) ?_
    refine lv_icmp_ne (tgt := 46) hx hb dX9_stands_39 (by decide) (fun hc => ?_) (fun hc => ?_)
    · have hf := o_f hc hf
      refine lv_aload_n hx hb dX9_stands_46 rfl (lv_at hl 1 rfl) ?_
      refine m_get X hS fl_9_59 (vC_0_7 q cI cZ _) dX9_stands_47 ?_
      refine m_get X hS fl_9_155 (vC_8_6 q cI cZ _) dX9_stands_50 ?_
      refine lv_iload_n hx hb dX9_stands_53 rfl (lv_at hl 3 rfl) ?_
      obtain ⟨hg, hf⟩ := o_gi hf
      refine m_ild X hS (aC_36 q cI cZ) hg dX9_stands_54 ?_
      exact ret hf hS dX9_stands_55
    · have hf := o_t hc hf
      refine lv_iload_n hx hb dX9_stands_42 rfl (lv_at hl 0 rfl) ?_
      refine lv_goto (tgt := 55) hx hb dX9_stands_43 (by decide) ?_
      exact ret hf hS dX9_stands_55
  intro H locs ls hS hl
  have hl : lv_has ls 4 [(0, .ref (q 0)), (1, .int v1), (2, .int v2)] := hl
  unfold X9_stands at hf
  refine lv_iload_n hx hb dX9_stands_0 rfl (lv_at hl 1 rfl) ?_
  obtain ⟨r3, c4, hq, hf⟩ := o_cal hf
  refine m_calls (rest := []) X hS hl.1 (c_X9_isRule l D cI cZ q _ _ v1 _ hq) cs_9_142 rfl rfl ⟨Nat.le_of_ble_eq_true rfl, Nat.le_of_ble_eq_true rfl⟩ ⟨Nat.zero_le _, Nat.zero_le _⟩ (Nat.le_of_ble_eq_true rfl) dX9_stands_1 (fun H locs hS => ?_)
  refine lv_if_eq (tgt := 20) hx hb dX9_stands_4 (by decide) (fun hc => ?_) (fun hc => ?_)
  · have hf := o_t hc hf
    refine lv_iconst (v := (-1 : Int32)) hx hb dX9_stands_20 (by decide) ?_
    exact ret hf hS dX9_stands_21
  · have hf := o_f hc hf
    refine lv_iload_n hx hb dX9_stands_7 rfl (lv_at hl 2 rfl) ?_
    refine lv_iconst (v := (-1 : Int32)) hx hb dX9_stands_8 (by decide) ?_
    refine lv_icmp_eq (tgt := 22) hx hb dX9_stands_9 (by decide) (fun hc => ?_) (fun hc => ?_)
    · have hf := o_t hc hf
      exact k22 v1 v2 _ hf H locs ls hS (lv_sub hl [0, 1, 2] rfl)
    · have hf := o_f hc hf
      refine lv_aload_n hx hb dX9_stands_12 rfl (lv_at hl 0 rfl) ?_
      refine lv_iload_n hx hb dX9_stands_13 rfl (lv_at hl 2 rfl) ?_
      obtain ⟨r5, c6, hq, hf⟩ := o_cal hf
      refine m_calli (rest := []) X hS hl.1 (c_X9_isBoat l D cI cZ q _ _ v2 _ hq) cv_9_120 (oC_0 q cI cZ _) rfl rfl ⟨Nat.le_of_ble_eq_true rfl, Nat.le_of_ble_eq_true rfl⟩ ⟨Nat.zero_le _, Nat.zero_le _⟩ (Nat.le_of_ble_eq_true rfl) dX9_stands_14 (fun H locs hS => ?_)
      refine lv_if_ne (tgt := 22) hx hb dX9_stands_17 (by decide) (fun hc => ?_) (fun hc => ?_)
      · have hf := o_f hc hf
        exact k22 v1 v2 _ hf H locs ls hS (lv_sub hl [0, 1, 2] rfl)
      · have hf := o_t hc hf
        refine lv_iconst (v := (-1 : Int32)) hx hb dX9_stands_20 (by decide) ?_
        exact ret hf hS dX9_stands_21

set_option maxHeartbeats 40000000 in
set_option maxRecDepth 100000 in
theorem c_X9_yields (l : Launch) (D : va_G) (cI cZ : ClassId) (q : Nat → Nat) (c : Mm) (sz : Nat) (v1 : Int32) (v2 : Int32) (R : Int32 × Mm) (hf : X9_yields v1 v2 c = some R) : m_Mi l yX9_yields cX9_yields 3 (some .int) 5 130 D cI cZ (mkC q cI cZ) 50 q [.ref (q 0), .int v1, .int v2] c sz R := by
  refine m_enter_i (own := RX9) (by decide) rfl (Nat.le_of_ble_eq_true rfl) ?_
  intro p e s m args below meth cd Q X ret
  have hx := X.1
  have hb := X.2.1
  intro H locs ls hS hl
  have hl : lv_has ls 3 [(0, .ref (q 0)), (1, .int v1), (2, .int v2)] := hl
  unfold X9_yields at hf
  refine lv_iload_n hx hb dX9_yields_0 rfl (lv_at hl 1 rfl) ?_
  obtain ⟨r1, c2, hq, hf⟩ := o_cal hf
  refine m_calls (rest := []) X hS hl.1 (c_X9_isRule l D cI cZ q _ _ v1 _ hq) cs_9_142 rfl rfl ⟨Nat.le_of_ble_eq_true rfl, Nat.le_of_ble_eq_true rfl⟩ ⟨Nat.zero_le _, Nat.zero_le _⟩ (Nat.le_of_ble_eq_true rfl) dX9_yields_1 (fun H locs hS => ?_)
  refine lv_if_eq (tgt := 15) hx hb dX9_yields_4 (by decide) (fun hc => ?_) (fun hc => ?_)
  · have hf := o_t hc hf
    refine lv_iconst (v := (-1 : Int32)) hx hb dX9_yields_15 (by decide) ?_
    exact ret hf hS dX9_yields_16
  · have hf := o_f hc hf
    refine lv_aload_n hx hb dX9_yields_7 rfl (lv_at hl 0 rfl) ?_
    refine lv_iload_n hx hb dX9_yields_8 rfl (lv_at hl 2 rfl) ?_
    obtain ⟨r3, c4, hq, hf⟩ := o_cal hf
    refine m_calli (rest := []) X hS hl.1 (c_X9_isBoat l D cI cZ q _ _ v2 _ hq) cv_9_120 (oC_0 q cI cZ _) rfl rfl ⟨Nat.le_of_ble_eq_true rfl, Nat.le_of_ble_eq_true rfl⟩ ⟨Nat.zero_le _, Nat.zero_le _⟩ (Nat.le_of_ble_eq_true rfl) dX9_yields_9 (fun H locs hS => ?_)
    refine lv_if_ne (tgt := 17) hx hb dX9_yields_12 (by decide) (fun hc => ?_) (fun hc => ?_)
    · have hf := o_f hc hf
      refine lv_aload_n hx hb dX9_yields_17 rfl (lv_at hl 0 rfl) ?_
      refine m_get X hS fl_9_59 (vC_0_7 q cI cZ _) dX9_yields_18 ?_
      refine lv_aload_n hx hb dX9_yields_21 rfl (lv_at hl 0 rfl) ?_
      refine m_get X hS fl_9_38 (vC_0_4 q cI cZ _) dX9_yields_22 ?_
      refine lv_iload_n hx hb dX9_yields_25 rfl (lv_at hl 1 rfl) ?_
      refine lv_bipush (v := (120 : Int32)) hx hb dX9_yields_26 (by decide) ?_
      obtain ⟨r5, c6, hq, hf⟩ := o_cal hf
      refine m_calli (rest := []) X hS hl.1 (c_X2_run l D cI cZ q _ _ 5 (Or.inl rfl) v1 (120 : Int32) _ hq) cv_9_145 (oC_8 q cI cZ _) rfl rfl ⟨Nat.le_of_ble_eq_true rfl, Nat.le_of_ble_eq_true rfl⟩ ⟨Nat.zero_le _, Nat.zero_le _⟩ (Nat.le_of_ble_eq_true rfl) dX9_yields_28 (fun H locs hS => ?_)
      refine lv_pop hx hb dX9_yields_31 rfl ?_
      refine lv_aload_n hx hb dX9_yields_32 rfl (lv_at hl 0 rfl) ?_
      refine m_get X hS fl_9_59 (vC_0_7 q cI cZ _) dX9_yields_33 ?_
      refine m_get X hS fl_9_158 (vC_8_7 q cI cZ _) dX9_yields_36 ?_
      refine lv_iload_n hx hb dX9_yields_39 rfl (lv_at hl 2 rfl) ?_
      obtain ⟨hg, hf⟩ := o_gi hf
      refine m_ild X hS (aC_37 q cI cZ) hg dX9_yields_40 ?_
      exact ret hf hS dX9_yields_41
    · have hf := o_t hc hf
      refine lv_iconst (v := (-1 : Int32)) hx hb dX9_yields_15 (by decide) ?_
      exact ret hf hS dX9_yields_16
