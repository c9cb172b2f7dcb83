set_option maxHeartbeats 40000000 in
set_option maxRecDepth 100000 in
theorem c_X10_rests (l : Launch) (D : va_G) (cI cZ : ClassId) (q : Nat → Nat) (c : Mm) (sz : Nat) (v1 : Int32) (v2 : Int32) (v3 : Int32) (R : Int32 × Mm) (hf : X10_rests v1 v2 v3 c = some R) : m_Mi l yX10_rests cX10_rests 10 (some .int) 3 68 D cI cZ (mkM q cI cZ) 29 q [.ref (q 0), .int v1, .int v2, .int v3] c sz R := by
  refine m_enter_i (own := RX10) (by decide) rfl (Nat.le_of_ble_eq_true rfl) ?_
  intro p e s m args below meth cd Q X ret
  have hx := X.1
  have hb := X.2.1
  have k169 : ∀ (v3 : Int32) (v4 : Int32) (v5 : Int32) (c : Mm), X10_rests_j169 v3 v4 v5 c = some R → m_G p l e (m_rm 3 68) s m args below meth cd Q D (mkM q cI cZ) 29 q 10 169 [(3, .int v3), (4, .int v4), (5, .int v5)] [] c := by
    intro v3 v4 v5 c hf H locs ls hS hl
    unfold X10_rests_j169 at hf
    refine lv_iload_n hx hb dX10_rests_169 rfl (lv_at hl 0 rfl) ?_
    refine lv_if_ne (tgt := 178) hx hb dX10_rests_170 (by decide) (fun hc => ?_) (fun hc => ?_)
    · have hf := o_f hc hf
      refine lv_iload hx hb dX10_rests_178 (lv_at hl 2 rfl) ?_
      exact ret hf hS dX10_rests_180
    · have hf := o_t hc hf
      refine lv_iload hx hb dX10_rests_173 (lv_at hl 1 rfl) ?_
      refine lv_goto (tgt := 180) hx hb dX10_rests_175 (by decide) ?_
      exact ret hf hS dX10_rests_180
  have k160 : ∀ (v1 : Int32) (v2 : Int32) (v3 : Int32) (v5 : Int32) (v6 : Int32) (s0 : Int32) (s1 : Int32) (rc31 : Int32 → Int32 → Int32 → Mm → Option (Int32 × Mm)) (hrc31 : ∀ (w4 : Int32) (w5 : Int32) (w6 : Int32) (c : Mm), rc31 w4 w5 w6 c = some R → m_G p l e (m_rm 3 68) s m args below meth cd Q D (mkM q cI cZ) 29 q 10 31 [(0, .ref (q 0)), (1, .int v1), (2, .int v2), (3, .int v3), (4, .int w4), (5, .int w5), (6, .int w6)] [] c) (c : Mm), X10_rests_j160 rc31 v1 v2 v3 v5 v6 s0 s1 c = some R → m_G p l e (m_rm 3 68) s m args below meth cd Q D (mkM q cI cZ) 29 q 10 160 [(0, .ref (q 0)), (1, .int v1), (2, .int v2), (3, .int v3), (5, .int v5), (6, .int v6)] [.int s1, .int s0] c := by
    intro v1 v2 v3 v5 v6 s0 s1 rc31 hrc31 c hf H locs ls hS hl
    unfold X10_rests_j160 at hf
    refine lv_iadd hx hb dX10_rests_160 ?_
    refine lv_topi (fun x1 ex => ?_)
    have hf := o_bnd hf x1 ex
    refine lv_istore (lv' := [(4, .int x1), (0, .ref (q 0)), (1, .int v1), (2, .int v2), (3, .int v3), (5, .int v5), (6, .int v6)]) hx hb dX10_rests_161 hl (by decide) rfl (fun ls hl => ?_)
    obtain ⟨x2, ex⟩ : ∃ y : Int32, y = v6 + (1 : Int32) := ⟨_, rfl⟩
    have hf := o_bnd hf x2 ex
    refine lv_iinc (v := x2) (lv' := [(6, .int x2), (4, .int x1), (0, .ref (q 0)), (1, .int v1), (2, .int v2), (3, .int v3), (5, .int v5)]) hx hb dX10_rests_163 hl (k := 6) rfl (by rw [ex]; rfl) (by decide) rfl (fun ls hl => ?_)
    refine lv_goto (tgt := 31) hx hb dX10_rests_166 (by decide) ?_
    exact hrc31 x1 v5 x2 _ hf H locs ls hS (lv_sub hl [2, 3, 4, 5, 1, 6, 0] rfl)
  have k146 : ∀ (v1 : Int32) (v2 : Int32) (v3 : Int32) (v4 : Int32) (v6 : Int32) (v9 : Int32) (s0 : Int32) (rc31 : Int32 → Int32 → Int32 → Mm → Option (Int32 × Mm)) (hrc31 : ∀ (w4 : Int32) (w5 : Int32) (w6 : Int32) (c : Mm), rc31 w4 w5 w6 c = some R → m_G p l e (m_rm 3 68) s m args below meth cd Q D (mkM q cI cZ) 29 q 10 31 [(0, .ref (q 0)), (1, .int v1), (2, .int v2), (3, .int v3), (4, .int w4), (5, .int w5), (6, .int w6)] [] c) (c : Mm), X10_rests_j146 rc31 v1 v2 v3 v4 v6 v9 s0 c = some R → m_G p l e (m_rm 3 68) s m args below meth cd Q D (mkM q cI cZ) 29 q 10 146 [(0, .ref (q 0)), (1, .int v1), (2, .int v2), (3, .int v3), (4, .int v4), (6, .int v6), (9, .int v9)] [.int s0] c := by
    intro v1 v2 v3 v4 v6 v9 s0 rc31 hrc31 c hf H locs ls hS hl
    unfold X10_rests_j146 at hf
    refine lv_istore (lv' := [(5, .int s0), (0, .ref (q 0)), (1, .int v1), (2, .int v2), (3, .int v3), (4, .int v4), (6, .int v6), (9, .int v9)]) hx hb dX10_rests_146 hl (by decide) rfl (fun ls hl => ?_)
    refine lv_iload hx hb dX10_rests_148 (lv_at hl 5 rfl) ?_
    refine lv_iload hx hb dX10_rests_150 (lv_at hl 7 rfl) ?_
    refine lv_if_eq (tgt := 159) hx hb dX10_rests_152 (by decide) (fun hc => ?_) (fun hc => ?_)
    · have hf := o_t hc hf
      refine lv_iconst (v := (0 : Int32)) hx hb dX10_rests_159 (by decide) ?_
      exact k160 v1 v2 v3 s0 v6 v4 (0 : Int32) rc31 hrc31 _ hf H locs ls hS (lv_sub hl [1, 2, 3, 4, 0, 6] rfl)
    · have hf := o_f hc hf
      refine lv_iconst (v := (1 : Int32)) hx hb dX10_rests_155 (by decide) ?_
      refine lv_goto (tgt := 160) hx hb dX10_rests_156 (by decide) ?_
      exact k160 v1 v2 v3 s0 v6 v4 (1 : Int32) rc31 hrc31 _ hf H locs ls hS (lv_sub hl [1, 2, 3, 4, 0, 6] rfl)
  have k144 : ∀ (v1 : Int32) (v2 : Int32) (v3 : Int32) (v4 : Int32) (v5 : Int32) (v6 : Int32) (v9 : Int32) (rc31 : Int32 → Int32 → Int32 → Mm → Option (Int32 × Mm)) (hrc31 : ∀ (w4 : Int32) (w5 : Int32) (w6 : Int32) (c : Mm), rc31 w4 w5 w6 c = some R → m_G p l e (m_rm 3 68) s m args below meth cd Q D (mkM q cI cZ) 29 q 10 31 [(0, .ref (q 0)), (1, .int v1), (2, .int v2), (3, .int v3), (4, .int w4), (5, .int w5), (6, .int w6)] [] c) (c : Mm), X10_rests_j144 rc31 v1 v2 v3 v4 v5 v6 v9 c = some R → m_G p l e (m_rm 3 68) s m args below meth cd Q D (mkM q cI cZ) 29 q 10 144 [(0, .ref (q 0)), (1, .int v1), (2, .int v2), (3, .int v3), (4, .int v4), (5, .int v5), (6, .int v6), (9, .int v9)] [] c := by
    intro v1 v2 v3 v4 v5 v6 v9 rc31 hrc31 c hf H locs ls hS hl
    unfold X10_rests_j144 at hf
    refine lv_iload hx hb dX10_rests_144 (lv_at hl 5 rfl) ?_
    exact k146 v1 v2 v3 v4 v6 v9 v5 rc31 hrc31 _ hf H locs ls hS (lv_sub hl [0, 1, 2, 3, 4, 6, 7] rfl)
  have k127 : ∀ (v1 : Int32) (v2 : Int32) (v3 : Int32) (v4 : Int32) (v5 : Int32) (v6 : Int32) (s0 : Int32) (rc31 : Int32 → Int32 → Int32 → Mm → Option (Int32 × Mm)) (hrc31 : ∀ (w4 : Int32) (w5 : Int32) (w6 : Int32) (c : Mm), rc31 w4 w5 w6 c = some R → m_G p l e (m_rm 3 68) s m args below meth cd Q D (mkM q cI cZ) 29 q 10 31 [(0, .ref (q 0)), (1, .int v1), (2, .int v2), (3, .int v3), (4, .int w4), (5, .int w5), (6, .int w6)] [] c) (c : Mm), X10_rests_j127 rc31 v1 v2 v3 v4 v5 v6 s0 c = some R → m_G p l e (m_rm 3 68) s m args below meth cd Q D (mkM q cI cZ) 29 q 10 127 [(0, .ref (q 0)), (1, .int v1), (2, .int v2), (3, .int v3), (4, .int v4), (5, .int v5), (6, .int v6)] [.int s0] c := by
    intro v1 v2 v3 v4 v5 v6 s0 rc31 hrc31 c hf H locs ls hS hl
    unfold X10_rests_j127 at hf
    refine lv_istore (lv' := [(9, .int s0), (0, .ref (q 0)), (1, .int v1), (2, .int v2), (3, .int v3), (4, .int v4), (5, .int v5), (6, .int v6)]) hx hb dX10_rests_127 hl (by decide) rfl (fun ls hl => ?_)
    refine lv_iload hx hb dX10_rests_129 (lv_at hl 0 rfl) ?_
    refine lv_if_eq (tgt := 144) hx hb dX10_rests_131 (by decide) (fun hc => ?_) (fun hc => ?_)
    · have hf := o_t hc hf
      exact k144 v1 v2 v3 v4 v5 v6 s0 rc31 hrc31 _ hf H locs ls hS (lv_sub hl [1, 2, 3, 4, 5, 6, 7, 0] rfl)
    · have hf := o_f hc hf
      refine lv_iload hx hb dX10_rests_134 (lv_at hl 5 rfl) ?_
      refine lv_if_ne (tgt := 144) hx hb dX10_rests_136 (by decide) (fun hc => ?_) (fun hc => ?_)
      · have hf := o_f hc hf
        exact k144 v1 v2 v3 v4 v5 v6 s0 rc31 hrc31 _ hf H locs ls hS (lv_sub hl [1, 2, 3, 4, 5, 6, 7, 0] rfl)
      · have hf := o_t hc hf
        refine lv_iload hx hb dX10_rests_139 (lv_at hl 7 rfl) ?_
        refine lv_goto (tgt := 146) hx hb dX10_rests_141 (by decide) ?_
        exact k146 v1 v2 v3 v4 v6 s0 v6 rc31 hrc31 _ hf H locs ls hS (lv_sub hl [1, 2, 3, 4, 5, 7, 0] rfl)
  have k126 : ∀ (v1 : Int32) (v2 : Int32) (v3 : Int32) (v4 : Int32) (v5 : Int32) (v6 : Int32) (rc31 : Int32 → Int32 → Int32 → Mm → Option (Int32 × Mm)) (hrc31 : ∀ (w4 : Int32) (w5 : Int32) (w6 : Int32) (c : Mm), rc31 w4 w5 w6 c = some R → m_G p l e (m_rm 3 68) s m args below meth cd Q D (mkM q cI cZ) 29 q 10 31 [(0, .ref (q 0)), (1, .int v1), (2, .int v2), (3, .int v3), (4, .int w4), (5, .int w5), (6, .int w6)] [] c) (c : Mm), X10_rests_j126 rc31 v1 v2 v3 v4 v5 v6 c = some R → m_G p l e (m_rm 3 68) s m args below meth cd Q D (mkM q cI cZ) 29 q 10 126 [(0, .ref (q 0)), (1, .int v1), (2, .int v2), (3, .int v3), (4, .int v4), (5, .int v5), (6, .int v6)] [] c := by
    intro v1 v2 v3 v4 v5 v6 rc31 hrc31 c hf H locs ls hS hl
    unfold X10_rests_j126 at hf
    refine lv_iconst (v := (0 : Int32)) hx hb dX10_rests_126 (by decide) ?_
    exact k127 v1 v2 v3 v4 v5 v6 (0 : Int32) rc31 hrc31 _ hf H locs ls hS (lv_sub hl [0, 1, 2, 3, 4, 5, 6] rfl)
  have k105 : ∀ (v1 : Int32) (v2 : Int32) (v3 : Int32) (v4 : Int32) (v5 : Int32) (v6 : Int32) (v7 : Int32) (v8 : Int32) (s1 : Int32) (s2 : Int32) (rc31 : Int32 → Int32 → Int32 → Mm → Option (Int32 × Mm)) (hrc31 : ∀ (w4 : Int32) (w5 : Int32) (w6 : Int32) (c : Mm), rc31 w4 w5 w6 c = some R → m_G p l e (m_rm 3 68) s m args below meth cd Q D (mkM q cI cZ) 29 q 10 31 [(0, .ref (q 0)), (1, .int v1), (2, .int v2), (3, .int v3), (4, .int w4), (5, .int w5), (6, .int w6)] [] c) (c : Mm), X10_rests_j105 rc31 v1 v2 v3 v4 v5 v6 v7 v8 s1 s2 c = some R → m_G p l e (m_rm 3 68) s m args below meth cd Q D (mkM q cI cZ) 29 q 10 105 [(0, .ref (q 0)), (1, .int v1), (2, .int v2), (3, .int v3), (4, .int v4), (5, .int v5), (6, .int v6), (7, .int v7), (8, .int v8)] [.int s2, .int s1, .ref (q 0)] c := by
    intro v1 v2 v3 v4 v5 v6 v7 v8 s1 s2 rc31 hrc31 c hf H locs ls hS hl
    unfold X10_rests_j105 at hf
    refine lv_iload hx hb dX10_rests_105 (lv_at hl 7 rfl) ?_
    obtain ⟨r3, c4, hq, hf⟩ := o_cal hf
    refine m_calli (rest := []) X hS hl.1 (c_X10_standsBy l D cI cZ q _ _ s1 s2 v7 _ hq) cv_10_244 (oM_0 q cI cZ _) rfl rfl ⟨Nat.le_of_ble_eq_true rfl, Nat.le_of_ble_eq_true rfl⟩ ⟨Nat.zero_le _, Nat.zero_le _⟩ (Nat.le_of_ble_eq_true rfl) dX10_rests_107 (fun H locs hS => ?_)
    refine lv_aload_n hx hb dX10_rests_110 rfl (lv_at hl 0 rfl) ?_
    refine lv_iload_n hx hb dX10_rests_111 rfl (lv_at hl 2 rfl) ?_
    refine lv_iload hx hb dX10_rests_112 (lv_at hl 8 rfl) ?_
    refine lv_iload hx hb dX10_rests_114 (lv_at hl 7 rfl) ?_
    obtain ⟨r5, c6, hq, hf⟩ := o_cal hf
    refine m_calli (rest := [.int r3]) X hS hl.1 (c_X10_standsBy l D cI cZ q _ _ v2 v8 v7 _ hq) cv_10_244 (oM_0 q cI cZ _) rfl rfl ⟨Nat.le_of_ble_eq_true rfl, Nat.le_of_ble_eq_true rfl⟩ ⟨Nat.zero_le _, Nat.zero_le _⟩ (Nat.le_of_ble_eq_true rfl) dX10_rests_116 (fun H locs hS => ?_)
    refine lv_icmp_lt (tgt := 126) hx hb dX10_rests_119 (by decide) (fun hc => ?_) (fun hc => ?_)
    · have hf := o_t hc hf
      exact k126 v1 v2 v3 v4 v5 v6 rc31 hrc31 _ hf H locs ls hS (lv_sub hl [0, 1, 2, 3, 4, 5, 6] rfl)
    · have hf := o_f hc hf
      refine lv_iconst (v := (1 : Int32)) hx hb dX10_rests_122 (by decide) ?_
      refine lv_goto (tgt := 127) hx hb dX10_rests_123 (by decide) ?_
      exact k127 v1 v2 v3 v4 v5 v6 (1 : Int32) rc31 hrc31 _ hf H locs ls hS (lv_sub hl [0, 1, 2, 3, 4, 5, 6] rfl)
  have k76 : ∀ (v1 : Int32) (v2 : Int32) (v3 : Int32) (v4 : Int32) (v5 : Int32) (v6 : Int32) (v7 : Int32) (v8 : Int32) (s1 : Int32) (s2 : Int32) (rc31 : Int32 → Int32 → Int32 → Mm → Option (Int32 × Mm)) (hrc31 : ∀ (w4 : Int32) (w5 : Int32) (w6 : Int32) (c : Mm), rc31 w4 w5 w6 c = some R → m_G p l e (m_rm 3 68) s m args below meth cd Q D (mkM q cI cZ) 29 q 10 31 [(0, .ref (q 0)), (1, .int v1), (2, .int v2), (3, .int v3), (4, .int w4), (5, .int w5), (6, .int w6)] [] c) (c : Mm), X10_rests_j76 rc31 v1 v2 v3 v4 v5 v6 v7 v8 s1 s2 c = some R → m_G p l e (m_rm 3 68) s m args below meth cd Q D (mkM q cI cZ) 29 q 10 76 [(0, .ref (q 0)), (1, .int v1), (2, .int v2), (3, .int v3), (4, .int v4), (5, .int v5), (6, .int v6), (7, .int v7), (8, .int v8)] [.int s2, .int s1, .ref (q 0)] c := by
    intro v1 v2 v3 v4 v5 v6 v7 v8 s1 s2 rc31 hrc31 c hf H locs ls hS hl
    unfold X10_rests_j76 at hf
    refine lv_iload hx hb dX10_rests_76 (lv_at hl 8 rfl) ?_
    obtain ⟨r7, c8, hq, hf⟩ := o_cal hf
    refine m_calli (rest := []) X hS hl.1 (c_X10_standsBy l D cI cZ q _ _ s1 s2 v8 _ hq) cv_10_244 (oM_0 q cI cZ _) rfl rfl ⟨Nat.le_of_ble_eq_true rfl, Nat.le_of_ble_eq_true rfl⟩ ⟨Nat.zero_le _, Nat.zero_le _⟩ (Nat.le_of_ble_eq_true rfl) dX10_rests_78 (fun H locs hS => ?_)
    refine lv_aload_n hx hb dX10_rests_81 rfl (lv_at hl 0 rfl) ?_
    refine lv_iload_n hx hb dX10_rests_82 rfl (lv_at hl 1 rfl) ?_
    refine lv_iload hx hb dX10_rests_83 (lv_at hl 7 rfl) ?_
    refine lv_iload hx hb dX10_rests_85 (lv_at hl 8 rfl) ?_
    obtain ⟨r9, c10, hq, hf⟩ := o_cal hf
    refine m_calli (rest := [.int r7]) X hS hl.1 (c_X10_standsBy l D cI cZ q _ _ v1 v7 v8 _ hq) cv_10_244 (oM_0 q cI cZ _) rfl rfl ⟨Nat.le_of_ble_eq_true rfl, Nat.le_of_ble_eq_true rfl⟩ ⟨Nat.zero_le _, Nat.zero_le _⟩ (Nat.le_of_ble_eq_true rfl) dX10_rests_87 (fun H locs hS => ?_)
    refine lv_icmp_lt (tgt := 126) hx hb dX10_rests_90 (by decide) (fun hc => ?_) (fun hc => ?_)
    · have hf := o_t hc hf
      exact k126 v1 v2 v3 v4 v5 v6 rc31 hrc31 _ hf H locs ls hS (lv_sub hl [0, 1, 2, 3, 4, 5, 6] rfl)
    · have hf := o_f hc hf
      refine lv_aload_n hx hb dX10_rests_93 rfl (lv_at hl 0 rfl) ?_
      refine lv_iload_n hx hb dX10_rests_94 rfl (lv_at hl 2 rfl) ?_
      refine lv_iload hx hb dX10_rests_95 (lv_at hl 8 rfl) ?_
      refine lv_if_ne (tgt := 104) hx hb dX10_rests_97 (by decide) (fun hc => ?_) (fun hc => ?_)
      · have hf := o_f hc hf
        refine lv_iconst (v := (0 : Int32)) hx hb dX10_rests_104 (by decide) ?_
        exact k105 v1 v2 v3 v4 v5 v6 v7 v8 v2 (0 : Int32) rc31 hrc31 _ hf H locs ls hS (lv_sub hl [0, 1, 2, 3, 4, 5, 6, 7, 8] rfl)
      · have hf := o_t hc hf
        refine lv_iconst (v := (1 : Int32)) hx hb dX10_rests_100 (by decide) ?_
        refine lv_goto (tgt := 105) hx hb dX10_rests_101 (by decide) ?_
        exact k105 v1 v2 v3 v4 v5 v6 v7 v8 v2 (1 : Int32) rc31 hrc31 _ hf H locs ls hS (lv_sub hl [0, 1, 2, 3, 4, 5, 6, 7, 8] rfl)
  have k62 : ∀ (v1 : Int32) (v2 : Int32) (v3 : Int32) (v4 : Int32) (v5 : Int32) (v6 : Int32) (v7 : Int32) (s0 : Int32) (rc31 : Int32 → Int32 → Int32 → Mm → Option (Int32 × Mm)) (hrc31 : ∀ (w4 : Int32) (w5 : Int32) (w6 : Int32) (c : Mm), rc31 w4 w5 w6 c = some R → m_G p l e (m_rm 3 68) s m args below meth cd Q D (mkM q cI cZ) 29 q 10 31 [(0, .ref (q 0)), (1, .int v1), (2, .int v2), (3, .int v3), (4, .int w4), (5, .int w5), (6, .int w6)] [] c) (c : Mm), X10_rests_j62 rc31 v1 v2 v3 v4 v5 v6 v7 s0 c = some R → m_G p l e (m_rm 3 68) s m args below meth cd Q D (mkM q cI cZ) 29 q 10 62 [(0, .ref (q 0)), (1, .int v1), (2, .int v2), (3, .int v3), (4, .int v4), (5, .int v5), (6, .int v6), (7, .int v7)] [.int s0] c := by
    intro v1 v2 v3 v4 v5 v6 v7 s0 rc31 hrc31 c hf H locs ls hS hl
    unfold X10_rests_j62 at hf
    refine lv_istore (lv' := [(8, .int s0), (0, .ref (q 0)), (1, .int v1), (2, .int v2), (3, .int v3), (4, .int v4), (5, .int v5), (6, .int v6), (7, .int v7)]) hx hb dX10_rests_62 hl (by decide) rfl (fun ls hl => ?_)
    refine lv_aload_n hx hb dX10_rests_64 rfl (lv_at hl 1 rfl) ?_
    refine lv_iload_n hx hb dX10_rests_65 rfl (lv_at hl 2 rfl) ?_
    refine lv_iload hx hb dX10_rests_66 (lv_at hl 8 rfl) ?_
    refine lv_if_ne (tgt := 75) hx hb dX10_rests_68 (by decide) (fun hc => ?_) (fun hc => ?_)
    · have hf := o_f hc hf
      refine lv_iconst (v := (0 : Int32)) hx hb dX10_rests_75 (by decide) ?_
      exact k76 v1 v2 v3 v4 v5 v6 v7 s0 v1 (0 : Int32) rc31 hrc31 _ hf H locs ls hS (lv_sub hl [1, 2, 3, 4, 5, 6, 7, 8, 0] rfl)
    · have hf := o_t hc hf
      refine lv_iconst (v := (1 : Int32)) hx hb dX10_rests_71 (by decide) ?_
      refine lv_goto (tgt := 76) hx hb dX10_rests_72 (by decide) ?_
      exact k76 v1 v2 v3 v4 v5 v6 v7 s0 v1 (1 : Int32) rc31 hrc31 _ hf H locs ls hS (lv_sub hl [1, 2, 3, 4, 5, 6, 7, 8, 0] rfl)
  have k48 : ∀ (v1 : Int32) (v2 : Int32) (v3 : Int32) (v4 : Int32) (v5 : Int32) (v6 : Int32) (s0 : Int32) (rc31 : Int32 → Int32 → Int32 → Mm → Option (Int32 × Mm)) (hrc31 : ∀ (w4 : Int32) (w5 : Int32) (w6 : Int32) (c : Mm), rc31 w4 w5 w6 c = some R → m_G p l e (m_rm 3 68) s m args below meth cd Q D (mkM q cI cZ) 29 q 10 31 [(0, .ref (q 0)), (1, .int v1), (2, .int v2), (3, .int v3), (4, .int w4), (5, .int w5), (6, .int w6)] [] c) (c : Mm), X10_rests_j48 rc31 v1 v2 v3 v4 v5 v6 s0 c = some R → m_G p l e (m_rm 3 68) s m args below meth cd Q D (mkM q cI cZ) 29 q 10 48 [(0, .ref (q 0)), (1, .int v1), (2, .int v2), (3, .int v3), (4, .int v4), (5, .int v5), (6, .int v6)] [.int s0] c := by
    intro v1 v2 v3 v4 v5 v6 s0 rc31 hrc31 c hf H locs ls hS hl
    unfold X10_rests_j48 at hf
    refine lv_istore (lv' := [(7, .int s0), (0, .ref (q 0)), (1, .int v1), (2, .int v2), (3, .int v3), (4, .int v4), (5, .int v5), (6, .int v6)]) hx hb dX10_rests_48 hl (by decide) rfl (fun ls hl => ?_)
    refine lv_iload hx hb dX10_rests_50 (lv_at hl 7 rfl) ?_
    refine lv_iconst (v := (2 : Int32)) hx hb dX10_rests_52 (by decide) ?_
    refine lv_irem hx hb dX10_rests_53 (by decide) ?_
    refine lv_if_ne (tgt := 61) hx hb dX10_rests_54 (by decide) (fun hc => ?_) (fun hc => ?_)
    · have hf := o_f hc hf
      refine lv_iconst (v := (0 : Int32)) hx hb dX10_rests_61 (by decide) ?_
      exact k62 v1 v2 v3 v4 v5 v6 s0 (0 : Int32) rc31 hrc31 _ hf H locs ls hS (lv_sub hl [1, 2, 3, 4, 5, 6, 7, 0] rfl)
    · have hf := o_t hc hf
      refine lv_iconst (v := (1 : Int32)) hx hb dX10_rests_57 (by decide) ?_
      refine lv_goto (tgt := 62) hx hb dX10_rests_58 (by decide) ?_
      exact k62 v1 v2 v3 v4 v5 v6 s0 (1 : Int32) rc31 hrc31 _ hf H locs ls hS (lv_sub hl [1, 2, 3, 4, 5, 6, 7, 0] rfl)
  have k31 : ∀ (v1 : Int32) (v2 : Int32) (v3 : Int32), ∀ (n : Nat) (v4 : Int32) (v5 : Int32) (v6 : Int32) (c : Mm), m_lp3 (X10_rests_b31 v1 v2 v3) n v4 v5 v6 c = some R → m_G p l e (m_rm 3 68) s m args below meth cd Q D (mkM q cI cZ) 29 q 10 31 [(0, .ref (q 0)), (1, .int v1), (2, .int v2), (3, .int v3), (4, .int v4), (5, .int v5), (6, .int v6)] [] c := by
    intro v1 v2 v3
    refine m_lp3_i ?_
    intro rc31 hrc31 v4 v5 v6 c hf H locs ls hS hl
    unfold X10_rests_b31 at hf
    refine lv_iload hx hb dX10_rests_31 (lv_at hl 6 rfl) ?_
    refine lv_iconst (v := (4 : Int32)) hx hb dX10_rests_33 (by decide) ?_
    refine lv_icmp_ge (tgt := 169) hx hb dX10_rests_34 (by decide) (fun hc => ?_) (fun hc => ?_)
    · have hf := o_t hc hf
      exact k169 v3 v4 v5 _ hf H locs ls hS (lv_sub hl [3, 4, 5] rfl)
    · have hf := o_f hc hf
      refine lv_iload hx hb dX10_rests_37 (lv_at hl 6 rfl) ?_
      refine lv_iconst (v := (2 : Int32)) hx hb dX10_rests_39 (by decide) ?_
      refine lv_icmp_ge (tgt := 47) hx hb dX10_rests_40 (by decide) (fun hc => ?_) (fun hc => ?_)
      · have hf := o_t hc hf
        refine lv_iconst (v := (0 : Int32)) hx hb dX10_rests_47 (by decide) ?_
        exact k48 v1 v2 v3 v4 v5 v6 (0 : Int32) rc31 hrc31 _ hf H locs ls hS (lv_sub hl [0, 1, 2, 3, 4, 5, 6] rfl)
      · have hf := o_f hc hf
        refine lv_iconst (v := (1 : Int32)) hx hb dX10_rests_43 (by decide) ?_
        refine lv_goto (tgt := 48) hx hb dX10_rests_44 (by decide) ?_
        exact k48 v1 v2 v3 v4 v5 v6 (1 : Int32) rc31 hrc31 _ hf H locs ls hS (lv_sub hl [0, 1, 2, 3, 4, 5, 6] rfl)
  intro H locs ls hS hl
  have hl : lv_has ls 10 [(0, .ref (q 0)), (1, .int v1), (2, .int v2), (3, .int v3)] := hl
  unfold X10_rests at hf
  refine lv_aload_n hx hb dX10_rests_0 rfl (lv_at hl 0 rfl) ?_
  refine lv_iload_n hx hb dX10_rests_1 rfl (lv_at hl 1 rfl) ?_
  refine lv_iload_n hx hb dX10_rests_2 rfl (lv_at hl 2 rfl) ?_
  obtain ⟨r11, c12, hq, hf⟩ := o_cal hf
  refine m_calli (rest := []) X hS hl.1 (c_X10_areTwo l D cI cZ q _ _ v1 v2 _ hq) cv_10_224 (oM_0 q cI cZ _) rfl rfl ⟨Nat.le_of_ble_eq_true rfl, Nat.le_of_ble_eq_true rfl⟩ ⟨Nat.zero_le _, Nat.zero_le _⟩ (Nat.le_of_ble_eq_true rfl) dX10_rests_3 (fun H locs hS => ?_)
  refine lv_if_eq (tgt := 19) hx hb dX10_rests_6 (by decide) (fun hc => ?_) (fun hc => ?_)
  · have hf := o_t hc hf
    refine lv_iconst (v := (-1 : Int32)) hx hb dX10_rests_19 (by decide) ?_
    exact ret hf hS dX10_rests_20
  · have hf := o_f hc hf
    refine lv_iload_n hx hb dX10_rests_9 rfl (lv_at hl 3 rfl) ?_
    refine lv_i2l hx hb dX10_rests_10 rfl ?_
    refine lv_lconst (v := (0 : Int64)) hx hb dX10_rests_11 (by decide) ?_
    refine lv_lconst (v := (1 : Int64)) hx hb dX10_rests_12 (by decide) ?_
    obtain ⟨r13, c14, hq, hf⟩ := o_cal hf
    refine m_calls (rest := []) X hS hl.1 (c_X10_in l D cI cZ q _ _ (Int32.toInt64 v3) (0 : Int64) (1 : Int64) _ hq) cs_10_109 rfl rfl ⟨Nat.le_of_ble_eq_true rfl, Nat.le_of_ble_eq_true rfl⟩ ⟨Nat.zero_le _, Nat.zero_le _⟩ (Nat.le_of_ble_eq_true rfl) dX10_rests_13 (fun H locs hS => ?_)
    refine lv_if_ne (tgt := 21) hx hb dX10_rests_16 (by decide) (fun hc => ?_) (fun hc => ?_)
    · have hf := o_f hc hf
      refine lv_iconst (v := (0 : Int32)) hx hb dX10_rests_21 (by decide) ?_
      refine lv_istore (lv' := [(4, .int (0 : Int32)), (0, .ref (q 0)), (1, .int v1), (2, .int v2), (3, .int v3)]) hx hb dX10_rests_22 hl (by decide) rfl (fun ls hl => ?_)
      refine lv_bipush (v := (-4 : Int32)) hx hb dX10_rests_24 (by decide) ?_
      refine lv_istore (lv' := [(5, .int (-4 : Int32)), (4, .int (0 : Int32)), (0, .ref (q 0)), (1, .int v1), (2, .int v2), (3, .int v3)]) hx hb dX10_rests_26 hl (by decide) rfl (fun ls hl => ?_)
      refine lv_iconst (v := (0 : Int32)) hx hb dX10_rests_28 (by decide) ?_
      refine lv_istore (lv' := [(6, .int (0 : Int32)), (5, .int (-4 : Int32)), (4, .int (0 : Int32)), (0, .ref (q 0)), (1, .int v1), (2, .int v2), (3, .int v3)]) hx hb dX10_rests_29 hl (by decide) rfl (fun ls hl => ?_)
      exact k31 v1 v2 v3 _ (0 : Int32) (-4 : Int32) (0 : Int32) _ hf H locs ls hS (lv_sub hl [3, 4, 5, 6, 2, 1, 0] rfl)
    · have hf := o_t hc hf
      refine lv_iconst (v := (-1 : Int32)) hx hb dX10_rests_19 (by decide) ?_
      exact ret hf hS dX10_rests_20

set_option maxHeartbeats 40000000 in
set_option maxRecDepth 100000 in
theorem c_X10_seen (l : Launch) (D : va_G) (cI cZ : ClassId) (q : Nat → Nat) (c : Mm) (sz : Nat) (v1 : Int32) (v2 : Int32) (R : Int32 × Mm) (hf : X10_seen v1 v2 c = some R) : m_Mi l yX10_seen cX10_seen 3 (some .int) 3 68 D cI cZ (mkM q cI cZ) 29 q [.ref (q 0), .int v1, .int v2] c sz R := by
  refine m_enter_i (own := RX10) (by decide) rfl (Nat.le_of_ble_eq_true rfl) ?_
  intro p e s m args below meth cd Q X ret
  have hx := X.1
  have hb := X.2.1
  intro H locs ls hS hl
  have hl : lv_has ls 3 [(0, .ref (q 0)), (1, .int v1), (2, .int v2)] := hl
  unfold X10_seen at hf
  refine lv_aload_n hx hb dX10_seen_0 rfl (lv_at hl 0 rfl) ?_
  refine lv_iload_n hx hb dX10_seen_1 rfl (lv_at hl 1 rfl) ?_
  refine lv_iload_n hx hb dX10_seen_2 rfl (lv_at hl 2 rfl) ?_
  obtain ⟨r1, c2, hq, hf⟩ := o_cal hf
  refine m_calli (rest := []) X hS hl.1 (c_X10_areTwo l D cI cZ q _ _ v1 v2 _ hq) cv_10_224 (oM_0 q cI cZ _) rfl rfl ⟨Nat.le_of_ble_eq_true rfl, Nat.le_of_ble_eq_true rfl⟩ ⟨Nat.zero_le _, Nat.zero_le _⟩ (Nat.le_of_ble_eq_true rfl) dX10_seen_3 (fun H locs hS => ?_)
  refine lv_if_ne (tgt := 11) hx hb dX10_seen_6 (by decide) (fun hc => ?_) (fun hc => ?_)
  · have hf := o_f hc hf
    refine lv_aload_n hx hb dX10_seen_11 rfl (lv_at hl 0 rfl) ?_
    refine m_get X hS fl_10_19 (vM_0_4 q cI cZ _) dX10_seen_12 ?_
    refine lv_iload_n hx hb dX10_seen_15 rfl (lv_at hl 1 rfl) ?_
    obtain ⟨hg, hf⟩ := o_gi hf
    refine m_ild X hS (aM_4 q cI cZ) hg dX10_seen_16 ?_
    refine lv_aload_n hx hb dX10_seen_17 rfl (lv_at hl 0 rfl) ?_
    refine m_get X hS fl_10_19 (vM_0_4 q cI cZ _) dX10_seen_18 ?_
    refine lv_iload_n hx hb dX10_seen_21 rfl (lv_at hl 2 rfl) ?_
    obtain ⟨hg, hf⟩ := o_gi hf
    refine m_ild X hS (aM_4 q cI cZ) hg dX10_seen_22 ?_
    refine lv_icmp_ne (tgt := 29) hx hb dX10_seen_23 (by decide) (fun hc => ?_) (fun hc => ?_)
    · have hf := o_f hc hf
      refine lv_aload_n hx hb dX10_seen_29 rfl (lv_at hl 0 rfl) ?_
      refine m_get X hS fl_10_160 (vM_0_17 q cI cZ _) dX10_seen_30 ?_
      refine lv_bipush (v := (8 : Int32)) hx hb dX10_seen_33 (by decide) ?_
      refine lv_icmp_ne (tgt := 41) hx hb dX10_seen_35 (by decide) (fun hc => ?_) (fun hc => ?_)
      · have hf := o_f hc hf
        refine lv_aload_n hx hb dX10_seen_41 rfl (lv_at hl 0 rfl) ?_
        refine m_get X hS fl_10_52 (vM_0_18 q cI cZ _) dX10_seen_42 ?_
        refine lv_aload_n hx hb dX10_seen_45 rfl (lv_at hl 0 rfl) ?_
        refine m_get X hS fl_10_160 (vM_0_17 q cI cZ _) dX10_seen_46 ?_
        refine lv_iload_n hx hb dX10_seen_49 rfl (lv_at hl 1 rfl) ?_
        obtain ⟨hg, hf⟩ := o_gi hf
        refine m_ist X hS (aM_15 q cI cZ) hg dX10_seen_50 (fun c3 ec H locs hS => ?_)
        have hf := o_bnd hf c3 ec
        refine lv_aload_n hx hb dX10_seen_51 rfl (lv_at hl 0 rfl) ?_
        refine m_get X hS fl_10_55 (vM_0_19 q cI cZ _) dX10_seen_52 ?_
        refine lv_aload_n hx hb dX10_seen_55 rfl (lv_at hl 0 rfl) ?_
        refine m_get X hS fl_10_160 (vM_0_17 q cI cZ _) dX10_seen_56 ?_
        refine lv_iload_n hx hb dX10_seen_59 rfl (lv_at hl 2 rfl) ?_
        obtain ⟨hg, hf⟩ := o_gi hf
        refine m_ist X hS (aM_16 q cI cZ) hg dX10_seen_60 (fun c4 ec H locs hS => ?_)
        have hf := o_bnd hf c4 ec
        refine lv_aload_n hx hb dX10_seen_61 rfl (lv_at hl 0 rfl) ?_
        refine lv_dup hx hb dX10_seen_62 rfl ?_
        refine m_get X hS fl_10_160 (vM_0_17 q cI cZ _) dX10_seen_63 ?_
        refine lv_iconst (v := (1 : Int32)) hx hb dX10_seen_66 (by decide) ?_
        refine lv_iadd hx hb dX10_seen_67 ?_
        refine m_put X hS fp_10_160 (pM_0_17 q cI cZ) dX10_seen_68 (fun c5 ec H locs hS => ?_)
        have hf := o_bnd hf c5 ec
        refine lv_aload_n hx hb dX10_seen_71 rfl (lv_at hl 0 rfl) ?_
        refine m_get X hS fl_10_160 (vM_0_17 q cI cZ _) dX10_seen_72 ?_
        exact ret hf hS dX10_seen_75
      · have hf := o_t hc hf
        refine lv_bipush (v := (-3 : Int32)) hx hb dX10_seen_38 (by decide) ?_
        exact ret hf hS dX10_seen_40
    · have hf := o_t hc hf
      refine lv_bipush (v := (-2 : Int32)) hx hb dX10_seen_26 (by decide) ?_
      exact ret hf hS dX10_seen_28
  · have hf := o_t hc hf
    refine lv_iconst (v := (-1 : Int32)) hx hb dX10_seen_9 (by decide) ?_
    exact ret hf hS dX10_seen_10

set_option maxHeartbeats 40000000 in
set_option maxRecDepth 100000 in
theorem c_X10_forget (l : Launch) (D : va_G) (cI cZ : ClassId) (q : Nat → Nat) (c : Mm) (sz : Nat) (R : Int32 × Mm) (hf : X10_forget c = some R) : m_Mi l yX10_forget cX10_forget 2 (some .int) 0 0 D cI cZ (mkM q cI cZ) 29 q [.ref (q 0)] c sz R := by
  refine m_enter_i (own := RX10) (by decide) rfl (Nat.le_of_ble_eq_true rfl) ?_
  intro p e s m args below meth cd Q X ret
  have hx := X.1
  have hb := X.2.1
  intro H locs ls hS hl
  have hl : lv_has ls 2 [(0, .ref (q 0))] := hl
  unfold X10_forget at hf
  refine lv_aload_n hx hb dX10_forget_0 rfl (lv_at hl 0 rfl) ?_
  refine m_get X hS fl_10_160 (vM_0_17 q cI cZ _) dX10_forget_1 ?_
  refine lv_topi (fun x1 ex => ?_)
  have hf := o_bnd hf x1 ex
  refine lv_istore_n (lv' := [(1, .int x1), (0, .ref (q 0))]) hx hb dX10_forget_4 rfl hl (by decide) rfl (fun ls hl => ?_)
  refine lv_aload_n hx hb dX10_forget_5 rfl (lv_at hl 1 rfl) ?_
  refine lv_iconst (v := (0 : Int32)) hx hb dX10_forget_6 (by decide) ?_
  refine m_put X hS fp_10_160 (pM_0_17 q cI cZ) dX10_forget_7 (fun c2 ec H locs hS => ?_)
  have hf := o_bnd hf c2 ec
  refine lv_iload_n hx hb dX10_forget_10 rfl (lv_at hl 0 rfl) ?_
  exact ret hf hS dX10_forget_11

set_option maxHeartbeats 40000000 in
set_option maxRecDepth 100000 in
theorem c_X10_fits (l : Launch) (D : va_G) (cI cZ : ClassId) (q : Nat → Nat) (c : Mm) (sz : Nat) (R : Int32 × Mm) (hf : X10_fits c = some R) : m_Mi l yX10_fits cX10_fits 5 (some .int) 4 90 D cI cZ (mkM q cI cZ) 29 q [.ref (q 0)] c sz R := by
  refine m_enter_i (own := RX10) (by decide) rfl (Nat.le_of_ble_eq_true rfl) ?_
  intro p e s m args below meth cd Q X ret
  have hx := X.1
  have hb := X.2.1
  have k80 : ∀ (v2 : Int32) (s0 : Int32) (s1 : Int32) (rc4 : Int32 → Int32 → Mm → Option (Int32 × Mm)) (hrc4 : ∀ (w1 : Int32) (w2 : Int32) (c : Mm), rc4 w1 w2 c = some R → m_G p l e (m_rm 4 90) s m args below meth cd Q D (mkM q cI cZ) 29 q 5 4 [(0, .ref (q 0)), (1, .int w1), (2, .int w2)] [] c) (c : Mm), X10_fits_j80 rc4 v2 s0 s1 c = some R → m_G p l e (m_rm 4 90) s m args below meth cd Q D (mkM q cI cZ) 29 q 5 80 [(0, .ref (q 0)), (2, .int v2)] [.int s1, .int s0] c := by
    intro v2 s0 s1 rc4 hrc4 c hf H locs ls hS hl
    unfold X10_fits_j80 at hf
    refine lv_ior hx hb dX10_fits_80 ?_
    refine lv_topi (fun x1 ex => ?_)
    have hf := o_bnd hf x1 ex
    refine lv_istore_n (lv' := [(1, .int x1), (0, .ref (q 0)), (2, .int v2)]) hx hb dX10_fits_81 rfl hl (by decide) rfl (fun ls hl => ?_)
    obtain ⟨x2, ex⟩ : ∃ y : Int32, y = v2 + (1 : Int32) := ⟨_, rfl⟩
    have hf := o_bnd hf x2 ex
    refine lv_iinc (v := x2) (lv' := [(2, .int x2), (1, .int x1), (0, .ref (q 0))]) hx hb dX10_fits_82 hl (k := 2) rfl (by rw [ex]; rfl) (by decide) rfl (fun ls hl => ?_)
    refine lv_goto (tgt := 4) hx hb dX10_fits_85 (by decide) ?_
    exact hrc4 x1 x2 _ hf H locs ls hS (lv_sub hl [2, 1, 0] rfl)
  have k68 : ∀ (v1 : Int32) (v2 : Int32) (v3 : Int32) (rc4 : Int32 → Int32 → Mm → Option (Int32 × Mm)) (hrc4 : ∀ (w1 : Int32) (w2 : Int32) (c : Mm), rc4 w1 w2 c = some R → m_G p l e (m_rm 4 90) s m args below meth cd Q D (mkM q cI cZ) 29 q 5 4 [(0, .ref (q 0)), (1, .int w1), (2, .int w2)] [] c) (c : Mm), X10_fits_j68 rc4 v1 v2 v3 c = some R → m_G p l e (m_rm 4 90) s m args below meth cd Q D (mkM q cI cZ) 29 q 5 68 [(0, .ref (q 0)), (1, .int v1), (2, .int v2), (3, .int v3)] [] c := by
    intro v1 v2 v3 rc4 hrc4 c hf H locs ls hS hl
    unfold X10_fits_j68 at hf
    refine lv_iload_n hx hb dX10_fits_68 rfl (lv_at hl 1 rfl) ?_
    refine lv_iload_n hx hb dX10_fits_69 rfl (lv_at hl 3 rfl) ?_
    refine lv_if_eq (tgt := 79) hx hb dX10_fits_70 (by decide) (fun hc => ?_) (fun hc => ?_)
    · have hf := o_t hc hf
      refine lv_iconst (v := (0 : Int32)) hx hb dX10_fits_79 (by decide) ?_
      exact k80 v2 v1 (0 : Int32) rc4 hrc4 _ hf H locs ls hS (lv_sub hl [0, 2] rfl)
    · have hf := o_f hc hf
      refine lv_iconst (v := (1 : Int32)) hx hb dX10_fits_73 (by decide) ?_
      refine lv_iload_n hx hb dX10_fits_74 rfl (lv_at hl 2 rfl) ?_
      refine lv_ishl hx hb dX10_fits_75 ?_
      refine lv_goto (tgt := 80) hx hb dX10_fits_76 (by decide) ?_
      exact k80 v2 v1 ((1 : Int32) <<< (v2 &&& (31 : Int32))) rc4 hrc4 _ hf H locs ls hS (lv_sub hl [0, 2] rfl)
  have k61 : ∀ (v1 : Int32) (v2 : Int32) (v4 : Int32) (s0 : Int32) (rc4 : Int32 → Int32 → Mm → Option (Int32 × Mm)) (hrc4 : ∀ (w1 : Int32) (w2 : Int32) (c : Mm), rc4 w1 w2 c = some R → m_G p l e (m_rm 4 90) s m args below meth cd Q D (mkM q cI cZ) 29 q 5 4 [(0, .ref (q 0)), (1, .int w1), (2, .int w2)] [] c) (rc14 : Int32 → Int32 → Mm → Option (Int32 × Mm)) (hrc14 : ∀ (w3 : Int32) (w4 : Int32) (c : Mm), rc14 w3 w4 c = some R → m_G p l e (m_rm 4 90) s m args below meth cd Q D (mkM q cI cZ) 29 q 5 14 [(0, .ref (q 0)), (1, .int v1), (2, .int v2), (3, .int w3), (4, .int w4)] [] c) (c : Mm), X10_fits_j61 rc4 rc14 v1 v2 v4 s0 c = some R → m_G p l e (m_rm 4 90) s m args below meth cd Q D (mkM q cI cZ) 29 q 5 61 [(0, .ref (q 0)), (1, .int v1), (2, .int v2), (4, .int v4)] [.int s0] c := by
    intro v1 v2 v4 s0 rc4 hrc4 rc14 hrc14 c hf H locs ls hS hl
    unfold X10_fits_j61 at hf
    refine lv_istore_n (lv' := [(3, .int s0), (0, .ref (q 0)), (1, .int v1), (2, .int v2), (4, .int v4)]) hx hb dX10_fits_61 rfl hl (by decide) rfl (fun ls hl => ?_)
    obtain ⟨x3, ex⟩ : ∃ y : Int32, y = v4 + (1 : Int32) := ⟨_, rfl⟩
    have hf := o_bnd hf x3 ex
    refine lv_iinc (v := x3) (lv' := [(4, .int x3), (3, .int s0), (0, .ref (q 0)), (1, .int v1), (2, .int v2)]) hx hb dX10_fits_62 hl (k := 4) rfl (by rw [ex]; rfl) (by decide) rfl (fun ls hl => ?_)
    refine lv_goto (tgt := 14) hx hb dX10_fits_65 (by decide) ?_
    exact hrc14 s0 x3 _ hf H locs ls hS (lv_sub hl [2, 3, 4, 1, 0] rfl)
  have k60 : ∀ (v1 : Int32) (v2 : Int32) (v4 : Int32) (rc4 : Int32 → Int32 → Mm → Option (Int32 × Mm)) (hrc4 : ∀ (w1 : Int32) (w2 : Int32) (c : Mm), rc4 w1 w2 c = some R → m_G p l e (m_rm 4 90) s m args below meth cd Q D (mkM q cI cZ) 29 q 5 4 [(0, .ref (q 0)), (1, .int w1), (2, .int w2)] [] c) (rc14 : Int32 → Int32 → Mm → Option (Int32 × Mm)) (hrc14 : ∀ (w3 : Int32) (w4 : Int32) (c : Mm), rc14 w3 w4 c = some R → m_G p l e (m_rm 4 90) s m args below meth cd Q D (mkM q cI cZ) 29 q 5 14 [(0, .ref (q 0)), (1, .int v1), (2, .int v2), (3, .int w3), (4, .int w4)] [] c) (c : Mm), X10_fits_j60 rc4 rc14 v1 v2 v4 c = some R → m_G p l e (m_rm 4 90) s m args below meth cd Q D (mkM q cI cZ) 29 q 5 60 [(0, .ref (q 0)), (1, .int v1), (2, .int v2), (4, .int v4)] [] c := by
    intro v1 v2 v4 rc4 hrc4 rc14 hrc14 c hf H locs ls hS hl
    unfold X10_fits_j60 at hf
    refine lv_iconst (v := (0 : Int32)) hx hb dX10_fits_60 (by decide) ?_
    exact k61 v1 v2 v4 (0 : Int32) rc4 hrc4 rc14 hrc14 _ hf H locs ls hS (lv_sub hl [0, 1, 2, 3] rfl)
  have k14 : ∀ (v1 : Int32) (v2 : Int32) (rc4 : Int32 → Int32 → Mm → Option (Int32 × Mm)) (hrc4 : ∀ (w1 : Int32) (w2 : Int32) (c : Mm), rc4 w1 w2 c = some R → m_G p l e (m_rm 4 90) s m args below meth cd Q D (mkM q cI cZ) 29 q 5 4 [(0, .ref (q 0)), (1, .int w1), (2, .int w2)] [] c), ∀ (n : Nat) (v3 : Int32) (v4 : Int32) (c : Mm), m_lp2 (X10_fits_b14 rc4 v1 v2) n v3 v4 c = some R → m_G p l e (m_rm 4 90) s m args below meth cd Q D (mkM q cI cZ) 29 q 5 14 [(0, .ref (q 0)), (1, .int v1), (2, .int v2), (3, .int v3), (4, .int v4)] [] c := by
    intro v1 v2 rc4 hrc4
    refine m_lp2_i ?_
    intro rc14 hrc14 v3 v4 c hf H locs ls hS hl
    unfold X10_fits_b14 at hf
    refine lv_iload hx hb dX10_fits_14 (lv_at hl 4 rfl) ?_
    refine lv_aload_n hx hb dX10_fits_16 rfl (lv_at hl 0 rfl) ?_
    refine m_get X hS fl_10_160 (vM_0_17 q cI cZ _) dX10_fits_17 ?_
    refine lv_icmp_ge (tgt := 68) hx hb dX10_fits_20 (by decide) (fun hc => ?_) (fun hc => ?_)
    · have hf := o_t hc hf
      exact k68 v1 v2 v3 rc4 hrc4 _ hf H locs ls hS (lv_sub hl [0, 1, 2, 3] rfl)
    · have hf := o_f hc hf
      refine lv_iload_n hx hb dX10_fits_23 rfl (lv_at hl 3 rfl) ?_
      refine lv_if_eq (tgt := 60) hx hb dX10_fits_24 (by decide) (fun hc => ?_) (fun hc => ?_)
      · have hf := o_t hc hf
        exact k60 v1 v2 v4 rc4 hrc4 rc14 hrc14 _ hf H locs ls hS (lv_sub hl [0, 1, 2, 4] rfl)
      · have hf := o_f hc hf
        refine lv_aload_n hx hb dX10_fits_27 rfl (lv_at hl 0 rfl) ?_
        refine lv_iload_n hx hb dX10_fits_28 rfl (lv_at hl 2 rfl) ?_
        refine lv_aload_n hx hb dX10_fits_29 rfl (lv_at hl 0 rfl) ?_
        refine m_get X hS fl_10_52 (vM_0_18 q cI cZ _) dX10_fits_30 ?_
        refine lv_iload hx hb dX10_fits_33 (lv_at hl 4 rfl) ?_
        obtain ⟨hg, hf⟩ := o_gi hf
        refine m_ild X hS (aM_15 q cI cZ) hg dX10_fits_35 ?_
        refine lv_aload_n hx hb dX10_fits_36 rfl (lv_at hl 0 rfl) ?_
        refine m_get X hS fl_10_55 (vM_0_19 q cI cZ _) dX10_fits_37 ?_
        refine lv_iload hx hb dX10_fits_40 (lv_at hl 4 rfl) ?_
        obtain ⟨hg, hf⟩ := o_gi hf
        refine m_ild X hS (aM_16 q cI cZ) hg dX10_fits_42 ?_
        obtain ⟨r4, c5, hq, hf⟩ := o_cal hf
        refine m_calli (rest := []) X hS hl.1 (c_X10_yielder l D cI cZ q _ _ v2 (c 15 (m_ix v4)) (c 16 (m_ix v4)) _ hq) cv_10_185 (oM_0 q cI cZ _) rfl rfl ⟨Nat.le_of_ble_eq_true rfl, Nat.le_of_ble_eq_true rfl⟩ ⟨Nat.zero_le _, Nat.zero_le _⟩ (Nat.le_of_ble_eq_true rfl) dX10_fits_43 (fun H locs hS => ?_)
        refine lv_aload_n hx hb dX10_fits_46 rfl (lv_at hl 0 rfl) ?_
        refine m_get X hS fl_10_52 (vM_0_18 q cI cZ _) dX10_fits_47 ?_
        refine lv_iload hx hb dX10_fits_50 (lv_at hl 4 rfl) ?_
        obtain ⟨hg, hf⟩ := o_gi hf
        refine m_ild X hS (aM_15 q cI cZ) hg dX10_fits_52 ?_
        refine lv_icmp_ne (tgt := 60) hx hb dX10_fits_53 (by decide) (fun hc => ?_) (fun hc => ?_)
        · have hf := o_f hc hf
          exact k60 v1 v2 v4 rc4 hrc4 rc14 hrc14 _ hf H locs ls hS (lv_sub hl [0, 1, 2, 4] rfl)
        · have hf := o_t hc hf
          refine lv_iconst (v := (1 : Int32)) hx hb dX10_fits_56 (by decide) ?_
          refine lv_goto (tgt := 61) hx hb dX10_fits_57 (by decide) ?_
          exact k61 v1 v2 v4 (1 : Int32) rc4 hrc4 rc14 hrc14 _ hf H locs ls hS (lv_sub hl [0, 1, 2, 4] rfl)
  have k4 : ∀ (n : Nat) (v1 : Int32) (v2 : Int32) (c : Mm), m_lp2 (X10_fits_b4) n v1 v2 c = some R → m_G p l e (m_rm 4 90) s m args below meth cd Q D (mkM q cI cZ) 29 q 5 4 [(0, .ref (q 0)), (1, .int v1), (2, .int v2)] [] c := by
    refine m_lp2_i ?_
    intro rc4 hrc4 v1 v2 c hf H locs ls hS hl
    unfold X10_fits_b4 at hf
    refine lv_iload_n hx hb dX10_fits_4 rfl (lv_at hl 2 rfl) ?_
    refine lv_iconst (v := (4 : Int32)) hx hb dX10_fits_5 (by decide) ?_
    refine lv_icmp_ge (tgt := 88) hx hb dX10_fits_6 (by decide) (fun hc => ?_) (fun hc => ?_)
    · have hf := o_t hc hf
      refine lv_iload_n hx hb dX10_fits_88 rfl (lv_at hl 1 rfl) ?_
      exact ret hf hS dX10_fits_89
    · have hf := o_f hc hf
      refine lv_iconst (v := (1 : Int32)) hx hb dX10_fits_9 (by decide) ?_
      refine lv_istore_n (lv' := [(3, .int (1 : Int32)), (0, .ref (q 0)), (1, .int v1), (2, .int v2)]) hx hb dX10_fits_10 rfl hl (by decide) rfl (fun ls hl => ?_)
      refine lv_iconst (v := (0 : Int32)) hx hb dX10_fits_11 (by decide) ?_
      refine lv_istore (lv' := [(4, .int (0 : Int32)), (3, .int (1 : Int32)), (0, .ref (q 0)), (1, .int v1), (2, .int v2)]) hx hb dX10_fits_12 hl (by decide) rfl (fun ls hl => ?_)
      exact k14 v1 v2 rc4 hrc4 _ (1 : Int32) (0 : Int32) _ hf H locs ls hS (lv_sub hl [2, 3, 4, 1, 0] rfl)
  intro H locs ls hS hl
  have hl : lv_has ls 5 [(0, .ref (q 0))] := hl
  unfold X10_fits at hf
  refine lv_iconst (v := (0 : Int32)) hx hb dX10_fits_0 (by decide) ?_
  refine lv_istore_n (lv' := [(1, .int (0 : Int32)), (0, .ref (q 0))]) hx hb dX10_fits_1 rfl hl (by decide) rfl (fun ls hl => ?_)
  refine lv_iconst (v := (0 : Int32)) hx hb dX10_fits_2 (by decide) ?_
  refine lv_istore_n (lv' := [(2, .int (0 : Int32)), (1, .int (0 : Int32)), (0, .ref (q 0))]) hx hb dX10_fits_3 rfl hl (by decide) rfl (fun ls hl => ?_)
  exact k4 _ (0 : Int32) (0 : Int32) _ hf H locs ls hS (lv_sub hl [2, 1, 0] rfl)

set_option maxHeartbeats 40000000 in
set_option maxRecDepth 100000 in
theorem c_X10_starts (l : Launch) (D : va_G) (cI cZ : ClassId) (q : Nat → Nat) (c : Mm) (sz : Nat) (v1 : Int32) (v2 : Int32) (R : Int32 × Mm) (hf : X10_starts v1 v2 c = some R) : m_Mi l yX10_starts cX10_starts 3 (some .int) 7 168 D cI cZ (mkM q cI cZ) 29 q [.ref (q 0), .int v1, .int v2] c sz R := by
  refine m_enter_i (own := RX10) (by decide) rfl (Nat.le_of_ble_eq_true rfl) ?_
  intro p e s m args below meth cd Q X ret
  have hx := X.1
  have hb := X.2.1
  intro H locs ls hS hl
  have hl : lv_has ls 3 [(0, .ref (q 0)), (1, .int v1), (2, .int v2)] := hl
  unfold X10_starts at hf
  refine lv_iload_n hx hb dX10_starts_0 rfl (lv_at hl 1 rfl) ?_
  obtain ⟨r1, c2, hq, hf⟩ := o_cal hf
  refine m_calls (rest := []) X hS hl.1 (c_X10_isRule l D cI cZ q _ _ v1 _ hq) cs_10_209 rfl rfl ⟨Nat.le_of_ble_eq_true rfl, Nat.le_of_ble_eq_true rfl⟩ ⟨Nat.zero_le _, Nat.zero_le _⟩ (Nat.le_of_ble_eq_true rfl) dX10_starts_1 (fun H locs hS => ?_)
  refine lv_if_eq (tgt := 15) hx hb dX10_starts_4 (by decide) (fun hc => ?_) (fun hc => ?_)
  · have hf := o_t hc hf
    refine lv_iconst (v := (-1 : Int32)) hx hb dX10_starts_15 (by decide) ?_
    exact ret hf hS dX10_starts_16
  · have hf := o_f hc hf
    refine lv_aload_n hx hb dX10_starts_7 rfl (lv_at hl 0 rfl) ?_
    refine lv_iload_n hx hb dX10_starts_8 rfl (lv_at hl 2 rfl) ?_
    obtain ⟨r3, c4, hq, hf⟩ := o_cal hf
    refine m_calli (rest := []) X hS hl.1 (c_X10_isBoat l D cI cZ q _ _ v2 _ hq) cv_10_163 (oM_0 q cI cZ _) rfl rfl ⟨Nat.le_of_ble_eq_true rfl, Nat.le_of_ble_eq_true rfl⟩ ⟨Nat.zero_le _, Nat.zero_le _⟩ (Nat.le_of_ble_eq_true rfl) dX10_starts_9 (fun H locs hS => ?_)
    refine lv_if_ne (tgt := 17) hx hb dX10_starts_12 (by decide) (fun hc => ?_) (fun hc => ?_)
    · have hf := o_f hc hf
      refine lv_aload_n hx hb dX10_starts_17 rfl (lv_at hl 0 rfl) ?_
      refine lv_iload_n hx hb dX10_starts_18 rfl (lv_at hl 1 rfl) ?_
      obtain ⟨r5, c6, hq, hf⟩ := o_cal hf
      refine m_calli (rest := []) X hS hl.1 (c_X10_goDay l D cI cZ q _ _ v1 _ hq) cv_10_214 (oM_0 q cI cZ _) rfl rfl ⟨Nat.le_of_ble_eq_true rfl, Nat.le_of_ble_eq_true rfl⟩ ⟨Nat.zero_le _, Nat.zero_le _⟩ (Nat.le_of_ble_eq_true rfl) dX10_starts_19 (fun H locs hS => ?_)
      refine lv_pop hx hb dX10_starts_22 rfl ?_
      refine lv_aload_n hx hb dX10_starts_23 rfl (lv_at hl 0 rfl) ?_
      refine m_get X hS fl_10_76 (vM_0_27 q cI cZ _) dX10_starts_24 ?_
      refine lv_iload_n hx hb dX10_starts_27 rfl (lv_at hl 2 rfl) ?_
      obtain ⟨hg, hf⟩ := o_gi hf
      refine m_ild X hS (aM_23 q cI cZ) hg dX10_starts_28 ?_
      exact ret hf hS dX10_starts_29
    · have hf := o_t hc hf
      refine lv_iconst (v := (-1 : Int32)) hx hb dX10_starts_15 (by decide) ?_
      exact ret hf hS dX10_starts_16

set_option maxHeartbeats 40000000 in
set_option maxRecDepth 100000 in
theorem c_X10_bears (l : Launch) (D : va_G) (cI cZ : ClassId) (q : Nat → Nat) (c : Mm) (sz : Nat) (v1 : Int32) (v2 : Int32) (R : Int32 × Mm) (hf : X10_bears v1 v2 c = some R) : m_Mi l yX10_bears cX10_bears 5 (some .int) 7 168 D cI cZ (mkM q cI cZ) 29 q [.ref (q 0), .int v1, .int v2] c sz R := by
  refine m_enter_i (own := RX10) (by decide) rfl (Nat.le_of_ble_eq_true rfl) ?_
  intro p e s m args below meth cd Q X ret
  have hx := X.1
  have hb := X.2.1
  have k63 : ∀ (v2 : Int32) (v4 : Int32) (s0 : Int32) (s1 : Int32) (rc32 : Int32 → Int32 → Mm → Option (Int32 × Mm)) (hrc32 : ∀ (w3 : Int32) (w4 : Int32) (c : Mm), rc32 w3 w4 c = some R → m_G p l e (m_rm 7 168) s m args below meth cd Q D (mkM q cI cZ) 29 q 5 32 [(0, .ref (q 0)), (2, .int v2), (3, .int w3), (4, .int w4)] [] c) (c : Mm), X10_bears_j63 rc32 v2 v4 s0 s1 c = some R → m_G p l e (m_rm 7 168) s m args below meth cd Q D (mkM q cI cZ) 29 q 5 63 [(0, .ref (q 0)), (2, .int v2), (4, .int v4)] [.int s1, .int s0] c := by
    intro v2 v4 s0 s1 rc32 hrc32 c hf H locs ls hS hl
    unfold X10_bears_j63 at hf
    refine lv_ior hx hb dX10_bears_63 ?_
    refine lv_topi (fun x1 ex => ?_)
    have hf := o_bnd hf x1 ex
    refine lv_istore_n (lv' := [(3, .int x1), (0, .ref (q 0)), (2, .int v2), (4, .int v4)]) hx hb dX10_bears_64 rfl hl (by decide) rfl (fun ls hl => ?_)
    obtain ⟨x2, ex⟩ : ∃ y : Int32, y = v4 + (1 : Int32) := ⟨_, rfl⟩
    have hf := o_bnd hf x2 ex
    refine lv_iinc (v := x2) (lv' := [(4, .int x2), (3, .int x1), (0, .ref (q 0)), (2, .int v2)]) hx hb dX10_bears_65 hl (k := 3) rfl (by rw [ex]; rfl) (by decide) rfl (fun ls hl => ?_)
    refine lv_goto (tgt := 32) hx hb dX10_bears_68 (by decide) ?_
    exact hrc32 x1 x2 _ hf H locs ls hS (lv_sub hl [2, 3, 1, 0] rfl)
  have k32 : ∀ (v2 : Int32), ∀ (n : Nat) (v3 : Int32) (v4 : Int32) (c : Mm), m_lp2 (X10_bears_b32 v2) n v3 v4 c = some R → m_G p l e (m_rm 7 168) s m args below meth cd Q D (mkM q cI cZ) 29 q 5 32 [(0, .ref (q 0)), (2, .int v2), (3, .int v3), (4, .int v4)] [] c := by
    intro v2
    refine m_lp2_i ?_
    intro rc32 hrc32 v3 v4 c hf H locs ls hS hl
    unfold X10_bears_b32 at hf
    refine lv_iload hx hb dX10_bears_32 (lv_at hl 3 rfl) ?_
    refine lv_aload_n hx hb dX10_bears_34 rfl (lv_at hl 0 rfl) ?_
    refine m_get X hS fl_10_13 (vM_0_2 q cI cZ _) dX10_bears_35 ?_
    refine lv_iconst (v := (0 : Int32)) hx hb dX10_bears_38 (by decide) ?_
    refine m_ildN X hS 0 (by decide +kernel) (aM_2 q cI cZ) (by decide +kernel) dX10_bears_39 ?_
    refine lv_icmp_ge (tgt := 71) hx hb dX10_bears_40 (by decide) (fun hc => ?_) (fun hc => ?_)
    · have hf := o_t hc hf
      refine lv_iload_n hx hb dX10_bears_71 rfl (lv_at hl 2 rfl) ?_
      exact ret hf hS dX10_bears_72
    · have hf := o_f hc hf
      refine lv_iload_n hx hb dX10_bears_43 rfl (lv_at hl 2 rfl) ?_
      refine lv_aload_n hx hb dX10_bears_44 rfl (lv_at hl 0 rfl) ?_
      refine m_get X hS fl_10_76 (vM_0_27 q cI cZ _) dX10_bears_45 ?_
      refine lv_iload hx hb dX10_bears_48 (lv_at hl 3 rfl) ?_
      obtain ⟨hg, hf⟩ := o_gi hf
      refine m_ild X hS (aM_23 q cI cZ) hg dX10_bears_50 ?_
      refine lv_iload_n hx hb dX10_bears_51 rfl (lv_at hl 1 rfl) ?_
      refine lv_icmp_gt (tgt := 62) hx hb dX10_bears_52 (by decide) (fun hc => ?_) (fun hc => ?_)
      · have hf := o_t hc hf
        refine lv_iconst (v := (0 : Int32)) hx hb dX10_bears_62 (by decide) ?_
        exact k63 v2 v4 v3 (0 : Int32) rc32 hrc32 _ hf H locs ls hS (lv_sub hl [0, 1, 3] rfl)
      · have hf := o_f hc hf
        refine lv_iconst (v := (1 : Int32)) hx hb dX10_bears_55 (by decide) ?_
        refine lv_iload hx hb dX10_bears_56 (lv_at hl 3 rfl) ?_
        refine lv_ishl hx hb dX10_bears_58 ?_
        refine lv_goto (tgt := 63) hx hb dX10_bears_59 (by decide) ?_
        exact k63 v2 v4 v3 ((1 : Int32) <<< (v4 &&& (31 : Int32))) rc32 hrc32 _ hf H locs ls hS (lv_sub hl [0, 1, 3] rfl)
  intro H locs ls hS hl
  have hl : lv_has ls 5 [(0, .ref (q 0)), (1, .int v1), (2, .int v2)] := hl
  unfold X10_bears at hf
  refine lv_iload_n hx hb dX10_bears_0 rfl (lv_at hl 1 rfl) ?_
  obtain ⟨r3, c4, hq, hf⟩ := o_cal hf
  refine m_calls (rest := []) X hS hl.1 (c_X10_isRule l D cI cZ q _ _ v1 _ hq) cs_10_209 rfl rfl ⟨Nat.le_of_ble_eq_true rfl, Nat.le_of_ble_eq_true rfl⟩ ⟨Nat.zero_le _, Nat.zero_le _⟩ (Nat.le_of_ble_eq_true rfl) dX10_bears_1 (fun H locs hS => ?_)
  refine lv_if_eq (tgt := 19) hx hb dX10_bears_4 (by decide) (fun hc => ?_) (fun hc => ?_)
  · have hf := o_t hc hf
    refine lv_iconst (v := (-1 : Int32)) hx hb dX10_bears_19 (by decide) ?_
    exact ret hf hS dX10_bears_20
  · have hf := o_f hc hf
    refine lv_iload_n hx hb dX10_bears_7 rfl (lv_at hl 2 rfl) ?_
    refine lv_i2l hx hb dX10_bears_8 rfl ?_
    refine lv_lconst (v := (0 : Int64)) hx hb dX10_bears_9 (by decide) ?_
    refine lv_ldc2 hx hb X.2.2.2.1 (X.2.2.2.2.1 (.constantLong RX10 217 (9 : Int64)) (m_t5 32 rfl rfl)) dX10_bears_10 ?_
    obtain ⟨r5, c6, hq, hf⟩ := o_cal hf
    refine m_calls (rest := []) X hS hl.1 (c_X10_in l D cI cZ q _ _ (Int32.toInt64 v2) (0 : Int64) (9 : Int64) _ hq) cs_10_109 rfl rfl ⟨Nat.le_of_ble_eq_true rfl, Nat.le_of_ble_eq_true rfl⟩ ⟨Nat.zero_le _, Nat.zero_le _⟩ (Nat.le_of_ble_eq_true rfl) dX10_bears_13 (fun H locs hS => ?_)
    refine lv_if_ne (tgt := 21) hx hb dX10_bears_16 (by decide) (fun hc => ?_) (fun hc => ?_)
    · have hf := o_f hc hf
      refine lv_aload_n hx hb dX10_bears_21 rfl (lv_at hl 0 rfl) ?_
      refine lv_iload_n hx hb dX10_bears_22 rfl (lv_at hl 1 rfl) ?_
      obtain ⟨r7, c8, hq, hf⟩ := o_cal hf
      refine m_calli (rest := []) X hS hl.1 (c_X10_goDay l D cI cZ q _ _ v1 _ hq) cv_10_214 (oM_0 q cI cZ _) rfl rfl ⟨Nat.le_of_ble_eq_true rfl, Nat.le_of_ble_eq_true rfl⟩ ⟨Nat.zero_le _, Nat.zero_le _⟩ (Nat.le_of_ble_eq_true rfl) dX10_bears_23 (fun H locs hS => ?_)
      refine lv_pop hx hb dX10_bears_26 rfl ?_
      refine lv_iconst (v := (0 : Int32)) hx hb dX10_bears_27 (by decide) ?_
      refine lv_istore_n (lv' := [(3, .int (0 : Int32)), (0, .ref (q 0)), (1, .int v1), (2, .int v2)]) hx hb dX10_bears_28 rfl hl (by decide) rfl (fun ls hl => ?_)
      refine lv_iconst (v := (0 : Int32)) hx hb dX10_bears_29 (by decide) ?_
      refine lv_istore (lv' := [(4, .int (0 : Int32)), (3, .int (0 : Int32)), (0, .ref (q 0)), (1, .int v1), (2, .int v2)]) hx hb dX10_bears_30 hl (by decide) rfl (fun ls hl => ?_)
      exact k32 v2 _ (0 : Int32) (0 : Int32) _ hf H locs ls hS (lv_sub hl [2, 4, 1, 0] rfl)
    · have hf := o_t hc hf
      refine lv_iconst (v := (-1 : Int32)) hx hb dX10_bears_19 (by decide) ?_
      exact ret hf hS dX10_bears_20

set_option maxHeartbeats 40000000 in
set_option maxRecDepth 100000 in
theorem c_X10_day (l : Launch) (D : va_G) (cI cZ : ClassId) (q : Nat → Nat) (c : Mm) (sz : Nat) (v1 : Int32) (v2 : Int32) (v3 : Int32) (R : Int32 × Mm) (hf : X10_day v1 v2 v3 c = some R) : m_Mi l yX10_day cX10_day 8 (some .int) 7 168 D cI cZ (mkM q cI cZ) 29 q [.ref (q 0), .int v1, .int v2, .int v3] c sz R := by
  refine m_enter_i (own := RX10) (by decide) rfl (Nat.le_of_ble_eq_true rfl) ?_
  intro p e s m args below meth cd Q X ret
  have hx := X.1
  have hb := X.2.1
  have k174 : ∀ (v3 : Int32) (v4 : Int32) (c : Mm), X10_day_j174 v3 v4 c = some R → m_G p l e (m_rm 7 168) s m args below meth cd Q D (mkM q cI cZ) 29 q 8 174 [(0, .ref (q 0)), (3, .int v3), (4, .int v4)] [] c := by
    intro v3 v4 c hf H locs ls hS hl
    unfold X10_day_j174 at hf
    refine lv_iload_n hx hb dX10_day_174 rfl (lv_at hl 1 rfl) ?_
    refine lv_if_ne (tgt := 183) hx hb dX10_day_175 (by decide) (fun hc => ?_) (fun hc => ?_)
    · have hf := o_f hc hf
      refine lv_aload_n hx hb dX10_day_183 rfl (lv_at hl 0 rfl) ?_
      refine m_get X hS fl_10_195 (vM_0_28 q cI cZ _) dX10_day_184 ?_
      exact ret hf hS dX10_day_187
    · have hf := o_t hc hf
      refine lv_iload hx hb dX10_day_178 (lv_at hl 2 rfl) ?_
      refine lv_goto (tgt := 187) hx hb dX10_day_180 (by decide) ?_
      exact ret hf hS dX10_day_187
  have k147 : ∀ (v3 : Int32) (v4 : Int32), ∀ (n : Nat) (v5 : Int32) (c : Mm), m_lp1 (X10_day_b147 v3 v4) n v5 c = some R → m_G p l e (m_rm 7 168) s m args below meth cd Q D (mkM q cI cZ) 29 q 8 147 [(0, .ref (q 0)), (3, .int v3), (4, .int v4), (5, .int v5)] [] c := by
    intro v3 v4
    refine m_lp1_i ?_
    intro rc147 hrc147 v5 c hf H locs ls hS hl
    unfold X10_day_b147 at hf
    refine lv_iload hx hb dX10_day_147 (lv_at hl 3 rfl) ?_
    refine lv_bipush (v := (12 : Int32)) hx hb dX10_day_149 (by decide) ?_
    refine lv_icmp_ge (tgt := 174) hx hb dX10_day_151 (by decide) (fun hc => ?_) (fun hc => ?_)
    · have hf := o_t hc hf
      exact k174 v3 v4 _ hf H locs ls hS (lv_sub hl [0, 1, 2] rfl)
    · have hf := o_f hc hf
      refine lv_aload_n hx hb dX10_day_154 rfl (lv_at hl 0 rfl) ?_
      refine m_get X hS fl_10_43 (vM_0_12 q cI cZ _) dX10_day_155 ?_
      refine lv_iload hx hb dX10_day_158 (lv_at hl 3 rfl) ?_
      refine lv_aload_n hx hb dX10_day_160 rfl (lv_at hl 0 rfl) ?_
      refine m_get X hS fl_10_91 (vM_0_33 q cI cZ _) dX10_day_161 ?_
      refine lv_iload hx hb dX10_day_164 (lv_at hl 3 rfl) ?_
      obtain ⟨hg, hf⟩ := o_gi hf
      refine m_ild X hS (aM_28 q cI cZ) hg dX10_day_166 ?_
      obtain ⟨hg, hf⟩ := o_gi hf
      refine m_ist X hS (aM_12 q cI cZ) hg dX10_day_167 (fun c1 ec H locs hS => ?_)
      have hf := o_bnd hf c1 ec
      obtain ⟨x2, ex⟩ : ∃ y : Int32, y = v5 + (1 : Int32) := ⟨_, rfl⟩
      have hf := o_bnd hf x2 ex
      refine lv_iinc (v := x2) (lv' := [(5, .int x2), (0, .ref (q 0)), (3, .int v3), (4, .int v4)]) hx hb dX10_day_168 hl (k := 3) rfl (by rw [ex]; rfl) (by decide) rfl (fun ls hl => ?_)
      refine lv_goto (tgt := 147) hx hb dX10_day_171 (by decide) ?_
      exact hrc147 x2 _ hf H locs ls hS (lv_sub hl [1, 2, 3, 0] rfl)
  have k137 : ∀ (v1 : Int32) (v3 : Int32) (c : Mm), X10_day_j137 v1 v3 c = some R → m_G p l e (m_rm 7 168) s m args below meth cd Q D (mkM q cI cZ) 29 q 8 137 [(0, .ref (q 0)), (1, .int v1), (3, .int v3)] [] c := by
    intro v1 v3 c hf H locs ls hS hl
    unfold X10_day_j137 at hf
    refine lv_aload_n hx hb dX10_day_137 rfl (lv_at hl 0 rfl) ?_
    refine lv_iload_n hx hb dX10_day_138 rfl (lv_at hl 1 rfl) ?_
    obtain ⟨r3, c4, hq, hf⟩ := o_cal hf
    refine m_calli (rest := []) X hS hl.1 (c_X10_goDay l D cI cZ q _ _ v1 _ hq) cv_10_214 (oM_0 q cI cZ _) rfl rfl ⟨Nat.le_of_ble_eq_true rfl, Nat.le_of_ble_eq_true rfl⟩ ⟨Nat.zero_le _, Nat.zero_le _⟩ (Nat.le_of_ble_eq_true rfl) dX10_day_139 (fun H locs hS => ?_)
    refine lv_istore (lv' := [(4, .int r3), (0, .ref (q 0)), (1, .int v1), (3, .int v3)]) hx hb dX10_day_142 hl (by decide) rfl (fun ls hl => ?_)
    refine lv_iconst (v := (0 : Int32)) hx hb dX10_day_144 (by decide) ?_
    refine lv_istore (lv' := [(5, .int (0 : Int32)), (4, .int r3), (0, .ref (q 0)), (1, .int v1), (3, .int v3)]) hx hb dX10_day_145 hl (by decide) rfl (fun ls hl => ?_)
    exact k147 v3 r3 _ (0 : Int32) _ hf H locs ls hS (lv_sub hl [2, 4, 1, 0] rfl)
  have k64 : ∀ (v1 : Int32) (v2 : Int32) (v3 : Int32), ∀ (n : Nat) (v4 : Int32) (c : Mm), m_lp1 (X10_day_b64 v1 v2 v3) n v4 c = some R → m_G p l e (m_rm 7 168) s m args below meth cd Q D (mkM q cI cZ) 29 q 8 64 [(0, .ref (q 0)), (1, .int v1), (2, .int v2), (3, .int v3), (4, .int v4)] [] c := by
    intro v1 v2 v3
    refine m_lp1_i ?_
    intro rc64 hrc64 v4 c hf H locs ls hS hl
    unfold X10_day_b64 at hf
    refine lv_iload hx hb dX10_day_64 (lv_at hl 4 rfl) ?_
    refine lv_bipush (v := (6 : Int32)) hx hb dX10_day_66 (by decide) ?_
    refine lv_icmp_ge (tgt := 137) hx hb dX10_day_68 (by decide) (fun hc => ?_) (fun hc => ?_)
    · have hf := o_t hc hf
      exact k137 v1 v3 _ hf H locs ls hS (lv_sub hl [0, 1, 3] rfl)
    · have hf := o_f hc hf
      refine lv_ldc2 hx hb X.2.2.2.1 (X.2.2.2.2.1 (.constantLong RX10 250 (7919 : Int64)) (m_t5 125 rfl rfl)) dX10_day_71 ?_
      refine lv_iload_n hx hb dX10_day_74 rfl (lv_at hl 2 rfl) ?_
      refine lv_i2l hx hb dX10_day_75 rfl ?_
      refine lv_lmul hx hb dX10_day_76 ?_
      refine lv_ldc2 hx hb X.2.2.2.1 (X.2.2.2.2.1 (.constantLong RX10 252 (6151 : Int64)) (m_t5 126 rfl rfl)) dX10_day_77 ?_
      refine lv_iload hx hb dX10_day_80 (lv_at hl 4 rfl) ?_
      refine lv_i2l hx hb dX10_day_82 rfl ?_
      refine lv_lmul hx hb dX10_day_83 ?_
      refine lv_ladd hx hb dX10_day_84 ?_
      refine lv_lconst (v := (1 : Int64)) hx hb dX10_day_85 (by decide) ?_
      refine lv_ladd hx hb dX10_day_86 ?_
      refine lv_topl (fun x5 ex => ?_)
      have hf := o_bnd hf x5 ex
      refine lv_lstore (lv' := [(5, .long x5), (0, .ref (q 0)), (1, .int v1), (2, .int v2), (3, .int v3), (4, .int v4)]) hx hb dX10_day_87 hl (by decide) rfl (fun ls hl => ?_)
      refine lv_lload hx hb dX10_day_89 (lv_at hl 0 rfl) ?_
      refine lv_lload hx hb dX10_day_91 (lv_at hl 0 rfl) ?_
      refine lv_lmul hx hb dX10_day_93 ?_
      refine lv_ldc2 hx hb X.2.2.2.1 (X.2.2.2.2.1 (.constantLong RX10 254 (65521 : Int64)) (m_t5 127 rfl rfl)) dX10_day_94 ?_
      refine lv_lrem hx hb dX10_day_97 (by decide) ?_
      refine lv_l2i hx hb dX10_day_98 rfl ?_
      refine lv_topi (fun x6 ex => ?_)
      have hf := o_bnd hf x6 ex
      refine lv_istore (lv' := [(7, .int x6), (5, .long x5), (0, .ref (q 0)), (1, .int v1), (2, .int v2), (3, .int v3), (4, .int v4)]) hx hb dX10_day_99 hl (by decide) rfl (fun ls hl => ?_)
      refine lv_aload_n hx hb dX10_day_101 rfl (lv_at hl 2 rfl) ?_
      refine m_get X hS fl_10_43 (vM_0_12 q cI cZ _) dX10_day_102 ?_
      refine lv_iload hx hb dX10_day_105 (lv_at hl 6 rfl) ?_
      refine lv_iload hx hb dX10_day_107 (lv_at hl 0 rfl) ?_
      refine lv_bipush (v := (64 : Int32)) hx hb dX10_day_109 (by decide) ?_
      refine lv_idiv hx hb dX10_day_111 (by decide) ?_
      refine lv_bipush (v := (10 : Int32)) hx hb dX10_day_112 (by decide) ?_
      refine lv_irem hx hb dX10_day_114 (by decide) ?_
      obtain ⟨hg, hf⟩ := o_gi hf
      refine m_ist X hS (aM_12 q cI cZ) hg dX10_day_115 (fun c7 ec H locs hS => ?_)
      have hf := o_bnd hf c7 ec
      refine lv_aload_n hx hb dX10_day_116 rfl (lv_at hl 2 rfl) ?_
      refine m_get X hS fl_10_43 (vM_0_12 q cI cZ _) dX10_day_117 ?_
      refine lv_bipush (v := (6 : Int32)) hx hb dX10_day_120 (by decide) ?_
      refine lv_iload hx hb dX10_day_122 (lv_at hl 6 rfl) ?_
      refine lv_iadd hx hb dX10_day_124 ?_
      refine lv_iload hx hb dX10_day_125 (lv_at hl 0 rfl) ?_
      refine lv_bipush (v := (31 : Int32)) hx hb dX10_day_127 (by decide) ?_
      refine lv_irem hx hb dX10_day_129 (by decide) ?_
      obtain ⟨hg, hf⟩ := o_gi hf
      refine m_ist X hS (aM_12 q cI cZ) hg dX10_day_130 (fun c8 ec H locs hS => ?_)
      have hf := o_bnd hf c8 ec
      obtain ⟨x9, ex⟩ : ∃ y : Int32, y = v4 + (1 : Int32) := ⟨_, rfl⟩
      have hf := o_bnd hf x9 ex
      refine lv_iinc (v := x9) (lv' := [(4, .int x9), (7, .int x6), (5, .long x5), (0, .ref (q 0)), (1, .int v1), (2, .int v2), (3, .int v3)]) hx hb dX10_day_131 hl (k := 6) rfl (by rw [ex]; rfl) (by decide) rfl (fun ls hl => ?_)
      refine lv_goto (tgt := 64) hx hb dX10_day_134 (by decide) ?_
      exact hrc64 x9 _ hf H locs ls hS (lv_sub hl [3, 4, 5, 6, 0] rfl)
  have k61 : ∀ (v1 : Int32) (v2 : Int32) (v3 : Int32) (c : Mm), X10_day_j61 v1 v2 v3 c = some R → m_G p l e (m_rm 7 168) s m args below meth cd Q D (mkM q cI cZ) 29 q 8 61 [(0, .ref (q 0)), (1, .int v1), (2, .int v2), (3, .int v3)] [] c := by
    intro v1 v2 v3 c hf H locs ls hS hl
    unfold X10_day_j61 at hf
    refine lv_iconst (v := (0 : Int32)) hx hb dX10_day_61 (by decide) ?_
    refine lv_istore (lv' := [(4, .int (0 : Int32)), (0, .ref (q 0)), (1, .int v1), (2, .int v2), (3, .int v3)]) hx hb dX10_day_62 hl (by decide) rfl (fun ls hl => ?_)
    exact k64 v1 v2 v3 _ (0 : Int32) _ hf H locs ls hS (lv_sub hl [1, 2, 3, 4, 0] rfl)
  have k34 : ∀ (v1 : Int32) (v2 : Int32) (v3 : Int32), ∀ (n : Nat) (v4 : Int32) (c : Mm), m_lp1 (X10_day_b34 v1 v2 v3) n v4 c = some R → m_G p l e (m_rm 7 168) s m args below meth cd Q D (mkM q cI cZ) 29 q 8 34 [(0, .ref (q 0)), (1, .int v1), (2, .int v2), (3, .int v3), (4, .int v4)] [] c := by
    intro v1 v2 v3
    refine m_lp1_i ?_
    intro rc34 hrc34 v4 c hf H locs ls hS hl
    unfold X10_day_b34 at hf
    refine lv_iload hx hb dX10_day_34 (lv_at hl 4 rfl) ?_
    refine lv_bipush (v := (12 : Int32)) hx hb dX10_day_36 (by decide) ?_
    refine lv_icmp_ge (tgt := 61) hx hb dX10_day_38 (by decide) (fun hc => ?_) (fun hc => ?_)
    · have hf := o_t hc hf
      exact k61 v1 v2 v3 _ hf H locs ls hS (lv_sub hl [0, 1, 2, 3] rfl)
    · have hf := o_f hc hf
      refine lv_aload_n hx hb dX10_day_41 rfl (lv_at hl 0 rfl) ?_
      refine m_get X hS fl_10_91 (vM_0_33 q cI cZ _) dX10_day_42 ?_
      refine lv_iload hx hb dX10_day_45 (lv_at hl 4 rfl) ?_
      refine lv_aload_n hx hb dX10_day_47 rfl (lv_at hl 0 rfl) ?_
      refine m_get X hS fl_10_43 (vM_0_12 q cI cZ _) dX10_day_48 ?_
      refine lv_iload hx hb dX10_day_51 (lv_at hl 4 rfl) ?_
      obtain ⟨hg, hf⟩ := o_gi hf
      refine m_ild X hS (aM_12 q cI cZ) hg dX10_day_53 ?_
      obtain ⟨hg, hf⟩ := o_gi hf
      refine m_ist X hS (aM_28 q cI cZ) hg dX10_day_54 (fun c10 ec H locs hS => ?_)
      have hf := o_bnd hf c10 ec
      obtain ⟨x11, ex⟩ : ∃ y : Int32, y = v4 + (1 : Int32) := ⟨_, rfl⟩
      have hf := o_bnd hf x11 ex
      refine lv_iinc (v := x11) (lv' := [(4, .int x11), (0, .ref (q 0)), (1, .int v1), (2, .int v2), (3, .int v3)]) hx hb dX10_day_55 hl (k := 4) rfl (by rw [ex]; rfl) (by decide) rfl (fun ls hl => ?_)
      refine lv_goto (tgt := 34) hx hb dX10_day_58 (by decide) ?_
      exact hrc34 x11 _ hf H locs ls hS (lv_sub hl [1, 2, 3, 4, 0] rfl)
  intro H locs ls hS hl
  have hl : lv_has ls 8 [(0, .ref (q 0)), (1, .int v1), (2, .int v2), (3, .int v3)] := hl
  unfold X10_day at hf
  refine lv_iload_n hx hb dX10_day_0 rfl (lv_at hl 1 rfl) ?_
  obtain ⟨r12, c13, hq, hf⟩ := o_cal hf
  refine m_calls (rest := []) X hS hl.1 (c_X10_isRule l D cI cZ q _ _ v1 _ hq) cs_10_209 rfl rfl ⟨Nat.le_of_ble_eq_true rfl, Nat.le_of_ble_eq_true rfl⟩ ⟨Nat.zero_le _, Nat.zero_le _⟩ (Nat.le_of_ble_eq_true rfl) dX10_day_1 (fun H locs hS => ?_)
  refine lv_if_eq (tgt := 29) hx hb dX10_day_4 (by decide) (fun hc => ?_) (fun hc => ?_)
  · have hf := o_t hc hf
    refine lv_iconst (v := (-1 : Int32)) hx hb dX10_day_29 (by decide) ?_
    exact ret hf hS dX10_day_30
  · have hf := o_f hc hf
    refine lv_iload_n hx hb dX10_day_7 rfl (lv_at hl 2 rfl) ?_
    refine lv_i2l hx hb dX10_day_8 rfl ?_
    refine lv_lconst (v := (0 : Int64)) hx hb dX10_day_9 (by decide) ?_
    refine lv_ldc2 hx hb X.2.2.2.1 (X.2.2.2.2.1 (.constantLong RX10 248 (9999 : Int64)) (m_t5 124 rfl rfl)) dX10_day_10 ?_
    obtain ⟨r14, c15, hq, hf⟩ := o_cal hf
    refine m_calls (rest := []) X hS hl.1 (c_X10_in l D cI cZ q _ _ (Int32.toInt64 v2) (0 : Int64) (9999 : Int64) _ hq) cs_10_109 rfl rfl ⟨Nat.le_of_ble_eq_true rfl, Nat.le_of_ble_eq_true rfl⟩ ⟨Nat.zero_le _, Nat.zero_le _⟩ (Nat.le_of_ble_eq_true rfl) dX10_day_13 (fun H locs hS => ?_)
    refine lv_if_eq (tgt := 29) hx hb dX10_day_16 (by decide) (fun hc => ?_) (fun hc => ?_)
    · have hf := o_t hc hf
      refine lv_iconst (v := (-1 : Int32)) hx hb dX10_day_29 (by decide) ?_
      exact ret hf hS dX10_day_30
    · have hf := o_f hc hf
      refine lv_iload_n hx hb dX10_day_19 rfl (lv_at hl 3 rfl) ?_
      refine lv_i2l hx hb dX10_day_20 rfl ?_
      refine lv_lconst (v := (0 : Int64)) hx hb dX10_day_21 (by decide) ?_
      refine lv_lconst (v := (1 : Int64)) hx hb dX10_day_22 (by decide) ?_
      obtain ⟨r16, c17, hq, hf⟩ := o_cal hf
      refine m_calls (rest := []) X hS hl.1 (c_X10_in l D cI cZ q _ _ (Int32.toInt64 v3) (0 : Int64) (1 : Int64) _ hq) cs_10_109 rfl rfl ⟨Nat.le_of_ble_eq_true rfl, Nat.le_of_ble_eq_true rfl⟩ ⟨Nat.zero_le _, Nat.zero_le _⟩ (Nat.le_of_ble_eq_true rfl) dX10_day_23 (fun H locs hS => ?_)
      refine lv_if_ne (tgt := 31) hx hb dX10_day_26 (by decide) (fun hc => ?_) (fun hc => ?_)
      · have hf := o_f hc hf
        refine lv_iconst (v := (0 : Int32)) hx hb dX10_day_31 (by decide) ?_
        refine lv_istore (lv' := [(4, .int (0 : Int32)), (0, .ref (q 0)), (1, .int v1), (2, .int v2), (3, .int v3)]) hx hb dX10_day_32 hl (by decide) rfl (fun ls hl => ?_)
        exact k34 v1 v2 v3 _ (0 : Int32) _ hf H locs ls hS (lv_sub hl [1, 2, 3, 4, 0] rfl)
      · have hf := o_t hc hf
        refine lv_iconst (v := (-1 : Int32)) hx hb dX10_day_29 (by decide) ?_
        exact ret hf hS dX10_day_30

set_option maxHeartbeats 40000000 in
set_option maxRecDepth 100000 in
theorem c_X10_keep (l : Launch) (D : va_G) (cI cZ : ClassId) (q : Nat → Nat) (c : Mm) (sz : Nat) (R : Int32 × Mm) (hf : X10_keep c = some R) : m_Mi l yX10_keep cX10_keep 2 (some .int) 0 0 D cI cZ (mkM q cI cZ) 29 q [.ref (q 0)] c sz R := by
  refine m_enter_i (own := RX10) (by decide) rfl (Nat.le_of_ble_eq_true rfl) ?_
  intro p e s m args below meth cd Q X ret
  have hx := X.1
  have hb := X.2.1
  have k45 : ∀ (c : Mm), X10_keep_j45 c = some R → m_G p l e (m_rm 0 0) s m args below meth cd Q D (mkM q cI cZ) 29 q 2 45 [(0, .ref (q 0))] [] c := by
    intro c hf H locs ls hS hl
    unfold X10_keep_j45 at hf
    refine lv_aload_n hx hb dX10_keep_45 rfl (lv_at hl 0 rfl) ?_
    refine lv_dup hx hb dX10_keep_46 rfl ?_
    refine m_get X hS fl_10_157 (vM_0_16 q cI cZ _) dX10_keep_47 ?_
    refine lv_iconst (v := (1 : Int32)) hx hb dX10_keep_50 (by decide) ?_
    refine lv_iadd hx hb dX10_keep_51 ?_
    refine m_put X hS fp_10_157 (pM_0_16 q cI cZ) dX10_keep_52 (fun c1 ec H locs hS => ?_)
    have hf := o_bnd hf c1 ec
    refine lv_aload_n hx hb dX10_keep_55 rfl (lv_at hl 0 rfl) ?_
    refine m_get X hS fl_10_157 (vM_0_16 q cI cZ _) dX10_keep_56 ?_
    exact ret hf hS dX10_keep_59
  have k13 : ∀ (n : Nat) (v1 : Int32) (c : Mm), m_lp1 (X10_keep_b13) n v1 c = some R → m_G p l e (m_rm 0 0) s m args below meth cd Q D (mkM q cI cZ) 29 q 2 13 [(0, .ref (q 0)), (1, .int v1)] [] c := by
    refine m_lp1_i ?_
    intro rc13 hrc13 v1 c hf H locs ls hS hl
    unfold X10_keep_b13 at hf
    refine lv_iload_n hx hb dX10_keep_13 rfl (lv_at hl 1 rfl) ?_
    refine lv_bipush (v := (12 : Int32)) hx hb dX10_keep_14 (by decide) ?_
    refine lv_icmp_ge (tgt := 45) hx hb dX10_keep_16 (by decide) (fun hc => ?_) (fun hc => ?_)
    · have hf := o_t hc hf
      exact k45 _ hf H locs ls hS (lv_sub hl [0] rfl)
    · have hf := o_f hc hf
      refine lv_aload_n hx hb dX10_keep_19 rfl (lv_at hl 0 rfl) ?_
      refine m_get X hS fl_10_49 (vM_0_15 q cI cZ _) dX10_keep_20 ?_
      refine lv_bipush (v := (12 : Int32)) hx hb dX10_keep_23 (by decide) ?_
      refine lv_aload_n hx hb dX10_keep_25 rfl (lv_at hl 0 rfl) ?_
      refine m_get X hS fl_10_157 (vM_0_16 q cI cZ _) dX10_keep_26 ?_
      refine lv_imul hx hb dX10_keep_29 ?_
      refine lv_iload_n hx hb dX10_keep_30 rfl (lv_at hl 1 rfl) ?_
      refine lv_iadd hx hb dX10_keep_31 ?_
      refine lv_aload_n hx hb dX10_keep_32 rfl (lv_at hl 0 rfl) ?_
      refine m_get X hS fl_10_43 (vM_0_12 q cI cZ _) dX10_keep_33 ?_
      refine lv_iload_n hx hb dX10_keep_36 rfl (lv_at hl 1 rfl) ?_
      obtain ⟨hg, hf⟩ := o_gi hf
      refine m_ild X hS (aM_12 q cI cZ) hg dX10_keep_37 ?_
      obtain ⟨hg, hf⟩ := o_gi hf
      refine m_ist X hS (aM_14 q cI cZ) hg dX10_keep_38 (fun c2 ec H locs hS => ?_)
      have hf := o_bnd hf c2 ec
      obtain ⟨x3, ex⟩ : ∃ y : Int32, y = v1 + (1 : Int32) := ⟨_, rfl⟩
      have hf := o_bnd hf x3 ex
      refine lv_iinc (v := x3) (lv' := [(1, .int x3), (0, .ref (q 0))]) hx hb dX10_keep_39 hl (k := 1) rfl (by rw [ex]; rfl) (by decide) rfl (fun ls hl => ?_)
      refine lv_goto (tgt := 13) hx hb dX10_keep_42 (by decide) ?_
      exact hrc13 x3 _ hf H locs ls hS (lv_sub hl [1, 0] rfl)
  intro H locs ls hS hl
  have hl : lv_has ls 2 [(0, .ref (q 0))] := hl
  unfold X10_keep at hf
  refine lv_aload_n hx hb dX10_keep_0 rfl (lv_at hl 0 rfl) ?_
  refine m_get X hS fl_10_157 (vM_0_16 q cI cZ _) dX10_keep_1 ?_
  refine lv_iconst (v := (2 : Int32)) hx hb dX10_keep_4 (by decide) ?_
  refine lv_icmp_ne (tgt := 11) hx hb dX10_keep_5 (by decide) (fun hc => ?_) (fun hc => ?_)
  · have hf := o_f hc hf
    refine lv_iconst (v := (0 : Int32)) hx hb dX10_keep_11 (by decide) ?_
    refine lv_istore_n (lv' := [(1, .int (0 : Int32)), (0, .ref (q 0))]) hx hb dX10_keep_12 rfl hl (by decide) rfl (fun ls hl => ?_)
    exact k13 _ (0 : Int32) _ hf H locs ls hS (lv_sub hl [1, 0] rfl)
  · have hf := o_t hc hf
    refine lv_bipush (v := (-3 : Int32)) hx hb dX10_keep_8 (by decide) ?_
    exact ret hf hS dX10_keep_10

set_option maxHeartbeats 40000000 in
set_option maxRecDepth 100000 in
theorem c_X10_back (l : Launch) (D : va_G) (cI cZ : ClassId) (q : Nat → Nat) (c : Mm) (sz : Nat) (R : Int32 × Mm) (hf : X10_back c = some R) : m_Mi l yX10_back cX10_back 2 (some .int) 0 0 D cI cZ (mkM q cI cZ) 29 q [.ref (q 0)] c sz R := by
  refine m_enter_i (own := RX10) (by decide) rfl (Nat.le_of_ble_eq_true rfl) ?_
  intro p e s m args below meth cd Q X ret
  have hx := X.1
  have hb := X.2.1
  have k54 : ∀ (c : Mm), X10_back_j54 c = some R → m_G p l e (m_rm 0 0) s m args below meth cd Q D (mkM q cI cZ) 29 q 2 54 [(0, .ref (q 0))] [] c := by
    intro c hf H locs ls hS hl
    unfold X10_back_j54 at hf
    refine lv_aload_n hx hb dX10_back_54 rfl (lv_at hl 0 rfl) ?_
    refine lv_iconst (v := (0 : Int32)) hx hb dX10_back_55 (by decide) ?_
    refine m_put X hS fp_10_154 (pM_0_14 q cI cZ) dX10_back_56 (fun c1 ec H locs hS => ?_)
    have hf := o_bnd hf c1 ec
    refine lv_aload_n hx hb dX10_back_59 rfl (lv_at hl 0 rfl) ?_
    refine m_get X hS fl_10_157 (vM_0_16 q cI cZ _) dX10_back_60 ?_
    exact ret hf hS dX10_back_63
  have k22 : ∀ (n : Nat) (v1 : Int32) (c : Mm), m_lp1 (X10_back_b22) n v1 c = some R → m_G p l e (m_rm 0 0) s m args below meth cd Q D (mkM q cI cZ) 29 q 2 22 [(0, .ref (q 0)), (1, .int v1)] [] c := by
    refine m_lp1_i ?_
    intro rc22 hrc22 v1 c hf H locs ls hS hl
    unfold X10_back_b22 at hf
    refine lv_iload_n hx hb dX10_back_22 rfl (lv_at hl 1 rfl) ?_
    refine lv_bipush (v := (12 : Int32)) hx hb dX10_back_23 (by decide) ?_
    refine lv_icmp_ge (tgt := 54) hx hb dX10_back_25 (by decide) (fun hc => ?_) (fun hc => ?_)
    · have hf := o_t hc hf
      exact k54 _ hf H locs ls hS (lv_sub hl [0] rfl)
    · have hf := o_f hc hf
      refine lv_aload_n hx hb dX10_back_28 rfl (lv_at hl 0 rfl) ?_
      refine m_get X hS fl_10_43 (vM_0_12 q cI cZ _) dX10_back_29 ?_
      refine lv_iload_n hx hb dX10_back_32 rfl (lv_at hl 1 rfl) ?_
      refine lv_aload_n hx hb dX10_back_33 rfl (lv_at hl 0 rfl) ?_
      refine m_get X hS fl_10_49 (vM_0_15 q cI cZ _) dX10_back_34 ?_
      refine lv_bipush (v := (12 : Int32)) hx hb dX10_back_37 (by decide) ?_
      refine lv_aload_n hx hb dX10_back_39 rfl (lv_at hl 0 rfl) ?_
      refine m_get X hS fl_10_157 (vM_0_16 q cI cZ _) dX10_back_40 ?_
      refine lv_imul hx hb dX10_back_43 ?_
      refine lv_iload_n hx hb dX10_back_44 rfl (lv_at hl 1 rfl) ?_
      refine lv_iadd hx hb dX10_back_45 ?_
      obtain ⟨hg, hf⟩ := o_gi hf
      refine m_ild X hS (aM_14 q cI cZ) hg dX10_back_46 ?_
      obtain ⟨hg, hf⟩ := o_gi hf
      refine m_ist X hS (aM_12 q cI cZ) hg dX10_back_47 (fun c2 ec H locs hS => ?_)
      have hf := o_bnd hf c2 ec
      obtain ⟨x3, ex⟩ : ∃ y : Int32, y = v1 + (1 : Int32) := ⟨_, rfl⟩
      have hf := o_bnd hf x3 ex
      refine lv_iinc (v := x3) (lv' := [(1, .int x3), (0, .ref (q 0))]) hx hb dX10_back_48 hl (k := 1) rfl (by rw [ex]; rfl) (by decide) rfl (fun ls hl => ?_)
      refine lv_goto (tgt := 22) hx hb dX10_back_51 (by decide) ?_
      exact hrc22 x3 _ hf H locs ls hS (lv_sub hl [1, 0] rfl)
  intro H locs ls hS hl
  have hl : lv_has ls 2 [(0, .ref (q 0))] := hl
  unfold X10_back at hf
  refine lv_aload_n hx hb dX10_back_0 rfl (lv_at hl 0 rfl) ?_
  refine m_get X hS fl_10_157 (vM_0_16 q cI cZ _) dX10_back_1 ?_
  refine lv_if_ne (tgt := 10) hx hb dX10_back_4 (by decide) (fun hc => ?_) (fun hc => ?_)
  · have hf := o_f hc hf
    refine lv_aload_n hx hb dX10_back_10 rfl (lv_at hl 0 rfl) ?_
    refine lv_dup hx hb dX10_back_11 rfl ?_
    refine m_get X hS fl_10_157 (vM_0_16 q cI cZ _) dX10_back_12 ?_
    refine lv_iconst (v := (1 : Int32)) hx hb dX10_back_15 (by decide) ?_
    refine lv_isub hx hb dX10_back_16 ?_
    refine m_put X hS fp_10_157 (pM_0_16 q cI cZ) dX10_back_17 (fun c4 ec H locs hS => ?_)
    have hf := o_bnd hf c4 ec
    refine lv_iconst (v := (0 : Int32)) hx hb dX10_back_20 (by decide) ?_
    refine lv_istore_n (lv' := [(1, .int (0 : Int32)), (0, .ref (q 0))]) hx hb dX10_back_21 rfl hl (by decide) rfl (fun ls hl => ?_)
    exact k22 _ (0 : Int32) _ hf H locs ls hS (lv_sub hl [1, 0] rfl)
  · have hf := o_t hc hf
    refine lv_bipush (v := (-2 : Int32)) hx hb dX10_back_7 (by decide) ?_
    exact ret hf hS dX10_back_9

set_option maxHeartbeats 40000000 in
set_option maxRecDepth 100000 in
theorem c_X10_count (l : Launch) (D : va_G) (cI cZ : ClassId) (q : Nat → Nat) (c : Mm) (sz : Nat) (v1 : Int32) (R : Int32 × Mm) (hf : X10_count v1 c = some R) : m_Mi l yX10_count cX10_count 2 (some .int) 0 0 D cI cZ (mkM q cI cZ) 29 q [.ref (q 0), .int v1] c sz R := by
  refine m_enter_i (own := RX10) (by decide) rfl (Nat.le_of_ble_eq_true rfl) ?_
  intro p e s m args below meth cd Q X ret
  have hx := X.1
  have hb := X.2.1
  intro H locs ls hS hl
  have hl : lv_has ls 2 [(0, .ref (q 0)), (1, .int v1)] := hl
  unfold X10_count at hf
  refine lv_iload_n hx hb dX10_count_0 rfl (lv_at hl 1 rfl) ?_
  by_cases h_0 : v1 = (0 : Int32)
  · have hf := o_t h_0 hf
    refine lv_tableIn (off := 39) (tgt := 40) hx hb dX10_count_1 (by rw [h_0]; decide) (by rw [h_0]; decide) (by rw [h_0]; decide) (by decide) ?_
    refine lv_aload_n hx hb dX10_count_40 rfl (lv_at hl 0 rfl) ?_
    refine m_get X hS fl_10_13 (vM_0_2 q cI cZ _) dX10_count_41 ?_
    refine lv_iconst (v := (0 : Int32)) hx hb dX10_count_44 (by decide) ?_
    refine m_ildN X hS 0 (by decide +kernel) (aM_2 q cI cZ) (by decide +kernel) dX10_count_45 ?_
    exact ret hf hS dX10_count_46
  have hf := o_f h_0 hf
  by_cases h_1 : v1 = (1 : Int32)
  · have hf := o_t h_1 hf
    refine lv_tableIn (off := 46) (tgt := 47) hx hb dX10_count_1 (by rw [h_1]; decide) (by rw [h_1]; decide) (by rw [h_1]; decide) (by decide) ?_
    refine lv_aload_n hx hb dX10_count_47 rfl (lv_at hl 0 rfl) ?_
    refine m_get X hS fl_10_31 (vM_0_8 q cI cZ _) dX10_count_48 ?_
    refine lv_iconst (v := (0 : Int32)) hx hb dX10_count_51 (by decide) ?_
    refine m_ildN X hS 0 (by decide +kernel) (aM_8 q cI cZ) (by decide +kernel) dX10_count_52 ?_
    exact ret hf hS dX10_count_53
  have hf := o_f h_1 hf
  by_cases h_2 : v1 = (2 : Int32)
  · have hf := o_t h_2 hf
    refine lv_tableIn (off := 53) (tgt := 54) hx hb dX10_count_1 (by rw [h_2]; decide) (by rw [h_2]; decide) (by rw [h_2]; decide) (by decide) ?_
    refine lv_aload_n hx hb dX10_count_54 rfl (lv_at hl 0 rfl) ?_
    refine m_get X hS fl_10_160 (vM_0_17 q cI cZ _) dX10_count_55 ?_
    exact ret hf hS dX10_count_58
  have hf := o_f h_2 hf
  by_cases h_3 : v1 = (3 : Int32)
  · have hf := o_t h_3 hf
    refine lv_tableIn (off := 58) (tgt := 59) hx hb dX10_count_1 (by rw [h_3]; decide) (by rw [h_3]; decide) (by rw [h_3]; decide) (by decide) ?_
    refine lv_aload_n hx hb dX10_count_59 rfl (lv_at hl 0 rfl) ?_
    refine m_get X hS fl_10_154 (vM_0_14 q cI cZ _) dX10_count_60 ?_
    exact ret hf hS dX10_count_63
  have hf := o_f h_3 hf
  by_cases h_4 : v1 = (4 : Int32)
  · have hf := o_t h_4 hf
    refine lv_tableIn (off := 63) (tgt := 64) hx hb dX10_count_1 (by rw [h_4]; decide) (by rw [h_4]; decide) (by rw [h_4]; decide) (by decide) ?_
    refine lv_aload_n hx hb dX10_count_64 rfl (lv_at hl 0 rfl) ?_
    refine m_get X hS fl_10_157 (vM_0_16 q cI cZ _) dX10_count_65 ?_
    exact ret hf hS dX10_count_68
  have hf := o_f h_4 hf
  by_cases h_5 : v1 = (5 : Int32)
  · have hf := o_t h_5 hf
    refine lv_tableIn (off := 68) (tgt := 69) hx hb dX10_count_1 (by rw [h_5]; decide) (by rw [h_5]; decide) (by rw [h_5]; decide) (by decide) ?_
    refine lv_aload_n hx hb dX10_count_69 rfl (lv_at hl 0 rfl) ?_
    refine m_get X hS fl_10_113 (vM_0_0 q cI cZ _) dX10_count_70 ?_
    exact ret hf hS dX10_count_73
  have hf := o_f h_5 hf
  refine lv_tableOut (tgt := 74) hx hb dX10_count_1 (by have := lv_neT h_0 (by decide : ((0 : Int32)).toInt = 0); have := lv_neT h_1 (by decide : ((1 : Int32)).toInt = 1); have := lv_neT h_2 (by decide : ((2 : Int32)).toInt = 2); have := lv_neT h_3 (by decide : ((3 : Int32)).toInt = 3); have := lv_neT h_4 (by decide : ((4 : Int32)).toInt = 4); have := lv_neT h_5 (by decide : ((5 : Int32)).toInt = 5); omega) (by decide) ?_
  refine lv_iconst (v := (-1 : Int32)) hx hb dX10_count_74 (by decide) ?_
  exact ret hf hS dX10_count_75
