set_option maxHeartbeats 40000000 in
set_option maxRecDepth 100000 in
/-- THE LAW'S LOOP -/
theorem law_loop {p : Program} {l : Launch} {e : Env} {s : State} {m : MethodId} {below : List Frame} {meth : Method} {cd : Code} {D : va_G} {cI cZ : ClassId} {b L : Nat} {xs : Nat → Int32} (Rel : Mm → Mm → Prop) (hst : lw_steps Rel) (hL : L ≤ 2560) (C0 : lw_At p s m meth cd b L xs) (X : m_Cx p s m #[Value.ref b] meth cd RL cL_law 4 ret D cI cZ) (q w : Nat → Nat) :
    ∀ (n i : Nat) (x3 : Int32), i ≤ L → L + 1 ≤ i + n → x3 = nI i → ∀ (c d : Mm), Rel c d → ∀ (H : Heap) (locs : List Loc) (ls : Array Slot), va_P D vwCl (m_wO (mkC q cI cZ) 50 q c ++ m_wO (mkM w cI cZ) 29 w d) H → va_D (fun a : Nat => s.heap.size ≤ a) (m_wO (mkC q cI cZ) 50 q c ++ m_wO (mkM w cI cZ) 29 w d) → va_S (fun a : Nat => s.heap.size ≤ a) s.heap H locs → lv_has ls 4 [(0, .ref b), (1, .ref (q 0)), (2, .ref (w 0)), (3, .int x3)] → W p l e room_1 s m #[Value.ref b] below meth cd H locs 79 1839 (lw_Z below #[Value.ref b] s) (F0 m 18 ls []) := by
  obtain ⟨hx, hb, hr, hml, hown, hts, hX, hbl, hlocks, hgv⟩ := C0
  have hA : ∀ a : Nat, s.heap.size ≤ a → (fun a : Nat => s.heap.size ≤ a) a := fun _ h => h
  have hbA : ¬ (fun a : Nat => s.heap.size ≤ a) b := Nat.not_le.mpr hbl
  intro n
  induction n with
  | zero =>
    intro i x3 h1 h2
    exact absurd h2 (by omega)
  | succ n ih =>
    intro i x3 hi hin ex3 c d hrel H locs ls hP hD hS hl
    refine lv_iload_n hx hb dL_law_18 rfl (lv_at hl 3 rfl) ?_
    refine lv_aload_n hx hb dL_law_19 rfl (lv_at hl 0 rfl) ?_
    refine va_slen hx hb hX hbl hbA hS dL_law_20 ?_
    refine lv_iconst (v := (5 : Int32)) hx hb dL_law_21 (by decide) ?_
    refine lv_isub hx hb dL_law_22 ?_
    refine lv_icmp_gt (tgt := 1071) hx hb dL_law_23 (by decide) (fun hc => ?_) (fun hc => ?_)
    · refine lv_iconst (v := 1) hx hb dL_law_1071 (by decide) ?_
      refine va_forget (fun q hq => hS.2.2 q hq) ?_
      exact lw_ret hx hb hr hlocks dL_law_1072
    · have h5 : i + 5 ≤ L := lw_end hi hL (by rw [← ex3]; exact hc)
      have kend : ∀ (c d : Mm), Rel c d → ∀ (H : Heap) (locs : List Loc) (ls : Array Slot), va_P D vwCl (m_wO (mkC q cI cZ) 50 q c ++ m_wO (mkM w cI cZ) 29 w d) H → va_D (fun a : Nat => s.heap.size ≤ a) (m_wO (mkC q cI cZ) 50 q c ++ m_wO (mkM w cI cZ) 29 w d) → va_S (fun a : Nat => s.heap.size ≤ a) s.heap H locs → lv_has ls 4 [(0, .ref b), (1, .ref (q 0)), (2, .ref (w 0)), (3, .int x3)] → W p l e room_1 s m #[Value.ref b] below meth cd H locs 79 1839 (lw_Z below #[Value.ref b] s) (F0 m 1065 ls []) := by
        intro c d hrel H locs ls hP hD hS hl
        obtain ⟨x1, ex⟩ : ∃ y : Int32, y = x3 + (5 : Int32) := ⟨_, rfl⟩
        refine lv_iinc (v := x1) (lv' := [(3, .int x1), (0, .ref b), (1, .ref (q 0)), (2, .ref (w 0))]) hx hb dL_law_1065 hl (k := 3) rfl (by rw [ex]; rfl) (by decide) rfl (fun ls hl => ?_)
        refine lv_goto (tgt := 18) hx hb dL_law_1068 (by decide) ?_
        exact ih (i + 5) x1 h5 (by omega) (by rw [ex, ex3, show (5 : Int32) = nI 5 from rfl, nI_add]) c d hrel H locs ls hP hD hS (lv_sub hl [1, 2, 3, 0] rfl)
      refine lv_aload_n hx hb dL_law_26 rfl (lv_at hl 0 rfl) ?_
      refine lv_iload_n hx hb dL_law_27 rfl (lv_at hl 3 rfl) ?_
      refine va_sld hx hb hX hbl hbA hS (by rw [ex3]; exact lw_ix0 h5 hL) dL_law_28 ?_
      refine lv_bipush (v := (31 : Int32)) hx hb dL_law_29 (by decide) ?_
      refine lv_iand hx hb dL_law_31 ?_
      refine lv_topi (fun z ez => ?_)
      by_cases h_0 : z = (0 : Int32)
      · refine lv_tableIn (off := 140) (tgt := 172) hx hb dL_law_32 (by rw [h_0]; decide) (by rw [h_0]; decide) (by rw [h_0]; decide) (by decide) ?_
        obtain ⟨r, c1, d1, e1, e2, hrel⟩ := hst.1 (xs (m_ix (x3 + (1 : Int32)))) c d hrel
        refine lv_aload_n hx hb dL_law_172 rfl (lv_at hl 1 rfl) ?_
        refine lv_aload_n hx hb dL_law_173 rfl (lv_at hl 0 rfl) ?_
        refine lv_iload_n hx hb dL_law_174 rfl (lv_at hl 3 rfl) ?_
        refine lv_iconst (v := (1 : Int32)) hx hb dL_law_175 (by decide) ?_
        refine lv_iadd hx hb dL_law_176 ?_
        refine va_sld hx hb hX hbl hbA hS (by rw [ex3]; exact lw_ix (k := 1) h5 hL (by decide)) dL_law_177 ?_
        refine m_lcallL (rest := []) X hP hD hS hA hl.1 (c_X9_write l D cI cZ q _ _ (xs (m_ix (x3 + (1 : Int32)))) _ e1) cvL_13 (oC_0 q cI cZ _) rfl rfl ⟨Nat.le_of_ble_eq_true rfl, Nat.le_of_ble_eq_true rfl⟩ ⟨Nat.le_of_ble_eq_true rfl, Nat.le_of_ble_eq_true rfl⟩ (Nat.le_of_ble_eq_true rfl) dL_law_178 (fun H locs hP hD hS => ?_)
        refine lv_aload_n hx hb dL_law_181 rfl (lv_at hl 2 rfl) ?_
        refine lv_aload_n hx hb dL_law_182 rfl (lv_at hl 0 rfl) ?_
        refine lv_iload_n hx hb dL_law_183 rfl (lv_at hl 3 rfl) ?_
        refine lv_iconst (v := (1 : Int32)) hx hb dL_law_184 (by decide) ?_
        refine lv_iadd hx hb dL_law_185 ?_
        refine va_sld hx hb hX hbl hbA hS (by rw [ex3]; exact lw_ix (k := 1) h5 hL (by decide)) dL_law_186 ?_
        refine m_lcallR (rest := [.int r]) X hP hD hS hA hl.1 (c_X10_write l D cI cZ w _ _ (xs (m_ix (x3 + (1 : Int32)))) _ e2) cvL_17 (oM_0 w cI cZ _) rfl rfl ⟨Nat.le_of_ble_eq_true rfl, Nat.le_of_ble_eq_true rfl⟩ ⟨Nat.le_of_ble_eq_true rfl, Nat.le_of_ble_eq_true rfl⟩ (Nat.le_of_ble_eq_true rfl) dL_law_187 (fun H locs hP hD hS => ?_)
        refine lv_icmp_eq (tgt := 1065) hx hb dL_law_190 (by decide) (fun hc => ?_) (fun hc => absurd rfl hc)
        exact kend c1 d1 hrel H locs ls hP hD hS hl
      by_cases h_1 : z = (1 : Int32)
      · refine lv_tableIn (off := 163) (tgt := 195) hx hb dL_law_32 (by rw [h_1]; decide) (by rw [h_1]; decide) (by rw [h_1]; decide) (by decide) ?_
        obtain ⟨r, c1, d1, e1, e2, hrel⟩ := hst.2.1 c d hrel
        refine lv_aload_n hx hb dL_law_195 rfl (lv_at hl 1 rfl) ?_
        refine m_lcallL (rest := []) X hP hD hS hA hl.1 (c_X9_wipe l D cI cZ q _ _ _ e1) cvL_18 (oC_0 q cI cZ _) rfl rfl ⟨Nat.le_of_ble_eq_true rfl, Nat.le_of_ble_eq_true rfl⟩ ⟨Nat.le_of_ble_eq_true rfl, Nat.le_of_ble_eq_true rfl⟩ (Nat.le_of_ble_eq_true rfl) dL_law_196 (fun H locs hP hD hS => ?_)
        refine lv_aload_n hx hb dL_law_199 rfl (lv_at hl 2 rfl) ?_
        refine m_lcallR (rest := [.int r]) X hP hD hS hA hl.1 (c_X10_wipe l D cI cZ w _ _ _ e2) cvL_22 (oM_0 w cI cZ _) rfl rfl ⟨Nat.le_of_ble_eq_true rfl, Nat.le_of_ble_eq_true rfl⟩ ⟨Nat.le_of_ble_eq_true rfl, Nat.le_of_ble_eq_true rfl⟩ (Nat.le_of_ble_eq_true rfl) dL_law_200 (fun H locs hP hD hS => ?_)
        refine lv_icmp_eq (tgt := 1065) hx hb dL_law_203 (by decide) (fun hc => ?_) (fun hc => absurd rfl hc)
        exact kend c1 d1 hrel H locs ls hP hD hS hl
      by_cases h_2 : z = (2 : Int32)
      · refine lv_tableIn (off := 176) (tgt := 208) hx hb dL_law_32 (by rw [h_2]; decide) (by rw [h_2]; decide) (by rw [h_2]; decide) (by decide) ?_
        obtain ⟨r, c1, d1, e1, e2, hrel⟩ := hst.2.2.1 c d hrel
        refine lv_aload_n hx hb dL_law_208 rfl (lv_at hl 1 rfl) ?_
        refine m_lcallL (rest := []) X hP hD hS hA hl.1 (c_X9_fault l D cI cZ q _ _ _ e1) cvL_23 (oC_0 q cI cZ _) rfl rfl ⟨Nat.le_of_ble_eq_true rfl, Nat.le_of_ble_eq_true rfl⟩ ⟨Nat.le_of_ble_eq_true rfl, Nat.le_of_ble_eq_true rfl⟩ (Nat.le_of_ble_eq_true rfl) dL_law_209 (fun H locs hP hD hS => ?_)
        refine lv_aload_n hx hb dL_law_212 rfl (lv_at hl 2 rfl) ?_
        refine m_lcallR (rest := [.int r]) X hP hD hS hA hl.1 (c_X10_fault l D cI cZ w _ _ _ e2) cvL_26 (oM_0 w cI cZ _) rfl rfl ⟨Nat.le_of_ble_eq_true rfl, Nat.le_of_ble_eq_true rfl⟩ ⟨Nat.le_of_ble_eq_true rfl, Nat.le_of_ble_eq_true rfl⟩ (Nat.le_of_ble_eq_true rfl) dL_law_213 (fun H locs hP hD hS => ?_)
        refine lv_icmp_eq (tgt := 1065) hx hb dL_law_216 (by decide) (fun hc => ?_) (fun hc => absurd rfl hc)
        exact kend c1 d1 hrel H locs ls hP hD hS hl
      by_cases h_3 : z = (3 : Int32)
      · refine lv_tableIn (off := 189) (tgt := 221) hx hb dL_law_32 (by rw [h_3]; decide) (by rw [h_3]; decide) (by rw [h_3]; decide) (by decide) ?_
        obtain ⟨r, c1, d1, e1, e2, hrel⟩ := hst.2.2.2.1 c d hrel
        refine lv_aload_n hx hb dL_law_221 rfl (lv_at hl 1 rfl) ?_
        refine m_lcallL (rest := []) X hP hD hS hA hl.1 (c_X9_lay l D cI cZ q _ _ _ e1) cvL_27 (oC_0 q cI cZ _) rfl rfl ⟨Nat.le_of_ble_eq_true rfl, Nat.le_of_ble_eq_true rfl⟩ ⟨Nat.le_of_ble_eq_true rfl, Nat.le_of_ble_eq_true rfl⟩ (Nat.le_of_ble_eq_true rfl) dL_law_222 (fun H locs hP hD hS => ?_)
        refine lv_aload_n hx hb dL_law_225 rfl (lv_at hl 2 rfl) ?_
        refine m_lcallR (rest := [.int r]) X hP hD hS hA hl.1 (c_X10_lay l D cI cZ w _ _ _ e2) cvL_30 (oM_0 w cI cZ _) rfl rfl ⟨Nat.le_of_ble_eq_true rfl, Nat.le_of_ble_eq_true rfl⟩ ⟨Nat.le_of_ble_eq_true rfl, Nat.le_of_ble_eq_true rfl⟩ (Nat.le_of_ble_eq_true rfl) dL_law_226 (fun H locs hP hD hS => ?_)
        refine lv_icmp_eq (tgt := 1065) hx hb dL_law_229 (by decide) (fun hc => ?_) (fun hc => absurd rfl hc)
        exact kend c1 d1 hrel H locs ls hP hD hS hl
      by_cases h_4 : z = (4 : Int32)
      · refine lv_tableIn (off := 202) (tgt := 234) hx hb dL_law_32 (by rw [h_4]; decide) (by rw [h_4]; decide) (by rw [h_4]; decide) (by decide) ?_
        obtain ⟨r, c1, d1, e1, e2, hrel⟩ := hst.2.2.2.2.1 (xs (m_ix (x3 + (1 : Int32)))) (xs (m_ix (x3 + (2 : Int32)))) c d hrel
        refine lv_aload_n hx hb dL_law_234 rfl (lv_at hl 1 rfl) ?_
        refine lv_aload_n hx hb dL_law_235 rfl (lv_at hl 0 rfl) ?_
        refine lv_iload_n hx hb dL_law_236 rfl (lv_at hl 3 rfl) ?_
        refine lv_iconst (v := (1 : Int32)) hx hb dL_law_237 (by decide) ?_
        refine lv_iadd hx hb dL_law_238 ?_
        refine va_sld hx hb hX hbl hbA hS (by rw [ex3]; exact lw_ix (k := 1) h5 hL (by decide)) dL_law_239 ?_
        refine lv_aload_n hx hb dL_law_240 rfl (lv_at hl 0 rfl) ?_
        refine lv_iload_n hx hb dL_law_241 rfl (lv_at hl 3 rfl) ?_
        refine lv_iconst (v := (2 : Int32)) hx hb dL_law_242 (by decide) ?_
        refine lv_iadd hx hb dL_law_243 ?_
        refine va_sld hx hb hX hbl hbA hS (by rw [ex3]; exact lw_ix (k := 2) h5 hL (by decide)) dL_law_244 ?_
        refine m_lcallL (rest := []) X hP hD hS hA hl.1 (c_X9_boat l D cI cZ q _ _ (xs (m_ix (x3 + (1 : Int32)))) (xs (m_ix (x3 + (2 : Int32)))) _ e1) cvL_31 (oC_0 q cI cZ _) rfl rfl ⟨Nat.le_of_ble_eq_true rfl, Nat.le_of_ble_eq_true rfl⟩ ⟨Nat.le_of_ble_eq_true rfl, Nat.le_of_ble_eq_true rfl⟩ (Nat.le_of_ble_eq_true rfl) dL_law_245 (fun H locs hP hD hS => ?_)
        refine lv_aload_n hx hb dL_law_248 rfl (lv_at hl 2 rfl) ?_
        refine lv_aload_n hx hb dL_law_249 rfl (lv_at hl 0 rfl) ?_
        refine lv_iload_n hx hb dL_law_250 rfl (lv_at hl 3 rfl) ?_
        refine lv_iconst (v := (1 : Int32)) hx hb dL_law_251 (by decide) ?_
        refine lv_iadd hx hb dL_law_252 ?_
        refine va_sld hx hb hX hbl hbA hS (by rw [ex3]; exact lw_ix (k := 1) h5 hL (by decide)) dL_law_253 ?_
        refine lv_aload_n hx hb dL_law_254 rfl (lv_at hl 0 rfl) ?_
        refine lv_iload_n hx hb dL_law_255 rfl (lv_at hl 3 rfl) ?_
        refine lv_iconst (v := (2 : Int32)) hx hb dL_law_256 (by decide) ?_
        refine lv_iadd hx hb dL_law_257 ?_
        refine va_sld hx hb hX hbl hbA hS (by rw [ex3]; exact lw_ix (k := 2) h5 hL (by decide)) dL_law_258 ?_
        refine m_lcallR (rest := [.int r]) X hP hD hS hA hl.1 (c_X10_boat l D cI cZ w _ _ (xs (m_ix (x3 + (1 : Int32)))) (xs (m_ix (x3 + (2 : Int32)))) _ e2) cvL_35 (oM_0 w cI cZ _) rfl rfl ⟨Nat.le_of_ble_eq_true rfl, Nat.le_of_ble_eq_true rfl⟩ ⟨Nat.le_of_ble_eq_true rfl, Nat.le_of_ble_eq_true rfl⟩ (Nat.le_of_ble_eq_true rfl) dL_law_259 (fun H locs hP hD hS => ?_)
        refine lv_icmp_eq (tgt := 1065) hx hb dL_law_262 (by decide) (fun hc => ?_) (fun hc => absurd rfl hc)
        exact kend c1 d1 hrel H locs ls hP hD hS hl
      by_cases h_5 : z = (5 : Int32)
      · refine lv_tableIn (off := 235) (tgt := 267) hx hb dL_law_32 (by rw [h_5]; decide) (by rw [h_5]; decide) (by rw [h_5]; decide) (by decide) ?_
        obtain ⟨r, c1, d1, e1, e2, hrel⟩ := hst.2.2.2.2.2.1 (xs (m_ix (x3 + (1 : Int32)))) (xs (m_ix (x3 + (2 : Int32)))) (xs (m_ix (x3 + (3 : Int32)))) c d hrel
        refine lv_aload_n hx hb dL_law_267 rfl (lv_at hl 1 rfl) ?_
        refine lv_aload_n hx hb dL_law_268 rfl (lv_at hl 0 rfl) ?_
        refine lv_iload_n hx hb dL_law_269 rfl (lv_at hl 3 rfl) ?_
        refine lv_iconst (v := (1 : Int32)) hx hb dL_law_270 (by decide) ?_
        refine lv_iadd hx hb dL_law_271 ?_
        refine va_sld hx hb hX hbl hbA hS (by rw [ex3]; exact lw_ix (k := 1) h5 hL (by decide)) dL_law_272 ?_
        refine lv_aload_n hx hb dL_law_273 rfl (lv_at hl 0 rfl) ?_
        refine lv_iload_n hx hb dL_law_274 rfl (lv_at hl 3 rfl) ?_
        refine lv_iconst (v := (2 : Int32)) hx hb dL_law_275 (by decide) ?_
        refine lv_iadd hx hb dL_law_276 ?_
        refine va_sld hx hb hX hbl hbA hS (by rw [ex3]; exact lw_ix (k := 2) h5 hL (by decide)) dL_law_277 ?_
        refine lv_aload_n hx hb dL_law_278 rfl (lv_at hl 0 rfl) ?_
        refine lv_iload_n hx hb dL_law_279 rfl (lv_at hl 3 rfl) ?_
        refine lv_iconst (v := (3 : Int32)) hx hb dL_law_280 (by decide) ?_
        refine lv_iadd hx hb dL_law_281 ?_
        refine va_sld hx hb hX hbl hbA hS (by rw [ex3]; exact lw_ix (k := 3) h5 hL (by decide)) dL_law_282 ?_
        refine m_lcallL (rest := []) X hP hD hS hA hl.1 (c_X9_where l D cI cZ q _ _ (xs (m_ix (x3 + (1 : Int32)))) (xs (m_ix (x3 + (2 : Int32)))) (xs (m_ix (x3 + (3 : Int32)))) _ e1) cvL_36 (oC_0 q cI cZ _) rfl rfl ⟨Nat.le_of_ble_eq_true rfl, Nat.le_of_ble_eq_true rfl⟩ ⟨Nat.le_of_ble_eq_true rfl, Nat.le_of_ble_eq_true rfl⟩ (Nat.le_of_ble_eq_true rfl) dL_law_283 (fun H locs hP hD hS => ?_)
        refine lv_aload_n hx hb dL_law_286 rfl (lv_at hl 2 rfl) ?_
        refine lv_aload_n hx hb dL_law_287 rfl (lv_at hl 0 rfl) ?_
        refine lv_iload_n hx hb dL_law_288 rfl (lv_at hl 3 rfl) ?_
        refine lv_iconst (v := (1 : Int32)) hx hb dL_law_289 (by decide) ?_
        refine lv_iadd hx hb dL_law_290 ?_
        refine va_sld hx hb hX hbl hbA hS (by rw [ex3]; exact lw_ix (k := 1) h5 hL (by decide)) dL_law_291 ?_
        refine lv_aload_n hx hb dL_law_292 rfl (lv_at hl 0 rfl) ?_
        refine lv_iload_n hx hb dL_law_293 rfl (lv_at hl 3 rfl) ?_
        refine lv_iconst (v := (2 : Int32)) hx hb dL_law_294 (by decide) ?_
        refine lv_iadd hx hb dL_law_295 ?_
        refine va_sld hx hb hX hbl hbA hS (by rw [ex3]; exact lw_ix (k := 2) h5 hL (by decide)) dL_law_296 ?_
        refine lv_aload_n hx hb dL_law_297 rfl (lv_at hl 0 rfl) ?_
        refine lv_iload_n hx hb dL_law_298 rfl (lv_at hl 3 rfl) ?_
        refine lv_iconst (v := (3 : Int32)) hx hb dL_law_299 (by decide) ?_
        refine lv_iadd hx hb dL_law_300 ?_
        refine va_sld hx hb hX hbl hbA hS (by rw [ex3]; exact lw_ix (k := 3) h5 hL (by decide)) dL_law_301 ?_
        refine m_lcallR (rest := [.int r]) X hP hD hS hA hl.1 (c_X10_where l D cI cZ w _ _ (xs (m_ix (x3 + (1 : Int32)))) (xs (m_ix (x3 + (2 : Int32)))) (xs (m_ix (x3 + (3 : Int32)))) _ e2) cvL_40 (oM_0 w cI cZ _) rfl rfl ⟨Nat.le_of_ble_eq_true rfl, Nat.le_of_ble_eq_true rfl⟩ ⟨Nat.le_of_ble_eq_true rfl, Nat.le_of_ble_eq_true rfl⟩ (Nat.le_of_ble_eq_true rfl) dL_law_302 (fun H locs hP hD hS => ?_)
        refine lv_icmp_eq (tgt := 1065) hx hb dL_law_305 (by decide) (fun hc => ?_) (fun hc => absurd rfl hc)
        exact kend c1 d1 hrel H locs ls hP hD hS hl
      by_cases h_6 : z = (6 : Int32)
      · refine lv_tableIn (off := 278) (tgt := 310) hx hb dL_law_32 (by rw [h_6]; decide) (by rw [h_6]; decide) (by rw [h_6]; decide) (by decide) ?_
        obtain ⟨r, c1, d1, e1, e2, hrel⟩ := hst.2.2.2.2.2.2.1 (xs (m_ix (x3 + (1 : Int32)))) (xs (m_ix (x3 + (2 : Int32)))) c d hrel
        refine lv_aload_n hx hb dL_law_310 rfl (lv_at hl 1 rfl) ?_
        refine lv_aload_n hx hb dL_law_311 rfl (lv_at hl 0 rfl) ?_
        refine lv_iload_n hx hb dL_law_312 rfl (lv_at hl 3 rfl) ?_
        refine lv_iconst (v := (1 : Int32)) hx hb dL_law_313 (by decide) ?_
        refine lv_iadd hx hb dL_law_314 ?_
        refine va_sld hx hb hX hbl hbA hS (by rw [ex3]; exact lw_ix (k := 1) h5 hL (by decide)) dL_law_315 ?_
        refine lv_aload_n hx hb dL_law_316 rfl (lv_at hl 0 rfl) ?_
        refine lv_iload_n hx hb dL_law_317 rfl (lv_at hl 3 rfl) ?_
        refine lv_iconst (v := (2 : Int32)) hx hb dL_law_318 (by decide) ?_
        refine lv_iadd hx hb dL_law_319 ?_
        refine va_sld hx hb hX hbl hbA hS (by rw [ex3]; exact lw_ix (k := 2) h5 hL (by decide)) dL_law_320 ?_
        refine m_lcallL (rest := []) X hP hD hS hA hl.1 (c_X9_there l D cI cZ q _ _ (xs (m_ix (x3 + (1 : Int32)))) (xs (m_ix (x3 + (2 : Int32)))) _ e1) cvL_41 (oC_0 q cI cZ _) rfl rfl ⟨Nat.le_of_ble_eq_true rfl, Nat.le_of_ble_eq_true rfl⟩ ⟨Nat.le_of_ble_eq_true rfl, Nat.le_of_ble_eq_true rfl⟩ (Nat.le_of_ble_eq_true rfl) dL_law_321 (fun H locs hP hD hS => ?_)
        refine lv_aload_n hx hb dL_law_324 rfl (lv_at hl 2 rfl) ?_
        refine lv_aload_n hx hb dL_law_325 rfl (lv_at hl 0 rfl) ?_
        refine lv_iload_n hx hb dL_law_326 rfl (lv_at hl 3 rfl) ?_
        refine lv_iconst (v := (1 : Int32)) hx hb dL_law_327 (by decide) ?_
        refine lv_iadd hx hb dL_law_328 ?_
        refine va_sld hx hb hX hbl hbA hS (by rw [ex3]; exact lw_ix (k := 1) h5 hL (by decide)) dL_law_329 ?_
        refine lv_aload_n hx hb dL_law_330 rfl (lv_at hl 0 rfl) ?_
        refine lv_iload_n hx hb dL_law_331 rfl (lv_at hl 3 rfl) ?_
        refine lv_iconst (v := (2 : Int32)) hx hb dL_law_332 (by decide) ?_
        refine lv_iadd hx hb dL_law_333 ?_
        refine va_sld hx hb hX hbl hbA hS (by rw [ex3]; exact lw_ix (k := 2) h5 hL (by decide)) dL_law_334 ?_
        refine m_lcallR (rest := [.int r]) X hP hD hS hA hl.1 (c_X10_there l D cI cZ w _ _ (xs (m_ix (x3 + (1 : Int32)))) (xs (m_ix (x3 + (2 : Int32)))) _ e2) cvL_44 (oM_0 w cI cZ _) rfl rfl ⟨Nat.le_of_ble_eq_true rfl, Nat.le_of_ble_eq_true rfl⟩ ⟨Nat.le_of_ble_eq_true rfl, Nat.le_of_ble_eq_true rfl⟩ (Nat.le_of_ble_eq_true rfl) dL_law_335 (fun H locs hP hD hS => ?_)
        refine lv_icmp_eq (tgt := 1065) hx hb dL_law_338 (by decide) (fun hc => ?_) (fun hc => absurd rfl hc)
        exact kend c1 d1 hrel H locs ls hP hD hS hl
      by_cases h_7 : z = (7 : Int32)
      · refine lv_tableIn (off := 311) (tgt := 343) hx hb dL_law_32 (by rw [h_7]; decide) (by rw [h_7]; decide) (by rw [h_7]; decide) (by decide) ?_
        obtain ⟨r, c1, d1, e1, e2, hrel⟩ := hst.2.2.2.2.2.2.2.1 (xs (m_ix (x3 + (1 : Int32)))) (xs (m_ix (x3 + (2 : Int32)))) c d hrel
        refine lv_aload_n hx hb dL_law_343 rfl (lv_at hl 1 rfl) ?_
        refine lv_aload_n hx hb dL_law_344 rfl (lv_at hl 0 rfl) ?_
        refine lv_iload_n hx hb dL_law_345 rfl (lv_at hl 3 rfl) ?_
        refine lv_iconst (v := (1 : Int32)) hx hb dL_law_346 (by decide) ?_
        refine lv_iadd hx hb dL_law_347 ?_
        refine va_sld hx hb hX hbl hbA hS (by rw [ex3]; exact lw_ix (k := 1) h5 hL (by decide)) dL_law_348 ?_
        refine lv_aload_n hx hb dL_law_349 rfl (lv_at hl 0 rfl) ?_
        refine lv_iload_n hx hb dL_law_350 rfl (lv_at hl 3 rfl) ?_
        refine lv_iconst (v := (2 : Int32)) hx hb dL_law_351 (by decide) ?_
        refine lv_iadd hx hb dL_law_352 ?_
        refine va_sld hx hb hX hbl hbA hS (by rw [ex3]; exact lw_ix (k := 2) h5 hL (by decide)) dL_law_353 ?_
        refine m_lcallL (rest := []) X hP hD hS hA hl.1 (c_X9_stands l D cI cZ q _ _ (xs (m_ix (x3 + (1 : Int32)))) (xs (m_ix (x3 + (2 : Int32)))) _ e1) cvL_45 (oC_0 q cI cZ _) rfl rfl ⟨Nat.le_of_ble_eq_true rfl, Nat.le_of_ble_eq_true rfl⟩ ⟨Nat.le_of_ble_eq_true rfl, Nat.le_of_ble_eq_true rfl⟩ (Nat.le_of_ble_eq_true rfl) dL_law_354 (fun H locs hP hD hS => ?_)
        refine lv_aload_n hx hb dL_law_357 rfl (lv_at hl 2 rfl) ?_
        refine lv_aload_n hx hb dL_law_358 rfl (lv_at hl 0 rfl) ?_
        refine lv_iload_n hx hb dL_law_359 rfl (lv_at hl 3 rfl) ?_
        refine lv_iconst (v := (1 : Int32)) hx hb dL_law_360 (by decide) ?_
        refine lv_iadd hx hb dL_law_361 ?_
        refine va_sld hx hb hX hbl hbA hS (by rw [ex3]; exact lw_ix (k := 1) h5 hL (by decide)) dL_law_362 ?_
        refine lv_aload_n hx hb dL_law_363 rfl (lv_at hl 0 rfl) ?_
        refine lv_iload_n hx hb dL_law_364 rfl (lv_at hl 3 rfl) ?_
        refine lv_iconst (v := (2 : Int32)) hx hb dL_law_365 (by decide) ?_
        refine lv_iadd hx hb dL_law_366 ?_
        refine va_sld hx hb hX hbl hbA hS (by rw [ex3]; exact lw_ix (k := 2) h5 hL (by decide)) dL_law_367 ?_
        refine m_lcallR (rest := [.int r]) X hP hD hS hA hl.1 (c_X10_stands l D cI cZ w _ _ (xs (m_ix (x3 + (1 : Int32)))) (xs (m_ix (x3 + (2 : Int32)))) _ e2) cvL_48 (oM_0 w cI cZ _) rfl rfl ⟨Nat.le_of_ble_eq_true rfl, Nat.le_of_ble_eq_true rfl⟩ ⟨Nat.le_of_ble_eq_true rfl, Nat.le_of_ble_eq_true rfl⟩ (Nat.le_of_ble_eq_true rfl) dL_law_368 (fun H locs hP hD hS => ?_)
        refine lv_icmp_eq (tgt := 1065) hx hb dL_law_371 (by decide) (fun hc => ?_) (fun hc => absurd rfl hc)
        exact kend c1 d1 hrel H locs ls hP hD hS hl
      by_cases h_8 : z = (8 : Int32)
      · refine lv_tableIn (off := 344) (tgt := 376) hx hb dL_law_32 (by rw [h_8]; decide) (by rw [h_8]; decide) (by rw [h_8]; decide) (by decide) ?_
        obtain ⟨r, c1, d1, e1, e2, hrel⟩ := hst.2.2.2.2.2.2.2.2.1 (xs (m_ix (x3 + (1 : Int32)))) (xs (m_ix (x3 + (2 : Int32)))) c d hrel
        refine lv_aload_n hx hb dL_law_376 rfl (lv_at hl 1 rfl) ?_
        refine lv_aload_n hx hb dL_law_377 rfl (lv_at hl 0 rfl) ?_
        refine lv_iload_n hx hb dL_law_378 rfl (lv_at hl 3 rfl) ?_
        refine lv_iconst (v := (1 : Int32)) hx hb dL_law_379 (by decide) ?_
        refine lv_iadd hx hb dL_law_380 ?_
        refine va_sld hx hb hX hbl hbA hS (by rw [ex3]; exact lw_ix (k := 1) h5 hL (by decide)) dL_law_381 ?_
        refine lv_aload_n hx hb dL_law_382 rfl (lv_at hl 0 rfl) ?_
        refine lv_iload_n hx hb dL_law_383 rfl (lv_at hl 3 rfl) ?_
        refine lv_iconst (v := (2 : Int32)) hx hb dL_law_384 (by decide) ?_
        refine lv_iadd hx hb dL_law_385 ?_
        refine va_sld hx hb hX hbl hbA hS (by rw [ex3]; exact lw_ix (k := 2) h5 hL (by decide)) dL_law_386 ?_
        refine m_lcallL (rest := []) X hP hD hS hA hl.1 (c_X9_yields l D cI cZ q _ _ (xs (m_ix (x3 + (1 : Int32)))) (xs (m_ix (x3 + (2 : Int32)))) _ e1) cvL_49 (oC_0 q cI cZ _) rfl rfl ⟨Nat.le_of_ble_eq_true rfl, Nat.le_of_ble_eq_true rfl⟩ ⟨Nat.le_of_ble_eq_true rfl, Nat.le_of_ble_eq_true rfl⟩ (Nat.le_of_ble_eq_true rfl) dL_law_387 (fun H locs hP hD hS => ?_)
        refine lv_aload_n hx hb dL_law_390 rfl (lv_at hl 2 rfl) ?_
        refine lv_aload_n hx hb dL_law_391 rfl (lv_at hl 0 rfl) ?_
        refine lv_iload_n hx hb dL_law_392 rfl (lv_at hl 3 rfl) ?_
        refine lv_iconst (v := (1 : Int32)) hx hb dL_law_393 (by decide) ?_
        refine lv_iadd hx hb dL_law_394 ?_
        refine va_sld hx hb hX hbl hbA hS (by rw [ex3]; exact lw_ix (k := 1) h5 hL (by decide)) dL_law_395 ?_
        refine lv_aload_n hx hb dL_law_396 rfl (lv_at hl 0 rfl) ?_
        refine lv_iload_n hx hb dL_law_397 rfl (lv_at hl 3 rfl) ?_
        refine lv_iconst (v := (2 : Int32)) hx hb dL_law_398 (by decide) ?_
        refine lv_iadd hx hb dL_law_399 ?_
        refine va_sld hx hb hX hbl hbA hS (by rw [ex3]; exact lw_ix (k := 2) h5 hL (by decide)) dL_law_400 ?_
        refine m_lcallR (rest := [.int r]) X hP hD hS hA hl.1 (c_X10_yields l D cI cZ w _ _ (xs (m_ix (x3 + (1 : Int32)))) (xs (m_ix (x3 + (2 : Int32)))) _ e2) cvL_52 (oM_0 w cI cZ _) rfl rfl ⟨Nat.le_of_ble_eq_true rfl, Nat.le_of_ble_eq_true rfl⟩ ⟨Nat.le_of_ble_eq_true rfl, Nat.le_of_ble_eq_true rfl⟩ (Nat.le_of_ble_eq_true rfl) dL_law_401 (fun H locs hP hD hS => ?_)
        refine lv_icmp_eq (tgt := 1065) hx hb dL_law_404 (by decide) (fun hc => ?_) (fun hc => absurd rfl hc)
        exact kend c1 d1 hrel H locs ls hP hD hS hl
      by_cases h_9 : z = (9 : Int32)
      · refine lv_tableIn (off := 377) (tgt := 409) hx hb dL_law_32 (by rw [h_9]; decide) (by rw [h_9]; decide) (by rw [h_9]; decide) (by decide) ?_
        obtain ⟨r, c1, d1, e1, e2, hrel⟩ := hst.2.2.2.2.2.2.2.2.2.1 (xs (m_ix (x3 + (1 : Int32)))) c d hrel
        refine lv_aload_n hx hb dL_law_409 rfl (lv_at hl 1 rfl) ?_
        refine lv_aload_n hx hb dL_law_410 rfl (lv_at hl 0 rfl) ?_
        refine lv_iload_n hx hb dL_law_411 rfl (lv_at hl 3 rfl) ?_
        refine lv_iconst (v := (1 : Int32)) hx hb dL_law_412 (by decide) ?_
        refine lv_iadd hx hb dL_law_413 ?_
        refine va_sld hx hb hX hbl hbA hS (by rw [ex3]; exact lw_ix (k := 1) h5 hL (by decide)) dL_law_414 ?_
        refine m_lcallL (rest := []) X hP hD hS hA hl.1 (c_X9_meetings l D cI cZ q _ _ (xs (m_ix (x3 + (1 : Int32)))) _ e1) cvL_53 (oC_0 q cI cZ _) rfl rfl ⟨Nat.le_of_ble_eq_true rfl, Nat.le_of_ble_eq_true rfl⟩ ⟨Nat.le_of_ble_eq_true rfl, Nat.le_of_ble_eq_true rfl⟩ (Nat.le_of_ble_eq_true rfl) dL_law_415 (fun H locs hP hD hS => ?_)
        refine lv_aload_n hx hb dL_law_418 rfl (lv_at hl 2 rfl) ?_
        refine lv_aload_n hx hb dL_law_419 rfl (lv_at hl 0 rfl) ?_
        refine lv_iload_n hx hb dL_law_420 rfl (lv_at hl 3 rfl) ?_
        refine lv_iconst (v := (1 : Int32)) hx hb dL_law_421 (by decide) ?_
        refine lv_iadd hx hb dL_law_422 ?_
        refine va_sld hx hb hX hbl hbA hS (by rw [ex3]; exact lw_ix (k := 1) h5 hL (by decide)) dL_law_423 ?_
        refine m_lcallR (rest := [.int r]) X hP hD hS hA hl.1 (c_X10_meetings l D cI cZ w _ _ (xs (m_ix (x3 + (1 : Int32)))) _ e2) cvL_56 (oM_0 w cI cZ _) rfl rfl ⟨Nat.le_of_ble_eq_true rfl, Nat.le_of_ble_eq_true rfl⟩ ⟨Nat.le_of_ble_eq_true rfl, Nat.le_of_ble_eq_true rfl⟩ (Nat.le_of_ble_eq_true rfl) dL_law_424 (fun H locs hP hD hS => ?_)
        refine lv_icmp_eq (tgt := 1065) hx hb dL_law_427 (by decide) (fun hc => ?_) (fun hc => absurd rfl hc)
        exact kend c1 d1 hrel H locs ls hP hD hS hl
      by_cases h_10 : z = (10 : Int32)
      · refine lv_tableIn (off := 400) (tgt := 432) hx hb dL_law_32 (by rw [h_10]; decide) (by rw [h_10]; decide) (by rw [h_10]; decide) (by decide) ?_
        obtain ⟨r, c1, d1, e1, e2, hrel⟩ := hst.2.2.2.2.2.2.2.2.2.2.1 (xs (m_ix (x3 + (1 : Int32)))) (xs (m_ix (x3 + (2 : Int32)))) (xs (m_ix (x3 + (3 : Int32)))) c d hrel
        refine lv_aload_n hx hb dL_law_432 rfl (lv_at hl 1 rfl) ?_
        refine lv_aload_n hx hb dL_law_433 rfl (lv_at hl 0 rfl) ?_
        refine lv_iload_n hx hb dL_law_434 rfl (lv_at hl 3 rfl) ?_
        refine lv_iconst (v := (1 : Int32)) hx hb dL_law_435 (by decide) ?_
        refine lv_iadd hx hb dL_law_436 ?_
        refine va_sld hx hb hX hbl hbA hS (by rw [ex3]; exact lw_ix (k := 1) h5 hL (by decide)) dL_law_437 ?_
        refine lv_aload_n hx hb dL_law_438 rfl (lv_at hl 0 rfl) ?_
        refine lv_iload_n hx hb dL_law_439 rfl (lv_at hl 3 rfl) ?_
        refine lv_iconst (v := (2 : Int32)) hx hb dL_law_440 (by decide) ?_
        refine lv_iadd hx hb dL_law_441 ?_
        refine va_sld hx hb hX hbl hbA hS (by rw [ex3]; exact lw_ix (k := 2) h5 hL (by decide)) dL_law_442 ?_
        refine lv_aload_n hx hb dL_law_443 rfl (lv_at hl 0 rfl) ?_
        refine lv_iload_n hx hb dL_law_444 rfl (lv_at hl 3 rfl) ?_
        refine lv_iconst (v := (3 : Int32)) hx hb dL_law_445 (by decide) ?_
        refine lv_iadd hx hb dL_law_446 ?_
        refine va_sld hx hb hX hbl hbA hS (by rw [ex3]; exact lw_ix (k := 3) h5 hL (by decide)) dL_law_447 ?_
        refine m_lcallL (rest := []) X hP hD hS hA hl.1 (c_X9_meeting l D cI cZ q _ _ (xs (m_ix (x3 + (1 : Int32)))) (xs (m_ix (x3 + (2 : Int32)))) (xs (m_ix (x3 + (3 : Int32)))) _ e1) cvL_57 (oC_0 q cI cZ _) rfl rfl ⟨Nat.le_of_ble_eq_true rfl, Nat.le_of_ble_eq_true rfl⟩ ⟨Nat.le_of_ble_eq_true rfl, Nat.le_of_ble_eq_true rfl⟩ (Nat.le_of_ble_eq_true rfl) dL_law_448 (fun H locs hP hD hS => ?_)
        refine lv_aload_n hx hb dL_law_451 rfl (lv_at hl 2 rfl) ?_
        refine lv_aload_n hx hb dL_law_452 rfl (lv_at hl 0 rfl) ?_
        refine lv_iload_n hx hb dL_law_453 rfl (lv_at hl 3 rfl) ?_
        refine lv_iconst (v := (1 : Int32)) hx hb dL_law_454 (by decide) ?_
        refine lv_iadd hx hb dL_law_455 ?_
        refine va_sld hx hb hX hbl hbA hS (by rw [ex3]; exact lw_ix (k := 1) h5 hL (by decide)) dL_law_456 ?_
        refine lv_aload_n hx hb dL_law_457 rfl (lv_at hl 0 rfl) ?_
        refine lv_iload_n hx hb dL_law_458 rfl (lv_at hl 3 rfl) ?_
        refine lv_iconst (v := (2 : Int32)) hx hb dL_law_459 (by decide) ?_
        refine lv_iadd hx hb dL_law_460 ?_
        refine va_sld hx hb hX hbl hbA hS (by rw [ex3]; exact lw_ix (k := 2) h5 hL (by decide)) dL_law_461 ?_
        refine lv_aload_n hx hb dL_law_462 rfl (lv_at hl 0 rfl) ?_
        refine lv_iload_n hx hb dL_law_463 rfl (lv_at hl 3 rfl) ?_
        refine lv_iconst (v := (3 : Int32)) hx hb dL_law_464 (by decide) ?_
        refine lv_iadd hx hb dL_law_465 ?_
        refine va_sld hx hb hX hbl hbA hS (by rw [ex3]; exact lw_ix (k := 3) h5 hL (by decide)) dL_law_466 ?_
        refine m_lcallR (rest := [.int r]) X hP hD hS hA hl.1 (c_X10_meeting l D cI cZ w _ _ (xs (m_ix (x3 + (1 : Int32)))) (xs (m_ix (x3 + (2 : Int32)))) (xs (m_ix (x3 + (3 : Int32)))) _ e2) cvL_60 (oM_0 w cI cZ _) rfl rfl ⟨Nat.le_of_ble_eq_true rfl, Nat.le_of_ble_eq_true rfl⟩ ⟨Nat.le_of_ble_eq_true rfl, Nat.le_of_ble_eq_true rfl⟩ (Nat.le_of_ble_eq_true rfl) dL_law_467 (fun H locs hP hD hS => ?_)
        refine lv_icmp_eq (tgt := 1065) hx hb dL_law_470 (by decide) (fun hc => ?_) (fun hc => absurd rfl hc)
        exact kend c1 d1 hrel H locs ls hP hD hS hl
      by_cases h_11 : z = (11 : Int32)
      · refine lv_tableIn (off := 443) (tgt := 475) hx hb dL_law_32 (by rw [h_11]; decide) (by rw [h_11]; decide) (by rw [h_11]; decide) (by decide) ?_
        obtain ⟨r, c1, d1, e1, e2, hrel⟩ := hst.2.2.2.2.2.2.2.2.2.2.2.1 (xs (m_ix (x3 + (1 : Int32)))) (xs (m_ix (x3 + (2 : Int32)))) c d hrel
        refine lv_aload_n hx hb dL_law_475 rfl (lv_at hl 1 rfl) ?_
        refine lv_aload_n hx hb dL_law_476 rfl (lv_at hl 0 rfl) ?_
        refine lv_iload_n hx hb dL_law_477 rfl (lv_at hl 3 rfl) ?_
        refine lv_iconst (v := (1 : Int32)) hx hb dL_law_478 (by decide) ?_
        refine lv_iadd hx hb dL_law_479 ?_
        refine va_sld hx hb hX hbl hbA hS (by rw [ex3]; exact lw_ix (k := 1) h5 hL (by decide)) dL_law_480 ?_
        refine lv_aload_n hx hb dL_law_481 rfl (lv_at hl 0 rfl) ?_
        refine lv_iload_n hx hb dL_law_482 rfl (lv_at hl 3 rfl) ?_
        refine lv_iconst (v := (2 : Int32)) hx hb dL_law_483 (by decide) ?_
        refine lv_iadd hx hb dL_law_484 ?_
        refine va_sld hx hb hX hbl hbA hS (by rw [ex3]; exact lw_ix (k := 2) h5 hL (by decide)) dL_law_485 ?_
        refine m_lcallL (rest := []) X hP hD hS hA hl.1 (c_X9_load l D cI cZ q _ _ (xs (m_ix (x3 + (1 : Int32)))) (xs (m_ix (x3 + (2 : Int32)))) _ e1) cvL_61 (oC_0 q cI cZ _) rfl rfl ⟨Nat.le_of_ble_eq_true rfl, Nat.le_of_ble_eq_true rfl⟩ ⟨Nat.le_of_ble_eq_true rfl, Nat.le_of_ble_eq_true rfl⟩ (Nat.le_of_ble_eq_true rfl) dL_law_486 (fun H locs hP hD hS => ?_)
        refine lv_aload_n hx hb dL_law_489 rfl (lv_at hl 2 rfl) ?_
        refine lv_aload_n hx hb dL_law_490 rfl (lv_at hl 0 rfl) ?_
        refine lv_iload_n hx hb dL_law_491 rfl (lv_at hl 3 rfl) ?_
        refine lv_iconst (v := (1 : Int32)) hx hb dL_law_492 (by decide) ?_
        refine lv_iadd hx hb dL_law_493 ?_
        refine va_sld hx hb hX hbl hbA hS (by rw [ex3]; exact lw_ix (k := 1) h5 hL (by decide)) dL_law_494 ?_
        refine lv_aload_n hx hb dL_law_495 rfl (lv_at hl 0 rfl) ?_
        refine lv_iload_n hx hb dL_law_496 rfl (lv_at hl 3 rfl) ?_
        refine lv_iconst (v := (2 : Int32)) hx hb dL_law_497 (by decide) ?_
        refine lv_iadd hx hb dL_law_498 ?_
        refine va_sld hx hb hX hbl hbA hS (by rw [ex3]; exact lw_ix (k := 2) h5 hL (by decide)) dL_law_499 ?_
        refine m_lcallR (rest := [.int r]) X hP hD hS hA hl.1 (c_X10_load l D cI cZ w _ _ (xs (m_ix (x3 + (1 : Int32)))) (xs (m_ix (x3 + (2 : Int32)))) _ e2) cvL_64 (oM_0 w cI cZ _) rfl rfl ⟨Nat.le_of_ble_eq_true rfl, Nat.le_of_ble_eq_true rfl⟩ ⟨Nat.le_of_ble_eq_true rfl, Nat.le_of_ble_eq_true rfl⟩ (Nat.le_of_ble_eq_true rfl) dL_law_500 (fun H locs hP hD hS => ?_)
        refine lv_icmp_eq (tgt := 1065) hx hb dL_law_503 (by decide) (fun hc => ?_) (fun hc => absurd rfl hc)
        exact kend c1 d1 hrel H locs ls hP hD hS hl
      by_cases h_12 : z = (12 : Int32)
      · refine lv_tableIn (off := 476) (tgt := 508) hx hb dL_law_32 (by rw [h_12]; decide) (by rw [h_12]; decide) (by rw [h_12]; decide) (by decide) ?_
        obtain ⟨r, c1, d1, e1, e2, hrel⟩ := hst.2.2.2.2.2.2.2.2.2.2.2.2.1 (xs (m_ix (x3 + (1 : Int32)))) (xs (m_ix (x3 + (2 : Int32)))) c d hrel
        refine lv_aload_n hx hb dL_law_508 rfl (lv_at hl 1 rfl) ?_
        refine lv_aload_n hx hb dL_law_509 rfl (lv_at hl 0 rfl) ?_
        refine lv_iload_n hx hb dL_law_510 rfl (lv_at hl 3 rfl) ?_
        refine lv_iconst (v := (1 : Int32)) hx hb dL_law_511 (by decide) ?_
        refine lv_iadd hx hb dL_law_512 ?_
        refine va_sld hx hb hX hbl hbA hS (by rw [ex3]; exact lw_ix (k := 1) h5 hL (by decide)) dL_law_513 ?_
        refine lv_aload_n hx hb dL_law_514 rfl (lv_at hl 0 rfl) ?_
        refine lv_iload_n hx hb dL_law_515 rfl (lv_at hl 3 rfl) ?_
        refine lv_iconst (v := (2 : Int32)) hx hb dL_law_516 (by decide) ?_
        refine lv_iadd hx hb dL_law_517 ?_
        refine va_sld hx hb hX hbl hbA hS (by rw [ex3]; exact lw_ix (k := 2) h5 hL (by decide)) dL_law_518 ?_
        refine m_lcallL (rest := []) X hP hD hS hA hl.1 (c_X9_later l D cI cZ q _ _ (xs (m_ix (x3 + (1 : Int32)))) (xs (m_ix (x3 + (2 : Int32)))) _ e1) cvL_65 (oC_0 q cI cZ _) rfl rfl ⟨Nat.le_of_ble_eq_true rfl, Nat.le_of_ble_eq_true rfl⟩ ⟨Nat.le_of_ble_eq_true rfl, Nat.le_of_ble_eq_true rfl⟩ (Nat.le_of_ble_eq_true rfl) dL_law_519 (fun H locs hP hD hS => ?_)
        refine lv_aload_n hx hb dL_law_522 rfl (lv_at hl 2 rfl) ?_
        refine lv_aload_n hx hb dL_law_523 rfl (lv_at hl 0 rfl) ?_
        refine lv_iload_n hx hb dL_law_524 rfl (lv_at hl 3 rfl) ?_
        refine lv_iconst (v := (1 : Int32)) hx hb dL_law_525 (by decide) ?_
        refine lv_iadd hx hb dL_law_526 ?_
        refine va_sld hx hb hX hbl hbA hS (by rw [ex3]; exact lw_ix (k := 1) h5 hL (by decide)) dL_law_527 ?_
        refine lv_aload_n hx hb dL_law_528 rfl (lv_at hl 0 rfl) ?_
        refine lv_iload_n hx hb dL_law_529 rfl (lv_at hl 3 rfl) ?_
        refine lv_iconst (v := (2 : Int32)) hx hb dL_law_530 (by decide) ?_
        refine lv_iadd hx hb dL_law_531 ?_
        refine va_sld hx hb hX hbl hbA hS (by rw [ex3]; exact lw_ix (k := 2) h5 hL (by decide)) dL_law_532 ?_
        refine m_lcallR (rest := [.int r]) X hP hD hS hA hl.1 (c_X10_later l D cI cZ w _ _ (xs (m_ix (x3 + (1 : Int32)))) (xs (m_ix (x3 + (2 : Int32)))) _ e2) cvL_68 (oM_0 w cI cZ _) rfl rfl ⟨Nat.le_of_ble_eq_true rfl, Nat.le_of_ble_eq_true rfl⟩ ⟨Nat.le_of_ble_eq_true rfl, Nat.le_of_ble_eq_true rfl⟩ (Nat.le_of_ble_eq_true rfl) dL_law_533 (fun H locs hP hD hS => ?_)
        refine lv_icmp_eq (tgt := 1065) hx hb dL_law_536 (by decide) (fun hc => ?_) (fun hc => absurd rfl hc)
        exact kend c1 d1 hrel H locs ls hP hD hS hl
      by_cases h_13 : z = (13 : Int32)
      · refine lv_tableIn (off := 509) (tgt := 541) hx hb dL_law_32 (by rw [h_13]; decide) (by rw [h_13]; decide) (by rw [h_13]; decide) (by decide) ?_
        obtain ⟨r, c1, d1, e1, e2, hrel⟩ := hst.2.2.2.2.2.2.2.2.2.2.2.2.2.1 c d hrel
        refine lv_aload_n hx hb dL_law_541 rfl (lv_at hl 1 rfl) ?_
        refine m_lcallL (rest := []) X hP hD hS hA hl.1 (c_X9_undo l D cI cZ q _ _ _ e1) cvL_69 (oC_0 q cI cZ _) rfl rfl ⟨Nat.le_of_ble_eq_true rfl, Nat.le_of_ble_eq_true rfl⟩ ⟨Nat.le_of_ble_eq_true rfl, Nat.le_of_ble_eq_true rfl⟩ (Nat.le_of_ble_eq_true rfl) dL_law_542 (fun H locs hP hD hS => ?_)
        refine lv_aload_n hx hb dL_law_545 rfl (lv_at hl 2 rfl) ?_
        refine m_lcallR (rest := [.int r]) X hP hD hS hA hl.1 (c_X10_undo l D cI cZ w _ _ _ e2) cvL_72 (oM_0 w cI cZ _) rfl rfl ⟨Nat.le_of_ble_eq_true rfl, Nat.le_of_ble_eq_true rfl⟩ ⟨Nat.le_of_ble_eq_true rfl, Nat.le_of_ble_eq_true rfl⟩ (Nat.le_of_ble_eq_true rfl) dL_law_546 (fun H locs hP hD hS => ?_)
        refine lv_icmp_eq (tgt := 1065) hx hb dL_law_549 (by decide) (fun hc => ?_) (fun hc => absurd rfl hc)
        exact kend c1 d1 hrel H locs ls hP hD hS hl
      by_cases h_14 : z = (14 : Int32)
      · refine lv_tableIn (off := 522) (tgt := 554) hx hb dL_law_32 (by rw [h_14]; decide) (by rw [h_14]; decide) (by rw [h_14]; decide) (by decide) ?_
        obtain ⟨r, c1, d1, e1, e2, hrel⟩ := hst.2.2.2.2.2.2.2.2.2.2.2.2.2.2.1 (xs (m_ix (x3 + (1 : Int32)))) (xs (m_ix (x3 + (2 : Int32)))) (xs (m_ix (x3 + (3 : Int32)))) c d hrel
        refine lv_aload_n hx hb dL_law_554 rfl (lv_at hl 1 rfl) ?_
        refine lv_aload_n hx hb dL_law_555 rfl (lv_at hl 0 rfl) ?_
        refine lv_iload_n hx hb dL_law_556 rfl (lv_at hl 3 rfl) ?_
        refine lv_iconst (v := (1 : Int32)) hx hb dL_law_557 (by decide) ?_
        refine lv_iadd hx hb dL_law_558 ?_
        refine va_sld hx hb hX hbl hbA hS (by rw [ex3]; exact lw_ix (k := 1) h5 hL (by decide)) dL_law_559 ?_
        refine lv_aload_n hx hb dL_law_560 rfl (lv_at hl 0 rfl) ?_
        refine lv_iload_n hx hb dL_law_561 rfl (lv_at hl 3 rfl) ?_
        refine lv_iconst (v := (2 : Int32)) hx hb dL_law_562 (by decide) ?_
        refine lv_iadd hx hb dL_law_563 ?_
        refine va_sld hx hb hX hbl hbA hS (by rw [ex3]; exact lw_ix (k := 2) h5 hL (by decide)) dL_law_564 ?_
        refine lv_aload_n hx hb dL_law_565 rfl (lv_at hl 0 rfl) ?_
        refine lv_iload_n hx hb dL_law_566 rfl (lv_at hl 3 rfl) ?_
        refine lv_iconst (v := (3 : Int32)) hx hb dL_law_567 (by decide) ?_
        refine lv_iadd hx hb dL_law_568 ?_
        refine va_sld hx hb hX hbl hbA hS (by rw [ex3]; exact lw_ix (k := 3) h5 hL (by decide)) dL_law_569 ?_
        refine m_lcallL (rest := []) X hP hD hS hA hl.1 (c_X9_who l D cI cZ q _ _ (xs (m_ix (x3 + (1 : Int32)))) (xs (m_ix (x3 + (2 : Int32)))) (xs (m_ix (x3 + (3 : Int32)))) _ e1) cvL_73 (oC_0 q cI cZ _) rfl rfl ⟨Nat.le_of_ble_eq_true rfl, Nat.le_of_ble_eq_true rfl⟩ ⟨Nat.le_of_ble_eq_true rfl, Nat.le_of_ble_eq_true rfl⟩ (Nat.le_of_ble_eq_true rfl) dL_law_570 (fun H locs hP hD hS => ?_)
        refine lv_aload_n hx hb dL_law_573 rfl (lv_at hl 2 rfl) ?_
        refine lv_aload_n hx hb dL_law_574 rfl (lv_at hl 0 rfl) ?_
        refine lv_iload_n hx hb dL_law_575 rfl (lv_at hl 3 rfl) ?_
        refine lv_iconst (v := (1 : Int32)) hx hb dL_law_576 (by decide) ?_
        refine lv_iadd hx hb dL_law_577 ?_
        refine va_sld hx hb hX hbl hbA hS (by rw [ex3]; exact lw_ix (k := 1) h5 hL (by decide)) dL_law_578 ?_
        refine lv_aload_n hx hb dL_law_579 rfl (lv_at hl 0 rfl) ?_
        refine lv_iload_n hx hb dL_law_580 rfl (lv_at hl 3 rfl) ?_
        refine lv_iconst (v := (2 : Int32)) hx hb dL_law_581 (by decide) ?_
        refine lv_iadd hx hb dL_law_582 ?_
        refine va_sld hx hb hX hbl hbA hS (by rw [ex3]; exact lw_ix (k := 2) h5 hL (by decide)) dL_law_583 ?_
        refine lv_aload_n hx hb dL_law_584 rfl (lv_at hl 0 rfl) ?_
        refine lv_iload_n hx hb dL_law_585 rfl (lv_at hl 3 rfl) ?_
        refine lv_iconst (v := (3 : Int32)) hx hb dL_law_586 (by decide) ?_
        refine lv_iadd hx hb dL_law_587 ?_
        refine va_sld hx hb hX hbl hbA hS (by rw [ex3]; exact lw_ix (k := 3) h5 hL (by decide)) dL_law_588 ?_
        refine m_lcallR (rest := [.int r]) X hP hD hS hA hl.1 (c_X10_who l D cI cZ w _ _ (xs (m_ix (x3 + (1 : Int32)))) (xs (m_ix (x3 + (2 : Int32)))) (xs (m_ix (x3 + (3 : Int32)))) _ e2) cvL_76 (oM_0 w cI cZ _) rfl rfl ⟨Nat.le_of_ble_eq_true rfl, Nat.le_of_ble_eq_true rfl⟩ ⟨Nat.le_of_ble_eq_true rfl, Nat.le_of_ble_eq_true rfl⟩ (Nat.le_of_ble_eq_true rfl) dL_law_589 (fun H locs hP hD hS => ?_)
        refine lv_icmp_eq (tgt := 1065) hx hb dL_law_592 (by decide) (fun hc => ?_) (fun hc => absurd rfl hc)
        exact kend c1 d1 hrel H locs ls hP hD hS hl
      by_cases h_15 : z = (15 : Int32)
      · refine lv_tableIn (off := 565) (tgt := 597) hx hb dL_law_32 (by rw [h_15]; decide) (by rw [h_15]; decide) (by rw [h_15]; decide) (by decide) ?_
        obtain ⟨r, c1, d1, e1, e2, hrel⟩ := hst.2.2.2.2.2.2.2.2.2.2.2.2.2.2.2.1 (xs (m_ix (x3 + (1 : Int32)))) c d hrel
        refine lv_aload_n hx hb dL_law_597 rfl (lv_at hl 1 rfl) ?_
        refine lv_aload_n hx hb dL_law_598 rfl (lv_at hl 0 rfl) ?_
        refine lv_iload_n hx hb dL_law_599 rfl (lv_at hl 3 rfl) ?_
        refine lv_iconst (v := (1 : Int32)) hx hb dL_law_600 (by decide) ?_
        refine lv_iadd hx hb dL_law_601 ?_
        refine va_sld hx hb hX hbl hbA hS (by rw [ex3]; exact lw_ix (k := 1) h5 hL (by decide)) dL_law_602 ?_
        refine m_lcallL (rest := []) X hP hD hS hA hl.1 (c_X9_best l D cI cZ q _ _ (xs (m_ix (x3 + (1 : Int32)))) _ e1) cvL_77 (oC_0 q cI cZ _) rfl rfl ⟨Nat.le_of_ble_eq_true rfl, Nat.le_of_ble_eq_true rfl⟩ ⟨Nat.le_of_ble_eq_true rfl, Nat.le_of_ble_eq_true rfl⟩ (Nat.le_of_ble_eq_true rfl) dL_law_603 (fun H locs hP hD hS => ?_)
        refine lv_aload_n hx hb dL_law_606 rfl (lv_at hl 2 rfl) ?_
        refine lv_aload_n hx hb dL_law_607 rfl (lv_at hl 0 rfl) ?_
        refine lv_iload_n hx hb dL_law_608 rfl (lv_at hl 3 rfl) ?_
        refine lv_iconst (v := (1 : Int32)) hx hb dL_law_609 (by decide) ?_
        refine lv_iadd hx hb dL_law_610 ?_
        refine va_sld hx hb hX hbl hbA hS (by rw [ex3]; exact lw_ix (k := 1) h5 hL (by decide)) dL_law_611 ?_
        refine m_lcallR (rest := [.int r]) X hP hD hS hA hl.1 (c_X10_best l D cI cZ w _ _ (xs (m_ix (x3 + (1 : Int32)))) _ e2) cvL_80 (oM_0 w cI cZ _) rfl rfl ⟨Nat.le_of_ble_eq_true rfl, Nat.le_of_ble_eq_true rfl⟩ ⟨Nat.le_of_ble_eq_true rfl, Nat.le_of_ble_eq_true rfl⟩ (Nat.le_of_ble_eq_true rfl) dL_law_612 (fun H locs hP hD hS => ?_)
        refine lv_icmp_eq (tgt := 1065) hx hb dL_law_615 (by decide) (fun hc => ?_) (fun hc => absurd rfl hc)
        exact kend c1 d1 hrel H locs ls hP hD hS hl
      by_cases h_16 : z = (16 : Int32)
      · refine lv_tableIn (off := 588) (tgt := 620) hx hb dL_law_32 (by rw [h_16]; decide) (by rw [h_16]; decide) (by rw [h_16]; decide) (by decide) ?_
        obtain ⟨r, c1, d1, e1, e2, hrel⟩ := hst.2.2.2.2.2.2.2.2.2.2.2.2.2.2.2.2.1 c d hrel
        refine lv_aload_n hx hb dL_law_620 rfl (lv_at hl 1 rfl) ?_
        refine m_lcallL (rest := []) X hP hD hS hA hl.1 (c_X9_custom l D cI cZ q _ _ _ e1) cvL_81 (oC_0 q cI cZ _) rfl rfl ⟨Nat.le_of_ble_eq_true rfl, Nat.le_of_ble_eq_true rfl⟩ ⟨Nat.le_of_ble_eq_true rfl, Nat.le_of_ble_eq_true rfl⟩ (Nat.le_of_ble_eq_true rfl) dL_law_621 (fun H locs hP hD hS => ?_)
        refine lv_aload_n hx hb dL_law_624 rfl (lv_at hl 2 rfl) ?_
        refine m_lcallR (rest := [.int r]) X hP hD hS hA hl.1 (c_X10_custom l D cI cZ w _ _ _ e2) cvL_84 (oM_0 w cI cZ _) rfl rfl ⟨Nat.le_of_ble_eq_true rfl, Nat.le_of_ble_eq_true rfl⟩ ⟨Nat.le_of_ble_eq_true rfl, Nat.le_of_ble_eq_true rfl⟩ (Nat.le_of_ble_eq_true rfl) dL_law_625 (fun H locs hP hD hS => ?_)
        refine lv_icmp_eq (tgt := 1065) hx hb dL_law_628 (by decide) (fun hc => ?_) (fun hc => absurd rfl hc)
        exact kend c1 d1 hrel H locs ls hP hD hS hl
      by_cases h_17 : z = (17 : Int32)
      · refine lv_tableIn (off := 601) (tgt := 633) hx hb dL_law_32 (by rw [h_17]; decide) (by rw [h_17]; decide) (by rw [h_17]; decide) (by decide) ?_
        obtain ⟨r, c1, d1, e1, e2, hrel⟩ := hst.2.2.2.2.2.2.2.2.2.2.2.2.2.2.2.2.2.1 (xs (m_ix (x3 + (1 : Int32)))) (xs (m_ix (x3 + (2 : Int32)))) (xs (m_ix (x3 + (3 : Int32)))) c d hrel
        refine lv_aload_n hx hb dL_law_633 rfl (lv_at hl 1 rfl) ?_
        refine lv_aload_n hx hb dL_law_634 rfl (lv_at hl 0 rfl) ?_
        refine lv_iload_n hx hb dL_law_635 rfl (lv_at hl 3 rfl) ?_
        refine lv_iconst (v := (1 : Int32)) hx hb dL_law_636 (by decide) ?_
        refine lv_iadd hx hb dL_law_637 ?_
        refine va_sld hx hb hX hbl hbA hS (by rw [ex3]; exact lw_ix (k := 1) h5 hL (by decide)) dL_law_638 ?_
        refine lv_aload_n hx hb dL_law_639 rfl (lv_at hl 0 rfl) ?_
        refine lv_iload_n hx hb dL_law_640 rfl (lv_at hl 3 rfl) ?_
        refine lv_iconst (v := (2 : Int32)) hx hb dL_law_641 (by decide) ?_
        refine lv_iadd hx hb dL_law_642 ?_
        refine va_sld hx hb hX hbl hbA hS (by rw [ex3]; exact lw_ix (k := 2) h5 hL (by decide)) dL_law_643 ?_
        refine lv_aload_n hx hb dL_law_644 rfl (lv_at hl 0 rfl) ?_
        refine lv_iload_n hx hb dL_law_645 rfl (lv_at hl 3 rfl) ?_
        refine lv_iconst (v := (3 : Int32)) hx hb dL_law_646 (by decide) ?_
        refine lv_iadd hx hb dL_law_647 ?_
        refine va_sld hx hb hX hbl hbA hS (by rw [ex3]; exact lw_ix (k := 3) h5 hL (by decide)) dL_law_648 ?_
        refine m_lcallL (rest := []) X hP hD hS hA hl.1 (c_X9_send l D cI cZ q _ _ (xs (m_ix (x3 + (1 : Int32)))) (xs (m_ix (x3 + (2 : Int32)))) (xs (m_ix (x3 + (3 : Int32)))) _ e1) cvL_85 (oC_0 q cI cZ _) rfl rfl ⟨Nat.le_of_ble_eq_true rfl, Nat.le_of_ble_eq_true rfl⟩ ⟨Nat.le_of_ble_eq_true rfl, Nat.le_of_ble_eq_true rfl⟩ (Nat.le_of_ble_eq_true rfl) dL_law_649 (fun H locs hP hD hS => ?_)
        refine lv_aload_n hx hb dL_law_652 rfl (lv_at hl 2 rfl) ?_
        refine lv_aload_n hx hb dL_law_653 rfl (lv_at hl 0 rfl) ?_
        refine lv_iload_n hx hb dL_law_654 rfl (lv_at hl 3 rfl) ?_
        refine lv_iconst (v := (1 : Int32)) hx hb dL_law_655 (by decide) ?_
        refine lv_iadd hx hb dL_law_656 ?_
        refine va_sld hx hb hX hbl hbA hS (by rw [ex3]; exact lw_ix (k := 1) h5 hL (by decide)) dL_law_657 ?_
        refine lv_aload_n hx hb dL_law_658 rfl (lv_at hl 0 rfl) ?_
        refine lv_iload_n hx hb dL_law_659 rfl (lv_at hl 3 rfl) ?_
        refine lv_iconst (v := (2 : Int32)) hx hb dL_law_660 (by decide) ?_
        refine lv_iadd hx hb dL_law_661 ?_
        refine va_sld hx hb hX hbl hbA hS (by rw [ex3]; exact lw_ix (k := 2) h5 hL (by decide)) dL_law_662 ?_
        refine lv_aload_n hx hb dL_law_663 rfl (lv_at hl 0 rfl) ?_
        refine lv_iload_n hx hb dL_law_664 rfl (lv_at hl 3 rfl) ?_
        refine lv_iconst (v := (3 : Int32)) hx hb dL_law_665 (by decide) ?_
        refine lv_iadd hx hb dL_law_666 ?_
        refine va_sld hx hb hX hbl hbA hS (by rw [ex3]; exact lw_ix (k := 3) h5 hL (by decide)) dL_law_667 ?_
        refine m_lcallR (rest := [.int r]) X hP hD hS hA hl.1 (c_X10_send l D cI cZ w _ _ (xs (m_ix (x3 + (1 : Int32)))) (xs (m_ix (x3 + (2 : Int32)))) (xs (m_ix (x3 + (3 : Int32)))) _ e2) cvL_88 (oM_0 w cI cZ _) rfl rfl ⟨Nat.le_of_ble_eq_true rfl, Nat.le_of_ble_eq_true rfl⟩ ⟨Nat.le_of_ble_eq_true rfl, Nat.le_of_ble_eq_true rfl⟩ (Nat.le_of_ble_eq_true rfl) dL_law_668 (fun H locs hP hD hS => ?_)
        refine lv_icmp_eq (tgt := 1065) hx hb dL_law_671 (by decide) (fun hc => ?_) (fun hc => absurd rfl hc)
        exact kend c1 d1 hrel H locs ls hP hD hS hl
      by_cases h_18 : z = (18 : Int32)
      · refine lv_tableIn (off := 644) (tgt := 676) hx hb dL_law_32 (by rw [h_18]; decide) (by rw [h_18]; decide) (by rw [h_18]; decide) (by decide) ?_
        obtain ⟨r, c1, d1, e1, e2, hrel⟩ := hst.2.2.2.2.2.2.2.2.2.2.2.2.2.2.2.2.2.2.1 (xs (m_ix (x3 + (1 : Int32)))) (xs (m_ix (x3 + (2 : Int32)))) c d hrel
        refine lv_aload_n hx hb dL_law_676 rfl (lv_at hl 1 rfl) ?_
        refine lv_aload_n hx hb dL_law_677 rfl (lv_at hl 0 rfl) ?_
        refine lv_iload_n hx hb dL_law_678 rfl (lv_at hl 3 rfl) ?_
        refine lv_iconst (v := (1 : Int32)) hx hb dL_law_679 (by decide) ?_
        refine lv_iadd hx hb dL_law_680 ?_
        refine va_sld hx hb hX hbl hbA hS (by rw [ex3]; exact lw_ix (k := 1) h5 hL (by decide)) dL_law_681 ?_
        refine lv_aload_n hx hb dL_law_682 rfl (lv_at hl 0 rfl) ?_
        refine lv_iload_n hx hb dL_law_683 rfl (lv_at hl 3 rfl) ?_
        refine lv_iconst (v := (2 : Int32)) hx hb dL_law_684 (by decide) ?_
        refine lv_iadd hx hb dL_law_685 ?_
        refine va_sld hx hb hX hbl hbA hS (by rw [ex3]; exact lw_ix (k := 2) h5 hL (by decide)) dL_law_686 ?_
        refine m_lcallL (rest := []) X hP hD hS hA hl.1 (c_X9_swap l D cI cZ q _ _ (xs (m_ix (x3 + (1 : Int32)))) (xs (m_ix (x3 + (2 : Int32)))) _ e1) cvL_89 (oC_0 q cI cZ _) rfl rfl ⟨Nat.le_of_ble_eq_true rfl, Nat.le_of_ble_eq_true rfl⟩ ⟨Nat.le_of_ble_eq_true rfl, Nat.le_of_ble_eq_true rfl⟩ (Nat.le_of_ble_eq_true rfl) dL_law_687 (fun H locs hP hD hS => ?_)
        refine lv_aload_n hx hb dL_law_690 rfl (lv_at hl 2 rfl) ?_
        refine lv_aload_n hx hb dL_law_691 rfl (lv_at hl 0 rfl) ?_
        refine lv_iload_n hx hb dL_law_692 rfl (lv_at hl 3 rfl) ?_
        refine lv_iconst (v := (1 : Int32)) hx hb dL_law_693 (by decide) ?_
        refine lv_iadd hx hb dL_law_694 ?_
        refine va_sld hx hb hX hbl hbA hS (by rw [ex3]; exact lw_ix (k := 1) h5 hL (by decide)) dL_law_695 ?_
        refine lv_aload_n hx hb dL_law_696 rfl (lv_at hl 0 rfl) ?_
        refine lv_iload_n hx hb dL_law_697 rfl (lv_at hl 3 rfl) ?_
        refine lv_iconst (v := (2 : Int32)) hx hb dL_law_698 (by decide) ?_
        refine lv_iadd hx hb dL_law_699 ?_
        refine va_sld hx hb hX hbl hbA hS (by rw [ex3]; exact lw_ix (k := 2) h5 hL (by decide)) dL_law_700 ?_
        refine m_lcallR (rest := [.int r]) X hP hD hS hA hl.1 (c_X10_swap l D cI cZ w _ _ (xs (m_ix (x3 + (1 : Int32)))) (xs (m_ix (x3 + (2 : Int32)))) _ e2) cvL_92 (oM_0 w cI cZ _) rfl rfl ⟨Nat.le_of_ble_eq_true rfl, Nat.le_of_ble_eq_true rfl⟩ ⟨Nat.le_of_ble_eq_true rfl, Nat.le_of_ble_eq_true rfl⟩ (Nat.le_of_ble_eq_true rfl) dL_law_701 (fun H locs hP hD hS => ?_)
        refine lv_icmp_eq (tgt := 1065) hx hb dL_law_704 (by decide) (fun hc => ?_) (fun hc => absurd rfl hc)
        exact kend c1 d1 hrel H locs ls hP hD hS hl
      by_cases h_19 : z = (19 : Int32)
      · refine lv_tableIn (off := 677) (tgt := 709) hx hb dL_law_32 (by rw [h_19]; decide) (by rw [h_19]; decide) (by rw [h_19]; decide) (by decide) ?_
        obtain ⟨r, c1, d1, e1, e2, hrel⟩ := hst.2.2.2.2.2.2.2.2.2.2.2.2.2.2.2.2.2.2.2.1 (xs (m_ix (x3 + (1 : Int32)))) (xs (m_ix (x3 + (2 : Int32)))) (xs (m_ix (x3 + (3 : Int32)))) c d hrel
        refine lv_aload_n hx hb dL_law_709 rfl (lv_at hl 1 rfl) ?_
        refine lv_aload_n hx hb dL_law_710 rfl (lv_at hl 0 rfl) ?_
        refine lv_iload_n hx hb dL_law_711 rfl (lv_at hl 3 rfl) ?_
        refine lv_iconst (v := (1 : Int32)) hx hb dL_law_712 (by decide) ?_
        refine lv_iadd hx hb dL_law_713 ?_
        refine va_sld hx hb hX hbl hbA hS (by rw [ex3]; exact lw_ix (k := 1) h5 hL (by decide)) dL_law_714 ?_
        refine lv_aload_n hx hb dL_law_715 rfl (lv_at hl 0 rfl) ?_
        refine lv_iload_n hx hb dL_law_716 rfl (lv_at hl 3 rfl) ?_
        refine lv_iconst (v := (2 : Int32)) hx hb dL_law_717 (by decide) ?_
        refine lv_iadd hx hb dL_law_718 ?_
        refine va_sld hx hb hX hbl hbA hS (by rw [ex3]; exact lw_ix (k := 2) h5 hL (by decide)) dL_law_719 ?_
        refine lv_aload_n hx hb dL_law_720 rfl (lv_at hl 0 rfl) ?_
        refine lv_iload_n hx hb dL_law_721 rfl (lv_at hl 3 rfl) ?_
        refine lv_iconst (v := (3 : Int32)) hx hb dL_law_722 (by decide) ?_
        refine lv_iadd hx hb dL_law_723 ?_
        refine va_sld hx hb hX hbl hbA hS (by rw [ex3]; exact lw_ix (k := 3) h5 hL (by decide)) dL_law_724 ?_
        refine m_lcallL (rest := []) X hP hD hS hA hl.1 (c_X9_fall l D cI cZ q _ _ (xs (m_ix (x3 + (1 : Int32)))) (xs (m_ix (x3 + (2 : Int32)))) (xs (m_ix (x3 + (3 : Int32)))) _ e1) cvL_93 (oC_0 q cI cZ _) rfl rfl ⟨Nat.le_of_ble_eq_true rfl, Nat.le_of_ble_eq_true rfl⟩ ⟨Nat.le_of_ble_eq_true rfl, Nat.le_of_ble_eq_true rfl⟩ (Nat.le_of_ble_eq_true rfl) dL_law_725 (fun H locs hP hD hS => ?_)
        refine lv_aload_n hx hb dL_law_728 rfl (lv_at hl 2 rfl) ?_
        refine lv_aload_n hx hb dL_law_729 rfl (lv_at hl 0 rfl) ?_
        refine lv_iload_n hx hb dL_law_730 rfl (lv_at hl 3 rfl) ?_
        refine lv_iconst (v := (1 : Int32)) hx hb dL_law_731 (by decide) ?_
        refine lv_iadd hx hb dL_law_732 ?_
        refine va_sld hx hb hX hbl hbA hS (by rw [ex3]; exact lw_ix (k := 1) h5 hL (by decide)) dL_law_733 ?_
        refine lv_aload_n hx hb dL_law_734 rfl (lv_at hl 0 rfl) ?_
        refine lv_iload_n hx hb dL_law_735 rfl (lv_at hl 3 rfl) ?_
        refine lv_iconst (v := (2 : Int32)) hx hb dL_law_736 (by decide) ?_
        refine lv_iadd hx hb dL_law_737 ?_
        refine va_sld hx hb hX hbl hbA hS (by rw [ex3]; exact lw_ix (k := 2) h5 hL (by decide)) dL_law_738 ?_
        refine lv_aload_n hx hb dL_law_739 rfl (lv_at hl 0 rfl) ?_
        refine lv_iload_n hx hb dL_law_740 rfl (lv_at hl 3 rfl) ?_
        refine lv_iconst (v := (3 : Int32)) hx hb dL_law_741 (by decide) ?_
        refine lv_iadd hx hb dL_law_742 ?_
        refine va_sld hx hb hX hbl hbA hS (by rw [ex3]; exact lw_ix (k := 3) h5 hL (by decide)) dL_law_743 ?_
        refine m_lcallR (rest := [.int r]) X hP hD hS hA hl.1 (c_X10_fall l D cI cZ w _ _ (xs (m_ix (x3 + (1 : Int32)))) (xs (m_ix (x3 + (2 : Int32)))) (xs (m_ix (x3 + (3 : Int32)))) _ e2) cvL_96 (oM_0 w cI cZ _) rfl rfl ⟨Nat.le_of_ble_eq_true rfl, Nat.le_of_ble_eq_true rfl⟩ ⟨Nat.le_of_ble_eq_true rfl, Nat.le_of_ble_eq_true rfl⟩ (Nat.le_of_ble_eq_true rfl) dL_law_744 (fun H locs hP hD hS => ?_)
        refine lv_icmp_eq (tgt := 1065) hx hb dL_law_747 (by decide) (fun hc => ?_) (fun hc => absurd rfl hc)
        exact kend c1 d1 hrel H locs ls hP hD hS hl
      by_cases h_20 : z = (20 : Int32)
      · refine lv_tableIn (off := 720) (tgt := 752) hx hb dL_law_32 (by rw [h_20]; decide) (by rw [h_20]; decide) (by rw [h_20]; decide) (by decide) ?_
        obtain ⟨r, c1, d1, e1, e2, hrel⟩ := hst.2.2.2.2.2.2.2.2.2.2.2.2.2.2.2.2.2.2.2.2.1 (xs (m_ix (x3 + (1 : Int32)))) (xs (m_ix (x3 + (2 : Int32)))) (xs (m_ix (x3 + (3 : Int32)))) (xs (m_ix (x3 + (4 : Int32)))) c d hrel
        refine lv_aload_n hx hb dL_law_752 rfl (lv_at hl 1 rfl) ?_
        refine lv_aload_n hx hb dL_law_753 rfl (lv_at hl 0 rfl) ?_
        refine lv_iload_n hx hb dL_law_754 rfl (lv_at hl 3 rfl) ?_
        refine lv_iconst (v := (1 : Int32)) hx hb dL_law_755 (by decide) ?_
        refine lv_iadd hx hb dL_law_756 ?_
        refine va_sld hx hb hX hbl hbA hS (by rw [ex3]; exact lw_ix (k := 1) h5 hL (by decide)) dL_law_757 ?_
        refine lv_aload_n hx hb dL_law_758 rfl (lv_at hl 0 rfl) ?_
        refine lv_iload_n hx hb dL_law_759 rfl (lv_at hl 3 rfl) ?_
        refine lv_iconst (v := (2 : Int32)) hx hb dL_law_760 (by decide) ?_
        refine lv_iadd hx hb dL_law_761 ?_
        refine va_sld hx hb hX hbl hbA hS (by rw [ex3]; exact lw_ix (k := 2) h5 hL (by decide)) dL_law_762 ?_
        refine lv_aload_n hx hb dL_law_763 rfl (lv_at hl 0 rfl) ?_
        refine lv_iload_n hx hb dL_law_764 rfl (lv_at hl 3 rfl) ?_
        refine lv_iconst (v := (3 : Int32)) hx hb dL_law_765 (by decide) ?_
        refine lv_iadd hx hb dL_law_766 ?_
        refine va_sld hx hb hX hbl hbA hS (by rw [ex3]; exact lw_ix (k := 3) h5 hL (by decide)) dL_law_767 ?_
        refine lv_aload_n hx hb dL_law_768 rfl (lv_at hl 0 rfl) ?_
        refine lv_iload_n hx hb dL_law_769 rfl (lv_at hl 3 rfl) ?_
        refine lv_iconst (v := (4 : Int32)) hx hb dL_law_770 (by decide) ?_
        refine lv_iadd hx hb dL_law_771 ?_
        refine va_sld hx hb hX hbl hbA hS (by rw [ex3]; exact lw_ix (k := 4) h5 hL (by decide)) dL_law_772 ?_
        refine m_lcallL (rest := []) X hP hD hS hA hl.1 (c_X9_caught l D cI cZ q _ _ (xs (m_ix (x3 + (1 : Int32)))) (xs (m_ix (x3 + (2 : Int32)))) (xs (m_ix (x3 + (3 : Int32)))) (xs (m_ix (x3 + (4 : Int32)))) _ e1) cvL_97 (oC_0 q cI cZ _) rfl rfl ⟨Nat.le_of_ble_eq_true rfl, Nat.le_of_ble_eq_true rfl⟩ ⟨Nat.le_of_ble_eq_true rfl, Nat.le_of_ble_eq_true rfl⟩ (Nat.le_of_ble_eq_true rfl) dL_law_773 (fun H locs hP hD hS => ?_)
        refine lv_aload_n hx hb dL_law_776 rfl (lv_at hl 2 rfl) ?_
        refine lv_aload_n hx hb dL_law_777 rfl (lv_at hl 0 rfl) ?_
        refine lv_iload_n hx hb dL_law_778 rfl (lv_at hl 3 rfl) ?_
        refine lv_iconst (v := (1 : Int32)) hx hb dL_law_779 (by decide) ?_
        refine lv_iadd hx hb dL_law_780 ?_
        refine va_sld hx hb hX hbl hbA hS (by rw [ex3]; exact lw_ix (k := 1) h5 hL (by decide)) dL_law_781 ?_
        refine lv_aload_n hx hb dL_law_782 rfl (lv_at hl 0 rfl) ?_
        refine lv_iload_n hx hb dL_law_783 rfl (lv_at hl 3 rfl) ?_
        refine lv_iconst (v := (2 : Int32)) hx hb dL_law_784 (by decide) ?_
        refine lv_iadd hx hb dL_law_785 ?_
        refine va_sld hx hb hX hbl hbA hS (by rw [ex3]; exact lw_ix (k := 2) h5 hL (by decide)) dL_law_786 ?_
        refine lv_aload_n hx hb dL_law_787 rfl (lv_at hl 0 rfl) ?_
        refine lv_iload_n hx hb dL_law_788 rfl (lv_at hl 3 rfl) ?_
        refine lv_iconst (v := (3 : Int32)) hx hb dL_law_789 (by decide) ?_
        refine lv_iadd hx hb dL_law_790 ?_
        refine va_sld hx hb hX hbl hbA hS (by rw [ex3]; exact lw_ix (k := 3) h5 hL (by decide)) dL_law_791 ?_
        refine lv_aload_n hx hb dL_law_792 rfl (lv_at hl 0 rfl) ?_
        refine lv_iload_n hx hb dL_law_793 rfl (lv_at hl 3 rfl) ?_
        refine lv_iconst (v := (4 : Int32)) hx hb dL_law_794 (by decide) ?_
        refine lv_iadd hx hb dL_law_795 ?_
        refine va_sld hx hb hX hbl hbA hS (by rw [ex3]; exact lw_ix (k := 4) h5 hL (by decide)) dL_law_796 ?_
        refine m_lcallR (rest := [.int r]) X hP hD hS hA hl.1 (c_X10_caught l D cI cZ w _ _ (xs (m_ix (x3 + (1 : Int32)))) (xs (m_ix (x3 + (2 : Int32)))) (xs (m_ix (x3 + (3 : Int32)))) (xs (m_ix (x3 + (4 : Int32)))) _ e2) cvL_101 (oM_0 w cI cZ _) rfl rfl ⟨Nat.le_of_ble_eq_true rfl, Nat.le_of_ble_eq_true rfl⟩ ⟨Nat.le_of_ble_eq_true rfl, Nat.le_of_ble_eq_true rfl⟩ (Nat.le_of_ble_eq_true rfl) dL_law_797 (fun H locs hP hD hS => ?_)
        refine lv_icmp_eq (tgt := 1065) hx hb dL_law_800 (by decide) (fun hc => ?_) (fun hc => absurd rfl hc)
        exact kend c1 d1 hrel H locs ls hP hD hS hl
      by_cases h_21 : z = (21 : Int32)
      · refine lv_tableIn (off := 773) (tgt := 805) hx hb dL_law_32 (by rw [h_21]; decide) (by rw [h_21]; decide) (by rw [h_21]; decide) (by decide) ?_
        obtain ⟨r, c1, d1, e1, e2, hrel⟩ := hst.2.2.2.2.2.2.2.2.2.2.2.2.2.2.2.2.2.2.2.2.2.1 (xs (m_ix (x3 + (1 : Int32)))) (xs (m_ix (x3 + (2 : Int32)))) (xs (m_ix (x3 + (3 : Int32)))) c d hrel
        refine lv_aload_n hx hb dL_law_805 rfl (lv_at hl 1 rfl) ?_
        refine lv_aload_n hx hb dL_law_806 rfl (lv_at hl 0 rfl) ?_
        refine lv_iload_n hx hb dL_law_807 rfl (lv_at hl 3 rfl) ?_
        refine lv_iconst (v := (1 : Int32)) hx hb dL_law_808 (by decide) ?_
        refine lv_iadd hx hb dL_law_809 ?_
        refine va_sld hx hb hX hbl hbA hS (by rw [ex3]; exact lw_ix (k := 1) h5 hL (by decide)) dL_law_810 ?_
        refine lv_aload_n hx hb dL_law_811 rfl (lv_at hl 0 rfl) ?_
        refine lv_iload_n hx hb dL_law_812 rfl (lv_at hl 3 rfl) ?_
        refine lv_iconst (v := (2 : Int32)) hx hb dL_law_813 (by decide) ?_
        refine lv_iadd hx hb dL_law_814 ?_
        refine va_sld hx hb hX hbl hbA hS (by rw [ex3]; exact lw_ix (k := 2) h5 hL (by decide)) dL_law_815 ?_
        refine lv_aload_n hx hb dL_law_816 rfl (lv_at hl 0 rfl) ?_
        refine lv_iload_n hx hb dL_law_817 rfl (lv_at hl 3 rfl) ?_
        refine lv_iconst (v := (3 : Int32)) hx hb dL_law_818 (by decide) ?_
        refine lv_iadd hx hb dL_law_819 ?_
        refine va_sld hx hb hX hbl hbA hS (by rw [ex3]; exact lw_ix (k := 3) h5 hL (by decide)) dL_law_820 ?_
        refine m_lcallL (rest := []) X hP hD hS hA hl.1 (c_X9_rests l D cI cZ q _ _ (xs (m_ix (x3 + (1 : Int32)))) (xs (m_ix (x3 + (2 : Int32)))) (xs (m_ix (x3 + (3 : Int32)))) _ e1) cvL_102 (oC_0 q cI cZ _) rfl rfl ⟨Nat.le_of_ble_eq_true rfl, Nat.le_of_ble_eq_true rfl⟩ ⟨Nat.le_of_ble_eq_true rfl, Nat.le_of_ble_eq_true rfl⟩ (Nat.le_of_ble_eq_true rfl) dL_law_821 (fun H locs hP hD hS => ?_)
        refine lv_aload_n hx hb dL_law_824 rfl (lv_at hl 2 rfl) ?_
        refine lv_aload_n hx hb dL_law_825 rfl (lv_at hl 0 rfl) ?_
        refine lv_iload_n hx hb dL_law_826 rfl (lv_at hl 3 rfl) ?_
        refine lv_iconst (v := (1 : Int32)) hx hb dL_law_827 (by decide) ?_
        refine lv_iadd hx hb dL_law_828 ?_
        refine va_sld hx hb hX hbl hbA hS (by rw [ex3]; exact lw_ix (k := 1) h5 hL (by decide)) dL_law_829 ?_
        refine lv_aload_n hx hb dL_law_830 rfl (lv_at hl 0 rfl) ?_
        refine lv_iload_n hx hb dL_law_831 rfl (lv_at hl 3 rfl) ?_
        refine lv_iconst (v := (2 : Int32)) hx hb dL_law_832 (by decide) ?_
        refine lv_iadd hx hb dL_law_833 ?_
        refine va_sld hx hb hX hbl hbA hS (by rw [ex3]; exact lw_ix (k := 2) h5 hL (by decide)) dL_law_834 ?_
        refine lv_aload_n hx hb dL_law_835 rfl (lv_at hl 0 rfl) ?_
        refine lv_iload_n hx hb dL_law_836 rfl (lv_at hl 3 rfl) ?_
        refine lv_iconst (v := (3 : Int32)) hx hb dL_law_837 (by decide) ?_
        refine lv_iadd hx hb dL_law_838 ?_
        refine va_sld hx hb hX hbl hbA hS (by rw [ex3]; exact lw_ix (k := 3) h5 hL (by decide)) dL_law_839 ?_
        refine m_lcallR (rest := [.int r]) X hP hD hS hA hl.1 (c_X10_rests l D cI cZ w _ _ (xs (m_ix (x3 + (1 : Int32)))) (xs (m_ix (x3 + (2 : Int32)))) (xs (m_ix (x3 + (3 : Int32)))) _ e2) cvL_105 (oM_0 w cI cZ _) rfl rfl ⟨Nat.le_of_ble_eq_true rfl, Nat.le_of_ble_eq_true rfl⟩ ⟨Nat.le_of_ble_eq_true rfl, Nat.le_of_ble_eq_true rfl⟩ (Nat.le_of_ble_eq_true rfl) dL_law_840 (fun H locs hP hD hS => ?_)
        refine lv_icmp_eq (tgt := 1065) hx hb dL_law_843 (by decide) (fun hc => ?_) (fun hc => absurd rfl hc)
        exact kend c1 d1 hrel H locs ls hP hD hS hl
      by_cases h_22 : z = (22 : Int32)
      · refine lv_tableIn (off := 816) (tgt := 848) hx hb dL_law_32 (by rw [h_22]; decide) (by rw [h_22]; decide) (by rw [h_22]; decide) (by decide) ?_
        obtain ⟨r, c1, d1, e1, e2, hrel⟩ := hst.2.2.2.2.2.2.2.2.2.2.2.2.2.2.2.2.2.2.2.2.2.2.1 (xs (m_ix (x3 + (1 : Int32)))) (xs (m_ix (x3 + (2 : Int32)))) c d hrel
        refine lv_aload_n hx hb dL_law_848 rfl (lv_at hl 1 rfl) ?_
        refine lv_aload_n hx hb dL_law_849 rfl (lv_at hl 0 rfl) ?_
        refine lv_iload_n hx hb dL_law_850 rfl (lv_at hl 3 rfl) ?_
        refine lv_iconst (v := (1 : Int32)) hx hb dL_law_851 (by decide) ?_
        refine lv_iadd hx hb dL_law_852 ?_
        refine va_sld hx hb hX hbl hbA hS (by rw [ex3]; exact lw_ix (k := 1) h5 hL (by decide)) dL_law_853 ?_
        refine lv_aload_n hx hb dL_law_854 rfl (lv_at hl 0 rfl) ?_
        refine lv_iload_n hx hb dL_law_855 rfl (lv_at hl 3 rfl) ?_
        refine lv_iconst (v := (2 : Int32)) hx hb dL_law_856 (by decide) ?_
        refine lv_iadd hx hb dL_law_857 ?_
        refine va_sld hx hb hX hbl hbA hS (by rw [ex3]; exact lw_ix (k := 2) h5 hL (by decide)) dL_law_858 ?_
        refine m_lcallL (rest := []) X hP hD hS hA hl.1 (c_X9_seen l D cI cZ q _ _ (xs (m_ix (x3 + (1 : Int32)))) (xs (m_ix (x3 + (2 : Int32)))) _ e1) cvL_106 (oC_0 q cI cZ _) rfl rfl ⟨Nat.le_of_ble_eq_true rfl, Nat.le_of_ble_eq_true rfl⟩ ⟨Nat.le_of_ble_eq_true rfl, Nat.le_of_ble_eq_true rfl⟩ (Nat.le_of_ble_eq_true rfl) dL_law_859 (fun H locs hP hD hS => ?_)
        refine lv_aload_n hx hb dL_law_862 rfl (lv_at hl 2 rfl) ?_
        refine lv_aload_n hx hb dL_law_863 rfl (lv_at hl 0 rfl) ?_
        refine lv_iload_n hx hb dL_law_864 rfl (lv_at hl 3 rfl) ?_
        refine lv_iconst (v := (1 : Int32)) hx hb dL_law_865 (by decide) ?_
        refine lv_iadd hx hb dL_law_866 ?_
        refine va_sld hx hb hX hbl hbA hS (by rw [ex3]; exact lw_ix (k := 1) h5 hL (by decide)) dL_law_867 ?_
        refine lv_aload_n hx hb dL_law_868 rfl (lv_at hl 0 rfl) ?_
        refine lv_iload_n hx hb dL_law_869 rfl (lv_at hl 3 rfl) ?_
        refine lv_iconst (v := (2 : Int32)) hx hb dL_law_870 (by decide) ?_
        refine lv_iadd hx hb dL_law_871 ?_
        refine va_sld hx hb hX hbl hbA hS (by rw [ex3]; exact lw_ix (k := 2) h5 hL (by decide)) dL_law_872 ?_
        refine m_lcallR (rest := [.int r]) X hP hD hS hA hl.1 (c_X10_seen l D cI cZ w _ _ (xs (m_ix (x3 + (1 : Int32)))) (xs (m_ix (x3 + (2 : Int32)))) _ e2) cvL_109 (oM_0 w cI cZ _) rfl rfl ⟨Nat.le_of_ble_eq_true rfl, Nat.le_of_ble_eq_true rfl⟩ ⟨Nat.le_of_ble_eq_true rfl, Nat.le_of_ble_eq_true rfl⟩ (Nat.le_of_ble_eq_true rfl) dL_law_873 (fun H locs hP hD hS => ?_)
        refine lv_icmp_eq (tgt := 1065) hx hb dL_law_876 (by decide) (fun hc => ?_) (fun hc => absurd rfl hc)
        exact kend c1 d1 hrel H locs ls hP hD hS hl
      by_cases h_23 : z = (23 : Int32)
      · refine lv_tableIn (off := 849) (tgt := 881) hx hb dL_law_32 (by rw [h_23]; decide) (by rw [h_23]; decide) (by rw [h_23]; decide) (by decide) ?_
        obtain ⟨r, c1, d1, e1, e2, hrel⟩ := hst.2.2.2.2.2.2.2.2.2.2.2.2.2.2.2.2.2.2.2.2.2.2.2.1 c d hrel
        refine lv_aload_n hx hb dL_law_881 rfl (lv_at hl 1 rfl) ?_
        refine m_lcallL (rest := []) X hP hD hS hA hl.1 (c_X9_forget l D cI cZ q _ _ _ e1) cvL_110 (oC_0 q cI cZ _) rfl rfl ⟨Nat.le_of_ble_eq_true rfl, Nat.le_of_ble_eq_true rfl⟩ ⟨Nat.le_of_ble_eq_true rfl, Nat.le_of_ble_eq_true rfl⟩ (Nat.le_of_ble_eq_true rfl) dL_law_882 (fun H locs hP hD hS => ?_)
        refine lv_aload_n hx hb dL_law_885 rfl (lv_at hl 2 rfl) ?_
        refine m_lcallR (rest := [.int r]) X hP hD hS hA hl.1 (c_X10_forget l D cI cZ w _ _ _ e2) cvL_113 (oM_0 w cI cZ _) rfl rfl ⟨Nat.le_of_ble_eq_true rfl, Nat.le_of_ble_eq_true rfl⟩ ⟨Nat.le_of_ble_eq_true rfl, Nat.le_of_ble_eq_true rfl⟩ (Nat.le_of_ble_eq_true rfl) dL_law_886 (fun H locs hP hD hS => ?_)
        refine lv_icmp_eq (tgt := 1065) hx hb dL_law_889 (by decide) (fun hc => ?_) (fun hc => absurd rfl hc)
        exact kend c1 d1 hrel H locs ls hP hD hS hl
      by_cases h_24 : z = (24 : Int32)
      · refine lv_tableIn (off := 862) (tgt := 894) hx hb dL_law_32 (by rw [h_24]; decide) (by rw [h_24]; decide) (by rw [h_24]; decide) (by decide) ?_
        obtain ⟨r, c1, d1, e1, e2, hrel⟩ := hst.2.2.2.2.2.2.2.2.2.2.2.2.2.2.2.2.2.2.2.2.2.2.2.2.1 c d hrel
        refine lv_aload_n hx hb dL_law_894 rfl (lv_at hl 1 rfl) ?_
        refine m_lcallL (rest := []) X hP hD hS hA hl.1 (c_X9_fits l D cI cZ q _ _ _ e1) cvL_114 (oC_0 q cI cZ _) rfl rfl ⟨Nat.le_of_ble_eq_true rfl, Nat.le_of_ble_eq_true rfl⟩ ⟨Nat.le_of_ble_eq_true rfl, Nat.le_of_ble_eq_true rfl⟩ (Nat.le_of_ble_eq_true rfl) dL_law_895 (fun H locs hP hD hS => ?_)
        refine lv_aload_n hx hb dL_law_898 rfl (lv_at hl 2 rfl) ?_
        refine m_lcallR (rest := [.int r]) X hP hD hS hA hl.1 (c_X10_fits l D cI cZ w _ _ _ e2) cvL_117 (oM_0 w cI cZ _) rfl rfl ⟨Nat.le_of_ble_eq_true rfl, Nat.le_of_ble_eq_true rfl⟩ ⟨Nat.le_of_ble_eq_true rfl, Nat.le_of_ble_eq_true rfl⟩ (Nat.le_of_ble_eq_true rfl) dL_law_899 (fun H locs hP hD hS => ?_)
        refine lv_icmp_eq (tgt := 1065) hx hb dL_law_902 (by decide) (fun hc => ?_) (fun hc => absurd rfl hc)
        exact kend c1 d1 hrel H locs ls hP hD hS hl
      by_cases h_25 : z = (25 : Int32)
      · refine lv_tableIn (off := 875) (tgt := 907) hx hb dL_law_32 (by rw [h_25]; decide) (by rw [h_25]; decide) (by rw [h_25]; decide) (by decide) ?_
        obtain ⟨r, c1, d1, e1, e2, hrel⟩ := hst.2.2.2.2.2.2.2.2.2.2.2.2.2.2.2.2.2.2.2.2.2.2.2.2.2.1 (xs (m_ix (x3 + (1 : Int32)))) (xs (m_ix (x3 + (2 : Int32)))) c d hrel
        refine lv_aload_n hx hb dL_law_907 rfl (lv_at hl 1 rfl) ?_
        refine lv_aload_n hx hb dL_law_908 rfl (lv_at hl 0 rfl) ?_
        refine lv_iload_n hx hb dL_law_909 rfl (lv_at hl 3 rfl) ?_
        refine lv_iconst (v := (1 : Int32)) hx hb dL_law_910 (by decide) ?_
        refine lv_iadd hx hb dL_law_911 ?_
        refine va_sld hx hb hX hbl hbA hS (by rw [ex3]; exact lw_ix (k := 1) h5 hL (by decide)) dL_law_912 ?_
        refine lv_aload_n hx hb dL_law_913 rfl (lv_at hl 0 rfl) ?_
        refine lv_iload_n hx hb dL_law_914 rfl (lv_at hl 3 rfl) ?_
        refine lv_iconst (v := (2 : Int32)) hx hb dL_law_915 (by decide) ?_
        refine lv_iadd hx hb dL_law_916 ?_
        refine va_sld hx hb hX hbl hbA hS (by rw [ex3]; exact lw_ix (k := 2) h5 hL (by decide)) dL_law_917 ?_
        refine m_lcallL (rest := []) X hP hD hS hA hl.1 (c_X9_starts l D cI cZ q _ _ (xs (m_ix (x3 + (1 : Int32)))) (xs (m_ix (x3 + (2 : Int32)))) _ e1) cvL_118 (oC_0 q cI cZ _) rfl rfl ⟨Nat.le_of_ble_eq_true rfl, Nat.le_of_ble_eq_true rfl⟩ ⟨Nat.le_of_ble_eq_true rfl, Nat.le_of_ble_eq_true rfl⟩ (Nat.le_of_ble_eq_true rfl) dL_law_918 (fun H locs hP hD hS => ?_)
        refine lv_aload_n hx hb dL_law_921 rfl (lv_at hl 2 rfl) ?_
        refine lv_aload_n hx hb dL_law_922 rfl (lv_at hl 0 rfl) ?_
        refine lv_iload_n hx hb dL_law_923 rfl (lv_at hl 3 rfl) ?_
        refine lv_iconst (v := (1 : Int32)) hx hb dL_law_924 (by decide) ?_
        refine lv_iadd hx hb dL_law_925 ?_
        refine va_sld hx hb hX hbl hbA hS (by rw [ex3]; exact lw_ix (k := 1) h5 hL (by decide)) dL_law_926 ?_
        refine lv_aload_n hx hb dL_law_927 rfl (lv_at hl 0 rfl) ?_
        refine lv_iload_n hx hb dL_law_928 rfl (lv_at hl 3 rfl) ?_
        refine lv_iconst (v := (2 : Int32)) hx hb dL_law_929 (by decide) ?_
        refine lv_iadd hx hb dL_law_930 ?_
        refine va_sld hx hb hX hbl hbA hS (by rw [ex3]; exact lw_ix (k := 2) h5 hL (by decide)) dL_law_931 ?_
        refine m_lcallR (rest := [.int r]) X hP hD hS hA hl.1 (c_X10_starts l D cI cZ w _ _ (xs (m_ix (x3 + (1 : Int32)))) (xs (m_ix (x3 + (2 : Int32)))) _ e2) cvL_121 (oM_0 w cI cZ _) rfl rfl ⟨Nat.le_of_ble_eq_true rfl, Nat.le_of_ble_eq_true rfl⟩ ⟨Nat.le_of_ble_eq_true rfl, Nat.le_of_ble_eq_true rfl⟩ (Nat.le_of_ble_eq_true rfl) dL_law_932 (fun H locs hP hD hS => ?_)
        refine lv_icmp_eq (tgt := 1065) hx hb dL_law_935 (by decide) (fun hc => ?_) (fun hc => absurd rfl hc)
        exact kend c1 d1 hrel H locs ls hP hD hS hl
      by_cases h_26 : z = (26 : Int32)
      · refine lv_tableIn (off := 908) (tgt := 940) hx hb dL_law_32 (by rw [h_26]; decide) (by rw [h_26]; decide) (by rw [h_26]; decide) (by decide) ?_
        obtain ⟨r, c1, d1, e1, e2, hrel⟩ := hst.2.2.2.2.2.2.2.2.2.2.2.2.2.2.2.2.2.2.2.2.2.2.2.2.2.2.1 (xs (m_ix (x3 + (1 : Int32)))) (xs (m_ix (x3 + (2 : Int32)))) c d hrel
        refine lv_aload_n hx hb dL_law_940 rfl (lv_at hl 1 rfl) ?_
        refine lv_aload_n hx hb dL_law_941 rfl (lv_at hl 0 rfl) ?_
        refine lv_iload_n hx hb dL_law_942 rfl (lv_at hl 3 rfl) ?_
        refine lv_iconst (v := (1 : Int32)) hx hb dL_law_943 (by decide) ?_
        refine lv_iadd hx hb dL_law_944 ?_
        refine va_sld hx hb hX hbl hbA hS (by rw [ex3]; exact lw_ix (k := 1) h5 hL (by decide)) dL_law_945 ?_
        refine lv_aload_n hx hb dL_law_946 rfl (lv_at hl 0 rfl) ?_
        refine lv_iload_n hx hb dL_law_947 rfl (lv_at hl 3 rfl) ?_
        refine lv_iconst (v := (2 : Int32)) hx hb dL_law_948 (by decide) ?_
        refine lv_iadd hx hb dL_law_949 ?_
        refine va_sld hx hb hX hbl hbA hS (by rw [ex3]; exact lw_ix (k := 2) h5 hL (by decide)) dL_law_950 ?_
        refine m_lcallL (rest := []) X hP hD hS hA hl.1 (c_X9_bears l D cI cZ q _ _ (xs (m_ix (x3 + (1 : Int32)))) (xs (m_ix (x3 + (2 : Int32)))) _ e1) cvL_122 (oC_0 q cI cZ _) rfl rfl ⟨Nat.le_of_ble_eq_true rfl, Nat.le_of_ble_eq_true rfl⟩ ⟨Nat.le_of_ble_eq_true rfl, Nat.le_of_ble_eq_true rfl⟩ (Nat.le_of_ble_eq_true rfl) dL_law_951 (fun H locs hP hD hS => ?_)
        refine lv_aload_n hx hb dL_law_954 rfl (lv_at hl 2 rfl) ?_
        refine lv_aload_n hx hb dL_law_955 rfl (lv_at hl 0 rfl) ?_
        refine lv_iload_n hx hb dL_law_956 rfl (lv_at hl 3 rfl) ?_
        refine lv_iconst (v := (1 : Int32)) hx hb dL_law_957 (by decide) ?_
        refine lv_iadd hx hb dL_law_958 ?_
        refine va_sld hx hb hX hbl hbA hS (by rw [ex3]; exact lw_ix (k := 1) h5 hL (by decide)) dL_law_959 ?_
        refine lv_aload_n hx hb dL_law_960 rfl (lv_at hl 0 rfl) ?_
        refine lv_iload_n hx hb dL_law_961 rfl (lv_at hl 3 rfl) ?_
        refine lv_iconst (v := (2 : Int32)) hx hb dL_law_962 (by decide) ?_
        refine lv_iadd hx hb dL_law_963 ?_
        refine va_sld hx hb hX hbl hbA hS (by rw [ex3]; exact lw_ix (k := 2) h5 hL (by decide)) dL_law_964 ?_
        refine m_lcallR (rest := [.int r]) X hP hD hS hA hl.1 (c_X10_bears l D cI cZ w _ _ (xs (m_ix (x3 + (1 : Int32)))) (xs (m_ix (x3 + (2 : Int32)))) _ e2) cvL_125 (oM_0 w cI cZ _) rfl rfl ⟨Nat.le_of_ble_eq_true rfl, Nat.le_of_ble_eq_true rfl⟩ ⟨Nat.le_of_ble_eq_true rfl, Nat.le_of_ble_eq_true rfl⟩ (Nat.le_of_ble_eq_true rfl) dL_law_965 (fun H locs hP hD hS => ?_)
        refine lv_icmp_eq (tgt := 1065) hx hb dL_law_968 (by decide) (fun hc => ?_) (fun hc => absurd rfl hc)
        exact kend c1 d1 hrel H locs ls hP hD hS hl
      by_cases h_27 : z = (27 : Int32)
      · refine lv_tableIn (off := 941) (tgt := 973) hx hb dL_law_32 (by rw [h_27]; decide) (by rw [h_27]; decide) (by rw [h_27]; decide) (by decide) ?_
        obtain ⟨r, c1, d1, e1, e2, hrel⟩ := hst.2.2.2.2.2.2.2.2.2.2.2.2.2.2.2.2.2.2.2.2.2.2.2.2.2.2.2.1 (xs (m_ix (x3 + (1 : Int32)))) (xs (m_ix (x3 + (2 : Int32)))) (xs (m_ix (x3 + (3 : Int32)))) c d hrel
        refine lv_aload_n hx hb dL_law_973 rfl (lv_at hl 1 rfl) ?_
        refine lv_aload_n hx hb dL_law_974 rfl (lv_at hl 0 rfl) ?_
        refine lv_iload_n hx hb dL_law_975 rfl (lv_at hl 3 rfl) ?_
        refine lv_iconst (v := (1 : Int32)) hx hb dL_law_976 (by decide) ?_
        refine lv_iadd hx hb dL_law_977 ?_
        refine va_sld hx hb hX hbl hbA hS (by rw [ex3]; exact lw_ix (k := 1) h5 hL (by decide)) dL_law_978 ?_
        refine lv_aload_n hx hb dL_law_979 rfl (lv_at hl 0 rfl) ?_
        refine lv_iload_n hx hb dL_law_980 rfl (lv_at hl 3 rfl) ?_
        refine lv_iconst (v := (2 : Int32)) hx hb dL_law_981 (by decide) ?_
        refine lv_iadd hx hb dL_law_982 ?_
        refine va_sld hx hb hX hbl hbA hS (by rw [ex3]; exact lw_ix (k := 2) h5 hL (by decide)) dL_law_983 ?_
        refine lv_aload_n hx hb dL_law_984 rfl (lv_at hl 0 rfl) ?_
        refine lv_iload_n hx hb dL_law_985 rfl (lv_at hl 3 rfl) ?_
        refine lv_iconst (v := (3 : Int32)) hx hb dL_law_986 (by decide) ?_
        refine lv_iadd hx hb dL_law_987 ?_
        refine va_sld hx hb hX hbl hbA hS (by rw [ex3]; exact lw_ix (k := 3) h5 hL (by decide)) dL_law_988 ?_
        refine m_lcallL (rest := []) X hP hD hS hA hl.1 (c_X9_day l D cI cZ q _ _ (xs (m_ix (x3 + (1 : Int32)))) (xs (m_ix (x3 + (2 : Int32)))) (xs (m_ix (x3 + (3 : Int32)))) _ e1) cvL_126 (oC_0 q cI cZ _) rfl rfl ⟨Nat.le_of_ble_eq_true rfl, Nat.le_of_ble_eq_true rfl⟩ ⟨Nat.le_of_ble_eq_true rfl, Nat.le_of_ble_eq_true rfl⟩ (Nat.le_of_ble_eq_true rfl) dL_law_989 (fun H locs hP hD hS => ?_)
        refine lv_aload_n hx hb dL_law_992 rfl (lv_at hl 2 rfl) ?_
        refine lv_aload_n hx hb dL_law_993 rfl (lv_at hl 0 rfl) ?_
        refine lv_iload_n hx hb dL_law_994 rfl (lv_at hl 3 rfl) ?_
        refine lv_iconst (v := (1 : Int32)) hx hb dL_law_995 (by decide) ?_
        refine lv_iadd hx hb dL_law_996 ?_
        refine va_sld hx hb hX hbl hbA hS (by rw [ex3]; exact lw_ix (k := 1) h5 hL (by decide)) dL_law_997 ?_
        refine lv_aload_n hx hb dL_law_998 rfl (lv_at hl 0 rfl) ?_
        refine lv_iload_n hx hb dL_law_999 rfl (lv_at hl 3 rfl) ?_
        refine lv_iconst (v := (2 : Int32)) hx hb dL_law_1000 (by decide) ?_
        refine lv_iadd hx hb dL_law_1001 ?_
        refine va_sld hx hb hX hbl hbA hS (by rw [ex3]; exact lw_ix (k := 2) h5 hL (by decide)) dL_law_1002 ?_
        refine lv_aload_n hx hb dL_law_1003 rfl (lv_at hl 0 rfl) ?_
        refine lv_iload_n hx hb dL_law_1004 rfl (lv_at hl 3 rfl) ?_
        refine lv_iconst (v := (3 : Int32)) hx hb dL_law_1005 (by decide) ?_
        refine lv_iadd hx hb dL_law_1006 ?_
        refine va_sld hx hb hX hbl hbA hS (by rw [ex3]; exact lw_ix (k := 3) h5 hL (by decide)) dL_law_1007 ?_
        refine m_lcallR (rest := [.int r]) X hP hD hS hA hl.1 (c_X10_day l D cI cZ w _ _ (xs (m_ix (x3 + (1 : Int32)))) (xs (m_ix (x3 + (2 : Int32)))) (xs (m_ix (x3 + (3 : Int32)))) _ e2) cvL_129 (oM_0 w cI cZ _) rfl rfl ⟨Nat.le_of_ble_eq_true rfl, Nat.le_of_ble_eq_true rfl⟩ ⟨Nat.le_of_ble_eq_true rfl, Nat.le_of_ble_eq_true rfl⟩ (Nat.le_of_ble_eq_true rfl) dL_law_1008 (fun H locs hP hD hS => ?_)
        refine lv_icmp_eq (tgt := 1065) hx hb dL_law_1011 (by decide) (fun hc => ?_) (fun hc => absurd rfl hc)
        exact kend c1 d1 hrel H locs ls hP hD hS hl
      by_cases h_28 : z = (28 : Int32)
      · refine lv_tableIn (off := 984) (tgt := 1016) hx hb dL_law_32 (by rw [h_28]; decide) (by rw [h_28]; decide) (by rw [h_28]; decide) (by decide) ?_
        obtain ⟨r, c1, d1, e1, e2, hrel⟩ := hst.2.2.2.2.2.2.2.2.2.2.2.2.2.2.2.2.2.2.2.2.2.2.2.2.2.2.2.2.1 c d hrel
        refine lv_aload_n hx hb dL_law_1016 rfl (lv_at hl 1 rfl) ?_
        refine m_lcallL (rest := []) X hP hD hS hA hl.1 (c_X9_keep l D cI cZ q _ _ _ e1) cvL_130 (oC_0 q cI cZ _) rfl rfl ⟨Nat.le_of_ble_eq_true rfl, Nat.le_of_ble_eq_true rfl⟩ ⟨Nat.le_of_ble_eq_true rfl, Nat.le_of_ble_eq_true rfl⟩ (Nat.le_of_ble_eq_true rfl) dL_law_1017 (fun H locs hP hD hS => ?_)
        refine lv_aload_n hx hb dL_law_1020 rfl (lv_at hl 2 rfl) ?_
        refine m_lcallR (rest := [.int r]) X hP hD hS hA hl.1 (c_X10_keep l D cI cZ w _ _ _ e2) cvL_133 (oM_0 w cI cZ _) rfl rfl ⟨Nat.le_of_ble_eq_true rfl, Nat.le_of_ble_eq_true rfl⟩ ⟨Nat.le_of_ble_eq_true rfl, Nat.le_of_ble_eq_true rfl⟩ (Nat.le_of_ble_eq_true rfl) dL_law_1021 (fun H locs hP hD hS => ?_)
        refine lv_icmp_eq (tgt := 1065) hx hb dL_law_1024 (by decide) (fun hc => ?_) (fun hc => absurd rfl hc)
        exact kend c1 d1 hrel H locs ls hP hD hS hl
      by_cases h_29 : z = (29 : Int32)
      · refine lv_tableIn (off := 997) (tgt := 1029) hx hb dL_law_32 (by rw [h_29]; decide) (by rw [h_29]; decide) (by rw [h_29]; decide) (by decide) ?_
        obtain ⟨r, c1, d1, e1, e2, hrel⟩ := hst.2.2.2.2.2.2.2.2.2.2.2.2.2.2.2.2.2.2.2.2.2.2.2.2.2.2.2.2.2.1 c d hrel
        refine lv_aload_n hx hb dL_law_1029 rfl (lv_at hl 1 rfl) ?_
        refine m_lcallL (rest := []) X hP hD hS hA hl.1 (c_X9_back l D cI cZ q _ _ _ e1) cvL_134 (oC_0 q cI cZ _) rfl rfl ⟨Nat.le_of_ble_eq_true rfl, Nat.le_of_ble_eq_true rfl⟩ ⟨Nat.le_of_ble_eq_true rfl, Nat.le_of_ble_eq_true rfl⟩ (Nat.le_of_ble_eq_true rfl) dL_law_1030 (fun H locs hP hD hS => ?_)
        refine lv_aload_n hx hb dL_law_1033 rfl (lv_at hl 2 rfl) ?_
        refine m_lcallR (rest := [.int r]) X hP hD hS hA hl.1 (c_X10_back l D cI cZ w _ _ _ e2) cvL_137 (oM_0 w cI cZ _) rfl rfl ⟨Nat.le_of_ble_eq_true rfl, Nat.le_of_ble_eq_true rfl⟩ ⟨Nat.le_of_ble_eq_true rfl, Nat.le_of_ble_eq_true rfl⟩ (Nat.le_of_ble_eq_true rfl) dL_law_1034 (fun H locs hP hD hS => ?_)
        refine lv_icmp_eq (tgt := 1065) hx hb dL_law_1037 (by decide) (fun hc => ?_) (fun hc => absurd rfl hc)
        exact kend c1 d1 hrel H locs ls hP hD hS hl
      by_cases h_30 : z = (30 : Int32)
      · refine lv_tableIn (off := 1010) (tgt := 1042) hx hb dL_law_32 (by rw [h_30]; decide) (by rw [h_30]; decide) (by rw [h_30]; decide) (by decide) ?_
        obtain ⟨r, c1, d1, e1, e2, hrel⟩ := hst.2.2.2.2.2.2.2.2.2.2.2.2.2.2.2.2.2.2.2.2.2.2.2.2.2.2.2.2.2.2 (xs (m_ix (x3 + (1 : Int32)))) c d hrel
        refine lv_aload_n hx hb dL_law_1042 rfl (lv_at hl 1 rfl) ?_
        refine lv_aload_n hx hb dL_law_1043 rfl (lv_at hl 0 rfl) ?_
        refine lv_iload_n hx hb dL_law_1044 rfl (lv_at hl 3 rfl) ?_
        refine lv_iconst (v := (1 : Int32)) hx hb dL_law_1045 (by decide) ?_
        refine lv_iadd hx hb dL_law_1046 ?_
        refine va_sld hx hb hX hbl hbA hS (by rw [ex3]; exact lw_ix (k := 1) h5 hL (by decide)) dL_law_1047 ?_
        refine m_lcallL (rest := []) X hP hD hS hA hl.1 (c_X9_count l D cI cZ q _ _ (xs (m_ix (x3 + (1 : Int32)))) _ e1) cvL_138 (oC_0 q cI cZ _) rfl rfl ⟨Nat.le_of_ble_eq_true rfl, Nat.le_of_ble_eq_true rfl⟩ ⟨Nat.le_of_ble_eq_true rfl, Nat.le_of_ble_eq_true rfl⟩ (Nat.le_of_ble_eq_true rfl) dL_law_1048 (fun H locs hP hD hS => ?_)
        refine lv_aload_n hx hb dL_law_1051 rfl (lv_at hl 2 rfl) ?_
        refine lv_aload_n hx hb dL_law_1052 rfl (lv_at hl 0 rfl) ?_
        refine lv_iload_n hx hb dL_law_1053 rfl (lv_at hl 3 rfl) ?_
        refine lv_iconst (v := (1 : Int32)) hx hb dL_law_1054 (by decide) ?_
        refine lv_iadd hx hb dL_law_1055 ?_
        refine va_sld hx hb hX hbl hbA hS (by rw [ex3]; exact lw_ix (k := 1) h5 hL (by decide)) dL_law_1056 ?_
        refine m_lcallR (rest := [.int r]) X hP hD hS hA hl.1 (c_X10_count l D cI cZ w _ _ (xs (m_ix (x3 + (1 : Int32)))) _ e2) cvL_141 (oM_0 w cI cZ _) rfl rfl ⟨Nat.le_of_ble_eq_true rfl, Nat.le_of_ble_eq_true rfl⟩ ⟨Nat.le_of_ble_eq_true rfl, Nat.le_of_ble_eq_true rfl⟩ (Nat.le_of_ble_eq_true rfl) dL_law_1057 (fun H locs hP hD hS => ?_)
        refine lv_icmp_eq (tgt := 1065) hx hb dL_law_1060 (by decide) (fun hc => ?_) (fun hc => absurd rfl hc)
        exact kend c1 d1 hrel H locs ls hP hD hS hl
      refine lv_tableOut (tgt := 1065) hx hb dL_law_32 (by have := lv_neT h_0 (by decide : (0 : Int32).toInt = 0); have := lv_neT h_1 (by decide : (1 : Int32).toInt = 1); have := lv_neT h_2 (by decide : (2 : Int32).toInt = 2); have := lv_neT h_3 (by decide : (3 : Int32).toInt = 3); have := lv_neT h_4 (by decide : (4 : Int32).toInt = 4); have := lv_neT h_5 (by decide : (5 : Int32).toInt = 5); have := lv_neT h_6 (by decide : (6 : Int32).toInt = 6); have := lv_neT h_7 (by decide : (7 : Int32).toInt = 7); have := lv_neT h_8 (by decide : (8 : Int32).toInt = 8); have := lv_neT h_9 (by decide : (9 : Int32).toInt = 9); have := lv_neT h_10 (by decide : (10 : Int32).toInt = 10); have := lv_neT h_11 (by decide : (11 : Int32).toInt = 11); have := lv_neT h_12 (by decide : (12 : Int32).toInt = 12); have := lv_neT h_13 (by decide : (13 : Int32).toInt = 13); have := lv_neT h_14 (by decide : (14 : Int32).toInt = 14); have := lv_neT h_15 (by decide : (15 : Int32).toInt = 15); have := lv_neT h_16 (by decide : (16 : Int32).toInt = 16); have := lv_neT h_17 (by decide : (17 : Int32).toInt = 17); have := lv_neT h_18 (by decide : (18 : Int32).toInt = 18); have := lv_neT h_19 (by decide : (19 : Int32).toInt = 19); have := lv_neT h_20 (by decide : (20 : Int32).toInt = 20); have := lv_neT h_21 (by decide : (21 : Int32).toInt = 21); have := lv_neT h_22 (by decide : (22 : Int32).toInt = 22); have := lv_neT h_23 (by decide : (23 : Int32).toInt = 23); have := lv_neT h_24 (by decide : (24 : Int32).toInt = 24); have := lv_neT h_25 (by decide : (25 : Int32).toInt = 25); have := lv_neT h_26 (by decide : (26 : Int32).toInt = 26); have := lv_neT h_27 (by decide : (27 : Int32).toInt = 27); have := lv_neT h_28 (by decide : (28 : Int32).toInt = 28); have := lv_neT h_29 (by decide : (29 : Int32).toInt = 29); have := lv_neT h_30 (by decide : (30 : Int32).toInt = 30); omega) (by decide) ?_
      exact kend c d hrel H locs ls hP hD hS hl
