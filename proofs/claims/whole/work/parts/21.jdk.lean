theorem dJ0_length_8abf5_0 : decode cJ0_length_8abf5 0 = .ok (.aload_n 0, 1) := by decide +kernel
theorem dJ0_length_8abf5_1 : decode cJ0_length_8abf5 1 = .ok (.getfield 9, 3) := by decide +kernel
theorem dJ0_length_8abf5_4 : decode cJ0_length_8abf5 4 = .ok (.arraylength, 1) := by decide +kernel
theorem dJ0_length_8abf5_5 : decode cJ0_length_8abf5 5 = .ok (.aload_n 0, 1) := by decide +kernel
theorem dJ0_length_8abf5_6 : decode cJ0_length_8abf5 6 = .ok (.invokevirtual 335, 3) := by decide +kernel
theorem dJ0_length_8abf5_9 : decode cJ0_length_8abf5 9 = .ok (.ishr, 1) := by decide +kernel
theorem dJ0_length_8abf5_10 : decode cJ0_length_8abf5 10 = .ok (.ireturn, 1) := by decide +kernel
theorem dJ0_charAt_5068e_0 : decode cJ0_charAt_5068e 0 = .ok (.aload_n 0, 1) := by decide +kernel
theorem dJ0_charAt_5068e_1 : decode cJ0_charAt_5068e 1 = .ok (.invokevirtual 492, 3) := by decide +kernel
theorem dJ0_charAt_5068e_4 : decode cJ0_charAt_5068e 4 = .ok (.ifCond .eq 12, 3) := by decide +kernel
theorem dJ0_charAt_5068e_7 : decode cJ0_charAt_5068e 7 = .ok (.aload_n 0, 1) := by decide +kernel
theorem dJ0_charAt_5068e_8 : decode cJ0_charAt_5068e 8 = .ok (.getfield 9, 3) := by decide +kernel
theorem dJ0_charAt_5068e_11 : decode cJ0_charAt_5068e 11 = .ok (.iload_n 1, 1) := by decide +kernel
theorem dJ0_charAt_5068e_12 : decode cJ0_charAt_5068e 12 = .ok (.invokestatic 495, 3) := by decide +kernel
theorem dJ0_charAt_5068e_15 : decode cJ0_charAt_5068e 15 = .ok (.ireturn, 1) := by decide +kernel
theorem dJ0_charAt_5068e_16 : decode cJ0_charAt_5068e 16 = .ok (.aload_n 0, 1) := by decide +kernel
theorem dJ0_charAt_5068e_17 : decode cJ0_charAt_5068e 17 = .ok (.getfield 9, 3) := by decide +kernel
theorem dJ0_charAt_5068e_20 : decode cJ0_charAt_5068e 20 = .ok (.iload_n 1, 1) := by decide +kernel
theorem dJ0_charAt_5068e_21 : decode cJ0_charAt_5068e 21 = .ok (.invokestatic 498, 3) := by decide +kernel
theorem dJ0_charAt_5068e_24 : decode cJ0_charAt_5068e 24 = .ok (.ireturn, 1) := by decide +kernel
theorem dJ0_coder_7d493_0 : decode cJ0_coder_7d493 0 = .ok (.getstatic 38, 3) := by decide +kernel
theorem dJ0_coder_7d493_3 : decode cJ0_coder_7d493 3 = .ok (.ifCond .eq 10, 3) := by decide +kernel
theorem dJ0_coder_7d493_6 : decode cJ0_coder_7d493 6 = .ok (.aload_n 0, 1) := by decide +kernel
theorem dJ0_coder_7d493_7 : decode cJ0_coder_7d493 7 = .ok (.getfield 15, 3) := by decide +kernel
theorem dJ0_coder_7d493_10 : decode cJ0_coder_7d493 10 = .ok (.goto 4, 3) := by decide +kernel
theorem dJ0_coder_7d493_13 : decode cJ0_coder_7d493 13 = .ok (.iconst 1, 1) := by decide +kernel
theorem dJ0_coder_7d493_14 : decode cJ0_coder_7d493 14 = .ok (.ireturn, 1) := by decide +kernel
theorem dJ0_isLatin1_aae02_0 : decode cJ0_isLatin1_aae02 0 = .ok (.getstatic 38, 3) := by decide +kernel
theorem dJ0_isLatin1_aae02_3 : decode cJ0_isLatin1_aae02 3 = .ok (.ifCond .eq 14, 3) := by decide +kernel
theorem dJ0_isLatin1_aae02_6 : decode cJ0_isLatin1_aae02 6 = .ok (.aload_n 0, 1) := by decide +kernel
theorem dJ0_isLatin1_aae02_7 : decode cJ0_isLatin1_aae02 7 = .ok (.getfield 15, 3) := by decide +kernel
theorem dJ0_isLatin1_aae02_10 : decode cJ0_isLatin1_aae02 10 = .ok (.ifCond .ne 7, 3) := by decide +kernel
theorem dJ0_isLatin1_aae02_13 : decode cJ0_isLatin1_aae02 13 = .ok (.iconst 1, 1) := by decide +kernel
theorem dJ0_isLatin1_aae02_14 : decode cJ0_isLatin1_aae02 14 = .ok (.goto 4, 3) := by decide +kernel
theorem dJ0_isLatin1_aae02_17 : decode cJ0_isLatin1_aae02 17 = .ok (.iconst 0, 1) := by decide +kernel
theorem dJ0_isLatin1_aae02_18 : decode cJ0_isLatin1_aae02 18 = .ok (.ireturn, 1) := by decide +kernel
theorem dJ0_checkIndex_df160_0 : decode cJ0_checkIndex_df160 0 = .ok (.iload_n 0, 1) := by decide +kernel
theorem dJ0_checkIndex_df160_1 : decode cJ0_checkIndex_df160 1 = .ok (.iload_n 1, 1) := by decide +kernel
theorem dJ0_checkIndex_df160_2 : decode cJ0_checkIndex_df160 2 = .ok (.getstatic 1053, 3) := by decide +kernel
theorem dJ0_checkIndex_df160_5 : decode cJ0_checkIndex_df160 5 = .ok (.invokestatic 1059, 3) := by decide +kernel
theorem dJ0_checkIndex_df160_8 : decode cJ0_checkIndex_df160 8 = .ok (.pop, 1) := by decide +kernel
theorem dJ0_checkIndex_df160_9 : decode cJ0_checkIndex_df160 9 = .ok (.return_, 1) := by decide +kernel
theorem dJ1_charAt_3b067_0 : decode cJ1_charAt_3b067 0 = .ok (.iload_n 1, 1) := by decide +kernel
theorem dJ1_charAt_3b067_1 : decode cJ1_charAt_3b067 1 = .ok (.aload_n 0, 1) := by decide +kernel
theorem dJ1_charAt_3b067_2 : decode cJ1_charAt_3b067 2 = .ok (.arraylength, 1) := by decide +kernel
theorem dJ1_charAt_3b067_3 : decode cJ1_charAt_3b067 3 = .ok (.invokestatic 9, 3) := by decide +kernel
theorem dJ1_charAt_3b067_6 : decode cJ1_charAt_3b067 6 = .ok (.aload_n 0, 1) := by decide +kernel
theorem dJ1_charAt_3b067_7 : decode cJ1_charAt_3b067 7 = .ok (.iload_n 1, 1) := by decide +kernel
theorem dJ1_charAt_3b067_8 : decode cJ1_charAt_3b067 8 = .ok (.baload, 1) := by decide +kernel
theorem dJ1_charAt_3b067_9 : decode cJ1_charAt_3b067 9 = .ok (.sipush 255, 3) := by decide +kernel
theorem dJ1_charAt_3b067_12 : decode cJ1_charAt_3b067 12 = .ok (.iand, 1) := by decide +kernel
theorem dJ1_charAt_3b067_13 : decode cJ1_charAt_3b067 13 = .ok (.i2c, 1) := by decide +kernel
theorem dJ1_charAt_3b067_14 : decode cJ1_charAt_3b067 14 = .ok (.ireturn, 1) := by decide +kernel
theorem dJ3_checkIndex_8e157_0 : decode cJ3_checkIndex_8e157 0 = .ok (.iload_n 0, 1) := by decide +kernel
theorem dJ3_checkIndex_8e157_1 : decode cJ3_checkIndex_8e157 1 = .ok (.ifCond .lt 8, 3) := by decide +kernel
theorem dJ3_checkIndex_8e157_4 : decode cJ3_checkIndex_8e157 4 = .ok (.iload_n 0, 1) := by decide +kernel
theorem dJ3_checkIndex_8e157_5 : decode cJ3_checkIndex_8e157 5 = .ok (.iload_n 1, 1) := by decide +kernel
theorem dJ3_checkIndex_8e157_6 : decode cJ3_checkIndex_8e157 6 = .ok (.if_icmp .lt 10, 3) := by decide +kernel
theorem dJ3_checkIndex_8e157_9 : decode cJ3_checkIndex_8e157 9 = .ok (.aload_n 2, 1) := by decide +kernel
theorem dJ3_checkIndex_8e157_10 : decode cJ3_checkIndex_8e157 10 = .ok (.iload_n 0, 1) := by decide +kernel
theorem dJ3_checkIndex_8e157_11 : decode cJ3_checkIndex_8e157 11 = .ok (.iload_n 1, 1) := by decide +kernel
theorem dJ3_checkIndex_8e157_12 : decode cJ3_checkIndex_8e157 12 = .ok (.invokestatic 95, 3) := by decide +kernel
theorem dJ3_checkIndex_8e157_15 : decode cJ3_checkIndex_8e157 15 = .ok (.athrow, 1) := by decide +kernel
theorem dJ3_checkIndex_8e157_16 : decode cJ3_checkIndex_8e157 16 = .ok (.iload_n 0, 1) := by decide +kernel
theorem dJ3_checkIndex_8e157_17 : decode cJ3_checkIndex_8e157 17 = .ok (.ireturn, 1) := by decide +kernel
def m_strN : Nat := 66
def m_str : List Int32 := [98, 48, 44, 48, 44, 50, 44, 51, 44, 48, 59, 98, 54, 48, 44, 49, 44, 50, 44, 48, 44, 48, 59, 98, 53, 48, 44, 49, 44, 49, 44, 53, 44, 49, 59, 98, 49, 48, 44, 48, 44, 49, 44, 57, 44, 50, 59, 110, 50, 56, 44, 51, 50, 59, 121, 52, 59, 104, 49, 48, 59, 108, 50, 44, 52, 59]
theorem cvJ_len : m_CV RX9 86 RJ0 yJ0_length_8abf5 cJ0_length_8abf5 1 (some .int) 0 := m_cv (m_t2 53 rfl rfl) (m_t2 54 rfl rfl) (m_t2 55 rfl rfl) (m_t1 11 rfl rfl) (m_t2 56 rfl rfl) (by decide +kernel)
theorem cvJ_chr : m_CV RX9 92 RJ0 yJ0_charAt_5068e cJ0_charAt_5068e 2 (some .char) 1 := m_cv (m_t2 63 rfl rfl) (m_t2 64 rfl rfl) (m_t2 65 rfl rfl) (m_t1 11 rfl rfl) (m_t2 66 rfl rfl) (by decide +kernel)
theorem cvJ_cod : m_CV RJ0 335 RJ0 yJ0_coder_7d493 cJ0_coder_7d493 1 (some .byte) 0 := m_cv (m_t2 57 rfl rfl) (m_t2 58 rfl rfl) (m_t2 59 rfl rfl) (m_t1 11 rfl rfl) (m_t2 60 rfl rfl) (by decide +kernel)
theorem cvJ_lat : m_CV RJ0 492 RJ0 yJ0_isLatin1_aae02 cJ0_isLatin1_aae02 1 (some .boolean) 0 := m_cv (m_t2 67 rfl rfl) (m_t2 68 rfl rfl) (m_t2 69 rfl rfl) (m_t1 11 rfl rfl) (m_t2 70 rfl rfl) (by decide +kernel)
theorem csJ_lch : m_CS RJ0 495 yJ1_charAt_3b067 cJ1_charAt_3b067 2 (some .char) 2 := m_cs (m_t2 71 rfl rfl) (m_t2 72 rfl rfl) (m_t1 12 rfl rfl) (m_t2 73 rfl rfl) (by decide +kernel)
theorem csJ_chk : m_CS RJ1 9 yJ0_checkIndex_df160 cJ0_checkIndex_df160 2 none 2 := m_cs (m_t2 74 rfl rfl) (m_t2 75 rfl rfl) (m_t1 11 rfl rfl) (m_t2 76 rfl rfl) (by decide +kernel)
theorem csJ_pck : m_CS RJ0 1059 yJ3_checkIndex_8e157 cJ3_checkIndex_8e157 3 (some .int) 3 := m_cs (m_t2 79 rfl rfl) (m_t2 80 rfl rfl) (m_t1 13 rfl rfl) (m_t2 81 rfl rfl) (by decide +kernel)
theorem flJ_val : Cond.fieldLink RJ0 9 RJ0 "value" "[B" ∈ WS := m_t5 140 rfl rfl
theorem flJ_cod : Cond.fieldLink RJ0 15 RJ0 "coder" "B" ∈ WS := m_t5 141 rfl rfl
theorem flJ_cmp : Cond.fieldLink RJ0 38 RJ0 "COMPACT_STRINGS" "Z" ∈ WS := m_t2 61 rfl rfl
theorem flJ_fmt : Cond.fieldLink RJ0 1053 RJ3 "SIOOBE_FORMATTER" "Ljava/util/function/BiFunction;" ∈ WS := m_t2 77 rfl rfl
/-! the one String constant: where it lies, what it holds; nothing of it is ever written -/
def m_Js (aS aV : Nat) (A : Nat → Prop) (U : State) (H : Heap) : Prop := va_O RJ0 aS A U H ∧ va_OF RJ0 "coder" "B" (.int 0) aS A U H ∧ va_OF RJ0 "value" "[B" (.ref aV) aS A U H ∧ va_T .byte aV m_strN (fun j => .int (m_str.getD j 0)) A U H ∧ va_Z RJ0 "COMPACT_STRINGS" "Z" (.int 1) A U H ∧ va_Zq RJ3 "SIOOBE_FORMATTER" "Ljava/util/function/BiFunction;" A U H
theorem m_Js.moved {aS aV : Nat} {A : Nat → Prop} {u U : State} {H : Heap} (hvm : u.vm.Alike U.vm) (h : m_Js aS aV A u H) : m_Js aS aV A U H := ⟨h.1.moved hvm, h.2.1.moved hvm, h.2.2.1.moved hvm, h.2.2.2.1.moved hvm, h.2.2.2.2.1.moved hvm, h.2.2.2.2.2.moved hvm⟩
theorem m_Js.kept {aS aV : Nat} {A : Nat → Prop} {U : State} {H H1 : Heap} (h : m_Js aS aV A U H) (hq : ∀ a : Nat, a < H.size → ¬ A a → H1[a]? = H[a]?) : m_Js aS aV A U H1 := ⟨h.1.kept hq, h.2.1.kept hq, h.2.2.1.kept hq, h.2.2.2.1.kept hq, h.2.2.2.2.1.kept hq, h.2.2.2.2.2.kept hq⟩
theorem m_Js.narrow {aS aV : Nat} {A B : Nat → Prop} {U : State} {H : Heap} (h : m_Js aS aV A U H) (hAB : ∀ q, B q → A q) : m_Js aS aV B U H := ⟨h.1.narrow hAB, h.2.1.narrow hAB, h.2.2.1.narrow hAB, h.2.2.2.1.narrow hAB, h.2.2.2.2.1.narrow hAB, h.2.2.2.2.2.narrow hAB⟩
def m_J0 (aS aV : Nat) (U : State) : Prop := m_Js aS aV (fun _ => False) U U.heap
def m_Cy (p : Program) (s : State) (m : MethodId) (args : Array Value) (meth : Method) (cd : Code) (own : String) (cc : ByteArray) (nL : Nat) (ret : Option FieldType) : Prop := p.tables.exec = Jvm.exec ∧ cd.code = cc ∧ cd.maxLocals = nL ∧ s.vm.findClass own = some m.cls ∧ (∀ w ∈ WS, w.before args s = true) ∧ meth.sig.returnType = ret ∧ meth.locks = false
def m_Pj (av : List Value) (aS aV : Nat) : Array Value → State → Prop := va_Pc av (m_J0 aS aV)
theorem m_bj {av : List Value} {aS aV : Nat} : FrameBlind (m_Pj av aS aV) := fun a U g mk q => ⟨q.1, m_Js.moved (u := U) (U := U.calling g mk a) (Vm.Alike.refl U.vm) q.2⟩
def m_Mj (l : Launch) (y : MethodName) (bytes : ByteArray) (maxL : Nat) (ret : Option FieldType) (fr lo : Nat) (av : List Value) (aS aV : Nat) (post : Int32 → Prop) : Prop := Met l y (Cond.code y bytes maxL ret :: WS) (m_rm fr lo) (m_Pj av aS aV) (vp_Si post) 0 0 (fun _ => False)
def m_Mk (l : Launch) (y : MethodName) (bytes : ByteArray) (maxL : Nat) (fr lo : Nat) (av : List Value) (aS aV : Nat) : Prop := Met l y (Cond.code y bytes maxL none :: WS) (m_rm fr lo) (m_Pj av aS aV) (va_Sv (fun _ => True)) 0 0 (fun _ => False)
abbrev m_Gj (p : Program) (l : Launch) (e : Env) (R : Room) (s : State) (m : MethodId) (args : Array Value) (below : List Frame) (meth : Method) (cd : Code) (Q : State → Prop) (nL : Nat) (lv : List (Nat × Value)) : Prop := ∀ (ls : Array Slot), lv_has ls nL lv → W p l e R s m args below meth cd s.heap [] 0 0 Q (F0 m 0 ls [])
theorem m_enter_j {l : Launch} {y : MethodName} {own : String} {bytes : ByteArray} {maxL : Nat} {ty : FieldType} {fr lo : Nat} {av : List Value} {aS aV : Nat} {post : Int32 → Prop} (hy : plainName y.cls = true) (ho : y.cls = own) (hle : (lg_sl av).length ≤ maxL)
    (body : ∀ p e s m args below meth cd Q, m_Cy p s m args meth cd own bytes maxL (some ty) → m_J0 aS aV s → (∀ {v : Int32} {ls : Array Slot} {pc : Nat}, narrow ty (.int v) = .int v → post v → decode bytes pc = .ok (.ireturn, 1) → W p l e (m_rm fr lo) s m args below meth cd s.heap [] 0 0 Q (F0 m pc ls [.int v])) → m_Gj p l e (m_rm fr lo) s m args below meth cd Q maxL (lv_args 0 av)) : m_Mj l y bytes maxL (some ty) fr lo av aS aV post := by
  refine Met.ofW (cc := bytes) (maxL := maxL) (ret := some ty) hy rfl ?_
  intro p e s m args below meth cd s₁ B hml hv
  obtain ⟨ha, hJ⟩ := hv
  have hts := atoms_spec (ws := Cond.code y bytes maxL (some ty) :: WS) B.pre
  have hown : s.vm.findClass own = some m.cls := by rw [← ho]; exact findClass_of_methodNamed B.named
  have hl := lv_entry av (n := maxL) hle
  have he : entryFrame m args maxL = F0 m 0 ((lg_sl av ++ List.replicate (maxL - (lg_sl av).length) Slot.unset).toArray) [] := by rw [ha, lg_entry_eq]
  rw [he]
  exact body p e s m args below meth cd _ ⟨B.exec, B.bytes, hml, hown, fun w h => hts w (List.mem_cons_of_mem _ h), B.returns, B.notSynchronized⟩ hJ (fun {v ls pc} hn hp hd => W.zret B.exec B.bytes B.returns hn (fun t ht _ => ⟨v, rfl, hp, ht⟩) (fun q h => by cases h) hd B.notSynchronized) _ hl
theorem m_enter_k {l : Launch} {y : MethodName} {own : String} {bytes : ByteArray} {maxL : Nat} {fr lo : Nat} {av : List Value} {aS aV : Nat} (hy : plainName y.cls = true) (ho : y.cls = own) (hle : (lg_sl av).length ≤ maxL)
    (body : ∀ p e s m args below meth cd Q, m_Cy p s m args meth cd own bytes maxL none → m_J0 aS aV s → (∀ {ls : Array Slot} {pc : Nat}, decode bytes pc = .ok (.return_, 1) → W p l e (m_rm fr lo) s m args below meth cd s.heap [] 0 0 Q (F0 m pc ls [])) → m_Gj p l e (m_rm fr lo) s m args below meth cd Q maxL (lv_args 0 av)) : m_Mk l y bytes maxL fr lo av aS aV := by
  refine Met.ofW (cc := bytes) (maxL := maxL) (ret := none) hy rfl ?_
  intro p e s m args below meth cd s₁ B hml hv
  obtain ⟨ha, hJ⟩ := hv
  have hts := atoms_spec (ws := Cond.code y bytes maxL none :: WS) B.pre
  have hown : s.vm.findClass own = some m.cls := by rw [← ho]; exact findClass_of_methodNamed B.named
  have hl := lv_entry av (n := maxL) hle
  have he : entryFrame m args maxL = F0 m 0 ((lg_sl av ++ List.replicate (maxL - (lg_sl av).length) Slot.unset).toArray) [] := by rw [ha, lg_entry_eq]
  rw [he]
  exact body p e s m args below meth cd _ ⟨B.exec, B.bytes, hml, hown, fun w h => hts w (List.mem_cons_of_mem _ h), B.returns, B.notSynchronized⟩ hJ (fun {ls pc} hd => W.vret B.exec B.bytes B.returns (fun t ht _ => ⟨rfl, trivial, ht⟩) (fun q h => by cases h) hd B.notSynchronized) _ hl
section MJ
variable {p : Program} {l : Launch} {e : Env} {R : Room} {s : State} {m : MethodId} {args : Array Value} {below : List Frame} {meth : Method} {cd : Code} {H : Heap} {locs : List Loc} {cells slots : Nat} {Q : State → Prop}
variable {own : String} {cc : ByteArray} {nL : Nat} {ret : Option FieldType} {pc : Nat} {ls : Array Slot} {rest : List Value} {aS aV : Nat}
theorem m_jcallv {idx maxL fr lo na : Nat} {y : MethodName} {bytes : ByteArray} {rt : Option FieldType} {As : List Value} {post : Int32 → Prop} {stk : List Value} (X : m_Cy p s m args meth cd own cc nL ret) (hJ : m_Js aS aV (fun _ => False) s H) (hl : ls.size = nL)
    (hM : m_Mj l y bytes maxL rt fr lo (.ref aS :: As) aS aV post) (cw : m_CV own idx RJ0 y bytes maxL rt na) (hst : stk = As.reverse ++ .ref aS :: rest) (hn : As.length = na) (hR : fr + 1 ≤ R.frames ∧ 8 + (maxL + 11) + lo ≤ R.locals) (hcs : cells ≤ R.cells ∧ slots ≤ R.slots) (hw : (rest.map fun v => v.category).sum ≤ 8) (hdg : decode cc pc = .ok (.invokevirtual idx, 3))
    (kk : ∀ r : Int32, post r → W p l e R s m args below meth cd H locs cells slots Q (F0 m (pc + 3) ls (.int r :: rest))) : W p l e R s m args below meth cd H locs cells slots Q (F0 m pc ls stk) := by
  obtain ⟨hx, hb, hml, hown, hts, hr, hlk⟩ := X
  subst hst
  have hrec : ∃ cell : Cell, H[aS]? = some cell ∧ cell.vm.isStatics = false ∧ s.vm.findClass RJ0 = some cell.cls := by
    obtain ⟨cell, h1, h2, h3, -⟩ := hJ.1
    exact ⟨cell, h1, h2, h3⟩
  refine vp_callSi (W.runV (As := As) (rest := rest) (b := aS) ⟨hx, hb, hml, hown, hts⟩ hM (cwV na hts cw.1 rfl rfl rfl cw.2 hR) ⟨m_bj, hrec, fun U hU hW => ⟨rfl, by unfold m_J0; rw [hU]; exact hJ.moved hW.alike⟩⟩ rfl hn hl rfl (lv_room hw) hdg hcs) kk
theorem m_jcalls {idx maxL fr lo na : Nat} {y : MethodName} {bytes : ByteArray} {rt : Option FieldType} {As : List Value} {post : Int32 → Prop} {stk : List Value} (X : m_Cy p s m args meth cd own cc nL ret) (hJ : m_Js aS aV (fun _ => False) s H) (hl : ls.size = nL)
    (hM : m_Mj l y bytes maxL rt fr lo As aS aV post) (cw : m_CS own idx y bytes maxL rt na) (hst : stk = As.reverse ++ rest) (hn : As.length = na) (hR : fr + 1 ≤ R.frames ∧ 8 + (maxL + 11) + lo ≤ R.locals) (hcs : cells ≤ R.cells ∧ slots ≤ R.slots) (hw : (rest.map fun v => v.category).sum ≤ 8) (hdg : decode cc pc = .ok (.invokestatic idx, 3))
    (kk : ∀ r : Int32, post r → W p l e R s m args below meth cd H locs cells slots Q (F0 m (pc + 3) ls (.int r :: rest))) : W p l e R s m args below meth cd H locs cells slots Q (F0 m pc ls stk) := by
  obtain ⟨hx, hb, hml, hown, hts, hr, hlk⟩ := X
  subst hst
  refine vp_callSi (W.runS (As := As) (rest := rest) ⟨hx, hb, hml, hown, hts⟩ hM (va_cwS na hts cw.1 rfl rfl rfl cw.2 hR) ⟨m_bj, fun U hU hW => ⟨rfl, by unfold m_J0; rw [hU]; exact hJ.moved hW.alike⟩⟩ rfl hn hl rfl (lv_room hw) hdg hcs) kk
theorem m_jcallk {idx maxL fr lo na : Nat} {y : MethodName} {bytes : ByteArray} {As : List Value} {stk : List Value} (X : m_Cy p s m args meth cd own cc nL ret) (hJ : m_Js aS aV (fun _ => False) s H) (hl : ls.size = nL)
    (hM : m_Mk l y bytes maxL fr lo As aS aV) (cw : m_CS own idx y bytes maxL none na) (hst : stk = As.reverse ++ rest) (hn : As.length = na) (hR : fr + 1 ≤ R.frames ∧ 8 + (maxL + 11) + lo ≤ R.locals) (hcs : cells ≤ R.cells ∧ slots ≤ R.slots) (hw : (rest.map fun v => v.category).sum ≤ 8) (hdg : decode cc pc = .ok (.invokestatic idx, 3))
    (kk : W p l e R s m args below meth cd H locs cells slots Q (F0 m (pc + 3) ls rest)) : W p l e R s m args below meth cd H locs cells slots Q (F0 m pc ls stk) := by
  obtain ⟨hx, hb, hml, hown, hts, hr, hlk⟩ := X
  subst hst
  refine va_csv (W.runS (As := As) (rest := rest) ⟨hx, hb, hml, hown, hts⟩ hM (va_cwS na hts cw.1 rfl rfl rfl cw.2 hR) ⟨m_bj, fun U hU hW => ⟨rfl, by unfold m_J0; rw [hU]; exact hJ.moved hW.alike⟩⟩ rfl hn hl rfl (lv_room hw) hdg hcs) (fun _ => kk)
end MJ
abbrev m_room2 : True := trivial
set_option maxRecDepth 100000 in
theorem c_J_cod (l : Launch) (aS aV : Nat) : m_Mj l yJ0_coder_7d493 cJ0_coder_7d493 1 (some .byte) 0 0 [.ref aS] aS aV (fun r => r = 0) := by
  refine m_enter_j (own := RJ0) (by decide) rfl (Nat.le_of_ble_eq_true rfl) ?_
  intro p e s m args below meth cd Q X hJ ret ls hl
  have hx := X.1
  have hb := X.2.1
  have hl : lv_has ls 1 [(0, .ref aS)] := hl
  refine va_gets hx hb hJ.2.2.2.2.1 va_S.rf X.2.2.2.1 (X.2.2.2.2.1 _ flJ_cmp) (fun _ h => h) dJ0_coder_7d493_0 ?_
  refine lv_if_eq (tgt := 13) hx hb dJ0_coder_7d493_3 (by decide) (fun hc => absurd hc (by decide)) (fun hc => ?_)
  refine lv_aload_n hx hb dJ0_coder_7d493_6 rfl (lv_at hl 0 rfl) ?_
  refine vk_getf hx hb hJ.2.1 va_S.rf X.2.2.2.1 (X.2.2.2.2.1 _ flJ_cod) (fun _ h => h) dJ0_coder_7d493_7 ?_
  refine lv_goto (tgt := 14) hx hb dJ0_coder_7d493_10 (by decide) ?_
  exact ret rfl rfl dJ0_coder_7d493_14
set_option maxRecDepth 100000 in
theorem c_J_lat (l : Launch) (aS aV : Nat) : m_Mj l yJ0_isLatin1_aae02 cJ0_isLatin1_aae02 1 (some .boolean) 0 0 [.ref aS] aS aV (fun r => r = 1) := by
  refine m_enter_j (own := RJ0) (by decide) rfl (Nat.le_of_ble_eq_true rfl) ?_
  intro p e s m args below meth cd Q X hJ ret ls hl
  have hx := X.1
  have hb := X.2.1
  have hl : lv_has ls 1 [(0, .ref aS)] := hl
  refine va_gets hx hb hJ.2.2.2.2.1 va_S.rf X.2.2.2.1 (X.2.2.2.2.1 _ flJ_cmp) (fun _ h => h) dJ0_isLatin1_aae02_0 ?_
  refine lv_if_eq (tgt := 17) hx hb dJ0_isLatin1_aae02_3 (by decide) (fun hc => absurd hc (by decide)) (fun hc => ?_)
  refine lv_aload_n hx hb dJ0_isLatin1_aae02_6 rfl (lv_at hl 0 rfl) ?_
  refine vk_getf hx hb hJ.2.1 va_S.rf X.2.2.2.1 (X.2.2.2.2.1 _ flJ_cod) (fun _ h => h) dJ0_isLatin1_aae02_7 ?_
  refine lv_if_ne (tgt := 17) hx hb dJ0_isLatin1_aae02_10 (by decide) (fun hc => absurd rfl hc) (fun hc => ?_)
  refine lv_iconst (v := 1) hx hb dJ0_isLatin1_aae02_13 (by decide) ?_
  refine lv_goto (tgt := 18) hx hb dJ0_isLatin1_aae02_14 (by decide) ?_
  exact ret rfl rfl dJ0_isLatin1_aae02_18
set_option maxRecDepth 100000 in
theorem c_J_len (l : Launch) (aS aV : Nat) : m_Mj l yJ0_length_8abf5 cJ0_length_8abf5 1 (some .int) 1 20 [.ref aS] aS aV (fun r => r = (nI m_strN) >>> ((0 : Int32) &&& 31)) := by
  refine m_enter_j (own := RJ0) (by decide) rfl (Nat.le_of_ble_eq_true rfl) ?_
  intro p e s m args below meth cd Q X hJ ret ls hl
  have hx := X.1
  have hb := X.2.1
  have hl : lv_has ls 1 [(0, .ref aS)] := hl
  refine lv_aload_n hx hb dJ0_length_8abf5_0 rfl (lv_at hl 0 rfl) ?_
  refine vk_getf hx hb hJ.2.2.1 va_S.rf X.2.2.2.1 (X.2.2.2.2.1 _ flJ_val) (fun _ h => h) dJ0_length_8abf5_1 ?_
  refine va_tlen hx hb hJ.2.2.2.1 va_S.rf (v := nI m_strN) rfl dJ0_length_8abf5_4 ?_
  refine lv_aload_n hx hb dJ0_length_8abf5_5 rfl (lv_at hl 0 rfl) ?_
  refine m_jcallv (rest := [.int (nI m_strN)]) X hJ hl.1 (c_J_cod l aS aV) cvJ_cod rfl rfl ⟨Nat.le_of_ble_eq_true rfl, Nat.le_of_ble_eq_true rfl⟩ ⟨Nat.zero_le _, Nat.zero_le _⟩ (Nat.le_of_ble_eq_true rfl) dJ0_length_8abf5_6 (fun r hr => ?_)
  subst hr
  refine lv_ishr hx hb dJ0_length_8abf5_9 ?_
  exact ret rfl rfl dJ0_length_8abf5_10
set_option maxRecDepth 100000 in
theorem c_J_pck (l : Launch) (aS aV : Nat) (i n : Int32) (o : Value) (ho : o = .null ∨ ∃ t, o = .ref t) (h0 : ¬ i < 0) (h1 : i < n) : m_Mj l yJ3_checkIndex_8e157 cJ3_checkIndex_8e157 3 (some .int) 0 0 [.int i, .int n, o] aS aV (fun r => r = i) := by
  refine m_enter_j (own := RJ3) (by decide) rfl (by rcases ho with rfl | ⟨t, rfl⟩ <;> exact Nat.le_of_ble_eq_true rfl) ?_
  intro p e s m args below meth cd Q X hJ ret ls hl
  have hx := X.1
  have hb := X.2.1
  have hl : lv_has ls 3 [(0, .int i), (1, .int n)] := by
    rcases ho with rfl | ⟨t, rfl⟩
    · exact lv_sub (l := [(0, .int i), (1, .int n), (2, .null)]) hl [0, 1] rfl
    · exact lv_sub (l := [(0, .int i), (1, .int n), (2, .ref t)]) hl [0, 1] rfl
  refine lv_iload_n hx hb dJ3_checkIndex_8e157_0 rfl (lv_at hl 0 rfl) ?_
  refine lv_if_lt (tgt := 9) hx hb dJ3_checkIndex_8e157_1 (by decide) (fun hc => absurd hc h0) (fun hc => ?_)
  refine lv_iload_n hx hb dJ3_checkIndex_8e157_4 rfl (lv_at hl 0 rfl) ?_
  refine lv_iload_n hx hb dJ3_checkIndex_8e157_5 rfl (lv_at hl 1 rfl) ?_
  refine lv_icmp_lt (tgt := 16) hx hb dJ3_checkIndex_8e157_6 (by decide) (fun hc => ?_) (fun hc => absurd h1 hc)
  refine lv_iload_n hx hb dJ3_checkIndex_8e157_16 rfl (lv_at hl 0 rfl) ?_
  exact ret rfl rfl dJ3_checkIndex_8e157_17
set_option maxRecDepth 100000 in
theorem c_J_chk (l : Launch) (aS aV : Nat) (i n : Int32) (h0 : ¬ i < 0) (h1 : i < n) : m_Mk l yJ0_checkIndex_df160 cJ0_checkIndex_df160 2 1 22 [.int i, .int n] aS aV := by
  refine m_enter_k (own := RJ0) (by decide) rfl (Nat.le_of_ble_eq_true rfl) ?_
  intro p e s m args below meth cd Q X hJ ret ls hl
  have hx := X.1
  have hb := X.2.1
  have hl : lv_has ls 2 [(0, .int i), (1, .int n)] := hl
  refine lv_iload_n hx hb dJ0_checkIndex_df160_0 rfl (lv_at hl 0 rfl) ?_
  refine lv_iload_n hx hb dJ0_checkIndex_df160_1 rfl (lv_at hl 1 rfl) ?_
  have go : ∀ o : Value, (o = .null ∨ ∃ t, o = .ref t) → va_Z RJ3 "SIOOBE_FORMATTER" "Ljava/util/function/BiFunction;" o (fun _ => False) s s.heap → W p l e (m_rm 1 22) s m args below meth cd s.heap [] 0 0 Q (F0 m 2 ls [.int n, .int i]) := by
    intro o ho hZ
    refine va_gets hx hb hZ va_S.rf X.2.2.2.1 (X.2.2.2.2.1 _ flJ_fmt) (fun _ h => h) dJ0_checkIndex_df160_2 ?_
    refine m_jcalls (rest := []) X hJ hl.1 (c_J_pck l aS aV i n o ho h0 h1) csJ_pck rfl rfl ⟨Nat.le_of_ble_eq_true rfl, Nat.le_of_ble_eq_true rfl⟩ ⟨Nat.zero_le _, Nat.zero_le _⟩ (Nat.le_of_ble_eq_true rfl) dJ0_checkIndex_df160_5 (fun r hr => ?_)
    refine lv_pop hx hb dJ0_checkIndex_df160_8 rfl ?_
    exact ret dJ0_checkIndex_df160_9
  rcases hJ.2.2.2.2.2 with h | ⟨t, h⟩
  · exact go .null (Or.inl rfl) h
  · exact go (.ref t) (Or.inr ⟨t, rfl⟩) h
/-- the char at a place, as StringLatin1.charAt makes it -/
def m_ch (i : Int32) : Int32 := ((m_str.getD (m_ix i) 0 &&& (255 : Int32)).toUInt32 % 65536).toInt32
set_option maxRecDepth 100000 in
theorem c_J_lch (l : Launch) (aS aV : Nat) (i : Int32) (h0 : ¬ i < 0) (h1 : i < nI m_strN) : m_Mj l yJ1_charAt_3b067 cJ1_charAt_3b067 2 (some .char) 2 43 [.ref aV, .int i] aS aV (fun r => r = m_ch i) := by
  refine m_enter_j (own := RJ1) (by decide) rfl (Nat.le_of_ble_eq_true rfl) ?_
  intro p e s m args below meth cd Q X hJ ret ls hl
  have hx := X.1
  have hb := X.2.1
  have hl : lv_has ls 2 [(0, .ref aV), (1, .int i)] := hl
  have hin : vp_in i m_strN := by
    obtain ⟨j, hj, rfl⟩ := nI_of h0
    have h2 : j < m_strN := (nI_ltI hj (by decide)).mp h1
    exact vp_in_nI h2 (by decide)
  refine lv_iload_n hx hb dJ1_charAt_3b067_0 rfl (lv_at hl 1 rfl) ?_
  refine lv_aload_n hx hb dJ1_charAt_3b067_1 rfl (lv_at hl 0 rfl) ?_
  refine va_tlen hx hb hJ.2.2.2.1 va_S.rf (v := nI m_strN) rfl dJ1_charAt_3b067_2 ?_
  refine m_jcallk (rest := []) X hJ hl.1 (c_J_chk l aS aV i (nI m_strN) h0 h1) csJ_chk rfl rfl ⟨Nat.le_of_ble_eq_true rfl, Nat.le_of_ble_eq_true rfl⟩ ⟨Nat.zero_le _, Nat.zero_le _⟩ (Nat.le_of_ble_eq_true rfl) dJ1_charAt_3b067_3 ?_
  refine lv_aload_n hx hb dJ1_charAt_3b067_6 rfl (lv_at hl 0 rfl) ?_
  refine lv_iload_n hx hb dJ1_charAt_3b067_7 rfl (lv_at hl 1 rfl) ?_
  refine va_tb hx hb hJ.2.2.2.1 va_S.rf hin (v := .int (m_str.getD (m_ix i) 0)) rfl dJ1_charAt_3b067_8 ?_
  refine lv_sipush (v := 255) hx hb dJ1_charAt_3b067_9 (by decide) ?_
  refine lv_iand hx hb dJ1_charAt_3b067_12 ?_
  refine lv_i2c (v := m_ch i) hx hb dJ1_charAt_3b067_13 rfl ?_
  exact ret (pk_nc _) rfl dJ1_charAt_3b067_14
set_option maxRecDepth 100000 in
theorem c_J_chr (l : Launch) (aS aV : Nat) (i : Int32) (h0 : ¬ i < 0) (h1 : i < nI m_strN) : m_Mj l yJ0_charAt_5068e cJ0_charAt_5068e 2 (some .char) 3 64 [.ref aS, .int i] aS aV (fun r => r = m_ch i) := by
  refine m_enter_j (own := RJ0) (by decide) rfl (Nat.le_of_ble_eq_true rfl) ?_
  intro p e s m args below meth cd Q X hJ ret ls hl
  have hx := X.1
  have hb := X.2.1
  have hl : lv_has ls 2 [(0, .ref aS), (1, .int i)] := hl
  refine lv_aload_n hx hb dJ0_charAt_5068e_0 rfl (lv_at hl 0 rfl) ?_
  refine m_jcallv (rest := []) X hJ hl.1 (c_J_lat l aS aV) cvJ_lat rfl rfl ⟨Nat.le_of_ble_eq_true rfl, Nat.le_of_ble_eq_true rfl⟩ ⟨Nat.zero_le _, Nat.zero_le _⟩ (Nat.le_of_ble_eq_true rfl) dJ0_charAt_5068e_1 (fun r hr => ?_)
  subst hr
  refine lv_if_eq (tgt := 16) hx hb dJ0_charAt_5068e_4 (by decide) (fun hc => absurd hc (by decide)) (fun hc => ?_)
  refine lv_aload_n hx hb dJ0_charAt_5068e_7 rfl (lv_at hl 0 rfl) ?_
  refine vk_getf hx hb hJ.2.2.1 va_S.rf X.2.2.2.1 (X.2.2.2.2.1 _ flJ_val) (fun _ h => h) dJ0_charAt_5068e_8 ?_
  refine lv_iload_n hx hb dJ0_charAt_5068e_11 rfl (lv_at hl 1 rfl) ?_
  refine m_jcalls (rest := []) X hJ hl.1 (c_J_lch l aS aV i h0 h1) csJ_lch rfl rfl ⟨Nat.le_of_ble_eq_true rfl, Nat.le_of_ble_eq_true rfl⟩ ⟨Nat.zero_le _, Nat.zero_le _⟩ (Nat.le_of_ble_eq_true rfl) dJ0_charAt_5068e_12 (fun r hr => ?_)
  exact ret (by rw [hr]; exact pk_nc _) hr dJ0_charAt_5068e_15
