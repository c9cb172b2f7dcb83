
/-! constructors: worlds as lists -/
def m_Pn (D : va_G) (cI cZ : ClassId) (av : List Value) (ws : va_W) (sz : Nat) : Array Value → State → Prop := va_Pc av (fun U => U.heap.size = sz ∧ va_P D vwCl ws U.heap ∧ m_K D cI cZ U ∧ va_D (fun _ => True) ws)
theorem m_bn {D : va_G} {cI cZ : ClassId} {av : List Value} {ws : va_W} {sz : Nat} : FrameBlind (m_Pn D cI cZ av ws sz) := by
  intro a U g mk z
  obtain ⟨q0, q1, qP, qK, qD⟩ := z
  exact ⟨q0, q1, qP, m_K.same (s := U) rfl qK, qD⟩
abbrev m_rn (fr ce sl lo : Nat) : Room := { frames := fr, cells := ce, slots := sl, locals := lo }
def m_Qn (D : va_G) (ws : va_W) (sz : Nat) (out : (Nat → Nat) → va_W) : Array Value → State → Outcome → State → Prop := va_Qv (fun _ : Nat → Nat => True) (fun f t => va_P D vwCl (out f) t.heap ∧ va_D (va_A ws sz) (out f)) (va_A ws sz)
def m_Mn (l : Launch) (y : MethodName) (bytes : ByteArray) (maxL fr ce sl lo : Nat) (D : va_G) (cI cZ : ClassId) (av : List Value) (ws : va_W) (sz : Nat) (out : (Nat → Nat) → va_W) : Prop := Met l y (Cond.code y bytes maxL none :: WS) (m_rn fr ce sl lo) (m_Pn D cI cZ av ws sz) (m_Qn D ws sz out) ce sl (va_A ws sz)
set_option maxHeartbeats 4000000 in
theorem m_enter_n {l : Launch} {y : MethodName} {own : String} {bytes : ByteArray} {maxL fr ce sl lo : Nat} {D : va_G} {cI cZ : ClassId} {av : List Value} {ws : va_W} {sz : Nat} {out : (Nat → Nat) → va_W} (hy : plainName y.cls = true) (ho : y.cls = own) (hyn : y.name = "<init>") (hle : (lg_sl av).length ≤ maxL)
    (body : ∀ p e s m args below meth cd Q A, m_Cx p s m args meth cd own bytes maxL none D cI cZ → meth.name = "<init>" → (∀ q, s.heap.size ≤ q → A q) → (∀ {f : Nat → Nat} {H : Heap} {locs : List Loc} {ls : Array Slot} {pc : Nat}, va_P D vwCl (out f) H → va_D A (out f) → va_S A s.heap H locs → decode bytes pc = .ok (.return_, 1) → W p l e (m_rn fr ce sl lo) s m args below meth cd H locs ce sl Q (F0 m pc ls [])) →
      ∀ (ls : Array Slot), va_P D vwCl ws s.heap → va_D A ws → va_S A s.heap s.heap [] → lv_has ls maxL (lv_args 0 av) → W p l e (m_rn fr ce sl lo) s m args below meth cd s.heap [] 0 0 Q (F0 m 0 ls [])) : m_Mn l y bytes maxL fr ce sl lo D cI cZ av ws sz out := by
  refine Met.ofW (cc := bytes) (maxL := maxL) (ret := none) hy rfl ?_
  intro p e s m args below meth cd s₁ B hml hv
  obtain ⟨ha, rfl, hP, hK, hD⟩ := hv
  have hts := atoms_spec (ws := Cond.code y bytes maxL none :: WS) B.pre
  have hown : s.vm.findClass own = some m.cls := by rw [← ho]; exact findClass_of_methodNamed B.named
  have hin : meth.name = "<init>" := by rw [← hyn]; exact (name_of_methodNamed B.named B.method).1
  have hl := lv_entry av (n := maxL) hle
  have he : entryFrame m args maxL = F0 m 0 ((lg_sl av ++ List.replicate (maxL - (lg_sl av).length) Slot.unset).toArray) [] := by rw [ha, lg_entry_eq]
  rw [he]
  have X : m_Cx p s m args meth cd own bytes maxL none D cI cZ := ⟨B.exec, B.bytes, hml, hown, fun w h => hts w (List.mem_cons_of_mem _ h), B.returns, B.notSynchronized, hK⟩
  exact body p e s m args below meth cd _ (va_A ws s.heap.size) X hin (fun q h => Or.inr h) (fun {f H locs ls pc} h1 h2 h3 hd => W.vret B.exec B.bytes B.returns (fun t ht _ => ⟨⟨f, rfl, trivial, by rw [ht]; exact h1, h2⟩, h3.F ht⟩) h3.2.2 hd B.notSynchronized) _ hP hD.self va_S.rf hl
def m_FF (own : String) (idx ci k : Nat) : Prop := ∃ (T : u_T) (N : Nat) (ty : Nat → FieldType), vwCl[ci]? = some (own, T, N) ∧ k < N ∧ (∀ w ∈ u_ws own T N, w ∈ WS) ∧ Cond.fieldLink own idx (T k).1 (T k).2.1 (T k).2.2.1 ∈ WS ∧ (∀ k, k < N → parseFieldDescriptor (T k).2.2.1 = some (ty k)) ∧ (∀ a, a < N → ∀ b, b < N → a ≠ b → (T a).2.1 ≠ (T b).2.1) ∧ (T k).2.2.2 = true ∧ (T k).1 = own ∧ ∀ a, narrow (ty k) (.ref a) = .ref a ∧ fits (ty k) (.ref a) = true
theorem m_wI : Cond.arrayClass .int ∈ WS := m_t1 41 rfl rfl
theorem m_wZ : Cond.arrayClass .boolean ∈ WS := m_t2 15 rfl rfl
theorem m_wO1 : Cond.instanceMethod objectInit ∈ WS := m_t1 24 rfl rfl
theorem m_wO2 : Cond.code objectInit ⟨#[0xb1]⟩ 1 none ∈ WS := m_t1 25 rfl rfl
section MN
variable {p : Program} {l : Launch} {e : Env} {R : Room} {s : State} {m : MethodId} {args : Array Value} {below : List Frame} {meth : Method} {cd : Code} {H : Heap} {locs : List Loc} {cells slots : Nat} {Q : State → Prop}
variable {own : String} {cc : ByteArray} {nL : Nat} {ret : Option FieldType} {D : va_G} {cI cZ : ClassId} {ws : va_W} {A : Nat → Prop} {pc : Nat} {ls : Array Slot} {rest : List Value}
theorem m_lobj (X : m_Cx p s m args meth cd own cc nL ret D cI cZ) (hl : ls.size = nL) {idx a : Nat} (F : Cond.methodLink own idx objectInit ∈ WS) (hfr : 1 ≤ R.frames) (hlo : (rest.map fun v => v.category).sum + 12 ≤ R.locals) (hdg : decode cc pc = .ok (.invokespecial idx, 3))
    (kk : W p l e R s m args below meth cd H locs cells slots Q (F0 m (pc + 3) ls rest)) : W p l e R s m args below meth cd H locs cells slots Q (F0 m pc ls (.ref a :: rest)) := by
  obtain ⟨hx, hb, hml, hown, hts, hr, hlk, hK⟩ := X
  exact W.objInit hx hb hown (hts _ F) (hts _ m_wO1) (hts _ m_wO2) rfl (by rw [hml]; exact hl) rfl hdg hfr (by show 2 * 0 + _ + 12 ≤ _; omega) kk
theorem m_lnewI (X : m_Cx p s m args meth cd own cc nL ret D cI cZ) (hP : va_P D vwCl ws H) (hD : va_D A ws) (hS : va_S A s.heap H locs) (hA : ∀ q, s.heap.size ≤ q → A q) {n : Int32} (N : Nat) (hn : ¬ n < 0) (hN : n.toNatClampNeg = N) (hby : N ≤ 134217728) (hc : cells + 1 ≤ R.cells) (hs : slots + N ≤ R.slots) (hdg : decode cc pc = .ok (.newarray .int, 2))
    (kk : ∀ (a : Nat) (H : Heap), va_P D vwCl (ws ++ [(a, .inl (cI, N, .inl (fun _ => 0)))]) H → va_D A (ws ++ [(a, .inl (cI, N, .inl (fun _ => 0)))]) → va_S A s.heap H locs → W p l e R s m args below meth cd H locs (cells + 1) (slots + N) Q (F0 m (pc + 2) ls (.ref a :: rest))) : W p l e R s m args below meth cd H locs cells slots Q (F0 m pc ls (.int n :: rest)) := by
  obtain ⟨hx, hb, hml, hown, hts, hr, hlk, hK⟩ := X
  refine va_newa (atype := .int) (a0 := (N, .inl (fun _ => 0))) hx hb (hts _ m_wI) rfl hK.1 hP hD hS hA (fun _ => rfl) hn hN (by show N * 4 ≤ _; omega) hc hs hdg (fun a cA H1 h1 h2 h3 h4 => ?_)
  have e1 := (h1.2 2 (cA, .int) rfl).2
  have e2 := (h1.2 0 (cI, .int) rfl).2
  have e3 : cA = cI := Option.some.inj (e1.symm.trans e2)
  subst e3
  exact kk a H1 h2 h3 h4
theorem m_lnewZ (X : m_Cx p s m args meth cd own cc nL ret D cI cZ) (hP : va_P D vwCl ws H) (hD : va_D A ws) (hS : va_S A s.heap H locs) (hA : ∀ q, s.heap.size ≤ q → A q) {n : Int32} (N : Nat) (hn : ¬ n < 0) (hN : n.toNatClampNeg = N) (hby : N ≤ 134217728) (hc : cells + 1 ≤ R.cells) (hs : slots + N ≤ R.slots) (hdg : decode cc pc = .ok (.newarray .boolean, 2))
    (kk : ∀ (a : Nat) (H : Heap), va_P D vwCl (ws ++ [(a, .inl (cZ, N, .inl (fun _ => 0)))]) H → va_D A (ws ++ [(a, .inl (cZ, N, .inl (fun _ => 0)))]) → va_S A s.heap H locs → W p l e R s m args below meth cd H locs (cells + 1) (slots + N) Q (F0 m (pc + 2) ls (.ref a :: rest))) : W p l e R s m args below meth cd H locs cells slots Q (F0 m pc ls (.int n :: rest)) := by
  obtain ⟨hx, hb, hml, hown, hts, hr, hlk, hK⟩ := X
  refine va_newa (atype := .boolean) (a0 := (N, .inl (fun _ => 0))) hx hb (hts _ m_wZ) rfl hK.1 hP hD hS hA (fun _ => rfl) hn hN (by show N * 1 ≤ _; omega) hc hs hdg (fun a cA H1 h1 h2 h3 h4 => ?_)
  have e1 := (h1.2 2 (cA, .boolean) rfl).2
  have e2 := (h1.2 1 (cZ, .boolean) rfl).2
  have e3 : cA = cZ := Option.some.inj (e1.symm.trans e2)
  subst e3
  exact kk a H1 h2 h3 h4
theorem m_lputF (X : m_Cx p s m args meth cd own cc nL ret D cI cZ) (hin : meth.name = "<init>") (hP : va_P D vwCl ws H) (hD : va_D A ws) (hS : va_S A s.heap H locs) {idx ci k a : Nat} {fs : List Value} (F : m_FF own idx ci k) (j : Nat) {b : Nat} (he : ws[j]? = some (b, .inr (ci, fs))) (hl : k < fs.length) (hdg : decode cc pc = .ok (.putfield idx, 3))
    (kk : ∀ (H : Heap) (locs : List Loc), va_P D vwCl (ws.set j (b, .inr (ci, fs.set k (.ref a)))) H → va_D A (ws.set j (b, .inr (ci, fs.set k (.ref a)))) → va_S A s.heap H locs → W p l e R s m args below meth cd H locs cells slots Q (F0 m (pc + 3) ls rest)) : W p l e R s m args below meth cd H locs cells slots Q (F0 m pc ls (.ref a :: .ref b :: rest)) := by
  obtain ⟨hx, hb, hml, hown, hts, hr, hlk, hK⟩ := X
  obtain ⟨T, N, ty, hc, hk, hw, hlink, hty, hnm, hfin, hdc, hv⟩ := F
  exact va_putF hx hb hts hw ty hty hnm hown hK.1 hP hD hS j he hc k hk (hts _ hlink) (fun _ h => h) hfin hin hdc (hty k hk) (hv a).1 (hv a).2 hl hdg kk
theorem m_lputI (X : m_Cx p s m args meth cd own cc nL ret D cI cZ) (hP : va_P D vwCl ws H) (hD : va_D A ws) (hS : va_S A s.heap H locs) {idx ci k : Nat} {x : Int32} {fs : List Value} (F : m_FP own idx ci k) (j : Nat) {b : Nat} (he : ws[j]? = some (b, .inr (ci, fs))) (hl : k < fs.length) (hdg : decode cc pc = .ok (.putfield idx, 3))
    (kk : ∀ (H : Heap) (locs : List Loc), va_P D vwCl (ws.set j (b, .inr (ci, fs.set k (.int x)))) H → va_D A (ws.set j (b, .inr (ci, fs.set k (.int x)))) → va_S A s.heap H locs → W p l e R s m args below meth cd H locs cells slots Q (F0 m (pc + 3) ls rest)) : W p l e R s m args below meth cd H locs cells slots Q (F0 m pc ls (.int x :: .ref b :: rest)) := by
  obtain ⟨hx, hb, hml, hown, hts, hr, hlk, hK⟩ := X
  obtain ⟨C, T, N, ty, hc, hk, hw, hlink, hty, hnm, hfin, htk⟩ := F
  have hd : parseFieldDescriptor (T k).2.2.1 = some .int := by rw [hty k hk, htk]
  exact va_put hx hb hts hw ty hty hnm hown hK.1 hP hD hS j he hc k hk (hts _ hlink) (fun _ h => h) hfin hd (v := .int x) rfl rfl hl hdg kk
theorem m_lget (X : m_Cx p s m args meth cd own cc nL ret D cI cZ) (hP : va_P D vwCl ws H) {idx ci k : Nat} {v : Value} {fs : List Value} (F : m_FL own idx ci k) (j : Nat) {b : Nat} (he : ws[j]? = some (b, .inr (ci, fs))) (hv : fs[k]? = some v) (hdg : decode cc pc = .ok (.getfield idx, 3))
    (kk : W p l e R s m args below meth cd H locs cells slots Q (F0 m (pc + 3) ls (v :: rest))) : W p l e R s m args below meth cd H locs cells slots Q (F0 m pc ls (.ref b :: rest)) := by
  obtain ⟨hx, hb, hml, hown, hts, hr, hlk, hK⟩ := X
  obtain ⟨C, T, N, hc, hk, hin, hlink⟩ := F
  exact va_get hx hb hts hin hown hK.1 hP j he hc k hk (hts _ hlink) (fun _ h => h) hv hdg kk
theorem m_join {cl : List vw_C} {wr wc w1 : va_W} {H H1 : Heap} {A0 : Nat → Prop} (hP : va_P D cl (wr ++ wc) H) (hD : va_D A0 (wr ++ wc)) (hk : ∀ q : Nat, q < H.size → ¬ va_A wc H.size q → H1[q]? = H[q]?) (hF : ∀ q, va_A wc H.size q → A0 q) (hP1 : va_P D cl w1 H1) (hD1 : va_D (va_A wc H.size) w1) : va_P D cl (wr ++ w1) H1 ∧ va_D A0 (wr ++ w1) := by
  have hl : ∀ (k : Nat) (z : Nat × va_E), wr[k]? = some z → (wr ++ wc)[k]? = some z := fun k z hz => by
    rw [List.getElem?_append_left (List.getElem?_eq_some_iff.mp hz).1]; exact hz
  have hr : ∀ (k : Nat) (z : Nat × va_E), wc[k]? = some z → (wr ++ wc)[wr.length + k]? = some z := fun k z hz => by
    rw [List.getElem?_append_right (by omega), Nat.add_sub_cancel_left]; exact hz
  have apart : ∀ (k : Nat) (z : Nat × va_E), wr[k]? = some z → z.1 < H.size ∧ ¬ va_A wc H.size z.1 := by
    intro k z hz
    have hlt := (hP k z (hl k z hz)).lt
    refine ⟨hlt, fun h => ?_⟩
    rcases h with ⟨k2, e2, h⟩ | h
    · have h3 := hD.1 k (wr.length + k2) z (z.1, e2) (hl k z hz) (hr k2 _ h) rfl
      have h4 := (List.getElem?_eq_some_iff.mp hz).1
      omega
    · omega
  refine ⟨va_P.app (fun k z hz => (hP k z (hl k z hz)).kept (hk z.1 (apart k z hz).1 (apart k z hz).2)) hP1, va_D.app ⟨fun i j x y hi hj hxy => hD.1 i j x y (hl i x hi) (hl j y hj) hxy, fun k z hz => hD.2 k z (hl k z hz)⟩ (hD1.weaken (fun k z _ h => hF z.1 h)) (fun i j x y hx hy hxy => ?_)⟩
  exact (apart i x hx).2 (by rw [hxy]; exact hD1.2 j y hy)
theorem m_right {cl : List vw_C} {wr wc : va_W} {H : Heap} (h : va_P D cl (wr ++ wc) H) : va_P D cl wc H := fun k z hz => h (wr.length + k) z (by rw [List.getElem?_append_right (by omega), Nat.add_sub_cancel_left]; exact hz)
theorem m_left {cl : List vw_C} {wr wc : va_W} {H : Heap} (h : va_P D cl (wr ++ wc) H) : va_P D cl wr H := fun k z hz => h k z (by rw [List.getElem?_append_left (List.getElem?_eq_some_iff.mp hz).1]; exact hz)
theorem m_rightD {wr wc : va_W} (h : va_D A (wr ++ wc)) : va_D A wc := ⟨fun i j x y hi hj hxy => by
    have := h.1 (wr.length + i) (wr.length + j) x y (by rw [List.getElem?_append_right (by omega), Nat.add_sub_cancel_left]; exact hi) (by rw [List.getElem?_append_right (by omega), Nat.add_sub_cancel_left]; exact hj) hxy
    omega, fun k z hz => h.2 (wr.length + k) z (by rw [List.getElem?_append_right (by omega), Nat.add_sub_cancel_left]; exact hz)⟩
theorem m_leftD {wr wc : va_W} (h : va_D A (wr ++ wc)) : va_D A wr := ⟨fun i j x y hi hj hxy => h.1 i j x y (by rw [List.getElem?_append_left (List.getElem?_eq_some_iff.mp hi).1]; exact hi) (by rw [List.getElem?_append_left (List.getElem?_eq_some_iff.mp hj).1]; exact hj) hxy, fun k z hz => h.2 k z (by rw [List.getElem?_append_left (List.getElem?_eq_some_iff.mp hz).1]; exact hz)⟩
theorem m_freeR {wr wc : va_W} (hD : va_D A (wr ++ wc)) (hS : va_S A s.heap H locs) (hA : ∀ q, s.heap.size ≤ q → A q) : ∀ q, va_A wc H.size q → A q := by
  intro q h
  rcases h with ⟨k, e2, h⟩ | h
  · exact (m_rightD hD).2 k (q, e2) h
  · exact hA q (Nat.le_trans hS.1 h)
def m_CI (own : String) (idx : Nat) (y : MethodName) (bytes : ByteArray) (maxL na : Nat) : Prop := GoodIn WS (Cond.code y bytes maxL none :: WS) ∧ Cond.initialized y.cls ∈ WS ∧ Cond.methodLink own idx y ∈ WS ∧ Cond.instanceMethod y ∈ WS ∧ y.name = "<init>" ∧ y.cls ≠ "java/lang/invoke/MethodHandle" ∧ y.cls ≠ "java/lang/invoke/VarHandle" ∧ (parseMethodDescriptor y.desc).map (fun d => d.parameters.length) = some na
def m_CJ (y : MethodName) (bytes : ByteArray) (maxL na : Nat) : Prop := GoodIn WS (Cond.code y bytes maxL none :: WS) ∧ Cond.initialized y.cls ∈ WS ∧ Cond.instanceMethod y ∈ WS ∧ y.name = "<init>" ∧ y.cls ≠ "java/lang/invoke/MethodHandle" ∧ y.cls ≠ "java/lang/invoke/VarHandle" ∧ (parseMethodDescriptor y.desc).map (fun d => d.parameters.length) = some na
set_option maxHeartbeats 4000000 in
theorem m_ctor {idx maxL fr ce sl lo na b : Nat} {y : MethodName} {bytes : ByteArray} {As : List Value} {wr wc : va_W} {out : (Nat → Nat) → va_W} {stk : List Value} (X : m_Cx p s m args meth cd own cc nL ret D cI cZ) (hP : va_P D vwCl (wr ++ wc) H) (hD : va_D A (wr ++ wc)) (hS : va_S A s.heap H locs) (hA : ∀ q, s.heap.size ≤ q → A q) (hl : ls.size = nL)
    (hM : m_Mn l y bytes maxL fr ce sl lo D cI cZ (.ref b :: As) wc H.size out) (cw : m_CI own idx y bytes maxL na) (hst : stk = As.reverse ++ .ref b :: rest) (hn : As.length = na) (hR : fr + 1 ≤ R.frames ∧ 8 + (maxL + 11) + lo ≤ R.locals) (hcs : cells + ce ≤ R.cells ∧ slots + sl ≤ R.slots) (hw : (rest.map fun v => v.category).sum ≤ 8) (hdg : decode cc pc = .ok (.invokespecial idx, 3))
    (kk : ∀ (f : Nat → Nat) (H : Heap) (locs : List Loc), va_P D vwCl (wr ++ out f) H → va_D A (wr ++ out f) → va_S A s.heap H locs → W p l e R s m args below meth cd H locs (cells + ce) (slots + sl) Q (F0 m (pc + 3) ls rest)) : W p l e R s m args below meth cd H locs cells slots Q (F0 m pc ls stk) := by
  obtain ⟨hx, hb, hml, hown, hts, hr, hlk, hK⟩ := X
  subst hst
  have hF := m_freeR hD hS hA
  refine va_callv (va_runI (As := As) (rest := rest) (b := b) ⟨hx, hb, hml, hown, hts⟩ hM (cwI na hts cw.1 rfl rfl rfl (hts _ cw.2.1) (hts _ cw.2.2.1) (hts _ cw.2.2.2.1) cw.2.2.2.2.1 cw.2.2.2.2.2 hR) ⟨m_bn, fun U hU hW => ⟨rfl, by rw [hU], by rw [hU]; exact m_right hP, m_K.warm hW hK, (m_rightD hD).weaken (fun _ _ _ _ => trivial)⟩⟩ rfl hn hl rfl (lv_room hw) hdg hcs) hS (fun q _ h => hF q h) hF (fun f t H1 locs1 ht hvm hw hB hz1 hk1 hS1 => ?_)
  have hP1 : va_P D vwCl (out f) H1 := by rw [← ht]; exact hB.1
  obtain ⟨g1, g2⟩ := m_join hP hD hk1 hF hP1 hB.2
  exact kk f H1 locs1 g1 g2 hS1
set_option maxHeartbeats 4000000 in
theorem m_ctorN {idx maxL fr ce sl lo na b : Nat} {host : String} {y : MethodName} {bytes : ByteArray} {As : List Value} {wr wc : va_W} {out : (Nat → Nat) → va_W} {stk : List Value} (X : m_Cx p s m args meth cd own cc nL ret D cI cZ) (hP : va_P D vwCl (wr ++ wc) H) (hD : va_D A (wr ++ wc)) (hS : va_S A s.heap H locs) (hA : ∀ q, s.heap.size ≤ q → A q) (hl : ls.size = nL) (hN : va_Nw (.methodLinkNest own idx y host) s)
    (hM : m_Mn l y bytes maxL fr ce sl lo D cI cZ (.ref b :: As) wc H.size out) (cw : m_CJ y bytes maxL na) (hst : stk = As.reverse ++ .ref b :: rest) (hn : As.length = na) (hR : fr + 1 ≤ R.frames ∧ 8 + (maxL + 11) + lo ≤ R.locals) (hcs : cells + ce ≤ R.cells ∧ slots + sl ≤ R.slots) (hw : (rest.map fun v => v.category).sum ≤ 8) (hdg : decode cc pc = .ok (.invokespecial idx, 3))
    (kk : ∀ (f : Nat → Nat) (H : Heap) (locs : List Loc), va_P D vwCl (wr ++ out f) H → va_D A (wr ++ out f) → va_S A s.heap H locs → W p l e R s m args below meth cd H locs (cells + ce) (slots + sl) Q (F0 m (pc + 3) ls rest)) : W p l e R s m args below meth cd H locs cells slots Q (F0 m pc ls stk) := by
  obtain ⟨hx, hb, hml, hown, hts, hr, hlk, hK⟩ := X
  subst hst
  have hF := m_freeR hD hS hA
  refine va_callv (va_runIN (As := As) (rest := rest) (b := b) ⟨hx, hb, hml, hown, hts⟩ hM ⟨va_cnB na hts cw.1 rfl rfl rfl hN (hts _ cw.2.1) cw.2.2.2.2 hR, cw.2.2.2.1, hts _ cw.2.2.1⟩ ⟨m_bn, fun U hU hW => ⟨rfl, by rw [hU], by rw [hU]; exact m_right hP, m_K.warm hW hK, (m_rightD hD).weaken (fun _ _ _ _ => trivial)⟩⟩ rfl hn hl rfl (lv_room hw) hdg hcs) hS (fun q _ h => hF q h) hF (fun f t H1 locs1 ht hvm hw hB hz1 hk1 hS1 => ?_)
  have hP1 : va_P D vwCl (out f) H1 := by rw [← ht]; exact hB.1
  obtain ⟨g1, g2⟩ := m_join hP hD hk1 hF hP1 hB.2
  exact kk f H1 locs1 g1 g2 hS1
end MN
theorem m_ci {own : String} {idx : Nat} {y : MethodName} {bytes : ByteArray} {maxL na : Nat} (h5 : Cond.code y bytes maxL none ∈ WS) (h4 : Cond.initialized y.cls ∈ WS) (h1 : Cond.methodLink own idx y ∈ WS) (h2 : Cond.instanceMethod y ∈ WS) (hd : y.name = "<init>" ∧ y.cls ≠ "java/lang/invoke/MethodHandle" ∧ y.cls ≠ "java/lang/invoke/VarHandle" ∧ (parseMethodDescriptor y.desc).map (fun d => d.parameters.length) = some na) : m_CI own idx y bytes maxL na := by
  refine ⟨fun w hw => ?_, h4, h1, h2, hd⟩
  rcases List.mem_cons.mp hw with rfl | hw
  · exact m_goodWS _ h5
  · exact m_goodWS _ hw
theorem m_cj {y : MethodName} {bytes : ByteArray} {maxL na : Nat} (h5 : Cond.code y bytes maxL none ∈ WS) (h4 : Cond.initialized y.cls ∈ WS) (h2 : Cond.instanceMethod y ∈ WS) (hd : y.name = "<init>" ∧ y.cls ≠ "java/lang/invoke/MethodHandle" ∧ y.cls ≠ "java/lang/invoke/VarHandle" ∧ (parseMethodDescriptor y.desc).map (fun d => d.parameters.length) = some na) : m_CJ y bytes maxL na := by
  refine ⟨fun w hw => ?_, h4, h2, hd⟩
  rcases List.mem_cons.mp hw with rfl | hw
  · exact m_goodWS _ h5
  · exact m_goodWS _ hw

theorem oi_8 : Cond.methodLink RX8 3 objectInit ∈ WS := m_t1 31 rfl rfl
theorem ff_8_9 : m_FF RX8 9 8 0 := ⟨TX8, 2, tyX8, rfl, by decide, inX8, (m_t1 32 rfl rfl), tyX8_ok, nmX8, rfl, rfl, fun _ => ⟨rfl, rfl⟩⟩
theorem oi_1 : Cond.methodLink RX1 3 objectInit ∈ WS := m_t1 47 rfl rfl
theorem ff_1_9 : m_FF RX1 9 1 6 := ⟨TX1, 13, tyX1, rfl, by decide, inX1, (m_t1 70 rfl rfl), tyX1_ok, nmX1, rfl, rfl, fun _ => ⟨rfl, rfl⟩⟩
theorem ff_1_15 : m_FF RX1 15 1 7 := ⟨TX1, 13, tyX1, rfl, by decide, inX1, (m_t1 74 rfl rfl), tyX1_ok, nmX1, rfl, rfl, fun _ => ⟨rfl, rfl⟩⟩
theorem ff_1_18 : m_FF RX1 18 1 8 := ⟨TX1, 13, tyX1, rfl, by decide, inX1, (m_t1 79 rfl rfl), tyX1_ok, nmX1, rfl, rfl, fun _ => ⟨rfl, rfl⟩⟩
theorem ff_1_21 : m_FF RX1 21 1 9 := ⟨TX1, 13, tyX1, rfl, by decide, inX1, (m_t1 84 rfl rfl), tyX1_ok, nmX1, rfl, rfl, fun _ => ⟨rfl, rfl⟩⟩
theorem ff_1_24 : m_FF RX1 24 1 10 := ⟨TX1, 13, tyX1, rfl, by decide, inX1, (m_t1 87 rfl rfl), tyX1_ok, nmX1, rfl, rfl, fun _ => ⟨rfl, rfl⟩⟩
theorem ff_1_27 : m_FF RX1 27 1 11 := ⟨TX1, 13, tyX1, rfl, by decide, inX1, (m_t1 91 rfl rfl), tyX1_ok, nmX1, rfl, rfl, fun _ => ⟨rfl, rfl⟩⟩
theorem ff_1_30 : m_FF RX1 30 1 12 := ⟨TX1, 13, tyX1, rfl, by decide, inX1, (m_t1 93 rfl rfl), tyX1_ok, nmX1, rfl, rfl, fun _ => ⟨rfl, rfl⟩⟩
theorem oi_4 : Cond.methodLink RX4 3 objectInit ∈ WS := m_t1 127 rfl rfl
theorem ff_4_9 : m_FF RX4 9 4 2 := ⟨TX4, 3, tyX4, rfl, by decide, inX4, (m_t1 130 rfl rfl), tyX4_ok, nmX4, rfl, rfl, fun _ => ⟨rfl, rfl⟩⟩
theorem ff_4_15 : m_FF RX4 15 4 0 := ⟨TX4, 3, tyX4, rfl, by decide, inX4, (m_t1 128 rfl rfl), tyX4_ok, nmX4, rfl, rfl, fun _ => ⟨rfl, rfl⟩⟩
theorem ff_4_19 : m_FF RX4 19 4 1 := ⟨TX4, 3, tyX4, rfl, by decide, inX4, (m_t1 129 rfl rfl), tyX4_ok, nmX4, rfl, rfl, fun _ => ⟨rfl, rfl⟩⟩
theorem oi_3 : Cond.methodLink RX3 3 objectInit ∈ WS := m_t1 143 rfl rfl
theorem ff_3_9 : m_FF RX3 9 3 0 := ⟨TX3, 2, tyX3, rfl, by decide, inX3, (m_t1 144 rfl rfl), tyX3_ok, nmX3, rfl, rfl, fun _ => ⟨rfl, rfl⟩⟩
theorem ff_3_15 : m_FF RX3 15 3 1 := ⟨TX3, 2, tyX3, rfl, by decide, inX3, (m_t1 150 rfl rfl), tyX3_ok, nmX3, rfl, rfl, fun _ => ⟨rfl, rfl⟩⟩
theorem oi_5 : Cond.methodLink RX5 3 objectInit ∈ WS := m_t1 165 rfl rfl
theorem ff_5_9 : m_FF RX5 9 5 0 := ⟨TX5, 1, tyX5, rfl, by decide, inX5, (m_t1 166 rfl rfl), tyX5_ok, nmX5, rfl, rfl, fun _ => ⟨rfl, rfl⟩⟩
theorem oi_2 : Cond.methodLink RX2 3 objectInit ∈ WS := m_t1 175 rfl rfl
theorem ff_2_9 : m_FF RX2 9 2 2 := ⟨TX2, 16, tyX2, rfl, by decide, inX2, (m_t1 178 rfl rfl), tyX2_ok, nmX2, rfl, rfl, fun _ => ⟨rfl, rfl⟩⟩
theorem ff_2_15 : m_FF RX2 15 2 3 := ⟨TX2, 16, tyX2, rfl, by decide, inX2, (m_t1 179 rfl rfl), tyX2_ok, nmX2, rfl, rfl, fun _ => ⟨rfl, rfl⟩⟩
theorem ff_2_18 : m_FF RX2 18 2 4 := ⟨TX2, 16, tyX2, rfl, by decide, inX2, (m_t1 181 rfl rfl), tyX2_ok, nmX2, rfl, rfl, fun _ => ⟨rfl, rfl⟩⟩
theorem ff_2_21 : m_FF RX2 21 2 5 := ⟨TX2, 16, tyX2, rfl, by decide, inX2, (m_t1 182 rfl rfl), tyX2_ok, nmX2, rfl, rfl, fun _ => ⟨rfl, rfl⟩⟩
theorem ff_2_24 : m_FF RX2 24 2 6 := ⟨TX2, 16, tyX2, rfl, by decide, inX2, (m_t1 184 rfl rfl), tyX2_ok, nmX2, rfl, rfl, fun _ => ⟨rfl, rfl⟩⟩
theorem ff_2_27 : m_FF RX2 27 2 7 := ⟨TX2, 16, tyX2, rfl, by decide, inX2, (m_t1 186 rfl rfl), tyX2_ok, nmX2, rfl, rfl, fun _ => ⟨rfl, rfl⟩⟩
theorem ff_2_30 : m_FF RX2 30 2 8 := ⟨TX2, 16, tyX2, rfl, by decide, inX2, (m_t1 188 rfl rfl), tyX2_ok, nmX2, rfl, rfl, fun _ => ⟨rfl, rfl⟩⟩
theorem ff_2_33 : m_FF RX2 33 2 12 := ⟨TX2, 16, tyX2, rfl, by decide, inX2, (m_t1 194 rfl rfl), tyX2_ok, nmX2, rfl, rfl, fun _ => ⟨rfl, rfl⟩⟩
theorem ff_2_36 : m_FF RX2 36 2 13 := ⟨TX2, 16, tyX2, rfl, by decide, inX2, (m_t1 196 rfl rfl), tyX2_ok, nmX2, rfl, rfl, fun _ => ⟨rfl, rfl⟩⟩
theorem ff_2_39 : m_FF RX2 39 2 14 := ⟨TX2, 16, tyX2, rfl, by decide, inX2, (m_t1 198 rfl rfl), tyX2_ok, nmX2, rfl, rfl, fun _ => ⟨rfl, rfl⟩⟩
theorem ff_2_42 : m_FF RX2 42 2 15 := ⟨TX2, 16, tyX2, rfl, by decide, inX2, (m_t1 200 rfl rfl), tyX2_ok, nmX2, rfl, rfl, fun _ => ⟨rfl, rfl⟩⟩
theorem ff_2_45 : m_FF RX2 45 2 0 := ⟨TX2, 16, tyX2, rfl, by decide, inX2, (m_t1 176 rfl rfl), tyX2_ok, nmX2, rfl, rfl, fun _ => ⟨rfl, rfl⟩⟩
theorem ff_2_49 : m_FF RX2 49 2 1 := ⟨TX2, 16, tyX2, rfl, by decide, inX2, (m_t1 177 rfl rfl), tyX2_ok, nmX2, rfl, rfl, fun _ => ⟨rfl, rfl⟩⟩
theorem oi_0 : Cond.methodLink RX0 3 objectInit ∈ WS := m_t2 0 rfl rfl
theorem ff_0_9 : m_FF RX0 9 0 0 := ⟨TX0, 4, tyX0, rfl, by decide, inX0, (m_t2 1 rfl rfl), tyX0_ok, nmX0, rfl, rfl, fun _ => ⟨rfl, rfl⟩⟩
theorem ff_0_15 : m_FF RX0 15 0 1 := ⟨TX0, 4, tyX0, rfl, by decide, inX0, (m_t2 2 rfl rfl), tyX0_ok, nmX0, rfl, rfl, fun _ => ⟨rfl, rfl⟩⟩
theorem ff_0_19 : m_FF RX0 19 0 2 := ⟨TX0, 4, tyX0, rfl, by decide, inX0, (m_t2 3 rfl rfl), tyX0_ok, nmX0, rfl, rfl, fun _ => ⟨rfl, rfl⟩⟩
theorem oi_6 : Cond.methodLink RX6 3 objectInit ∈ WS := m_t2 21 rfl rfl
theorem ff_6_9 : m_FF RX6 9 6 0 := ⟨TX6, 3, tyX6, rfl, by decide, inX6, (m_t2 22 rfl rfl), tyX6_ok, nmX6, rfl, rfl, fun _ => ⟨rfl, rfl⟩⟩
theorem ff_6_15 : m_FF RX6 15 6 1 := ⟨TX6, 3, tyX6, rfl, by decide, inX6, (m_t2 24 rfl rfl), tyX6_ok, nmX6, rfl, rfl, fun _ => ⟨rfl, rfl⟩⟩
theorem oi_7 : Cond.methodLink RX7 3 objectInit ∈ WS := m_t2 40 rfl rfl
theorem ff_7_9 : m_FF RX7 9 7 0 := ⟨TX7, 3, tyX7, rfl, by decide, inX7, (m_t2 41 rfl rfl), tyX7_ok, nmX7, rfl, rfl, fun _ => ⟨rfl, rfl⟩⟩
theorem ff_7_15 : m_FF RX7 15 7 1 := ⟨TX7, 3, tyX7, rfl, by decide, inX7, (m_t2 42 rfl rfl), tyX7_ok, nmX7, rfl, rfl, fun _ => ⟨rfl, rfl⟩⟩
abbrev oN_8 (cI cZ : ClassId) (h0 : Nat) (f : Nat → Nat) : va_W := [(h0, .inr (8, [.ref (f 0), .int 0])), ((f 0), .inl (cI, 200, .inl (fun _ => 0)))]
set_option maxHeartbeats 40000000 in
set_option maxRecDepth 100000 in
theorem c_X8_init (l : Launch) (D : va_G) (cI cZ : ClassId) (h0 sz : Nat) : m_Mn l yX8_init cX8_init 1 1 1 200 12 D cI cZ [.ref h0] [(h0, .inr (8, [.null, .int 0]))] sz (oN_8 cI cZ h0) := by
  refine m_enter_n (own := RX8) (by decide) rfl rfl (Nat.le_of_ble_eq_true rfl) ?_
  intro p e s m args below meth cd Q A X hin hA ret ls hP hD hS hl
  have hx := X.1
  have hb := X.2.1
  have hl : lv_has ls 1 [(0, .ref h0)] := hl
  refine lv_aload_n hx hb dX8_init_0 rfl (lv_at hl 0 rfl) ?_
  refine m_lobj X hl.1 oi_8 (Nat.le_of_ble_eq_true rfl) (Nat.le_of_ble_eq_true rfl) dX8_init_1 ?_
  refine lv_aload_n hx hb dX8_init_4 rfl (lv_at hl 0 rfl) ?_
  refine lv_sipush (v := (200 : Int32)) hx hb dX8_init_5 (by decide) ?_
  refine m_lnewI X hP hD hS hA 200 (by decide) (by decide +kernel) (Nat.le_of_ble_eq_true rfl) (Nat.le_of_ble_eq_true rfl) (Nat.le_of_ble_eq_true rfl) dX8_init_8 (fun a1 H hP hD hS => ?_)
  refine W.widen (k := 1) (n := 200) (Nat.le_of_ble_eq_true rfl) (Nat.le_of_ble_eq_true rfl) ?_
  have hP : va_P D vwCl [(h0, .inr (8, [.null, .int 0])), (a1, .inl (cI, 200, .inl (fun _ => 0)))] H := hP
  have hD : va_D A [(h0, .inr (8, [.null, .int 0])), (a1, .inl (cI, 200, .inl (fun _ => 0)))] := hD
  refine m_lputF X hin hP hD hS ff_8_9 0 rfl (Nat.le_of_ble_eq_true rfl) dX8_init_10 (fun H locs hP hD hS => ?_)
  have hP : va_P D vwCl [(h0, .inr (8, [.ref a1, .int 0])), (a1, .inl (cI, 200, .inl (fun _ => 0)))] H := hP
  have hD : va_D A [(h0, .inr (8, [.ref a1, .int 0])), (a1, .inl (cI, 200, .inl (fun _ => 0)))] := hD
  refine lv_aload_n hx hb dX8_init_13 rfl (lv_at hl 0 rfl) ?_
  refine lv_iconst (v := (0 : Int32)) hx hb dX8_init_14 (by decide) ?_
  refine m_lputI X hP hD hS fp_8_15 0 rfl (Nat.le_of_ble_eq_true rfl) dX8_init_15 (fun H locs hP hD hS => ?_)
  have hP : va_P D vwCl [(h0, .inr (8, [.ref a1, .int 0])), (a1, .inl (cI, 200, .inl (fun _ => 0)))] H := hP
  have hD : va_D A [(h0, .inr (8, [.ref a1, .int 0])), (a1, .inl (cI, 200, .inl (fun _ => 0)))] := hD
  exact ret (f := fun k => ([a1] : List Nat).getD k 0) hP hD hS dX8_init_18
abbrev oN_1 (cI cZ : ClassId) (h0 : Nat) (f : Nat → Nat) : va_W := [(h0, .inr (1, [.int 0, .int 0, .int 0, .int 0, .int 0, .int 0, .ref (f 0), .ref (f 1), .ref (f 2), .ref (f 3), .ref (f 4), .ref (f 5), .ref (f 6)])), ((f 0), .inl (cI, 6, .inl (fun _ => 0))), ((f 1), .inl (cI, 6, .inl (fun _ => 0))), ((f 2), .inl (cI, 6, .inl (fun _ => 0))), ((f 3), .inl (cI, 6, .inl (fun _ => 0))), ((f 4), .inl (cI, 6, .inl (fun _ => 0))), ((f 5), .inl (cI, 3, .inl (fun _ => 0))), ((f 6), .inl (cI, 3, .inl (fun _ => 0)))]
set_option maxHeartbeats 40000000 in
set_option maxRecDepth 100000 in
theorem c_X1_init (l : Launch) (D : va_G) (cI cZ : ClassId) (h0 sz : Nat) : m_Mn l yX1_init cX1_init 1 1 7 36 12 D cI cZ [.ref h0] [(h0, .inr (1, [.int 0, .int 0, .int 0, .int 0, .int 0, .int 0, .null, .null, .null, .null, .null, .null, .null]))] sz (oN_1 cI cZ h0) := by
  refine m_enter_n (own := RX1) (by decide) rfl rfl (Nat.le_of_ble_eq_true rfl) ?_
  intro p e s m args below meth cd Q A X hin hA ret ls hP hD hS hl
  have hx := X.1
  have hb := X.2.1
  have hl : lv_has ls 1 [(0, .ref h0)] := hl
  refine lv_aload_n hx hb dX1_init_0 rfl (lv_at hl 0 rfl) ?_
  refine m_lobj X hl.1 oi_1 (Nat.le_of_ble_eq_true rfl) (Nat.le_of_ble_eq_true rfl) dX1_init_1 ?_
  refine lv_aload_n hx hb dX1_init_4 rfl (lv_at hl 0 rfl) ?_
  refine lv_bipush (v := (6 : Int32)) hx hb dX1_init_5 (by decide) ?_
  refine m_lnewI X hP hD hS hA 6 (by decide) (by decide +kernel) (Nat.le_of_ble_eq_true rfl) (Nat.le_of_ble_eq_true rfl) (Nat.le_of_ble_eq_true rfl) dX1_init_7 (fun a1 H hP hD hS => ?_)
  refine W.widen (k := 1) (n := 6) (Nat.le_of_ble_eq_true rfl) (Nat.le_of_ble_eq_true rfl) ?_
  have hP : va_P D vwCl [(h0, .inr (1, [.int 0, .int 0, .int 0, .int 0, .int 0, .int 0, .null, .null, .null, .null, .null, .null, .null])), (a1, .inl (cI, 6, .inl (fun _ => 0)))] H := hP
  have hD : va_D A [(h0, .inr (1, [.int 0, .int 0, .int 0, .int 0, .int 0, .int 0, .null, .null, .null, .null, .null, .null, .null])), (a1, .inl (cI, 6, .inl (fun _ => 0)))] := hD
  refine m_lputF X hin hP hD hS ff_1_9 0 rfl (Nat.le_of_ble_eq_true rfl) dX1_init_9 (fun H locs hP hD hS => ?_)
  have hP : va_P D vwCl [(h0, .inr (1, [.int 0, .int 0, .int 0, .int 0, .int 0, .int 0, .ref a1, .null, .null, .null, .null, .null, .null])), (a1, .inl (cI, 6, .inl (fun _ => 0)))] H := hP
  have hD : va_D A [(h0, .inr (1, [.int 0, .int 0, .int 0, .int 0, .int 0, .int 0, .ref a1, .null, .null, .null, .null, .null, .null])), (a1, .inl (cI, 6, .inl (fun _ => 0)))] := hD
  refine lv_aload_n hx hb dX1_init_12 rfl (lv_at hl 0 rfl) ?_
  refine lv_bipush (v := (6 : Int32)) hx hb dX1_init_13 (by decide) ?_
  refine m_lnewI X hP hD hS hA 6 (by decide) (by decide +kernel) (Nat.le_of_ble_eq_true rfl) (Nat.le_of_ble_eq_true rfl) (Nat.le_of_ble_eq_true rfl) dX1_init_15 (fun a2 H hP hD hS => ?_)
  refine W.widen (k := 2) (n := 12) (Nat.le_of_ble_eq_true rfl) (Nat.le_of_ble_eq_true rfl) ?_
  have hP : va_P D vwCl [(h0, .inr (1, [.int 0, .int 0, .int 0, .int 0, .int 0, .int 0, .ref a1, .null, .null, .null, .null, .null, .null])), (a1, .inl (cI, 6, .inl (fun _ => 0))), (a2, .inl (cI, 6, .inl (fun _ => 0)))] H := hP
  have hD : va_D A [(h0, .inr (1, [.int 0, .int 0, .int 0, .int 0, .int 0, .int 0, .ref a1, .null, .null, .null, .null, .null, .null])), (a1, .inl (cI, 6, .inl (fun _ => 0))), (a2, .inl (cI, 6, .inl (fun _ => 0)))] := hD
  refine m_lputF X hin hP hD hS ff_1_15 0 rfl (Nat.le_of_ble_eq_true rfl) dX1_init_17 (fun H locs hP hD hS => ?_)
  have hP : va_P D vwCl [(h0, .inr (1, [.int 0, .int 0, .int 0, .int 0, .int 0, .int 0, .ref a1, .ref a2, .null, .null, .null, .null, .null])), (a1, .inl (cI, 6, .inl (fun _ => 0))), (a2, .inl (cI, 6, .inl (fun _ => 0)))] H := hP
  have hD : va_D A [(h0, .inr (1, [.int 0, .int 0, .int 0, .int 0, .int 0, .int 0, .ref a1, .ref a2, .null, .null, .null, .null, .null])), (a1, .inl (cI, 6, .inl (fun _ => 0))), (a2, .inl (cI, 6, .inl (fun _ => 0)))] := hD
  refine lv_aload_n hx hb dX1_init_20 rfl (lv_at hl 0 rfl) ?_
  refine lv_bipush (v := (6 : Int32)) hx hb dX1_init_21 (by decide) ?_
  refine m_lnewI X hP hD hS hA 6 (by decide) (by decide +kernel) (Nat.le_of_ble_eq_true rfl) (Nat.le_of_ble_eq_true rfl) (Nat.le_of_ble_eq_true rfl) dX1_init_23 (fun a3 H hP hD hS => ?_)
  refine W.widen (k := 3) (n := 18) (Nat.le_of_ble_eq_true rfl) (Nat.le_of_ble_eq_true rfl) ?_
  have hP : va_P D vwCl [(h0, .inr (1, [.int 0, .int 0, .int 0, .int 0, .int 0, .int 0, .ref a1, .ref a2, .null, .null, .null, .null, .null])), (a1, .inl (cI, 6, .inl (fun _ => 0))), (a2, .inl (cI, 6, .inl (fun _ => 0))), (a3, .inl (cI, 6, .inl (fun _ => 0)))] H := hP
  have hD : va_D A [(h0, .inr (1, [.int 0, .int 0, .int 0, .int 0, .int 0, .int 0, .ref a1, .ref a2, .null, .null, .null, .null, .null])), (a1, .inl (cI, 6, .inl (fun _ => 0))), (a2, .inl (cI, 6, .inl (fun _ => 0))), (a3, .inl (cI, 6, .inl (fun _ => 0)))] := hD
  refine m_lputF X hin hP hD hS ff_1_18 0 rfl (Nat.le_of_ble_eq_true rfl) dX1_init_25 (fun H locs hP hD hS => ?_)
  have hP : va_P D vwCl [(h0, .inr (1, [.int 0, .int 0, .int 0, .int 0, .int 0, .int 0, .ref a1, .ref a2, .ref a3, .null, .null, .null, .null])), (a1, .inl (cI, 6, .inl (fun _ => 0))), (a2, .inl (cI, 6, .inl (fun _ => 0))), (a3, .inl (cI, 6, .inl (fun _ => 0)))] H := hP
  have hD : va_D A [(h0, .inr (1, [.int 0, .int 0, .int 0, .int 0, .int 0, .int 0, .ref a1, .ref a2, .ref a3, .null, .null, .null, .null])), (a1, .inl (cI, 6, .inl (fun _ => 0))), (a2, .inl (cI, 6, .inl (fun _ => 0))), (a3, .inl (cI, 6, .inl (fun _ => 0)))] := hD
  refine lv_aload_n hx hb dX1_init_28 rfl (lv_at hl 0 rfl) ?_
  refine lv_bipush (v := (6 : Int32)) hx hb dX1_init_29 (by decide) ?_
  refine m_lnewI X hP hD hS hA 6 (by decide) (by decide +kernel) (Nat.le_of_ble_eq_true rfl) (Nat.le_of_ble_eq_true rfl) (Nat.le_of_ble_eq_true rfl) dX1_init_31 (fun a4 H hP hD hS => ?_)
  refine W.widen (k := 4) (n := 24) (Nat.le_of_ble_eq_true rfl) (Nat.le_of_ble_eq_true rfl) ?_
  have hP : va_P D vwCl [(h0, .inr (1, [.int 0, .int 0, .int 0, .int 0, .int 0, .int 0, .ref a1, .ref a2, .ref a3, .null, .null, .null, .null])), (a1, .inl (cI, 6, .inl (fun _ => 0))), (a2, .inl (cI, 6, .inl (fun _ => 0))), (a3, .inl (cI, 6, .inl (fun _ => 0))), (a4, .inl (cI, 6, .inl (fun _ => 0)))] H := hP
  have hD : va_D A [(h0, .inr (1, [.int 0, .int 0, .int 0, .int 0, .int 0, .int 0, .ref a1, .ref a2, .ref a3, .null, .null, .null, .null])), (a1, .inl (cI, 6, .inl (fun _ => 0))), (a2, .inl (cI, 6, .inl (fun _ => 0))), (a3, .inl (cI, 6, .inl (fun _ => 0))), (a4, .inl (cI, 6, .inl (fun _ => 0)))] := hD
  refine m_lputF X hin hP hD hS ff_1_21 0 rfl (Nat.le_of_ble_eq_true rfl) dX1_init_33 (fun H locs hP hD hS => ?_)
  have hP : va_P D vwCl [(h0, .inr (1, [.int 0, .int 0, .int 0, .int 0, .int 0, .int 0, .ref a1, .ref a2, .ref a3, .ref a4, .null, .null, .null])), (a1, .inl (cI, 6, .inl (fun _ => 0))), (a2, .inl (cI, 6, .inl (fun _ => 0))), (a3, .inl (cI, 6, .inl (fun _ => 0))), (a4, .inl (cI, 6, .inl (fun _ => 0)))] H := hP
  have hD : va_D A [(h0, .inr (1, [.int 0, .int 0, .int 0, .int 0, .int 0, .int 0, .ref a1, .ref a2, .ref a3, .ref a4, .null, .null, .null])), (a1, .inl (cI, 6, .inl (fun _ => 0))), (a2, .inl (cI, 6, .inl (fun _ => 0))), (a3, .inl (cI, 6, .inl (fun _ => 0))), (a4, .inl (cI, 6, .inl (fun _ => 0)))] := hD
  refine lv_aload_n hx hb dX1_init_36 rfl (lv_at hl 0 rfl) ?_
  refine lv_bipush (v := (6 : Int32)) hx hb dX1_init_37 (by decide) ?_
  refine m_lnewI X hP hD hS hA 6 (by decide) (by decide +kernel) (Nat.le_of_ble_eq_true rfl) (Nat.le_of_ble_eq_true rfl) (Nat.le_of_ble_eq_true rfl) dX1_init_39 (fun a5 H hP hD hS => ?_)
  refine W.widen (k := 5) (n := 30) (Nat.le_of_ble_eq_true rfl) (Nat.le_of_ble_eq_true rfl) ?_
  have hP : va_P D vwCl [(h0, .inr (1, [.int 0, .int 0, .int 0, .int 0, .int 0, .int 0, .ref a1, .ref a2, .ref a3, .ref a4, .null, .null, .null])), (a1, .inl (cI, 6, .inl (fun _ => 0))), (a2, .inl (cI, 6, .inl (fun _ => 0))), (a3, .inl (cI, 6, .inl (fun _ => 0))), (a4, .inl (cI, 6, .inl (fun _ => 0))), (a5, .inl (cI, 6, .inl (fun _ => 0)))] H := hP
  have hD : va_D A [(h0, .inr (1, [.int 0, .int 0, .int 0, .int 0, .int 0, .int 0, .ref a1, .ref a2, .ref a3, .ref a4, .null, .null, .null])), (a1, .inl (cI, 6, .inl (fun _ => 0))), (a2, .inl (cI, 6, .inl (fun _ => 0))), (a3, .inl (cI, 6, .inl (fun _ => 0))), (a4, .inl (cI, 6, .inl (fun _ => 0))), (a5, .inl (cI, 6, .inl (fun _ => 0)))] := hD
  refine m_lputF X hin hP hD hS ff_1_24 0 rfl (Nat.le_of_ble_eq_true rfl) dX1_init_41 (fun H locs hP hD hS => ?_)
  have hP : va_P D vwCl [(h0, .inr (1, [.int 0, .int 0, .int 0, .int 0, .int 0, .int 0, .ref a1, .ref a2, .ref a3, .ref a4, .ref a5, .null, .null])), (a1, .inl (cI, 6, .inl (fun _ => 0))), (a2, .inl (cI, 6, .inl (fun _ => 0))), (a3, .inl (cI, 6, .inl (fun _ => 0))), (a4, .inl (cI, 6, .inl (fun _ => 0))), (a5, .inl (cI, 6, .inl (fun _ => 0)))] H := hP
  have hD : va_D A [(h0, .inr (1, [.int 0, .int 0, .int 0, .int 0, .int 0, .int 0, .ref a1, .ref a2, .ref a3, .ref a4, .ref a5, .null, .null])), (a1, .inl (cI, 6, .inl (fun _ => 0))), (a2, .inl (cI, 6, .inl (fun _ => 0))), (a3, .inl (cI, 6, .inl (fun _ => 0))), (a4, .inl (cI, 6, .inl (fun _ => 0))), (a5, .inl (cI, 6, .inl (fun _ => 0)))] := hD
  refine lv_aload_n hx hb dX1_init_44 rfl (lv_at hl 0 rfl) ?_
  refine lv_iconst (v := (3 : Int32)) hx hb dX1_init_45 (by decide) ?_
  refine m_lnewI X hP hD hS hA 3 (by decide) (by decide +kernel) (Nat.le_of_ble_eq_true rfl) (Nat.le_of_ble_eq_true rfl) (Nat.le_of_ble_eq_true rfl) dX1_init_46 (fun a6 H hP hD hS => ?_)
  refine W.widen (k := 6) (n := 33) (Nat.le_of_ble_eq_true rfl) (Nat.le_of_ble_eq_true rfl) ?_
  have hP : va_P D vwCl [(h0, .inr (1, [.int 0, .int 0, .int 0, .int 0, .int 0, .int 0, .ref a1, .ref a2, .ref a3, .ref a4, .ref a5, .null, .null])), (a1, .inl (cI, 6, .inl (fun _ => 0))), (a2, .inl (cI, 6, .inl (fun _ => 0))), (a3, .inl (cI, 6, .inl (fun _ => 0))), (a4, .inl (cI, 6, .inl (fun _ => 0))), (a5, .inl (cI, 6, .inl (fun _ => 0))), (a6, .inl (cI, 3, .inl (fun _ => 0)))] H := hP
  have hD : va_D A [(h0, .inr (1, [.int 0, .int 0, .int 0, .int 0, .int 0, .int 0, .ref a1, .ref a2, .ref a3, .ref a4, .ref a5, .null, .null])), (a1, .inl (cI, 6, .inl (fun _ => 0))), (a2, .inl (cI, 6, .inl (fun _ => 0))), (a3, .inl (cI, 6, .inl (fun _ => 0))), (a4, .inl (cI, 6, .inl (fun _ => 0))), (a5, .inl (cI, 6, .inl (fun _ => 0))), (a6, .inl (cI, 3, .inl (fun _ => 0)))] := hD
  refine m_lputF X hin hP hD hS ff_1_27 0 rfl (Nat.le_of_ble_eq_true rfl) dX1_init_48 (fun H locs hP hD hS => ?_)
  have hP : va_P D vwCl [(h0, .inr (1, [.int 0, .int 0, .int 0, .int 0, .int 0, .int 0, .ref a1, .ref a2, .ref a3, .ref a4, .ref a5, .ref a6, .null])), (a1, .inl (cI, 6, .inl (fun _ => 0))), (a2, .inl (cI, 6, .inl (fun _ => 0))), (a3, .inl (cI, 6, .inl (fun _ => 0))), (a4, .inl (cI, 6, .inl (fun _ => 0))), (a5, .inl (cI, 6, .inl (fun _ => 0))), (a6, .inl (cI, 3, .inl (fun _ => 0)))] H := hP
  have hD : va_D A [(h0, .inr (1, [.int 0, .int 0, .int 0, .int 0, .int 0, .int 0, .ref a1, .ref a2, .ref a3, .ref a4, .ref a5, .ref a6, .null])), (a1, .inl (cI, 6, .inl (fun _ => 0))), (a2, .inl (cI, 6, .inl (fun _ => 0))), (a3, .inl (cI, 6, .inl (fun _ => 0))), (a4, .inl (cI, 6, .inl (fun _ => 0))), (a5, .inl (cI, 6, .inl (fun _ => 0))), (a6, .inl (cI, 3, .inl (fun _ => 0)))] := hD
  refine lv_aload_n hx hb dX1_init_51 rfl (lv_at hl 0 rfl) ?_
  refine lv_iconst (v := (3 : Int32)) hx hb dX1_init_52 (by decide) ?_
  refine m_lnewI X hP hD hS hA 3 (by decide) (by decide +kernel) (Nat.le_of_ble_eq_true rfl) (Nat.le_of_ble_eq_true rfl) (Nat.le_of_ble_eq_true rfl) dX1_init_53 (fun a7 H hP hD hS => ?_)
  refine W.widen (k := 7) (n := 36) (Nat.le_of_ble_eq_true rfl) (Nat.le_of_ble_eq_true rfl) ?_
  have hP : va_P D vwCl [(h0, .inr (1, [.int 0, .int 0, .int 0, .int 0, .int 0, .int 0, .ref a1, .ref a2, .ref a3, .ref a4, .ref a5, .ref a6, .null])), (a1, .inl (cI, 6, .inl (fun _ => 0))), (a2, .inl (cI, 6, .inl (fun _ => 0))), (a3, .inl (cI, 6, .inl (fun _ => 0))), (a4, .inl (cI, 6, .inl (fun _ => 0))), (a5, .inl (cI, 6, .inl (fun _ => 0))), (a6, .inl (cI, 3, .inl (fun _ => 0))), (a7, .inl (cI, 3, .inl (fun _ => 0)))] H := hP
  have hD : va_D A [(h0, .inr (1, [.int 0, .int 0, .int 0, .int 0, .int 0, .int 0, .ref a1, .ref a2, .ref a3, .ref a4, .ref a5, .ref a6, .null])), (a1, .inl (cI, 6, .inl (fun _ => 0))), (a2, .inl (cI, 6, .inl (fun _ => 0))), (a3, .inl (cI, 6, .inl (fun _ => 0))), (a4, .inl (cI, 6, .inl (fun _ => 0))), (a5, .inl (cI, 6, .inl (fun _ => 0))), (a6, .inl (cI, 3, .inl (fun _ => 0))), (a7, .inl (cI, 3, .inl (fun _ => 0)))] := hD
  refine m_lputF X hin hP hD hS ff_1_30 0 rfl (Nat.le_of_ble_eq_true rfl) dX1_init_55 (fun H locs hP hD hS => ?_)
  have hP : va_P D vwCl [(h0, .inr (1, [.int 0, .int 0, .int 0, .int 0, .int 0, .int 0, .ref a1, .ref a2, .ref a3, .ref a4, .ref a5, .ref a6, .ref a7])), (a1, .inl (cI, 6, .inl (fun _ => 0))), (a2, .inl (cI, 6, .inl (fun _ => 0))), (a3, .inl (cI, 6, .inl (fun _ => 0))), (a4, .inl (cI, 6, .inl (fun _ => 0))), (a5, .inl (cI, 6, .inl (fun _ => 0))), (a6, .inl (cI, 3, .inl (fun _ => 0))), (a7, .inl (cI, 3, .inl (fun _ => 0)))] H := hP
  have hD : va_D A [(h0, .inr (1, [.int 0, .int 0, .int 0, .int 0, .int 0, .int 0, .ref a1, .ref a2, .ref a3, .ref a4, .ref a5, .ref a6, .ref a7])), (a1, .inl (cI, 6, .inl (fun _ => 0))), (a2, .inl (cI, 6, .inl (fun _ => 0))), (a3, .inl (cI, 6, .inl (fun _ => 0))), (a4, .inl (cI, 6, .inl (fun _ => 0))), (a5, .inl (cI, 6, .inl (fun _ => 0))), (a6, .inl (cI, 3, .inl (fun _ => 0))), (a7, .inl (cI, 3, .inl (fun _ => 0)))] := hD
  exact ret (f := fun k => ([a1, a2, a3, a4, a5, a6, a7] : List Nat).getD k 0) hP hD hS dX1_init_58
abbrev oN_4 (cI cZ : ClassId) (h0 : Nat) (p1 : Nat) (p2 : Nat) (f : Nat → Nat) : va_W := [(h0, .inr (4, [.ref p1, .ref p2, .ref (f 0)])), ((f 0), .inl (cI, 5, .inl (fun _ => 0)))]
set_option maxHeartbeats 40000000 in
set_option maxRecDepth 100000 in
theorem c_X4_init (l : Launch) (D : va_G) (cI cZ : ClassId) (h0 sz : Nat) (p1 : Nat) (p2 : Nat) : m_Mn l yX4_init cX4_init 3 1 1 5 12 D cI cZ [.ref h0, .ref p1, .ref p2] [(h0, .inr (4, [.null, .null, .null]))] sz (oN_4 cI cZ h0 p1 p2) := by
  refine m_enter_n (own := RX4) (by decide) rfl rfl (Nat.le_of_ble_eq_true rfl) ?_
  intro p e s m args below meth cd Q A X hin hA ret ls hP hD hS hl
  have hx := X.1
  have hb := X.2.1
  have hl : lv_has ls 3 [(0, .ref h0), (1, .ref p1), (2, .ref p2)] := hl
  refine lv_aload_n hx hb dX4_init_0 rfl (lv_at hl 0 rfl) ?_
  refine m_lobj X hl.1 oi_4 (Nat.le_of_ble_eq_true rfl) (Nat.le_of_ble_eq_true rfl) dX4_init_1 ?_
  refine lv_aload_n hx hb dX4_init_4 rfl (lv_at hl 0 rfl) ?_
  refine lv_iconst (v := (5 : Int32)) hx hb dX4_init_5 (by decide) ?_
  refine m_lnewI X hP hD hS hA 5 (by decide) (by decide +kernel) (Nat.le_of_ble_eq_true rfl) (Nat.le_of_ble_eq_true rfl) (Nat.le_of_ble_eq_true rfl) dX4_init_6 (fun a1 H hP hD hS => ?_)
  refine W.widen (k := 1) (n := 5) (Nat.le_of_ble_eq_true rfl) (Nat.le_of_ble_eq_true rfl) ?_
  have hP : va_P D vwCl [(h0, .inr (4, [.null, .null, .null])), (a1, .inl (cI, 5, .inl (fun _ => 0)))] H := hP
  have hD : va_D A [(h0, .inr (4, [.null, .null, .null])), (a1, .inl (cI, 5, .inl (fun _ => 0)))] := hD
  refine m_lputF X hin hP hD hS ff_4_9 0 rfl (Nat.le_of_ble_eq_true rfl) dX4_init_8 (fun H locs hP hD hS => ?_)
  have hP : va_P D vwCl [(h0, .inr (4, [.null, .null, .ref a1])), (a1, .inl (cI, 5, .inl (fun _ => 0)))] H := hP
  have hD : va_D A [(h0, .inr (4, [.null, .null, .ref a1])), (a1, .inl (cI, 5, .inl (fun _ => 0)))] := hD
  refine lv_aload_n hx hb dX4_init_11 rfl (lv_at hl 0 rfl) ?_
  refine lv_aload_n hx hb dX4_init_12 rfl (lv_at hl 1 rfl) ?_
  refine m_lputF X hin hP hD hS ff_4_15 0 rfl (Nat.le_of_ble_eq_true rfl) dX4_init_13 (fun H locs hP hD hS => ?_)
  have hP : va_P D vwCl [(h0, .inr (4, [.ref p1, .null, .ref a1])), (a1, .inl (cI, 5, .inl (fun _ => 0)))] H := hP
  have hD : va_D A [(h0, .inr (4, [.ref p1, .null, .ref a1])), (a1, .inl (cI, 5, .inl (fun _ => 0)))] := hD
  refine lv_aload_n hx hb dX4_init_16 rfl (lv_at hl 0 rfl) ?_
  refine lv_aload_n hx hb dX4_init_17 rfl (lv_at hl 2 rfl) ?_
  refine m_lputF X hin hP hD hS ff_4_19 0 rfl (Nat.le_of_ble_eq_true rfl) dX4_init_18 (fun H locs hP hD hS => ?_)
  have hP : va_P D vwCl [(h0, .inr (4, [.ref p1, .ref p2, .ref a1])), (a1, .inl (cI, 5, .inl (fun _ => 0)))] H := hP
  have hD : va_D A [(h0, .inr (4, [.ref p1, .ref p2, .ref a1])), (a1, .inl (cI, 5, .inl (fun _ => 0)))] := hD
  exact ret (f := fun k => ([a1] : List Nat).getD k 0) hP hD hS dX4_init_21
abbrev oN_3 (cI cZ : ClassId) (h0 : Nat) (f : Nat → Nat) : va_W := [(h0, .inr (3, [.ref (f 0), .ref (f 1)])), ((f 0), .inl (cI, 6, .inl (fun _ => 0))), ((f 1), .inl (cI, 6, .inl (fun _ => 0)))]
set_option maxHeartbeats 40000000 in
set_option maxRecDepth 100000 in
theorem c_X3_init (l : Launch) (D : va_G) (cI cZ : ClassId) (h0 sz : Nat) : m_Mn l yX3_init cX3_init 1 1 2 12 12 D cI cZ [.ref h0] [(h0, .inr (3, [.null, .null]))] sz (oN_3 cI cZ h0) := by
  refine m_enter_n (own := RX3) (by decide) rfl rfl (Nat.le_of_ble_eq_true rfl) ?_
  intro p e s m args below meth cd Q A X hin hA ret ls hP hD hS hl
  have hx := X.1
  have hb := X.2.1
  have hl : lv_has ls 1 [(0, .ref h0)] := hl
  refine lv_aload_n hx hb dX3_init_0 rfl (lv_at hl 0 rfl) ?_
  refine m_lobj X hl.1 oi_3 (Nat.le_of_ble_eq_true rfl) (Nat.le_of_ble_eq_true rfl) dX3_init_1 ?_
  refine lv_aload_n hx hb dX3_init_4 rfl (lv_at hl 0 rfl) ?_
  refine lv_bipush (v := (6 : Int32)) hx hb dX3_init_5 (by decide) ?_
  refine m_lnewI X hP hD hS hA 6 (by decide) (by decide +kernel) (Nat.le_of_ble_eq_true rfl) (Nat.le_of_ble_eq_true rfl) (Nat.le_of_ble_eq_true rfl) dX3_init_7 (fun a1 H hP hD hS => ?_)
  refine W.widen (k := 1) (n := 6) (Nat.le_of_ble_eq_true rfl) (Nat.le_of_ble_eq_true rfl) ?_
  have hP : va_P D vwCl [(h0, .inr (3, [.null, .null])), (a1, .inl (cI, 6, .inl (fun _ => 0)))] H := hP
  have hD : va_D A [(h0, .inr (3, [.null, .null])), (a1, .inl (cI, 6, .inl (fun _ => 0)))] := hD
  refine m_lputF X hin hP hD hS ff_3_9 0 rfl (Nat.le_of_ble_eq_true rfl) dX3_init_9 (fun H locs hP hD hS => ?_)
  have hP : va_P D vwCl [(h0, .inr (3, [.ref a1, .null])), (a1, .inl (cI, 6, .inl (fun _ => 0)))] H := hP
  have hD : va_D A [(h0, .inr (3, [.ref a1, .null])), (a1, .inl (cI, 6, .inl (fun _ => 0)))] := hD
  refine lv_aload_n hx hb dX3_init_12 rfl (lv_at hl 0 rfl) ?_
  refine lv_bipush (v := (6 : Int32)) hx hb dX3_init_13 (by decide) ?_
  refine m_lnewI X hP hD hS hA 6 (by decide) (by decide +kernel) (Nat.le_of_ble_eq_true rfl) (Nat.le_of_ble_eq_true rfl) (Nat.le_of_ble_eq_true rfl) dX3_init_15 (fun a2 H hP hD hS => ?_)
  refine W.widen (k := 2) (n := 12) (Nat.le_of_ble_eq_true rfl) (Nat.le_of_ble_eq_true rfl) ?_
  have hP : va_P D vwCl [(h0, .inr (3, [.ref a1, .null])), (a1, .inl (cI, 6, .inl (fun _ => 0))), (a2, .inl (cI, 6, .inl (fun _ => 0)))] H := hP
  have hD : va_D A [(h0, .inr (3, [.ref a1, .null])), (a1, .inl (cI, 6, .inl (fun _ => 0))), (a2, .inl (cI, 6, .inl (fun _ => 0)))] := hD
  refine m_lputF X hin hP hD hS ff_3_15 0 rfl (Nat.le_of_ble_eq_true rfl) dX3_init_17 (fun H locs hP hD hS => ?_)
  have hP : va_P D vwCl [(h0, .inr (3, [.ref a1, .ref a2])), (a1, .inl (cI, 6, .inl (fun _ => 0))), (a2, .inl (cI, 6, .inl (fun _ => 0)))] H := hP
  have hD : va_D A [(h0, .inr (3, [.ref a1, .ref a2])), (a1, .inl (cI, 6, .inl (fun _ => 0))), (a2, .inl (cI, 6, .inl (fun _ => 0)))] := hD
  exact ret (f := fun k => ([a1, a2] : List Nat).getD k 0) hP hD hS dX3_init_20
abbrev oN_5 (cI cZ : ClassId) (h0 : Nat) (p1 : Nat) (f : Nat → Nat) : va_W := [(h0, .inr (5, [.ref p1]))]
set_option maxHeartbeats 40000000 in
set_option maxRecDepth 100000 in
theorem c_X5_init (l : Launch) (D : va_G) (cI cZ : ClassId) (h0 sz : Nat) (p1 : Nat) : m_Mn l yX5_init cX5_init 2 1 0 0 12 D cI cZ [.ref h0, .ref p1] [(h0, .inr (5, [.null]))] sz (oN_5 cI cZ h0 p1) := by
  refine m_enter_n (own := RX5) (by decide) rfl rfl (Nat.le_of_ble_eq_true rfl) ?_
  intro p e s m args below meth cd Q A X hin hA ret ls hP hD hS hl
  have hx := X.1
  have hb := X.2.1
  have hl : lv_has ls 2 [(0, .ref h0), (1, .ref p1)] := hl
  refine lv_aload_n hx hb dX5_init_0 rfl (lv_at hl 0 rfl) ?_
  refine m_lobj X hl.1 oi_5 (Nat.le_of_ble_eq_true rfl) (Nat.le_of_ble_eq_true rfl) dX5_init_1 ?_
  refine lv_aload_n hx hb dX5_init_4 rfl (lv_at hl 0 rfl) ?_
  refine lv_aload_n hx hb dX5_init_5 rfl (lv_at hl 1 rfl) ?_
  refine m_lputF X hin hP hD hS ff_5_9 0 rfl (Nat.le_of_ble_eq_true rfl) dX5_init_6 (fun H locs hP hD hS => ?_)
  have hP : va_P D vwCl [(h0, .inr (5, [.ref p1]))] H := hP
  have hD : va_D A [(h0, .inr (5, [.ref p1]))] := hD
  exact ret (f := fun k => ([] : List Nat).getD k 0) hP hD hS dX5_init_9
abbrev oN_2 (cI cZ : ClassId) (h0 : Nat) (p1 : Nat) (p2 : Nat) (f : Nat → Nat) : va_W := [(h0, .inr (2, [.ref p1, .ref p2, .ref (f 0), .ref (f 1), .ref (f 2), .ref (f 3), .ref (f 4), .ref (f 5), .ref (f 6), .int 0, .int 0, .int 0, .ref (f 7), .ref (f 8), .ref (f 9), .ref (f 10)])), ((f 0), .inl (cI, 6, .inl (fun _ => 0))), ((f 1), .inl (cI, 6, .inl (fun _ => 0))), ((f 2), .inl (cI, 6, .inl (fun _ => 0))), ((f 3), .inl (cI, 6, .inl (fun _ => 0))), ((f 4), .inl (cI, 6, .inl (fun _ => 0))), ((f 5), .inl (cI, 6, .inl (fun _ => 0))), ((f 6), .inl (cI, 6, .inl (fun _ => 0))), ((f 7), .inl (cI, 15, .inl (fun _ => 0))), ((f 8), .inl (cI, 15, .inl (fun _ => 0))), ((f 9), .inl (cI, 15, .inl (fun _ => 0))), ((f 10), .inl (cI, 15, .inl (fun _ => 0)))]
set_option maxHeartbeats 40000000 in
set_option maxRecDepth 100000 in
theorem c_X2_init (l : Launch) (D : va_G) (cI cZ : ClassId) (h0 sz : Nat) (p1 : Nat) (p2 : Nat) : m_Mn l yX2_init cX2_init 3 1 11 102 12 D cI cZ [.ref h0, .ref p1, .ref p2] [(h0, .inr (2, [.null, .null, .null, .null, .null, .null, .null, .null, .null, .int 0, .int 0, .int 0, .null, .null, .null, .null]))] sz (oN_2 cI cZ h0 p1 p2) := by
  refine m_enter_n (own := RX2) (by decide) rfl rfl (Nat.le_of_ble_eq_true rfl) ?_
  intro p e s m args below meth cd Q A X hin hA ret ls hP hD hS hl
  have hx := X.1
  have hb := X.2.1
  have hl : lv_has ls 3 [(0, .ref h0), (1, .ref p1), (2, .ref p2)] := hl
  refine lv_aload_n hx hb dX2_init_0 rfl (lv_at hl 0 rfl) ?_
  refine m_lobj X hl.1 oi_2 (Nat.le_of_ble_eq_true rfl) (Nat.le_of_ble_eq_true rfl) dX2_init_1 ?_
  refine lv_aload_n hx hb dX2_init_4 rfl (lv_at hl 0 rfl) ?_
  refine lv_bipush (v := (6 : Int32)) hx hb dX2_init_5 (by decide) ?_
  refine m_lnewI X hP hD hS hA 6 (by decide) (by decide +kernel) (Nat.le_of_ble_eq_true rfl) (Nat.le_of_ble_eq_true rfl) (Nat.le_of_ble_eq_true rfl) dX2_init_7 (fun a1 H hP hD hS => ?_)
  refine W.widen (k := 1) (n := 6) (Nat.le_of_ble_eq_true rfl) (Nat.le_of_ble_eq_true rfl) ?_
  have hP : va_P D vwCl [(h0, .inr (2, [.null, .null, .null, .null, .null, .null, .null, .null, .null, .int 0, .int 0, .int 0, .null, .null, .null, .null])), (a1, .inl (cI, 6, .inl (fun _ => 0)))] H := hP
  have hD : va_D A [(h0, .inr (2, [.null, .null, .null, .null, .null, .null, .null, .null, .null, .int 0, .int 0, .int 0, .null, .null, .null, .null])), (a1, .inl (cI, 6, .inl (fun _ => 0)))] := hD
  refine m_lputF X hin hP hD hS ff_2_9 0 rfl (Nat.le_of_ble_eq_true rfl) dX2_init_9 (fun H locs hP hD hS => ?_)
  have hP : va_P D vwCl [(h0, .inr (2, [.null, .null, .ref a1, .null, .null, .null, .null, .null, .null, .int 0, .int 0, .int 0, .null, .null, .null, .null])), (a1, .inl (cI, 6, .inl (fun _ => 0)))] H := hP
  have hD : va_D A [(h0, .inr (2, [.null, .null, .ref a1, .null, .null, .null, .null, .null, .null, .int 0, .int 0, .int 0, .null, .null, .null, .null])), (a1, .inl (cI, 6, .inl (fun _ => 0)))] := hD
  refine lv_aload_n hx hb dX2_init_12 rfl (lv_at hl 0 rfl) ?_
  refine lv_bipush (v := (6 : Int32)) hx hb dX2_init_13 (by decide) ?_
  refine m_lnewI X hP hD hS hA 6 (by decide) (by decide +kernel) (Nat.le_of_ble_eq_true rfl) (Nat.le_of_ble_eq_true rfl) (Nat.le_of_ble_eq_true rfl) dX2_init_15 (fun a2 H hP hD hS => ?_)
  refine W.widen (k := 2) (n := 12) (Nat.le_of_ble_eq_true rfl) (Nat.le_of_ble_eq_true rfl) ?_
  have hP : va_P D vwCl [(h0, .inr (2, [.null, .null, .ref a1, .null, .null, .null, .null, .null, .null, .int 0, .int 0, .int 0, .null, .null, .null, .null])), (a1, .inl (cI, 6, .inl (fun _ => 0))), (a2, .inl (cI, 6, .inl (fun _ => 0)))] H := hP
  have hD : va_D A [(h0, .inr (2, [.null, .null, .ref a1, .null, .null, .null, .null, .null, .null, .int 0, .int 0, .int 0, .null, .null, .null, .null])), (a1, .inl (cI, 6, .inl (fun _ => 0))), (a2, .inl (cI, 6, .inl (fun _ => 0)))] := hD
  refine m_lputF X hin hP hD hS ff_2_15 0 rfl (Nat.le_of_ble_eq_true rfl) dX2_init_17 (fun H locs hP hD hS => ?_)
  have hP : va_P D vwCl [(h0, .inr (2, [.null, .null, .ref a1, .ref a2, .null, .null, .null, .null, .null, .int 0, .int 0, .int 0, .null, .null, .null, .null])), (a1, .inl (cI, 6, .inl (fun _ => 0))), (a2, .inl (cI, 6, .inl (fun _ => 0)))] H := hP
  have hD : va_D A [(h0, .inr (2, [.null, .null, .ref a1, .ref a2, .null, .null, .null, .null, .null, .int 0, .int 0, .int 0, .null, .null, .null, .null])), (a1, .inl (cI, 6, .inl (fun _ => 0))), (a2, .inl (cI, 6, .inl (fun _ => 0)))] := hD
  refine lv_aload_n hx hb dX2_init_20 rfl (lv_at hl 0 rfl) ?_
  refine lv_bipush (v := (6 : Int32)) hx hb dX2_init_21 (by decide) ?_
  refine m_lnewI X hP hD hS hA 6 (by decide) (by decide +kernel) (Nat.le_of_ble_eq_true rfl) (Nat.le_of_ble_eq_true rfl) (Nat.le_of_ble_eq_true rfl) dX2_init_23 (fun a3 H hP hD hS => ?_)
  refine W.widen (k := 3) (n := 18) (Nat.le_of_ble_eq_true rfl) (Nat.le_of_ble_eq_true rfl) ?_
  have hP : va_P D vwCl [(h0, .inr (2, [.null, .null, .ref a1, .ref a2, .null, .null, .null, .null, .null, .int 0, .int 0, .int 0, .null, .null, .null, .null])), (a1, .inl (cI, 6, .inl (fun _ => 0))), (a2, .inl (cI, 6, .inl (fun _ => 0))), (a3, .inl (cI, 6, .inl (fun _ => 0)))] H := hP
  have hD : va_D A [(h0, .inr (2, [.null, .null, .ref a1, .ref a2, .null, .null, .null, .null, .null, .int 0, .int 0, .int 0, .null, .null, .null, .null])), (a1, .inl (cI, 6, .inl (fun _ => 0))), (a2, .inl (cI, 6, .inl (fun _ => 0))), (a3, .inl (cI, 6, .inl (fun _ => 0)))] := hD
  refine m_lputF X hin hP hD hS ff_2_18 0 rfl (Nat.le_of_ble_eq_true rfl) dX2_init_25 (fun H locs hP hD hS => ?_)
  have hP : va_P D vwCl [(h0, .inr (2, [.null, .null, .ref a1, .ref a2, .ref a3, .null, .null, .null, .null, .int 0, .int 0, .int 0, .null, .null, .null, .null])), (a1, .inl (cI, 6, .inl (fun _ => 0))), (a2, .inl (cI, 6, .inl (fun _ => 0))), (a3, .inl (cI, 6, .inl (fun _ => 0)))] H := hP
  have hD : va_D A [(h0, .inr (2, [.null, .null, .ref a1, .ref a2, .ref a3, .null, .null, .null, .null, .int 0, .int 0, .int 0, .null, .null, .null, .null])), (a1, .inl (cI, 6, .inl (fun _ => 0))), (a2, .inl (cI, 6, .inl (fun _ => 0))), (a3, .inl (cI, 6, .inl (fun _ => 0)))] := hD
  refine lv_aload_n hx hb dX2_init_28 rfl (lv_at hl 0 rfl) ?_
  refine lv_bipush (v := (6 : Int32)) hx hb dX2_init_29 (by decide) ?_
  refine m_lnewI X hP hD hS hA 6 (by decide) (by decide +kernel) (Nat.le_of_ble_eq_true rfl) (Nat.le_of_ble_eq_true rfl) (Nat.le_of_ble_eq_true rfl) dX2_init_31 (fun a4 H hP hD hS => ?_)
  refine W.widen (k := 4) (n := 24) (Nat.le_of_ble_eq_true rfl) (Nat.le_of_ble_eq_true rfl) ?_
  have hP : va_P D vwCl [(h0, .inr (2, [.null, .null, .ref a1, .ref a2, .ref a3, .null, .null, .null, .null, .int 0, .int 0, .int 0, .null, .null, .null, .null])), (a1, .inl (cI, 6, .inl (fun _ => 0))), (a2, .inl (cI, 6, .inl (fun _ => 0))), (a3, .inl (cI, 6, .inl (fun _ => 0))), (a4, .inl (cI, 6, .inl (fun _ => 0)))] H := hP
  have hD : va_D A [(h0, .inr (2, [.null, .null, .ref a1, .ref a2, .ref a3, .null, .null, .null, .null, .int 0, .int 0, .int 0, .null, .null, .null, .null])), (a1, .inl (cI, 6, .inl (fun _ => 0))), (a2, .inl (cI, 6, .inl (fun _ => 0))), (a3, .inl (cI, 6, .inl (fun _ => 0))), (a4, .inl (cI, 6, .inl (fun _ => 0)))] := hD
  refine m_lputF X hin hP hD hS ff_2_21 0 rfl (Nat.le_of_ble_eq_true rfl) dX2_init_33 (fun H locs hP hD hS => ?_)
  have hP : va_P D vwCl [(h0, .inr (2, [.null, .null, .ref a1, .ref a2, .ref a3, .ref a4, .null, .null, .null, .int 0, .int 0, .int 0, .null, .null, .null, .null])), (a1, .inl (cI, 6, .inl (fun _ => 0))), (a2, .inl (cI, 6, .inl (fun _ => 0))), (a3, .inl (cI, 6, .inl (fun _ => 0))), (a4, .inl (cI, 6, .inl (fun _ => 0)))] H := hP
  have hD : va_D A [(h0, .inr (2, [.null, .null, .ref a1, .ref a2, .ref a3, .ref a4, .null, .null, .null, .int 0, .int 0, .int 0, .null, .null, .null, .null])), (a1, .inl (cI, 6, .inl (fun _ => 0))), (a2, .inl (cI, 6, .inl (fun _ => 0))), (a3, .inl (cI, 6, .inl (fun _ => 0))), (a4, .inl (cI, 6, .inl (fun _ => 0)))] := hD
  refine lv_aload_n hx hb dX2_init_36 rfl (lv_at hl 0 rfl) ?_
  refine lv_bipush (v := (6 : Int32)) hx hb dX2_init_37 (by decide) ?_
  refine m_lnewI X hP hD hS hA 6 (by decide) (by decide +kernel) (Nat.le_of_ble_eq_true rfl) (Nat.le_of_ble_eq_true rfl) (Nat.le_of_ble_eq_true rfl) dX2_init_39 (fun a5 H hP hD hS => ?_)
  refine W.widen (k := 5) (n := 30) (Nat.le_of_ble_eq_true rfl) (Nat.le_of_ble_eq_true rfl) ?_
  have hP : va_P D vwCl [(h0, .inr (2, [.null, .null, .ref a1, .ref a2, .ref a3, .ref a4, .null, .null, .null, .int 0, .int 0, .int 0, .null, .null, .null, .null])), (a1, .inl (cI, 6, .inl (fun _ => 0))), (a2, .inl (cI, 6, .inl (fun _ => 0))), (a3, .inl (cI, 6, .inl (fun _ => 0))), (a4, .inl (cI, 6, .inl (fun _ => 0))), (a5, .inl (cI, 6, .inl (fun _ => 0)))] H := hP
  have hD : va_D A [(h0, .inr (2, [.null, .null, .ref a1, .ref a2, .ref a3, .ref a4, .null, .null, .null, .int 0, .int 0, .int 0, .null, .null, .null, .null])), (a1, .inl (cI, 6, .inl (fun _ => 0))), (a2, .inl (cI, 6, .inl (fun _ => 0))), (a3, .inl (cI, 6, .inl (fun _ => 0))), (a4, .inl (cI, 6, .inl (fun _ => 0))), (a5, .inl (cI, 6, .inl (fun _ => 0)))] := hD
  refine m_lputF X hin hP hD hS ff_2_24 0 rfl (Nat.le_of_ble_eq_true rfl) dX2_init_41 (fun H locs hP hD hS => ?_)
  have hP : va_P D vwCl [(h0, .inr (2, [.null, .null, .ref a1, .ref a2, .ref a3, .ref a4, .ref a5, .null, .null, .int 0, .int 0, .int 0, .null, .null, .null, .null])), (a1, .inl (cI, 6, .inl (fun _ => 0))), (a2, .inl (cI, 6, .inl (fun _ => 0))), (a3, .inl (cI, 6, .inl (fun _ => 0))), (a4, .inl (cI, 6, .inl (fun _ => 0))), (a5, .inl (cI, 6, .inl (fun _ => 0)))] H := hP
  have hD : va_D A [(h0, .inr (2, [.null, .null, .ref a1, .ref a2, .ref a3, .ref a4, .ref a5, .null, .null, .int 0, .int 0, .int 0, .null, .null, .null, .null])), (a1, .inl (cI, 6, .inl (fun _ => 0))), (a2, .inl (cI, 6, .inl (fun _ => 0))), (a3, .inl (cI, 6, .inl (fun _ => 0))), (a4, .inl (cI, 6, .inl (fun _ => 0))), (a5, .inl (cI, 6, .inl (fun _ => 0)))] := hD
  refine lv_aload_n hx hb dX2_init_44 rfl (lv_at hl 0 rfl) ?_
  refine lv_bipush (v := (6 : Int32)) hx hb dX2_init_45 (by decide) ?_
  refine m_lnewI X hP hD hS hA 6 (by decide) (by decide +kernel) (Nat.le_of_ble_eq_true rfl) (Nat.le_of_ble_eq_true rfl) (Nat.le_of_ble_eq_true rfl) dX2_init_47 (fun a6 H hP hD hS => ?_)
  refine W.widen (k := 6) (n := 36) (Nat.le_of_ble_eq_true rfl) (Nat.le_of_ble_eq_true rfl) ?_
  have hP : va_P D vwCl [(h0, .inr (2, [.null, .null, .ref a1, .ref a2, .ref a3, .ref a4, .ref a5, .null, .null, .int 0, .int 0, .int 0, .null, .null, .null, .null])), (a1, .inl (cI, 6, .inl (fun _ => 0))), (a2, .inl (cI, 6, .inl (fun _ => 0))), (a3, .inl (cI, 6, .inl (fun _ => 0))), (a4, .inl (cI, 6, .inl (fun _ => 0))), (a5, .inl (cI, 6, .inl (fun _ => 0))), (a6, .inl (cI, 6, .inl (fun _ => 0)))] H := hP
  have hD : va_D A [(h0, .inr (2, [.null, .null, .ref a1, .ref a2, .ref a3, .ref a4, .ref a5, .null, .null, .int 0, .int 0, .int 0, .null, .null, .null, .null])), (a1, .inl (cI, 6, .inl (fun _ => 0))), (a2, .inl (cI, 6, .inl (fun _ => 0))), (a3, .inl (cI, 6, .inl (fun _ => 0))), (a4, .inl (cI, 6, .inl (fun _ => 0))), (a5, .inl (cI, 6, .inl (fun _ => 0))), (a6, .inl (cI, 6, .inl (fun _ => 0)))] := hD
  refine m_lputF X hin hP hD hS ff_2_27 0 rfl (Nat.le_of_ble_eq_true rfl) dX2_init_49 (fun H locs hP hD hS => ?_)
  have hP : va_P D vwCl [(h0, .inr (2, [.null, .null, .ref a1, .ref a2, .ref a3, .ref a4, .ref a5, .ref a6, .null, .int 0, .int 0, .int 0, .null, .null, .null, .null])), (a1, .inl (cI, 6, .inl (fun _ => 0))), (a2, .inl (cI, 6, .inl (fun _ => 0))), (a3, .inl (cI, 6, .inl (fun _ => 0))), (a4, .inl (cI, 6, .inl (fun _ => 0))), (a5, .inl (cI, 6, .inl (fun _ => 0))), (a6, .inl (cI, 6, .inl (fun _ => 0)))] H := hP
  have hD : va_D A [(h0, .inr (2, [.null, .null, .ref a1, .ref a2, .ref a3, .ref a4, .ref a5, .ref a6, .null, .int 0, .int 0, .int 0, .null, .null, .null, .null])), (a1, .inl (cI, 6, .inl (fun _ => 0))), (a2, .inl (cI, 6, .inl (fun _ => 0))), (a3, .inl (cI, 6, .inl (fun _ => 0))), (a4, .inl (cI, 6, .inl (fun _ => 0))), (a5, .inl (cI, 6, .inl (fun _ => 0))), (a6, .inl (cI, 6, .inl (fun _ => 0)))] := hD
  refine lv_aload_n hx hb dX2_init_52 rfl (lv_at hl 0 rfl) ?_
  refine lv_bipush (v := (6 : Int32)) hx hb dX2_init_53 (by decide) ?_
  refine m_lnewI X hP hD hS hA 6 (by decide) (by decide +kernel) (Nat.le_of_ble_eq_true rfl) (Nat.le_of_ble_eq_true rfl) (Nat.le_of_ble_eq_true rfl) dX2_init_55 (fun a7 H hP hD hS => ?_)
  refine W.widen (k := 7) (n := 42) (Nat.le_of_ble_eq_true rfl) (Nat.le_of_ble_eq_true rfl) ?_
  have hP : va_P D vwCl [(h0, .inr (2, [.null, .null, .ref a1, .ref a2, .ref a3, .ref a4, .ref a5, .ref a6, .null, .int 0, .int 0, .int 0, .null, .null, .null, .null])), (a1, .inl (cI, 6, .inl (fun _ => 0))), (a2, .inl (cI, 6, .inl (fun _ => 0))), (a3, .inl (cI, 6, .inl (fun _ => 0))), (a4, .inl (cI, 6, .inl (fun _ => 0))), (a5, .inl (cI, 6, .inl (fun _ => 0))), (a6, .inl (cI, 6, .inl (fun _ => 0))), (a7, .inl (cI, 6, .inl (fun _ => 0)))] H := hP
  have hD : va_D A [(h0, .inr (2, [.null, .null, .ref a1, .ref a2, .ref a3, .ref a4, .ref a5, .ref a6, .null, .int 0, .int 0, .int 0, .null, .null, .null, .null])), (a1, .inl (cI, 6, .inl (fun _ => 0))), (a2, .inl (cI, 6, .inl (fun _ => 0))), (a3, .inl (cI, 6, .inl (fun _ => 0))), (a4, .inl (cI, 6, .inl (fun _ => 0))), (a5, .inl (cI, 6, .inl (fun _ => 0))), (a6, .inl (cI, 6, .inl (fun _ => 0))), (a7, .inl (cI, 6, .inl (fun _ => 0)))] := hD
  refine m_lputF X hin hP hD hS ff_2_30 0 rfl (Nat.le_of_ble_eq_true rfl) dX2_init_57 (fun H locs hP hD hS => ?_)
  have hP : va_P D vwCl [(h0, .inr (2, [.null, .null, .ref a1, .ref a2, .ref a3, .ref a4, .ref a5, .ref a6, .ref a7, .int 0, .int 0, .int 0, .null, .null, .null, .null])), (a1, .inl (cI, 6, .inl (fun _ => 0))), (a2, .inl (cI, 6, .inl (fun _ => 0))), (a3, .inl (cI, 6, .inl (fun _ => 0))), (a4, .inl (cI, 6, .inl (fun _ => 0))), (a5, .inl (cI, 6, .inl (fun _ => 0))), (a6, .inl (cI, 6, .inl (fun _ => 0))), (a7, .inl (cI, 6, .inl (fun _ => 0)))] H := hP
  have hD : va_D A [(h0, .inr (2, [.null, .null, .ref a1, .ref a2, .ref a3, .ref a4, .ref a5, .ref a6, .ref a7, .int 0, .int 0, .int 0, .null, .null, .null, .null])), (a1, .inl (cI, 6, .inl (fun _ => 0))), (a2, .inl (cI, 6, .inl (fun _ => 0))), (a3, .inl (cI, 6, .inl (fun _ => 0))), (a4, .inl (cI, 6, .inl (fun _ => 0))), (a5, .inl (cI, 6, .inl (fun _ => 0))), (a6, .inl (cI, 6, .inl (fun _ => 0))), (a7, .inl (cI, 6, .inl (fun _ => 0)))] := hD
  refine lv_aload_n hx hb dX2_init_60 rfl (lv_at hl 0 rfl) ?_
  refine lv_bipush (v := (15 : Int32)) hx hb dX2_init_61 (by decide) ?_
  refine m_lnewI X hP hD hS hA 15 (by decide) (by decide +kernel) (Nat.le_of_ble_eq_true rfl) (Nat.le_of_ble_eq_true rfl) (Nat.le_of_ble_eq_true rfl) dX2_init_63 (fun a8 H hP hD hS => ?_)
  refine W.widen (k := 8) (n := 57) (Nat.le_of_ble_eq_true rfl) (Nat.le_of_ble_eq_true rfl) ?_
  have hP : va_P D vwCl [(h0, .inr (2, [.null, .null, .ref a1, .ref a2, .ref a3, .ref a4, .ref a5, .ref a6, .ref a7, .int 0, .int 0, .int 0, .null, .null, .null, .null])), (a1, .inl (cI, 6, .inl (fun _ => 0))), (a2, .inl (cI, 6, .inl (fun _ => 0))), (a3, .inl (cI, 6, .inl (fun _ => 0))), (a4, .inl (cI, 6, .inl (fun _ => 0))), (a5, .inl (cI, 6, .inl (fun _ => 0))), (a6, .inl (cI, 6, .inl (fun _ => 0))), (a7, .inl (cI, 6, .inl (fun _ => 0))), (a8, .inl (cI, 15, .inl (fun _ => 0)))] H := hP
  have hD : va_D A [(h0, .inr (2, [.null, .null, .ref a1, .ref a2, .ref a3, .ref a4, .ref a5, .ref a6, .ref a7, .int 0, .int 0, .int 0, .null, .null, .null, .null])), (a1, .inl (cI, 6, .inl (fun _ => 0))), (a2, .inl (cI, 6, .inl (fun _ => 0))), (a3, .inl (cI, 6, .inl (fun _ => 0))), (a4, .inl (cI, 6, .inl (fun _ => 0))), (a5, .inl (cI, 6, .inl (fun _ => 0))), (a6, .inl (cI, 6, .inl (fun _ => 0))), (a7, .inl (cI, 6, .inl (fun _ => 0))), (a8, .inl (cI, 15, .inl (fun _ => 0)))] := hD
  refine m_lputF X hin hP hD hS ff_2_33 0 rfl (Nat.le_of_ble_eq_true rfl) dX2_init_65 (fun H locs hP hD hS => ?_)
  have hP : va_P D vwCl [(h0, .inr (2, [.null, .null, .ref a1, .ref a2, .ref a3, .ref a4, .ref a5, .ref a6, .ref a7, .int 0, .int 0, .int 0, .ref a8, .null, .null, .null])), (a1, .inl (cI, 6, .inl (fun _ => 0))), (a2, .inl (cI, 6, .inl (fun _ => 0))), (a3, .inl (cI, 6, .inl (fun _ => 0))), (a4, .inl (cI, 6, .inl (fun _ => 0))), (a5, .inl (cI, 6, .inl (fun _ => 0))), (a6, .inl (cI, 6, .inl (fun _ => 0))), (a7, .inl (cI, 6, .inl (fun _ => 0))), (a8, .inl (cI, 15, .inl (fun _ => 0)))] H := hP
  have hD : va_D A [(h0, .inr (2, [.null, .null, .ref a1, .ref a2, .ref a3, .ref a4, .ref a5, .ref a6, .ref a7, .int 0, .int 0, .int 0, .ref a8, .null, .null, .null])), (a1, .inl (cI, 6, .inl (fun _ => 0))), (a2, .inl (cI, 6, .inl (fun _ => 0))), (a3, .inl (cI, 6, .inl (fun _ => 0))), (a4, .inl (cI, 6, .inl (fun _ => 0))), (a5, .inl (cI, 6, .inl (fun _ => 0))), (a6, .inl (cI, 6, .inl (fun _ => 0))), (a7, .inl (cI, 6, .inl (fun _ => 0))), (a8, .inl (cI, 15, .inl (fun _ => 0)))] := hD
  refine lv_aload_n hx hb dX2_init_68 rfl (lv_at hl 0 rfl) ?_
  refine lv_bipush (v := (15 : Int32)) hx hb dX2_init_69 (by decide) ?_
  refine m_lnewI X hP hD hS hA 15 (by decide) (by decide +kernel) (Nat.le_of_ble_eq_true rfl) (Nat.le_of_ble_eq_true rfl) (Nat.le_of_ble_eq_true rfl) dX2_init_71 (fun a9 H hP hD hS => ?_)
  refine W.widen (k := 9) (n := 72) (Nat.le_of_ble_eq_true rfl) (Nat.le_of_ble_eq_true rfl) ?_
  have hP : va_P D vwCl [(h0, .inr (2, [.null, .null, .ref a1, .ref a2, .ref a3, .ref a4, .ref a5, .ref a6, .ref a7, .int 0, .int 0, .int 0, .ref a8, .null, .null, .null])), (a1, .inl (cI, 6, .inl (fun _ => 0))), (a2, .inl (cI, 6, .inl (fun _ => 0))), (a3, .inl (cI, 6, .inl (fun _ => 0))), (a4, .inl (cI, 6, .inl (fun _ => 0))), (a5, .inl (cI, 6, .inl (fun _ => 0))), (a6, .inl (cI, 6, .inl (fun _ => 0))), (a7, .inl (cI, 6, .inl (fun _ => 0))), (a8, .inl (cI, 15, .inl (fun _ => 0))), (a9, .inl (cI, 15, .inl (fun _ => 0)))] H := hP
  have hD : va_D A [(h0, .inr (2, [.null, .null, .ref a1, .ref a2, .ref a3, .ref a4, .ref a5, .ref a6, .ref a7, .int 0, .int 0, .int 0, .ref a8, .null, .null, .null])), (a1, .inl (cI, 6, .inl (fun _ => 0))), (a2, .inl (cI, 6, .inl (fun _ => 0))), (a3, .inl (cI, 6, .inl (fun _ => 0))), (a4, .inl (cI, 6, .inl (fun _ => 0))), (a5, .inl (cI, 6, .inl (fun _ => 0))), (a6, .inl (cI, 6, .inl (fun _ => 0))), (a7, .inl (cI, 6, .inl (fun _ => 0))), (a8, .inl (cI, 15, .inl (fun _ => 0))), (a9, .inl (cI, 15, .inl (fun _ => 0)))] := hD
  refine m_lputF X hin hP hD hS ff_2_36 0 rfl (Nat.le_of_ble_eq_true rfl) dX2_init_73 (fun H locs hP hD hS => ?_)
  have hP : va_P D vwCl [(h0, .inr (2, [.null, .null, .ref a1, .ref a2, .ref a3, .ref a4, .ref a5, .ref a6, .ref a7, .int 0, .int 0, .int 0, .ref a8, .ref a9, .null, .null])), (a1, .inl (cI, 6, .inl (fun _ => 0))), (a2, .inl (cI, 6, .inl (fun _ => 0))), (a3, .inl (cI, 6, .inl (fun _ => 0))), (a4, .inl (cI, 6, .inl (fun _ => 0))), (a5, .inl (cI, 6, .inl (fun _ => 0))), (a6, .inl (cI, 6, .inl (fun _ => 0))), (a7, .inl (cI, 6, .inl (fun _ => 0))), (a8, .inl (cI, 15, .inl (fun _ => 0))), (a9, .inl (cI, 15, .inl (fun _ => 0)))] H := hP
  have hD : va_D A [(h0, .inr (2, [.null, .null, .ref a1, .ref a2, .ref a3, .ref a4, .ref a5, .ref a6, .ref a7, .int 0, .int 0, .int 0, .ref a8, .ref a9, .null, .null])), (a1, .inl (cI, 6, .inl (fun _ => 0))), (a2, .inl (cI, 6, .inl (fun _ => 0))), (a3, .inl (cI, 6, .inl (fun _ => 0))), (a4, .inl (cI, 6, .inl (fun _ => 0))), (a5, .inl (cI, 6, .inl (fun _ => 0))), (a6, .inl (cI, 6, .inl (fun _ => 0))), (a7, .inl (cI, 6, .inl (fun _ => 0))), (a8, .inl (cI, 15, .inl (fun _ => 0))), (a9, .inl (cI, 15, .inl (fun _ => 0)))] := hD
  refine lv_aload_n hx hb dX2_init_76 rfl (lv_at hl 0 rfl) ?_
  refine lv_bipush (v := (15 : Int32)) hx hb dX2_init_77 (by decide) ?_
  refine m_lnewI X hP hD hS hA 15 (by decide) (by decide +kernel) (Nat.le_of_ble_eq_true rfl) (Nat.le_of_ble_eq_true rfl) (Nat.le_of_ble_eq_true rfl) dX2_init_79 (fun a10 H hP hD hS => ?_)
  refine W.widen (k := 10) (n := 87) (Nat.le_of_ble_eq_true rfl) (Nat.le_of_ble_eq_true rfl) ?_
  have hP : va_P D vwCl [(h0, .inr (2, [.null, .null, .ref a1, .ref a2, .ref a3, .ref a4, .ref a5, .ref a6, .ref a7, .int 0, .int 0, .int 0, .ref a8, .ref a9, .null, .null])), (a1, .inl (cI, 6, .inl (fun _ => 0))), (a2, .inl (cI, 6, .inl (fun _ => 0))), (a3, .inl (cI, 6, .inl (fun _ => 0))), (a4, .inl (cI, 6, .inl (fun _ => 0))), (a5, .inl (cI, 6, .inl (fun _ => 0))), (a6, .inl (cI, 6, .inl (fun _ => 0))), (a7, .inl (cI, 6, .inl (fun _ => 0))), (a8, .inl (cI, 15, .inl (fun _ => 0))), (a9, .inl (cI, 15, .inl (fun _ => 0))), (a10, .inl (cI, 15, .inl (fun _ => 0)))] H := hP
  have hD : va_D A [(h0, .inr (2, [.null, .null, .ref a1, .ref a2, .ref a3, .ref a4, .ref a5, .ref a6, .ref a7, .int 0, .int 0, .int 0, .ref a8, .ref a9, .null, .null])), (a1, .inl (cI, 6, .inl (fun _ => 0))), (a2, .inl (cI, 6, .inl (fun _ => 0))), (a3, .inl (cI, 6, .inl (fun _ => 0))), (a4, .inl (cI, 6, .inl (fun _ => 0))), (a5, .inl (cI, 6, .inl (fun _ => 0))), (a6, .inl (cI, 6, .inl (fun _ => 0))), (a7, .inl (cI, 6, .inl (fun _ => 0))), (a8, .inl (cI, 15, .inl (fun _ => 0))), (a9, .inl (cI, 15, .inl (fun _ => 0))), (a10, .inl (cI, 15, .inl (fun _ => 0)))] := hD
  refine m_lputF X hin hP hD hS ff_2_39 0 rfl (Nat.le_of_ble_eq_true rfl) dX2_init_81 (fun H locs hP hD hS => ?_)
  have hP : va_P D vwCl [(h0, .inr (2, [.null, .null, .ref a1, .ref a2, .ref a3, .ref a4, .ref a5, .ref a6, .ref a7, .int 0, .int 0, .int 0, .ref a8, .ref a9, .ref a10, .null])), (a1, .inl (cI, 6, .inl (fun _ => 0))), (a2, .inl (cI, 6, .inl (fun _ => 0))), (a3, .inl (cI, 6, .inl (fun _ => 0))), (a4, .inl (cI, 6, .inl (fun _ => 0))), (a5, .inl (cI, 6, .inl (fun _ => 0))), (a6, .inl (cI, 6, .inl (fun _ => 0))), (a7, .inl (cI, 6, .inl (fun _ => 0))), (a8, .inl (cI, 15, .inl (fun _ => 0))), (a9, .inl (cI, 15, .inl (fun _ => 0))), (a10, .inl (cI, 15, .inl (fun _ => 0)))] H := hP
  have hD : va_D A [(h0, .inr (2, [.null, .null, .ref a1, .ref a2, .ref a3, .ref a4, .ref a5, .ref a6, .ref a7, .int 0, .int 0, .int 0, .ref a8, .ref a9, .ref a10, .null])), (a1, .inl (cI, 6, .inl (fun _ => 0))), (a2, .inl (cI, 6, .inl (fun _ => 0))), (a3, .inl (cI, 6, .inl (fun _ => 0))), (a4, .inl (cI, 6, .inl (fun _ => 0))), (a5, .inl (cI, 6, .inl (fun _ => 0))), (a6, .inl (cI, 6, .inl (fun _ => 0))), (a7, .inl (cI, 6, .inl (fun _ => 0))), (a8, .inl (cI, 15, .inl (fun _ => 0))), (a9, .inl (cI, 15, .inl (fun _ => 0))), (a10, .inl (cI, 15, .inl (fun _ => 0)))] := hD
  refine lv_aload_n hx hb dX2_init_84 rfl (lv_at hl 0 rfl) ?_
  refine lv_bipush (v := (15 : Int32)) hx hb dX2_init_85 (by decide) ?_
  refine m_lnewI X hP hD hS hA 15 (by decide) (by decide +kernel) (Nat.le_of_ble_eq_true rfl) (Nat.le_of_ble_eq_true rfl) (Nat.le_of_ble_eq_true rfl) dX2_init_87 (fun a11 H hP hD hS => ?_)
  refine W.widen (k := 11) (n := 102) (Nat.le_of_ble_eq_true rfl) (Nat.le_of_ble_eq_true rfl) ?_
  have hP : va_P D vwCl [(h0, .inr (2, [.null, .null, .ref a1, .ref a2, .ref a3, .ref a4, .ref a5, .ref a6, .ref a7, .int 0, .int 0, .int 0, .ref a8, .ref a9, .ref a10, .null])), (a1, .inl (cI, 6, .inl (fun _ => 0))), (a2, .inl (cI, 6, .inl (fun _ => 0))), (a3, .inl (cI, 6, .inl (fun _ => 0))), (a4, .inl (cI, 6, .inl (fun _ => 0))), (a5, .inl (cI, 6, .inl (fun _ => 0))), (a6, .inl (cI, 6, .inl (fun _ => 0))), (a7, .inl (cI, 6, .inl (fun _ => 0))), (a8, .inl (cI, 15, .inl (fun _ => 0))), (a9, .inl (cI, 15, .inl (fun _ => 0))), (a10, .inl (cI, 15, .inl (fun _ => 0))), (a11, .inl (cI, 15, .inl (fun _ => 0)))] H := hP
  have hD : va_D A [(h0, .inr (2, [.null, .null, .ref a1, .ref a2, .ref a3, .ref a4, .ref a5, .ref a6, .ref a7, .int 0, .int 0, .int 0, .ref a8, .ref a9, .ref a10, .null])), (a1, .inl (cI, 6, .inl (fun _ => 0))), (a2, .inl (cI, 6, .inl (fun _ => 0))), (a3, .inl (cI, 6, .inl (fun _ => 0))), (a4, .inl (cI, 6, .inl (fun _ => 0))), (a5, .inl (cI, 6, .inl (fun _ => 0))), (a6, .inl (cI, 6, .inl (fun _ => 0))), (a7, .inl (cI, 6, .inl (fun _ => 0))), (a8, .inl (cI, 15, .inl (fun _ => 0))), (a9, .inl (cI, 15, .inl (fun _ => 0))), (a10, .inl (cI, 15, .inl (fun _ => 0))), (a11, .inl (cI, 15, .inl (fun _ => 0)))] := hD
  refine m_lputF X hin hP hD hS ff_2_42 0 rfl (Nat.le_of_ble_eq_true rfl) dX2_init_89 (fun H locs hP hD hS => ?_)
  have hP : va_P D vwCl [(h0, .inr (2, [.null, .null, .ref a1, .ref a2, .ref a3, .ref a4, .ref a5, .ref a6, .ref a7, .int 0, .int 0, .int 0, .ref a8, .ref a9, .ref a10, .ref a11])), (a1, .inl (cI, 6, .inl (fun _ => 0))), (a2, .inl (cI, 6, .inl (fun _ => 0))), (a3, .inl (cI, 6, .inl (fun _ => 0))), (a4, .inl (cI, 6, .inl (fun _ => 0))), (a5, .inl (cI, 6, .inl (fun _ => 0))), (a6, .inl (cI, 6, .inl (fun _ => 0))), (a7, .inl (cI, 6, .inl (fun _ => 0))), (a8, .inl (cI, 15, .inl (fun _ => 0))), (a9, .inl (cI, 15, .inl (fun _ => 0))), (a10, .inl (cI, 15, .inl (fun _ => 0))), (a11, .inl (cI, 15, .inl (fun _ => 0)))] H := hP
  have hD : va_D A [(h0, .inr (2, [.null, .null, .ref a1, .ref a2, .ref a3, .ref a4, .ref a5, .ref a6, .ref a7, .int 0, .int 0, .int 0, .ref a8, .ref a9, .ref a10, .ref a11])), (a1, .inl (cI, 6, .inl (fun _ => 0))), (a2, .inl (cI, 6, .inl (fun _ => 0))), (a3, .inl (cI, 6, .inl (fun _ => 0))), (a4, .inl (cI, 6, .inl (fun _ => 0))), (a5, .inl (cI, 6, .inl (fun _ => 0))), (a6, .inl (cI, 6, .inl (fun _ => 0))), (a7, .inl (cI, 6, .inl (fun _ => 0))), (a8, .inl (cI, 15, .inl (fun _ => 0))), (a9, .inl (cI, 15, .inl (fun _ => 0))), (a10, .inl (cI, 15, .inl (fun _ => 0))), (a11, .inl (cI, 15, .inl (fun _ => 0)))] := hD
  refine lv_aload_n hx hb dX2_init_92 rfl (lv_at hl 0 rfl) ?_
  refine lv_aload_n hx hb dX2_init_93 rfl (lv_at hl 1 rfl) ?_
  refine m_lputF X hin hP hD hS ff_2_45 0 rfl (Nat.le_of_ble_eq_true rfl) dX2_init_94 (fun H locs hP hD hS => ?_)
  have hP : va_P D vwCl [(h0, .inr (2, [.ref p1, .null, .ref a1, .ref a2, .ref a3, .ref a4, .ref a5, .ref a6, .ref a7, .int 0, .int 0, .int 0, .ref a8, .ref a9, .ref a10, .ref a11])), (a1, .inl (cI, 6, .inl (fun _ => 0))), (a2, .inl (cI, 6, .inl (fun _ => 0))), (a3, .inl (cI, 6, .inl (fun _ => 0))), (a4, .inl (cI, 6, .inl (fun _ => 0))), (a5, .inl (cI, 6, .inl (fun _ => 0))), (a6, .inl (cI, 6, .inl (fun _ => 0))), (a7, .inl (cI, 6, .inl (fun _ => 0))), (a8, .inl (cI, 15, .inl (fun _ => 0))), (a9, .inl (cI, 15, .inl (fun _ => 0))), (a10, .inl (cI, 15, .inl (fun _ => 0))), (a11, .inl (cI, 15, .inl (fun _ => 0)))] H := hP
  have hD : va_D A [(h0, .inr (2, [.ref p1, .null, .ref a1, .ref a2, .ref a3, .ref a4, .ref a5, .ref a6, .ref a7, .int 0, .int 0, .int 0, .ref a8, .ref a9, .ref a10, .ref a11])), (a1, .inl (cI, 6, .inl (fun _ => 0))), (a2, .inl (cI, 6, .inl (fun _ => 0))), (a3, .inl (cI, 6, .inl (fun _ => 0))), (a4, .inl (cI, 6, .inl (fun _ => 0))), (a5, .inl (cI, 6, .inl (fun _ => 0))), (a6, .inl (cI, 6, .inl (fun _ => 0))), (a7, .inl (cI, 6, .inl (fun _ => 0))), (a8, .inl (cI, 15, .inl (fun _ => 0))), (a9, .inl (cI, 15, .inl (fun _ => 0))), (a10, .inl (cI, 15, .inl (fun _ => 0))), (a11, .inl (cI, 15, .inl (fun _ => 0)))] := hD
  refine lv_aload_n hx hb dX2_init_97 rfl (lv_at hl 0 rfl) ?_
  refine lv_aload_n hx hb dX2_init_98 rfl (lv_at hl 2 rfl) ?_
  refine m_lputF X hin hP hD hS ff_2_49 0 rfl (Nat.le_of_ble_eq_true rfl) dX2_init_99 (fun H locs hP hD hS => ?_)
  have hP : va_P D vwCl [(h0, .inr (2, [.ref p1, .ref p2, .ref a1, .ref a2, .ref a3, .ref a4, .ref a5, .ref a6, .ref a7, .int 0, .int 0, .int 0, .ref a8, .ref a9, .ref a10, .ref a11])), (a1, .inl (cI, 6, .inl (fun _ => 0))), (a2, .inl (cI, 6, .inl (fun _ => 0))), (a3, .inl (cI, 6, .inl (fun _ => 0))), (a4, .inl (cI, 6, .inl (fun _ => 0))), (a5, .inl (cI, 6, .inl (fun _ => 0))), (a6, .inl (cI, 6, .inl (fun _ => 0))), (a7, .inl (cI, 6, .inl (fun _ => 0))), (a8, .inl (cI, 15, .inl (fun _ => 0))), (a9, .inl (cI, 15, .inl (fun _ => 0))), (a10, .inl (cI, 15, .inl (fun _ => 0))), (a11, .inl (cI, 15, .inl (fun _ => 0)))] H := hP
  have hD : va_D A [(h0, .inr (2, [.ref p1, .ref p2, .ref a1, .ref a2, .ref a3, .ref a4, .ref a5, .ref a6, .ref a7, .int 0, .int 0, .int 0, .ref a8, .ref a9, .ref a10, .ref a11])), (a1, .inl (cI, 6, .inl (fun _ => 0))), (a2, .inl (cI, 6, .inl (fun _ => 0))), (a3, .inl (cI, 6, .inl (fun _ => 0))), (a4, .inl (cI, 6, .inl (fun _ => 0))), (a5, .inl (cI, 6, .inl (fun _ => 0))), (a6, .inl (cI, 6, .inl (fun _ => 0))), (a7, .inl (cI, 6, .inl (fun _ => 0))), (a8, .inl (cI, 15, .inl (fun _ => 0))), (a9, .inl (cI, 15, .inl (fun _ => 0))), (a10, .inl (cI, 15, .inl (fun _ => 0))), (a11, .inl (cI, 15, .inl (fun _ => 0)))] := hD
  exact ret (f := fun k => ([a1, a2, a3, a4, a5, a6, a7, a8, a9, a10, a11] : List Nat).getD k 0) hP hD hS dX2_init_102
abbrev oN_0 (cI cZ : ClassId) (h0 : Nat) (f : Nat → Nat) : va_W := [(h0, .inr (0, [.ref (f 0), .ref (f 1), .ref (f 2), .int 0])), ((f 0), .inl (cI, 8, .inl (fun _ => 0))), ((f 1), .inl (cZ, 8, .inl (fun _ => 0))), ((f 2), .inl (cI, 8, .inl (fun _ => 0)))]
set_option maxHeartbeats 40000000 in
set_option maxRecDepth 100000 in
theorem c_X0_init (l : Launch) (D : va_G) (cI cZ : ClassId) (h0 sz : Nat) : m_Mn l yX0_init cX0_init 1 1 3 24 12 D cI cZ [.ref h0] [(h0, .inr (0, [.null, .null, .null, .int 0]))] sz (oN_0 cI cZ h0) := by
  refine m_enter_n (own := RX0) (by decide) rfl rfl (Nat.le_of_ble_eq_true rfl) ?_
  intro p e s m args below meth cd Q A X hin hA ret ls hP hD hS hl
  have hx := X.1
  have hb := X.2.1
  have hl : lv_has ls 1 [(0, .ref h0)] := hl
  refine lv_aload_n hx hb dX0_init_0 rfl (lv_at hl 0 rfl) ?_
  refine m_lobj X hl.1 oi_0 (Nat.le_of_ble_eq_true rfl) (Nat.le_of_ble_eq_true rfl) dX0_init_1 ?_
  refine lv_aload_n hx hb dX0_init_4 rfl (lv_at hl 0 rfl) ?_
  refine lv_bipush (v := (8 : Int32)) hx hb dX0_init_5 (by decide) ?_
  refine m_lnewI X hP hD hS hA 8 (by decide) (by decide +kernel) (Nat.le_of_ble_eq_true rfl) (Nat.le_of_ble_eq_true rfl) (Nat.le_of_ble_eq_true rfl) dX0_init_7 (fun a1 H hP hD hS => ?_)
  refine W.widen (k := 1) (n := 8) (Nat.le_of_ble_eq_true rfl) (Nat.le_of_ble_eq_true rfl) ?_
  have hP : va_P D vwCl [(h0, .inr (0, [.null, .null, .null, .int 0])), (a1, .inl (cI, 8, .inl (fun _ => 0)))] H := hP
  have hD : va_D A [(h0, .inr (0, [.null, .null, .null, .int 0])), (a1, .inl (cI, 8, .inl (fun _ => 0)))] := hD
  refine m_lputF X hin hP hD hS ff_0_9 0 rfl (Nat.le_of_ble_eq_true rfl) dX0_init_9 (fun H locs hP hD hS => ?_)
  have hP : va_P D vwCl [(h0, .inr (0, [.ref a1, .null, .null, .int 0])), (a1, .inl (cI, 8, .inl (fun _ => 0)))] H := hP
  have hD : va_D A [(h0, .inr (0, [.ref a1, .null, .null, .int 0])), (a1, .inl (cI, 8, .inl (fun _ => 0)))] := hD
  refine lv_aload_n hx hb dX0_init_12 rfl (lv_at hl 0 rfl) ?_
  refine lv_bipush (v := (8 : Int32)) hx hb dX0_init_13 (by decide) ?_
  refine m_lnewZ X hP hD hS hA 8 (by decide) (by decide +kernel) (Nat.le_of_ble_eq_true rfl) (Nat.le_of_ble_eq_true rfl) (Nat.le_of_ble_eq_true rfl) dX0_init_15 (fun a2 H hP hD hS => ?_)
  refine W.widen (k := 2) (n := 16) (Nat.le_of_ble_eq_true rfl) (Nat.le_of_ble_eq_true rfl) ?_
  have hP : va_P D vwCl [(h0, .inr (0, [.ref a1, .null, .null, .int 0])), (a1, .inl (cI, 8, .inl (fun _ => 0))), (a2, .inl (cZ, 8, .inl (fun _ => 0)))] H := hP
  have hD : va_D A [(h0, .inr (0, [.ref a1, .null, .null, .int 0])), (a1, .inl (cI, 8, .inl (fun _ => 0))), (a2, .inl (cZ, 8, .inl (fun _ => 0)))] := hD
  refine m_lputF X hin hP hD hS ff_0_15 0 rfl (Nat.le_of_ble_eq_true rfl) dX0_init_17 (fun H locs hP hD hS => ?_)
  have hP : va_P D vwCl [(h0, .inr (0, [.ref a1, .ref a2, .null, .int 0])), (a1, .inl (cI, 8, .inl (fun _ => 0))), (a2, .inl (cZ, 8, .inl (fun _ => 0)))] H := hP
  have hD : va_D A [(h0, .inr (0, [.ref a1, .ref a2, .null, .int 0])), (a1, .inl (cI, 8, .inl (fun _ => 0))), (a2, .inl (cZ, 8, .inl (fun _ => 0)))] := hD
  refine lv_aload_n hx hb dX0_init_20 rfl (lv_at hl 0 rfl) ?_
  refine lv_bipush (v := (8 : Int32)) hx hb dX0_init_21 (by decide) ?_
  refine m_lnewI X hP hD hS hA 8 (by decide) (by decide +kernel) (Nat.le_of_ble_eq_true rfl) (Nat.le_of_ble_eq_true rfl) (Nat.le_of_ble_eq_true rfl) dX0_init_23 (fun a3 H hP hD hS => ?_)
  refine W.widen (k := 3) (n := 24) (Nat.le_of_ble_eq_true rfl) (Nat.le_of_ble_eq_true rfl) ?_
  have hP : va_P D vwCl [(h0, .inr (0, [.ref a1, .ref a2, .null, .int 0])), (a1, .inl (cI, 8, .inl (fun _ => 0))), (a2, .inl (cZ, 8, .inl (fun _ => 0))), (a3, .inl (cI, 8, .inl (fun _ => 0)))] H := hP
  have hD : va_D A [(h0, .inr (0, [.ref a1, .ref a2, .null, .int 0])), (a1, .inl (cI, 8, .inl (fun _ => 0))), (a2, .inl (cZ, 8, .inl (fun _ => 0))), (a3, .inl (cI, 8, .inl (fun _ => 0)))] := hD
  refine m_lputF X hin hP hD hS ff_0_19 0 rfl (Nat.le_of_ble_eq_true rfl) dX0_init_25 (fun H locs hP hD hS => ?_)
  have hP : va_P D vwCl [(h0, .inr (0, [.ref a1, .ref a2, .ref a3, .int 0])), (a1, .inl (cI, 8, .inl (fun _ => 0))), (a2, .inl (cZ, 8, .inl (fun _ => 0))), (a3, .inl (cI, 8, .inl (fun _ => 0)))] H := hP
  have hD : va_D A [(h0, .inr (0, [.ref a1, .ref a2, .ref a3, .int 0])), (a1, .inl (cI, 8, .inl (fun _ => 0))), (a2, .inl (cZ, 8, .inl (fun _ => 0))), (a3, .inl (cI, 8, .inl (fun _ => 0)))] := hD
  refine lv_aload_n hx hb dX0_init_28 rfl (lv_at hl 0 rfl) ?_
  refine lv_iconst (v := (0 : Int32)) hx hb dX0_init_29 (by decide) ?_
  refine m_lputI X hP hD hS fp_0_22 0 rfl (Nat.le_of_ble_eq_true rfl) dX0_init_30 (fun H locs hP hD hS => ?_)
  have hP : va_P D vwCl [(h0, .inr (0, [.ref a1, .ref a2, .ref a3, .int 0])), (a1, .inl (cI, 8, .inl (fun _ => 0))), (a2, .inl (cZ, 8, .inl (fun _ => 0))), (a3, .inl (cI, 8, .inl (fun _ => 0)))] H := hP
  have hD : va_D A [(h0, .inr (0, [.ref a1, .ref a2, .ref a3, .int 0])), (a1, .inl (cI, 8, .inl (fun _ => 0))), (a2, .inl (cZ, 8, .inl (fun _ => 0))), (a3, .inl (cI, 8, .inl (fun _ => 0)))] := hD
  exact ret (f := fun k => ([a1, a2, a3] : List Nat).getD k 0) hP hD hS dX0_init_33
abbrev oN_6 (cI cZ : ClassId) (h0 : Nat) (f : Nat → Nat) : va_W := [(h0, .inr (6, [.ref (f 0), .ref (f 1), .int 0])), ((f 0), .inl (cI, 8, .inl (fun _ => 0))), ((f 1), .inl (cI, 8, .inl (fun _ => 0)))]
set_option maxHeartbeats 40000000 in
set_option maxRecDepth 100000 in
theorem c_X6_init (l : Launch) (D : va_G) (cI cZ : ClassId) (h0 sz : Nat) : m_Mn l yX6_init cX6_init 1 1 2 16 12 D cI cZ [.ref h0] [(h0, .inr (6, [.null, .null, .int 0]))] sz (oN_6 cI cZ h0) := by
  refine m_enter_n (own := RX6) (by decide) rfl rfl (Nat.le_of_ble_eq_true rfl) ?_
  intro p e s m args below meth cd Q A X hin hA ret ls hP hD hS hl
  have hx := X.1
  have hb := X.2.1
  have hl : lv_has ls 1 [(0, .ref h0)] := hl
  refine lv_aload_n hx hb dX6_init_0 rfl (lv_at hl 0 rfl) ?_
  refine m_lobj X hl.1 oi_6 (Nat.le_of_ble_eq_true rfl) (Nat.le_of_ble_eq_true rfl) dX6_init_1 ?_
  refine lv_aload_n hx hb dX6_init_4 rfl (lv_at hl 0 rfl) ?_
  refine lv_bipush (v := (8 : Int32)) hx hb dX6_init_5 (by decide) ?_
  refine m_lnewI X hP hD hS hA 8 (by decide) (by decide +kernel) (Nat.le_of_ble_eq_true rfl) (Nat.le_of_ble_eq_true rfl) (Nat.le_of_ble_eq_true rfl) dX6_init_7 (fun a1 H hP hD hS => ?_)
  refine W.widen (k := 1) (n := 8) (Nat.le_of_ble_eq_true rfl) (Nat.le_of_ble_eq_true rfl) ?_
  have hP : va_P D vwCl [(h0, .inr (6, [.null, .null, .int 0])), (a1, .inl (cI, 8, .inl (fun _ => 0)))] H := hP
  have hD : va_D A [(h0, .inr (6, [.null, .null, .int 0])), (a1, .inl (cI, 8, .inl (fun _ => 0)))] := hD
  refine m_lputF X hin hP hD hS ff_6_9 0 rfl (Nat.le_of_ble_eq_true rfl) dX6_init_9 (fun H locs hP hD hS => ?_)
  have hP : va_P D vwCl [(h0, .inr (6, [.ref a1, .null, .int 0])), (a1, .inl (cI, 8, .inl (fun _ => 0)))] H := hP
  have hD : va_D A [(h0, .inr (6, [.ref a1, .null, .int 0])), (a1, .inl (cI, 8, .inl (fun _ => 0)))] := hD
  refine lv_aload_n hx hb dX6_init_12 rfl (lv_at hl 0 rfl) ?_
  refine lv_bipush (v := (8 : Int32)) hx hb dX6_init_13 (by decide) ?_
  refine m_lnewI X hP hD hS hA 8 (by decide) (by decide +kernel) (Nat.le_of_ble_eq_true rfl) (Nat.le_of_ble_eq_true rfl) (Nat.le_of_ble_eq_true rfl) dX6_init_15 (fun a2 H hP hD hS => ?_)
  refine W.widen (k := 2) (n := 16) (Nat.le_of_ble_eq_true rfl) (Nat.le_of_ble_eq_true rfl) ?_
  have hP : va_P D vwCl [(h0, .inr (6, [.ref a1, .null, .int 0])), (a1, .inl (cI, 8, .inl (fun _ => 0))), (a2, .inl (cI, 8, .inl (fun _ => 0)))] H := hP
  have hD : va_D A [(h0, .inr (6, [.ref a1, .null, .int 0])), (a1, .inl (cI, 8, .inl (fun _ => 0))), (a2, .inl (cI, 8, .inl (fun _ => 0)))] := hD
  refine m_lputF X hin hP hD hS ff_6_15 0 rfl (Nat.le_of_ble_eq_true rfl) dX6_init_17 (fun H locs hP hD hS => ?_)
  have hP : va_P D vwCl [(h0, .inr (6, [.ref a1, .ref a2, .int 0])), (a1, .inl (cI, 8, .inl (fun _ => 0))), (a2, .inl (cI, 8, .inl (fun _ => 0)))] H := hP
  have hD : va_D A [(h0, .inr (6, [.ref a1, .ref a2, .int 0])), (a1, .inl (cI, 8, .inl (fun _ => 0))), (a2, .inl (cI, 8, .inl (fun _ => 0)))] := hD
  refine lv_aload_n hx hb dX6_init_20 rfl (lv_at hl 0 rfl) ?_
  refine lv_iconst (v := (0 : Int32)) hx hb dX6_init_21 (by decide) ?_
  refine m_lputI X hP hD hS fp_6_18 0 rfl (Nat.le_of_ble_eq_true rfl) dX6_init_22 (fun H locs hP hD hS => ?_)
  have hP : va_P D vwCl [(h0, .inr (6, [.ref a1, .ref a2, .int 0])), (a1, .inl (cI, 8, .inl (fun _ => 0))), (a2, .inl (cI, 8, .inl (fun _ => 0)))] H := hP
  have hD : va_D A [(h0, .inr (6, [.ref a1, .ref a2, .int 0])), (a1, .inl (cI, 8, .inl (fun _ => 0))), (a2, .inl (cI, 8, .inl (fun _ => 0)))] := hD
  exact ret (f := fun k => ([a1, a2] : List Nat).getD k 0) hP hD hS dX6_init_25
abbrev oN_7 (cI cZ : ClassId) (h0 : Nat) (f : Nat → Nat) : va_W := [(h0, .inr (7, [.ref (f 0), .ref (f 1), .int 0])), ((f 0), .inl (cI, 12, .inl (fun _ => 0))), ((f 1), .inl (cI, 12, .inl (fun _ => 0)))]
set_option maxHeartbeats 40000000 in
set_option maxRecDepth 100000 in
theorem c_X7_init (l : Launch) (D : va_G) (cI cZ : ClassId) (h0 sz : Nat) : m_Mn l yX7_init cX7_init 1 1 2 24 12 D cI cZ [.ref h0] [(h0, .inr (7, [.null, .null, .int 0]))] sz (oN_7 cI cZ h0) := by
  refine m_enter_n (own := RX7) (by decide) rfl rfl (Nat.le_of_ble_eq_true rfl) ?_
  intro p e s m args below meth cd Q A X hin hA ret ls hP hD hS hl
  have hx := X.1
  have hb := X.2.1
  have hl : lv_has ls 1 [(0, .ref h0)] := hl
  refine lv_aload_n hx hb dX7_init_0 rfl (lv_at hl 0 rfl) ?_
  refine m_lobj X hl.1 oi_7 (Nat.le_of_ble_eq_true rfl) (Nat.le_of_ble_eq_true rfl) dX7_init_1 ?_
  refine lv_aload_n hx hb dX7_init_4 rfl (lv_at hl 0 rfl) ?_
  refine lv_bipush (v := (12 : Int32)) hx hb dX7_init_5 (by decide) ?_
  refine m_lnewI X hP hD hS hA 12 (by decide) (by decide +kernel) (Nat.le_of_ble_eq_true rfl) (Nat.le_of_ble_eq_true rfl) (Nat.le_of_ble_eq_true rfl) dX7_init_7 (fun a1 H hP hD hS => ?_)
  refine W.widen (k := 1) (n := 12) (Nat.le_of_ble_eq_true rfl) (Nat.le_of_ble_eq_true rfl) ?_
  have hP : va_P D vwCl [(h0, .inr (7, [.null, .null, .int 0])), (a1, .inl (cI, 12, .inl (fun _ => 0)))] H := hP
  have hD : va_D A [(h0, .inr (7, [.null, .null, .int 0])), (a1, .inl (cI, 12, .inl (fun _ => 0)))] := hD
  refine m_lputF X hin hP hD hS ff_7_9 0 rfl (Nat.le_of_ble_eq_true rfl) dX7_init_9 (fun H locs hP hD hS => ?_)
  have hP : va_P D vwCl [(h0, .inr (7, [.ref a1, .null, .int 0])), (a1, .inl (cI, 12, .inl (fun _ => 0)))] H := hP
  have hD : va_D A [(h0, .inr (7, [.ref a1, .null, .int 0])), (a1, .inl (cI, 12, .inl (fun _ => 0)))] := hD
  refine lv_aload_n hx hb dX7_init_12 rfl (lv_at hl 0 rfl) ?_
  refine lv_bipush (v := (12 : Int32)) hx hb dX7_init_13 (by decide) ?_
  refine m_lnewI X hP hD hS hA 12 (by decide) (by decide +kernel) (Nat.le_of_ble_eq_true rfl) (Nat.le_of_ble_eq_true rfl) (Nat.le_of_ble_eq_true rfl) dX7_init_15 (fun a2 H hP hD hS => ?_)
  refine W.widen (k := 2) (n := 24) (Nat.le_of_ble_eq_true rfl) (Nat.le_of_ble_eq_true rfl) ?_
  have hP : va_P D vwCl [(h0, .inr (7, [.ref a1, .null, .int 0])), (a1, .inl (cI, 12, .inl (fun _ => 0))), (a2, .inl (cI, 12, .inl (fun _ => 0)))] H := hP
  have hD : va_D A [(h0, .inr (7, [.ref a1, .null, .int 0])), (a1, .inl (cI, 12, .inl (fun _ => 0))), (a2, .inl (cI, 12, .inl (fun _ => 0)))] := hD
  refine m_lputF X hin hP hD hS ff_7_15 0 rfl (Nat.le_of_ble_eq_true rfl) dX7_init_17 (fun H locs hP hD hS => ?_)
  have hP : va_P D vwCl [(h0, .inr (7, [.ref a1, .ref a2, .int 0])), (a1, .inl (cI, 12, .inl (fun _ => 0))), (a2, .inl (cI, 12, .inl (fun _ => 0)))] H := hP
  have hD : va_D A [(h0, .inr (7, [.ref a1, .ref a2, .int 0])), (a1, .inl (cI, 12, .inl (fun _ => 0))), (a2, .inl (cI, 12, .inl (fun _ => 0)))] := hD
  refine lv_aload_n hx hb dX7_init_20 rfl (lv_at hl 0 rfl) ?_
  refine lv_iconst (v := (0 : Int32)) hx hb dX7_init_21 (by decide) ?_
  refine m_lputI X hP hD hS fp_7_18 0 rfl (Nat.le_of_ble_eq_true rfl) dX7_init_22 (fun H locs hP hD hS => ?_)
  have hP : va_P D vwCl [(h0, .inr (7, [.ref a1, .ref a2, .int 0])), (a1, .inl (cI, 12, .inl (fun _ => 0))), (a2, .inl (cI, 12, .inl (fun _ => 0)))] H := hP
  have hD : va_D A [(h0, .inr (7, [.ref a1, .ref a2, .int 0])), (a1, .inl (cI, 12, .inl (fun _ => 0))), (a2, .inl (cI, 12, .inl (fun _ => 0)))] := hD
  exact ret (f := fun k => ([a1, a2] : List Nat).getD k 0) hP hD hS dX7_init_25
