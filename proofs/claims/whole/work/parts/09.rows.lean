/-! rows over a world: fields, arrays, calls, answers -/
def m_FL (own : String) (idx ci k : Nat) : Prop := ∃ (C : String) (T : u_T) (N : Nat), vwCl[ci]? = some (C, T, N) ∧ k < N ∧ (∀ w ∈ u_ws C T N, w ∈ WS) ∧ Cond.fieldLink own idx (T k).1 (T k).2.1 (T k).2.2.1 ∈ WS
def m_FP (own : String) (idx ci k : Nat) : Prop := ∃ (C : String) (T : u_T) (N : Nat) (ty : Nat → FieldType), vwCl[ci]? = some (C, T, N) ∧ k < N ∧ (∀ w ∈ u_ws C T N, w ∈ WS) ∧ Cond.fieldLink own idx (T k).1 (T k).2.1 (T k).2.2.1 ∈ WS ∧ (∀ k, k < N → parseFieldDescriptor (T k).2.2.1 = some (ty k)) ∧ (∀ a, a < N → ∀ b, b < N → a ≠ b → (T a).2.1 ≠ (T b).2.1) ∧ (T k).2.2.2 = false ∧ ty k = .int
def m_V (mk : m_MK) (n j : Nat) (r : Nat → Int32) (ci k : Nat) (v : Value) : Prop := j < n ∧ ∃ fs, mk j r = .inr (ci, fs) ∧ fs[k]? = some v
def m_VP (mk : m_MK) (n j ci k : Nat) : Prop := j < n ∧ ∀ r, ∃ fs, mk j r = .inr (ci, fs) ∧ k < fs.length ∧ ∀ x, mk j (upd r k x) = .inr (ci, fs.set k (.int x))
def m_O (mk : m_MK) (n j : Nat) (r : Nat → Int32) (C : String) : Prop := j < n ∧ ∃ (ci : Nat) (fs : List Value) (w : vw_C), mk j r = .inr (ci, fs) ∧ vwCl[ci]? = some w ∧ w.1 = C
def m_AI (mk : m_MK) (n a len : Nat) (cI : ClassId) : Prop := a < n ∧ ∀ r, mk a r = .inl (cI, len, .inl r)
section MROWS
variable {p : Program} {l : Launch} {e : Env} {R : Room} {s : State} {m : MethodId} {args : Array Value} {below : List Frame} {meth : Method} {cd : Code} {H : Heap} {locs : List Loc} {cells slots : Nat} {Q : State → Prop}
variable {own : String} {cc : ByteArray} {nL : Nat} {ret : Option FieldType} {D : va_G} {cI cZ : ClassId} {mk : m_MK} {n : Nat} {q : Nat → Nat} {A : Nat → Prop} {H0 : Heap} {c : Mm} {pc : Nat} {ls : Array Slot} {rest : List Value}
theorem m_get (X : m_Cx p s m args meth cd own cc nL ret D cI cZ) (hS : m_S D mk n q A H0 c H locs) {idx ci k j : Nat} {v : Value} (F : m_FL own idx ci k) (V : m_V mk n j (c j) ci k v) (hdg : decode cc pc = .ok (.getfield idx, 3))
    (kk : W p l e R s m args below meth cd H locs cells slots Q (F0 m (pc + 3) ls (v :: rest))) : W p l e R s m args below meth cd H locs cells slots Q (F0 m pc ls (.ref (q j) :: rest)) := by
  obtain ⟨hx, hb, hml, hown, hts, hr, hlk, hK⟩ := X
  obtain ⟨C, T, N, hc, hk, hin, hlink⟩ := F
  obtain ⟨hj, fs, he, hv⟩ := V
  exact va_get hx hb hts hin hown hK.1 hS.1 j (by rw [m_wO_get hj, he]) hc k hk (hts _ hlink) (fun _ h => h) hv hdg kk
theorem m_put (X : m_Cx p s m args meth cd own cc nL ret D cI cZ) (hS : m_S D mk n q A H0 c H locs) {idx ci k j : Nat} {x : Int32} (F : m_FP own idx ci k) (V : m_VP mk n j ci k) (hdg : decode cc pc = .ok (.putfield idx, 3))
    (kk : ∀ c1 : Mm, c1 = m_st c j k x → ∀ (H : Heap) (locs : List Loc), m_S D mk n q A H0 c1 H locs → W p l e R s m args below meth cd H locs cells slots Q (F0 m (pc + 3) ls rest)) : W p l e R s m args below meth cd H locs cells slots Q (F0 m pc ls (.int x :: .ref (q j) :: rest)) := by
  obtain ⟨hx, hb, hml, hown, hts, hr, hlk, hK⟩ := X
  obtain ⟨C, T, N, ty, hc, hk, hin, hlink, hty, hnm, hfin, htk⟩ := F
  obtain ⟨hj, hV⟩ := V
  obtain ⟨fs, he, hl, hst⟩ := hV (c j)
  have hd : parseFieldDescriptor (T k).2.2.1 = some .int := by rw [hty k hk, htk]
  refine va_put hx hb hts hin ty hty hnm hown hK.1 hS.1 hS.2.1 hS.2.2 j (by rw [m_wO_get hj, he]) hc k hk (hts _ hlink) (fun _ h => h) hfin hd (v := .int x) rfl rfl hl hdg (fun H1 locs1 h1 h2 h3 => ?_)
  have e : (m_wO mk n q c).set j (q j, .inr (ci, fs.set k (.int x))) = m_wO mk n q (m_st c j k x) := m_wO_set (fun b hb => m_st_n hb) (by rw [m_st_s, hst])
  rw [e] at h1 h2
  exact kk _ rfl H1 locs1 ⟨h1, h2, h3⟩
theorem m_ild (X : m_Cx p s m args meth cd own cc nL ret D cI cZ) (hS : m_S D mk n q A H0 c H locs) {a len : Nat} {i : Int32} (V : m_AI mk n a len cI) (hin : vp_in i len) (hdg : decode cc pc = .ok (.iaload, 1))
    (kk : W p l e R s m args below meth cd H locs cells slots Q (F0 m (pc + 1) ls (.int (c a (m_ix i)) :: rest))) : W p l e R s m args below meth cd H locs cells slots Q (F0 m pc ls (.int i :: .ref (q a) :: rest)) := by
  obtain ⟨hx, hb, hml, hown, hts, hr, hlk, hK⟩ := X
  exact va_iald hx hb hK.1 hS.1 a 0 (by rw [m_wO_get V.1, V.2]) rfl hin hdg kk
theorem m_ildN (X : m_Cx p s m args meth cd own cc nL ret D cI cZ) (hS : m_S D mk n q A H0 c H locs) {a len : Nat} {i : Int32} (j : Nat) (hj : m_ix i = j) (V : m_AI mk n a len cI) (hin : ¬ (i < 0 ∨ len ≤ m_ix i)) (hdg : decode cc pc = .ok (.iaload, 1))
    (kk : W p l e R s m args below meth cd H locs cells slots Q (F0 m (pc + 1) ls (.int (c a j) :: rest))) : W p l e R s m args below meth cd H locs cells slots Q (F0 m pc ls (.int i :: .ref (q a) :: rest)) := by
  subst hj
  exact m_ild X hS V hin hdg kk
theorem m_ist (X : m_Cx p s m args meth cd own cc nL ret D cI cZ) (hS : m_S D mk n q A H0 c H locs) {a len : Nat} {i x : Int32} (V : m_AI mk n a len cI) (hin : vp_in i len) (hdg : decode cc pc = .ok (.iastore, 1))
    (kk : ∀ c1 : Mm, c1 = m_st c a (m_ix i) x → ∀ (H : Heap) (locs : List Loc), m_S D mk n q A H0 c1 H locs → W p l e R s m args below meth cd H locs cells slots Q (F0 m (pc + 1) ls rest)) : W p l e R s m args below meth cd H locs cells slots Q (F0 m pc ls (.int x :: .int i :: .ref (q a) :: rest)) := by
  obtain ⟨hx, hb, hml, hown, hts, hr, hlk, hK⟩ := X
  refine va_iast hx hb hK.1 hS.1 hS.2.1 hS.2.2 a 0 (by rw [m_wO_get V.1, V.2]) rfl hin hdg (fun H1 locs1 h1 h2 h3 => ?_)
  have e : (m_wO mk n q c).set a (q a, .inl (cI, len, .inl (upd (c a) i.toNatClampNeg x))) = m_wO mk n q (m_st c a (m_ix i) x) := m_wO_set (fun b hb => m_st_n hb) (by rw [m_st_s, V.2]; rfl)
  rw [e] at h1 h2
  exact kk _ rfl H1 locs1 ⟨h1, h2, h3⟩
theorem m_istN (X : m_Cx p s m args meth cd own cc nL ret D cI cZ) (hS : m_S D mk n q A H0 c H locs) {a len : Nat} {i x : Int32} (j : Nat) (hj : m_ix i = j) (V : m_AI mk n a len cI) (hin : ¬ (i < 0 ∨ len ≤ m_ix i)) (hdg : decode cc pc = .ok (.iastore, 1))
    (kk : ∀ c1 : Mm, c1 = m_st c a j x → ∀ (H : Heap) (locs : List Loc), m_S D mk n q A H0 c1 H locs → W p l e R s m args below meth cd H locs cells slots Q (F0 m (pc + 1) ls rest)) : W p l e R s m args below meth cd H locs cells slots Q (F0 m pc ls (.int x :: .int i :: .ref (q a) :: rest)) := by
  subst hj
  exact m_ist X hS V hin hdg kk
theorem m_zld (X : m_Cx p s m args meth cd own cc nL ret D cI cZ) (hS : m_S D mk n q A H0 c H locs) {a len : Nat} {i : Int32} (V : m_AI mk n a len cZ) (hin : vp_in i len) (hdg : decode cc pc = .ok (.baload, 1))
    (kk : W p l e R s m args below meth cd H locs cells slots Q (F0 m (pc + 1) ls (.int (c a (m_ix i)) :: rest))) : W p l e R s m args below meth cd H locs cells slots Q (F0 m pc ls (.int i :: .ref (q a) :: rest)) := by
  obtain ⟨hx, hb, hml, hown, hts, hr, hlk, hK⟩ := X
  exact va_zald hx hb hK.1 hS.1 a 1 (by rw [m_wO_get V.1, V.2]) rfl hin hdg kk
theorem m_zst (X : m_Cx p s m args meth cd own cc nL ret D cI cZ) (hS : m_S D mk n q A H0 c H locs) {a len : Nat} {i x : Int32} (V : m_AI mk n a len cZ) (hin : vp_in i len) (hdg : decode cc pc = .ok (.bastore, 1))
    (kk : ∀ c1 : Mm, c1 = m_st c a (m_ix i) (vp_nar .boolean x) → ∀ (H : Heap) (locs : List Loc), m_S D mk n q A H0 c1 H locs → W p l e R s m args below meth cd H locs cells slots Q (F0 m (pc + 1) ls rest)) : W p l e R s m args below meth cd H locs cells slots Q (F0 m pc ls (.int x :: .int i :: .ref (q a) :: rest)) := by
  obtain ⟨hx, hb, hml, hown, hts, hr, hlk, hK⟩ := X
  refine va_zast hx hb hK.1 hS.1 hS.2.1 hS.2.2 a 1 (by rw [m_wO_get V.1, V.2]) rfl hin hdg (fun H1 locs1 h1 h2 h3 => ?_)
  have e : (m_wO mk n q c).set a (q a, .inl (cZ, len, .inl (upd (c a) i.toNatClampNeg (vp_nar .boolean x)))) = m_wO mk n q (m_st c a (m_ix i) (vp_nar .boolean x)) := m_wO_set (fun b hb => m_st_n hb) (by rw [m_st_s, V.2]; rfl)
  rw [e] at h1 h2
  exact kk _ rfl H1 locs1 ⟨h1, h2, h3⟩
def m_CC (own : String) (idx : Nat) : Prop := Cond.methodLink own idx arraycopyName ∈ WS ∧ Cond.native arraycopyName ∈ WS ∧ Cond.static arraycopyName ∈ WS ∧ Cond.initialized "java/lang/System" ∈ WS
theorem m_copy (X : m_Cx p s m args meth cd own cc nL ret D cI cZ) (hS : m_S D mk n q A H0 c H locs) (hsz : ls.size = nL) {idx a b n0 n1 : Nat} {sp dp k : Int32} (F : m_CC own idx) (V0 : m_AI mk n a n0 cI) (V1 : m_AI mk n b n1 cI) (hg : ¬ (sp < 0 ∨ dp < 0 ∨ k < 0 ∨ n0 < m_ix sp + m_ix k ∨ n1 < m_ix dp + m_ix k)) (hframes : 1 ≤ R.frames) (hlocals : (rest.map fun v => v.category).sum + (nativeFrameWords "java/lang/System" "arraycopy" 5 + 11) ≤ R.locals) (hdg : decode cc pc = .ok (.invokestatic idx, 3))
    (kk : ∀ c1 : Mm, c1 = m_cp c a (m_ix sp) b (m_ix dp) (m_ix k) → ∀ (H : Heap) (locs : List Loc), m_S D mk n q A H0 c1 H locs → W p l e R s m args below meth cd H locs cells slots Q (F0 m (pc + 3) ls rest)) : W p l e R s m args below meth cd H locs cells slots Q (F0 m pc ls (.int k :: .int dp :: .ref (q b) :: .int sp :: .ref (q a) :: rest)) := by
  obtain ⟨hx, hb, hml, hown, hts, hr, hlk, hK⟩ := X
  simp only [not_or, Nat.not_lt] at hg
  refine va_copyi hx hb (hml.trans hsz.symm) hown (hts _ F.1) (hts _ F.2.1) (hts _ F.2.2.1) (hts _ F.2.2.2) hK.1 hS.1 hS.2.1 hS.2.2 a b 0 0 (by rw [m_wO_get V0.1, V0.2]) (by rw [m_wO_get V1.1, V1.2]) rfl rfl rfl hg.1 hg.2.1 hg.2.2.1 hg.2.2.2.1 hg.2.2.2.2 (fun _ _ => rfl) hframes hlocals hdg (fun H1 locs1 h1 h2 h3 => ?_)
  have e : (m_wO mk n q c).set b (q b, .inl (cI, n1, .inl (va_cpy (c a) (c b) sp.toNatClampNeg dp.toNatClampNeg k.toNatClampNeg))) = m_wO mk n q (m_cp c a (m_ix sp) b (m_ix dp) (m_ix k)) := m_wO_set (fun z hz => m_cp_n hz) (by rw [m_cp_s, V1.2]; rfl)
  rw [e] at h1 h2
  exact kk _ rfl H1 locs1 ⟨h1, h2, h3⟩
def m_CM (own : String) (idx : Nat) (y : MethodName) (cy : ByteArray) : Prop := Cond.methodLink own idx y ∈ WS ∧ Cond.static y ∈ WS ∧ Cond.initialized "java/lang/Math" ∈ WS ∧ Cond.code y cy 2 (some .int) ∈ WS
theorem m_max (X : m_Cx p s m args meth cd own cc nL ret D cI cZ) (hsz : ls.size = nL) {idx : Nat} {x y : Int32} (F : m_CM own idx Lib.Math.max.name Lib.Math.max.code) (hframes : 1 ≤ R.frames) (hlocals : (rest.map fun v => v.category).sum + 13 ≤ R.locals) (hc : cells ≤ R.cells) (hs : slots ≤ R.slots) (hdg : decode cc pc = .ok (.invokestatic idx, 3))
    (kk : W p l e R s m args below meth cd H locs cells slots Q (F0 m (pc + 3) ls (.int (if x < y then y else x) :: rest))) : W p l e R s m args below meth cd H locs cells slots Q (F0 m pc ls (.int y :: .int x :: rest)) := by
  obtain ⟨hx, hb, hml, hown, hts, hr, hlk, hK⟩ := X
  exact va_mmax hx hb (hml.trans hsz.symm) hown (hts _ F.1) (hts _ F.2.1) (hts _ F.2.2.1) (hts _ F.2.2.2) hframes hlocals hc hs hdg kk
theorem m_min (X : m_Cx p s m args meth cd own cc nL ret D cI cZ) (hsz : ls.size = nL) {idx : Nat} {x y : Int32} (F : m_CM own idx Lib.Math.min.name Lib.Math.min.code) (hframes : 1 ≤ R.frames) (hlocals : (rest.map fun v => v.category).sum + 13 ≤ R.locals) (hc : cells ≤ R.cells) (hs : slots ≤ R.slots) (hdg : decode cc pc = .ok (.invokestatic idx, 3))
    (kk : W p l e R s m args below meth cd H locs cells slots Q (F0 m (pc + 3) ls (.int (if y < x then y else x) :: rest))) : W p l e R s m args below meth cd H locs cells slots Q (F0 m pc ls (.int y :: .int x :: rest)) := by
  obtain ⟨hx, hb, hml, hown, hts, hr, hlk, hK⟩ := X
  exact va_mmin hx hb (hml.trans hsz.symm) hown (hts _ F.1) (hts _ F.2.1) (hts _ F.2.2.1) (hts _ F.2.2.2) hframes hlocals hc hs hdg kk
/-! calls in one world -/
def m_CV (own : String) (idx : Nat) (C : String) (y : MethodName) (bytes : ByteArray) (maxL : Nat) (ret : Option FieldType) (na : Nat) : Prop := GoodIn WS (wsV own idx C y (Cond.code y bytes maxL ret :: WS)) ∧ y.cls = C ∧ y.cls ≠ "java/lang/invoke/MethodHandle" ∧ y.cls ≠ "java/lang/invoke/VarHandle" ∧ (parseMethodDescriptor y.desc).map (fun d => d.parameters.length) = some na
def m_CS (own : String) (idx : Nat) (y : MethodName) (bytes : ByteArray) (maxL : Nat) (ret : Option FieldType) (na : Nat) : Prop := GoodIn WS (va_wsS own idx y (Cond.code y bytes maxL ret :: WS)) ∧ y.cls ≠ "java/lang/invoke/MethodHandle" ∧ y.cls ≠ "java/lang/invoke/VarHandle" ∧ (parseMethodDescriptor y.desc).map (fun d => d.parameters.length) = some na
theorem m_sub_A {n : Nat} {q : Nat → Nat} {a b : Nat} (h : a ≤ b) {x : Nat} (hx : m_A n q b x) : m_A n q a x := by
  rcases hx with h1 | h1
  · exact Or.inl h1
  · exact Or.inr (Nat.le_trans h h1)
theorem m_recv {C : String} {j : Nat} (hK : m_K D cI cZ s) (hS : m_S D mk n q A H0 c H locs) (V : m_O mk n j (c j) C) : ∃ cell : Cell, H[q j]? = some cell ∧ cell.vm.isStatics = false ∧ s.vm.findClass C = some cell.cls := by
  obtain ⟨hj, ci, fs, w, he, hc, rfl⟩ := V
  exact va_recv hK.1 hS.1 hc (q0 := j) (by rw [m_wO_get hj, he])
theorem m_pre {av : List Value} (hK : m_K D cI cZ s) (hS : m_S D mk n q A H0 c H locs) (U : State) (hU : U.heap = H) (hW : s.WarmedH U.vm) : m_Pc D cI cZ mk n q av c H.size av.toArray U := ⟨rfl, by rw [hU], by rw [hU]; exact hS.1, m_K.warm hW hK, hS.2.1.weaken (fun _ _ _ _ => trivial)⟩
set_option maxHeartbeats 4000000 in
theorem m_behind {H1 : Heap} {locs1 : List Loc} {c1 : Mm} {t : State} (hB : m_B D mk n q H.size c1 t) (ht : t.heap = H1) (hS : m_S D mk n q (m_A n q H0.size) H0 c H locs) (hS1 : va_S (m_A n q H0.size) H0 H1 locs1) : m_S D mk n q (m_A n q H0.size) H0 c1 H1 locs1 := ⟨by rw [← ht]; exact hB.1, hB.2.weaken (fun _ _ _ h => m_sub_A hS.2.2.1 h), hS1⟩
set_option maxHeartbeats 4000000 in
theorem m_calli {b idx maxL fr lo na : Nat} {C : String} {y : MethodName} {bytes : ByteArray} {rt : Option FieldType} {As : List Value} {r1 : Int32} {c1 : Mm} {stk : List Value} (X : m_Cx p s m args meth cd own cc nL ret D cI cZ) (hS : m_S D mk n q (m_A n q s.heap.size) s.heap c H locs) (hl : ls.size = nL)
    (hM : m_Mi l y bytes maxL rt fr lo D cI cZ mk n q (.ref (q b) :: As) c H.size (r1, c1)) (cw : m_CV own idx C y bytes maxL rt na) (V : m_O mk n b (c b) C) (hst : stk = As.reverse ++ .ref (q b) :: rest) (hn : As.length = na) (hR : fr + 1 ≤ R.frames ∧ 8 + (maxL + 11) + lo ≤ R.locals) (hcs : cells ≤ R.cells ∧ slots ≤ R.slots) (hw : (rest.map fun v => v.category).sum ≤ 8) (hdg : decode cc pc = .ok (.invokevirtual idx, 3))
    (kk : ∀ (H : Heap) (locs : List Loc), m_S D mk n q (m_A n q s.heap.size) s.heap c1 H locs → W p l e R s m args below meth cd H locs cells slots Q (F0 m (pc + 3) ls (.int r1 :: rest))) : W p l e R s m args below meth cd H locs cells slots Q (F0 m pc ls stk) := by
  obtain ⟨hx, hb, hml, hown, hts, hr, hlk, hK⟩ := X
  subst hst
  refine va_calli (va_runV (As := As) (rest := rest) (b := q b) ⟨hx, hb, hml, hown, hts⟩ hM (cwV na hts cw.1 rfl rfl rfl cw.2 hR) ⟨m_blind, m_recv hK hS V, fun U hU hW => m_pre hK hS U hU hW⟩ rfl hn hl rfl (lv_room hw) hdg hcs) hS.2.2 (fun x _ h => m_sub_A hS.2.2.1 h) (fun x h => m_sub_A hS.2.2.1 h) (fun r u t H1 locs1 ht hvm hw hB hz1 hk1 hS1 => ?_)
  cases hw
  exact kk H1 locs1 (m_behind hB ht hS hS1)
set_option maxHeartbeats 4000000 in
theorem m_callv {b idx maxL fr lo na : Nat} {C : String} {y : MethodName} {bytes : ByteArray} {As : List Value} {c1 : Mm} {stk : List Value} (X : m_Cx p s m args meth cd own cc nL ret D cI cZ) (hS : m_S D mk n q (m_A n q s.heap.size) s.heap c H locs) (hl : ls.size = nL)
    (hM : m_Mv l y bytes maxL fr lo D cI cZ mk n q (.ref (q b) :: As) c H.size c1) (cw : m_CV own idx C y bytes maxL none na) (V : m_O mk n b (c b) C) (hst : stk = As.reverse ++ .ref (q b) :: rest) (hn : As.length = na) (hR : fr + 1 ≤ R.frames ∧ 8 + (maxL + 11) + lo ≤ R.locals) (hcs : cells ≤ R.cells ∧ slots ≤ R.slots) (hw : (rest.map fun v => v.category).sum ≤ 8) (hdg : decode cc pc = .ok (.invokevirtual idx, 3))
    (kk : ∀ (H : Heap) (locs : List Loc), m_S D mk n q (m_A n q s.heap.size) s.heap c1 H locs → W p l e R s m args below meth cd H locs cells slots Q (F0 m (pc + 3) ls rest)) : W p l e R s m args below meth cd H locs cells slots Q (F0 m pc ls stk) := by
  obtain ⟨hx, hb, hml, hown, hts, hr, hlk, hK⟩ := X
  subst hst
  refine va_callv (va_runV (As := As) (rest := rest) (b := q b) ⟨hx, hb, hml, hown, hts⟩ hM (cwV na hts cw.1 rfl rfl rfl cw.2 hR) ⟨m_blind, m_recv hK hS V, fun U hU hW => m_pre hK hS U hU hW⟩ rfl hn hl rfl (lv_room hw) hdg hcs) hS.2.2 (fun x _ h => m_sub_A hS.2.2.1 h) (fun x h => m_sub_A hS.2.2.1 h) (fun u t H1 locs1 ht hvm hw hB hz1 hk1 hS1 => ?_)
  cases hw
  exact kk H1 locs1 (m_behind hB ht hS hS1)
set_option maxHeartbeats 4000000 in
theorem m_calls {idx maxL fr lo na : Nat} {y : MethodName} {bytes : ByteArray} {rt : Option FieldType} {As : List Value} {r1 : Int32} {c1 : Mm} {stk : List Value} (X : m_Cx p s m args meth cd own cc nL ret D cI cZ) (hS : m_S D mk n q (m_A n q s.heap.size) s.heap c H locs) (hl : ls.size = nL)
    (hM : m_Mi l y bytes maxL rt fr lo D cI cZ mk n q As c H.size (r1, c1)) (cw : m_CS own idx y bytes maxL rt na) (hst : stk = As.reverse ++ rest) (hn : As.length = na) (hR : fr + 1 ≤ R.frames ∧ 8 + (maxL + 11) + lo ≤ R.locals) (hcs : cells ≤ R.cells ∧ slots ≤ R.slots) (hw : (rest.map fun v => v.category).sum ≤ 8) (hdg : decode cc pc = .ok (.invokestatic idx, 3))
    (kk : ∀ (H : Heap) (locs : List Loc), m_S D mk n q (m_A n q s.heap.size) s.heap c1 H locs → W p l e R s m args below meth cd H locs cells slots Q (F0 m (pc + 3) ls (.int r1 :: rest))) : W p l e R s m args below meth cd H locs cells slots Q (F0 m pc ls stk) := by
  obtain ⟨hx, hb, hml, hown, hts, hr, hlk, hK⟩ := X
  subst hst
  refine va_calli (va_runS (As := As) (rest := rest) ⟨hx, hb, hml, hown, hts⟩ hM (va_cwS na hts cw.1 rfl rfl rfl cw.2 hR) ⟨m_blind, fun U hU hW => m_pre hK hS U hU hW⟩ rfl hn hl rfl (lv_room hw) hdg hcs) hS.2.2 (fun x _ h => m_sub_A hS.2.2.1 h) (fun x h => m_sub_A hS.2.2.1 h) (fun r u t H1 locs1 ht hvm hw hB hz1 hk1 hS1 => ?_)
  cases hw
  exact kk H1 locs1 (m_behind hB ht hS hS1)
def m_CN (y : MethodName) (bytes : ByteArray) (maxL : Nat) (ret : Option FieldType) (na : Nat) : Prop := GoodIn WS (Cond.code y bytes maxL ret :: WS) ∧ Cond.initialized y.cls ∈ WS ∧ Cond.static y ∈ WS ∧ y.cls ≠ "java/lang/invoke/MethodHandle" ∧ y.cls ≠ "java/lang/invoke/VarHandle" ∧ (parseMethodDescriptor y.desc).map (fun d => d.parameters.length) = some na
set_option maxHeartbeats 4000000 in
theorem m_calln {idx maxL fr lo na : Nat} {host : String} {y : MethodName} {bytes : ByteArray} {rt : Option FieldType} {As : List Value} {r1 : Int32} {c1 : Mm} {stk : List Value} (X : m_Cx p s m args meth cd own cc nL ret D cI cZ) (hS : m_S D mk n q (m_A n q s.heap.size) s.heap c H locs) (hl : ls.size = nL) (hN : va_Nw (.methodLinkNest own idx y host) s)
    (hM : m_Mi l y bytes maxL rt fr lo D cI cZ mk n q As c H.size (r1, c1)) (cw : m_CN y bytes maxL rt na) (hst : stk = As.reverse ++ rest) (hn : As.length = na) (hR : fr + 1 ≤ R.frames ∧ 8 + (maxL + 11) + lo ≤ R.locals) (hcs : cells ≤ R.cells ∧ slots ≤ R.slots) (hw : (rest.map fun v => v.category).sum ≤ 8) (hdg : decode cc pc = .ok (.invokestatic idx, 3))
    (kk : ∀ (H : Heap) (locs : List Loc), m_S D mk n q (m_A n q s.heap.size) s.heap c1 H locs → W p l e R s m args below meth cd H locs cells slots Q (F0 m (pc + 3) ls (.int r1 :: rest))) : W p l e R s m args below meth cd H locs cells slots Q (F0 m pc ls stk) := by
  obtain ⟨hx, hb, hml, hown, hts, hr, hlk, hK⟩ := X
  subst hst
  refine va_calli (va_runSN (As := As) (rest := rest) ⟨hx, hb, hml, hown, hts⟩ hM ⟨va_cnB na hts cw.1 rfl rfl rfl hN (hts _ cw.2.1) cw.2.2.2 hR, hts _ cw.2.2.1, trivial⟩ ⟨m_blind, fun U hU hW => m_pre hK hS U hU hW⟩ rfl hn hl rfl (lv_room hw) hdg hcs) hS.2.2 (fun x _ h => m_sub_A hS.2.2.1 h) (fun x h => m_sub_A hS.2.2.1 h) (fun r u t H1 locs1 ht hvm hw hB hz1 hk1 hS1 => ?_)
  cases hw
  exact kk H1 locs1 (m_behind hB ht hS hS1)
/-! answers -/
theorem m_reti {v : Int32} {Rr : Int32 × Mm} (X : m_Cx p s m args meth cd own cc nL (some .int) D cI cZ) (hS : m_S D mk n q (m_A n q s.heap.size) s.heap c H locs) (hf : some (v, c) = some Rr) (hdg : decode cc pc = .ok (.ireturn, 1)) : W p l e R s m args below meth cd H locs cells slots (MQ below (m_Qi D mk n q s.heap.size Rr) args s cells slots (m_A n q s.heap.size)) (F0 m pc ls [.int v]) := by
  obtain ⟨hx, hb, hml, hown, hts, hr, hlk, hK⟩ := X
  exact W.iret hx hb hr (fun t ht hW => ⟨⟨v, c, rfl, (Option.some.inj hf).symm, by rw [ht]; exact hS.1, hS.2.1⟩, hS.2.2.F ht⟩) hS.2.2.2.2 hdg hlk
theorem m_retz {v : Int32} {Rr : Int32 × Mm} (X : m_Cx p s m args meth cd own cc nL (some .boolean) D cI cZ) (hS : m_S D mk n q (m_A n q s.heap.size) s.heap c H locs) (hv : v = 0 ∨ v = 1) (hf : some (v, c) = some Rr) (hdg : decode cc pc = .ok (.ireturn, 1)) : W p l e R s m args below meth cd H locs cells slots (MQ below (m_Qi D mk n q s.heap.size Rr) args s cells slots (m_A n q s.heap.size)) (F0 m pc ls [.int v]) := by
  obtain ⟨hx, hb, hml, hown, hts, hr, hlk, hK⟩ := X
  exact W.zret hx hb hr (by rcases hv with rfl | rfl <;> rfl) (fun t ht hW => ⟨⟨v, c, rfl, (Option.some.inj hf).symm, by rw [ht]; exact hS.1, hS.2.1⟩, hS.2.2.F ht⟩) hS.2.2.2.2 hdg hlk
theorem m_retv {Rr : Mm} (X : m_Cx p s m args meth cd own cc nL none D cI cZ) (hS : m_S D mk n q (m_A n q s.heap.size) s.heap c H locs) (hf : some c = some Rr) (hdg : decode cc pc = .ok (.return_, 1)) : W p l e R s m args below meth cd H locs cells slots (MQ below (m_Qv D mk n q s.heap.size Rr) args s cells slots (m_A n q s.heap.size)) (F0 m pc ls []) := by
  obtain ⟨hx, hb, hml, hown, hts, hr, hlk, hK⟩ := X
  exact W.vret hx hb hr (fun t ht hW => ⟨⟨c, rfl, (Option.some.inj hf).symm, by rw [ht]; exact hS.1, hS.2.1⟩, hS.2.2.F ht⟩) hS.2.2.2.2 hdg hlk
end MROWS
theorem m_cv {own : String} {idx : Nat} {C : String} {y : MethodName} {bytes : ByteArray} {maxL : Nat} {ret : Option FieldType} {na : Nat} (h1 : Cond.methodLink own idx y ∈ WS) (h2 : Cond.instanceMethod y ∈ WS) (h3 : Cond.selects C y y ∈ WS) (h4 : Cond.initialized C ∈ WS) (h5 : Cond.code y bytes maxL ret ∈ WS) (hd : y.cls = C ∧ y.cls ≠ "java/lang/invoke/MethodHandle" ∧ y.cls ≠ "java/lang/invoke/VarHandle" ∧ (parseMethodDescriptor y.desc).map (fun d => d.parameters.length) = some na) : m_CV own idx C y bytes maxL ret na := by
  refine ⟨fun w hw => ?_, hd⟩
  simp only [wsV, List.mem_append, List.mem_cons, List.not_mem_nil, or_false] at hw
  rcases hw with (rfl | rfl | rfl | rfl) | rfl | hw
  · exact m_goodWS _ h1
  · exact m_goodWS _ h2
  · exact m_goodWS _ h3
  · exact m_goodWS _ h4
  · exact m_goodWS _ h5
  · exact m_goodWS _ hw
theorem m_cs {own : String} {idx : Nat} {y : MethodName} {bytes : ByteArray} {maxL : Nat} {ret : Option FieldType} {na : Nat} (h1 : Cond.methodLink own idx y ∈ WS) (h2 : Cond.static y ∈ WS) (h4 : Cond.initialized y.cls ∈ WS) (h5 : Cond.code y bytes maxL ret ∈ WS) (hd : y.cls ≠ "java/lang/invoke/MethodHandle" ∧ y.cls ≠ "java/lang/invoke/VarHandle" ∧ (parseMethodDescriptor y.desc).map (fun d => d.parameters.length) = some na) : m_CS own idx y bytes maxL ret na := by
  refine ⟨fun w hw => ?_, hd⟩
  simp only [va_wsS, List.mem_append, List.mem_cons, List.not_mem_nil, or_false] at hw
  rcases hw with (rfl | rfl | rfl) | rfl | hw
  · exact m_goodWS _ h1
  · exact m_goodWS _ h2
  · exact m_goodWS _ h4
  · exact m_goodWS _ h5
  · exact m_goodWS _ hw
theorem m_cn {y : MethodName} {bytes : ByteArray} {maxL : Nat} {ret : Option FieldType} {na : Nat} (h5 : Cond.code y bytes maxL ret ∈ WS) (h4 : Cond.initialized y.cls ∈ WS) (h2 : Cond.static y ∈ WS) (hd : y.cls ≠ "java/lang/invoke/MethodHandle" ∧ y.cls ≠ "java/lang/invoke/VarHandle" ∧ (parseMethodDescriptor y.desc).map (fun d => d.parameters.length) = some na) : m_CN y bytes maxL ret na := by
  refine ⟨fun w hw => ?_, h4, h2, hd⟩
  rcases List.mem_cons.mp hw with rfl | hw
  · exact m_goodWS _ h5
  · exact m_goodWS _ hw
abbrev m_RetI (p : Program) (l : Launch) (e : Env) (R : Room) (s : State) (m : MethodId) (args : Array Value) (below : List Frame) (meth : Method) (cd : Code) (Q : State → Prop) (D : va_G) (mk : m_MK) (n : Nat) (q : Nat → Nat) (cc : ByteArray) (Rr : Int32 × Mm) : Prop := ∀ {v : Int32} {c : Mm} {H : Heap} {locs : List Loc} {ls : Array Slot} {pc : Nat}, some (v, c) = some Rr → m_S D mk n q (m_A n q s.heap.size) s.heap c H locs → decode cc pc = .ok (.ireturn, 1) → W p l e R s m args below meth cd H locs 0 0 Q (F0 m pc ls [.int v])
abbrev m_RetZ (p : Program) (l : Launch) (e : Env) (R : Room) (s : State) (m : MethodId) (args : Array Value) (below : List Frame) (meth : Method) (cd : Code) (Q : State → Prop) (D : va_G) (mk : m_MK) (n : Nat) (q : Nat → Nat) (cc : ByteArray) (Rr : Int32 × Mm) : Prop := ∀ {v : Int32} {c : Mm} {H : Heap} {locs : List Loc} {ls : Array Slot} {pc : Nat}, (v = 0 ∨ v = 1) → some (v, c) = some Rr → m_S D mk n q (m_A n q s.heap.size) s.heap c H locs → decode cc pc = .ok (.ireturn, 1) → W p l e R s m args below meth cd H locs 0 0 Q (F0 m pc ls [.int v])
abbrev m_RetV (p : Program) (l : Launch) (e : Env) (R : Room) (s : State) (m : MethodId) (args : Array Value) (below : List Frame) (meth : Method) (cd : Code) (Q : State → Prop) (D : va_G) (mk : m_MK) (n : Nat) (q : Nat → Nat) (cc : ByteArray) (Rr : Mm) : Prop := ∀ {c : Mm} {H : Heap} {locs : List Loc} {ls : Array Slot} {pc : Nat}, some c = some Rr → m_S D mk n q (m_A n q s.heap.size) s.heap c H locs → decode cc pc = .ok (.return_, 1) → W p l e R s m args below meth cd H locs 0 0 Q (F0 m pc ls [])
set_option maxHeartbeats 4000000 in
theorem m_enter_i {l : Launch} {y : MethodName} {own : String} {bytes : ByteArray} {maxL : Nat} {fr lo : Nat} {D : va_G} {cI cZ : ClassId} {mk : m_MK} {n : Nat} {q : Nat → Nat} {av : List Value} {c : Mm} {sz : Nat} {R : Int32 × Mm} (hy : plainName y.cls = true) (ho : y.cls = own) (hle : (lg_sl av).length ≤ maxL)
    (body : ∀ p e s m args below meth cd Q, m_Cx p s m args meth cd own bytes maxL (some .int) D cI cZ → m_RetI p l e (m_rm fr lo) s m args below meth cd Q D mk n q bytes R → m_G p l e (m_rm fr lo) s m args below meth cd Q D mk n q maxL 0 (lv_args 0 av) [] c) : m_Mi l y bytes maxL (some .int) fr lo D cI cZ mk n q av c sz R := by
  refine Met.ofW (cc := bytes) (maxL := maxL) (ret := (some .int)) hy rfl ?_
  intro p e s m args below meth cd s₁ B hml hv
  obtain ⟨ha, rfl, hP, hK, hD⟩ := hv
  have hts := atoms_spec (ws := Cond.code y bytes maxL (some .int) :: WS) B.pre
  have hown : s.vm.findClass own = some m.cls := by rw [← ho]; exact findClass_of_methodNamed B.named
  have hl := lv_entry av (n := maxL) hle
  have he : entryFrame m args maxL = F0 m 0 ((lg_sl av ++ List.replicate (maxL - (lg_sl av).length) Slot.unset).toArray) [] := by rw [ha, lg_entry_eq]
  rw [he]
  have X : m_Cx p s m args meth cd own bytes maxL (some .int) D cI cZ := ⟨B.exec, B.bytes, hml, hown, fun w h => hts w (List.mem_cons_of_mem _ h), B.returns, B.notSynchronized, hK⟩
  exact body p e s m args below meth cd _ X (fun hf hS hd => m_reti X hS hf hd) s.heap [] _ ⟨hP, m_D_self hD, va_S.rf⟩ hl
set_option maxHeartbeats 4000000 in
theorem m_enter_z {l : Launch} {y : MethodName} {own : String} {bytes : ByteArray} {maxL : Nat} {fr lo : Nat} {D : va_G} {cI cZ : ClassId} {mk : m_MK} {n : Nat} {q : Nat → Nat} {av : List Value} {c : Mm} {sz : Nat} {R : Int32 × Mm} (hy : plainName y.cls = true) (ho : y.cls = own) (hle : (lg_sl av).length ≤ maxL)
    (body : ∀ p e s m args below meth cd Q, m_Cx p s m args meth cd own bytes maxL (some .boolean) D cI cZ → m_RetZ p l e (m_rm fr lo) s m args below meth cd Q D mk n q bytes R → m_G p l e (m_rm fr lo) s m args below meth cd Q D mk n q maxL 0 (lv_args 0 av) [] c) : m_Mi l y bytes maxL (some .boolean) fr lo D cI cZ mk n q av c sz R := by
  refine Met.ofW (cc := bytes) (maxL := maxL) (ret := (some .boolean)) hy rfl ?_
  intro p e s m args below meth cd s₁ B hml hv
  obtain ⟨ha, rfl, hP, hK, hD⟩ := hv
  have hts := atoms_spec (ws := Cond.code y bytes maxL (some .boolean) :: WS) B.pre
  have hown : s.vm.findClass own = some m.cls := by rw [← ho]; exact findClass_of_methodNamed B.named
  have hl := lv_entry av (n := maxL) hle
  have he : entryFrame m args maxL = F0 m 0 ((lg_sl av ++ List.replicate (maxL - (lg_sl av).length) Slot.unset).toArray) [] := by rw [ha, lg_entry_eq]
  rw [he]
  have X : m_Cx p s m args meth cd own bytes maxL (some .boolean) D cI cZ := ⟨B.exec, B.bytes, hml, hown, fun w h => hts w (List.mem_cons_of_mem _ h), B.returns, B.notSynchronized, hK⟩
  exact body p e s m args below meth cd _ X (fun hv hf hS hd => m_retz X hS hv hf hd) s.heap [] _ ⟨hP, m_D_self hD, va_S.rf⟩ hl
set_option maxHeartbeats 4000000 in
theorem m_enter_v {l : Launch} {y : MethodName} {own : String} {bytes : ByteArray} {maxL : Nat} {fr lo : Nat} {D : va_G} {cI cZ : ClassId} {mk : m_MK} {n : Nat} {q : Nat → Nat} {av : List Value} {c : Mm} {sz : Nat} {R : Mm} (hy : plainName y.cls = true) (ho : y.cls = own) (hle : (lg_sl av).length ≤ maxL)
    (body : ∀ p e s m args below meth cd Q, m_Cx p s m args meth cd own bytes maxL none D cI cZ → m_RetV p l e (m_rm fr lo) s m args below meth cd Q D mk n q bytes R → m_G p l e (m_rm fr lo) s m args below meth cd Q D mk n q maxL 0 (lv_args 0 av) [] c) : m_Mv l y bytes maxL fr lo D cI cZ mk n q av c sz R := by
  refine Met.ofW (cc := bytes) (maxL := maxL) (ret := none) hy rfl ?_
  intro p e s m args below meth cd s₁ B hml hv
  obtain ⟨ha, rfl, hP, hK, hD⟩ := hv
  have hts := atoms_spec (ws := Cond.code y bytes maxL none :: WS) B.pre
  have hown : s.vm.findClass own = some m.cls := by rw [← ho]; exact findClass_of_methodNamed B.named
  have hl := lv_entry av (n := maxL) hle
  have he : entryFrame m args maxL = F0 m 0 ((lg_sl av ++ List.replicate (maxL - (lg_sl av).length) Slot.unset).toArray) [] := by rw [ha, lg_entry_eq]
  rw [he]
  have X : m_Cx p s m args meth cd own bytes maxL none D cI cZ := ⟨B.exec, B.bytes, hml, hown, fun w h => hts w (List.mem_cons_of_mem _ h), B.returns, B.notSynchronized, hK⟩
  exact body p e s m args below meth cd _ X (fun hf hS hd => m_retv X hS hf hd) s.heap [] _ ⟨hP, m_D_self hD, va_S.rf⟩ hl
