/-! THE CLAIM OUT OF ONE WALK OF THE LAW'S BODY. Your part is whole_start (and what it stands on); all else here is the same for every law, but numbers. -/
def R_law : String := "UnderTheRopeLaw"
def lw_P (b : Addr) (xs : List Int32) (args : Array Value) (s : State) : Prop := args = #[.ref b] ∧ s.IntsAt b xs ∧ xs.length ≤ 2560 ∧ (Jvm.Cond.and given_1 narrow_1).before args s = true
def lw_Q (_ : Array Value) (s : State) (o : Outcome) (t : State) : Prop := o = .returned (some (.int 1)) ∧ Framed s o t [] 79 1839
def lw_Z (below : List Frame) (a : Array Value) (s : State) : State → Prop := fun t => ∃ o, t.status = .running ∧ Ended t below o ∧ lw_Q a s o t
/-- the law's own end, with 1 on the stack, nothing written that was there before, its room as the claim has it -/
theorem lw_ret {p : Program} {l : Launch} {e : Env} {s : State} {m : MethodId} {below : List Frame} {meth : Method} {c : Code} {b : Nat} (hx : p.tables.exec = Jvm.exec) (hb : c.code = code) (hr : meth.sig.returnType = ret) (hlocks : meth.locks = false) {pc : Nat} {H : Heap} {ls : Array Slot} (hdg : decode code pc = .ok (.ireturn, 1)) : W p l e room_1 s m #[Value.ref b] below meth c H [] 79 1839 (lw_Z below #[Value.ref b] s) (F0 m pc ls [.int 1]) := by
  intro T hT X
  obtain ⟨fs, hret, hrun, hended, hW, hframe⟩ := X.leave (v := some (.int 1)) (hlocks := hlocks) (fun h => by rw [hr] at h; cases h)
  have hmeth' : T.vm.method? m = some meth := X.method'
  refine ⟨T.setFrames fs, ?_, .returned (some (.int 1)), hrun, hended, rfl, ⟨_, rfl⟩, hW, hframe⟩
  jvm_step X.here [X.here.top, hx, hb, hdg, hmeth', hr, ret, narrow_b1]
  (try refine ⟨rfl, ?_⟩); (try refine ⟨rfl, ?_⟩)
  first | (intro acts; rw [hret _ acts rfl rfl rfl]) | rw [hret _ _ rfl rfl rfl]
  exact Steps.refl _
/-- what holds at the law's entry: the machine, the code, the tables' words (any of lw_tbl by 'hts w (by decide +kernel)'), the script of L ints xs at the cell b, what the Statement gives of the start (any of its parts by flat_of_before) -/
def lw_At (p : Program) (s : State) (m : MethodId) (meth : Method) (c : Code) (b L : Nat) (xs : Nat → Int32) : Prop :=
  p.tables.exec = Jvm.exec ∧ c.code = code ∧ meth.sig.returnType = ret ∧ c.maxLocals = 4 ∧ s.vm.findClass R_law = some m.cls ∧ (∀ w ∈ lw_tbl, w.before #[Value.ref b] s = true) ∧ va_X b L xs s s.heap ∧ b < s.heap.size ∧ meth.locks = false ∧ (Jvm.Cond.and given_1 narrow_1).before #[Value.ref b] s = true
/-- what the pure level owes: a relation between the two memories that every call keeps, with equal answers -/
def lw_steps (Rel : Mm → Mm → Prop) : Prop := (∀ (v1 : Int32) (c d : Mm), Rel c d → ∃ (r : Int32) (c1 d1 : Mm), X9_write v1 c = some (r, c1) ∧ X10_write v1 d = some (r, d1) ∧ Rel c1 d1) ∧
  (∀ (c d : Mm), Rel c d → ∃ (r : Int32) (c1 d1 : Mm), X9_wipe c = some (r, c1) ∧ X10_wipe d = some (r, d1) ∧ Rel c1 d1) ∧
  (∀ (c d : Mm), Rel c d → ∃ (r : Int32) (c1 d1 : Mm), X9_fault c = some (r, c1) ∧ X10_fault d = some (r, d1) ∧ Rel c1 d1) ∧
  (∀ (c d : Mm), Rel c d → ∃ (r : Int32) (c1 d1 : Mm), X9_lay c = some (r, c1) ∧ X10_lay d = some (r, d1) ∧ Rel c1 d1) ∧
  (∀ (v1 v2 : Int32) (c d : Mm), Rel c d → ∃ (r : Int32) (c1 d1 : Mm), X9_boat v1 v2 c = some (r, c1) ∧ X10_boat v1 v2 d = some (r, d1) ∧ Rel c1 d1) ∧
  (∀ (v1 v2 v3 : Int32) (c d : Mm), Rel c d → ∃ (r : Int32) (c1 d1 : Mm), X9_where v1 v2 v3 c = some (r, c1) ∧ X10_where v1 v2 v3 d = some (r, d1) ∧ Rel c1 d1) ∧
  (∀ (v1 v2 : Int32) (c d : Mm), Rel c d → ∃ (r : Int32) (c1 d1 : Mm), X9_there v1 v2 c = some (r, c1) ∧ X10_there v1 v2 d = some (r, d1) ∧ Rel c1 d1) ∧
  (∀ (v1 v2 : Int32) (c d : Mm), Rel c d → ∃ (r : Int32) (c1 d1 : Mm), X9_stands v1 v2 c = some (r, c1) ∧ X10_stands v1 v2 d = some (r, d1) ∧ Rel c1 d1) ∧
  (∀ (v1 v2 : Int32) (c d : Mm), Rel c d → ∃ (r : Int32) (c1 d1 : Mm), X9_yields v1 v2 c = some (r, c1) ∧ X10_yields v1 v2 d = some (r, d1) ∧ Rel c1 d1) ∧
  (∀ (v1 : Int32) (c d : Mm), Rel c d → ∃ (r : Int32) (c1 d1 : Mm), X9_meetings v1 c = some (r, c1) ∧ X10_meetings v1 d = some (r, d1) ∧ Rel c1 d1) ∧
  (∀ (v1 v2 v3 : Int32) (c d : Mm), Rel c d → ∃ (r : Int32) (c1 d1 : Mm), X9_meeting v1 v2 v3 c = some (r, c1) ∧ X10_meeting v1 v2 v3 d = some (r, d1) ∧ Rel c1 d1) ∧
  (∀ (v1 v2 : Int32) (c d : Mm), Rel c d → ∃ (r : Int32) (c1 d1 : Mm), X9_load v1 v2 c = some (r, c1) ∧ X10_load v1 v2 d = some (r, d1) ∧ Rel c1 d1) ∧
  (∀ (v1 v2 : Int32) (c d : Mm), Rel c d → ∃ (r : Int32) (c1 d1 : Mm), X9_later v1 v2 c = some (r, c1) ∧ X10_later v1 v2 d = some (r, d1) ∧ Rel c1 d1) ∧
  (∀ (c d : Mm), Rel c d → ∃ (r : Int32) (c1 d1 : Mm), X9_undo c = some (r, c1) ∧ X10_undo d = some (r, d1) ∧ Rel c1 d1) ∧
  (∀ (v1 v2 v3 : Int32) (c d : Mm), Rel c d → ∃ (r : Int32) (c1 d1 : Mm), X9_who v1 v2 v3 c = some (r, c1) ∧ X10_who v1 v2 v3 d = some (r, d1) ∧ Rel c1 d1) ∧
  (∀ (v1 : Int32) (c d : Mm), Rel c d → ∃ (r : Int32) (c1 d1 : Mm), X9_best v1 c = some (r, c1) ∧ X10_best v1 d = some (r, d1) ∧ Rel c1 d1) ∧
  (∀ (c d : Mm), Rel c d → ∃ (r : Int32) (c1 d1 : Mm), X9_custom c = some (r, c1) ∧ X10_custom d = some (r, d1) ∧ Rel c1 d1) ∧
  (∀ (v1 v2 v3 : Int32) (c d : Mm), Rel c d → ∃ (r : Int32) (c1 d1 : Mm), X9_send v1 v2 v3 c = some (r, c1) ∧ X10_send v1 v2 v3 d = some (r, d1) ∧ Rel c1 d1) ∧
  (∀ (v1 v2 : Int32) (c d : Mm), Rel c d → ∃ (r : Int32) (c1 d1 : Mm), X9_swap v1 v2 c = some (r, c1) ∧ X10_swap v1 v2 d = some (r, d1) ∧ Rel c1 d1) ∧
  (∀ (v1 v2 v3 : Int32) (c d : Mm), Rel c d → ∃ (r : Int32) (c1 d1 : Mm), X9_fall v1 v2 v3 c = some (r, c1) ∧ X10_fall v1 v2 v3 d = some (r, d1) ∧ Rel c1 d1) ∧
  (∀ (v1 v2 v3 v4 : Int32) (c d : Mm), Rel c d → ∃ (r : Int32) (c1 d1 : Mm), X9_caught v1 v2 v3 v4 c = some (r, c1) ∧ X10_caught v1 v2 v3 v4 d = some (r, d1) ∧ Rel c1 d1) ∧
  (∀ (v1 v2 v3 : Int32) (c d : Mm), Rel c d → ∃ (r : Int32) (c1 d1 : Mm), X9_rests v1 v2 v3 c = some (r, c1) ∧ X10_rests v1 v2 v3 d = some (r, d1) ∧ Rel c1 d1) ∧
  (∀ (v1 v2 : Int32) (c d : Mm), Rel c d → ∃ (r : Int32) (c1 d1 : Mm), X9_seen v1 v2 c = some (r, c1) ∧ X10_seen v1 v2 d = some (r, d1) ∧ Rel c1 d1) ∧
  (∀ (c d : Mm), Rel c d → ∃ (r : Int32) (c1 d1 : Mm), X9_forget c = some (r, c1) ∧ X10_forget d = some (r, d1) ∧ Rel c1 d1) ∧
  (∀ (c d : Mm), Rel c d → ∃ (r : Int32) (c1 d1 : Mm), X9_fits c = some (r, c1) ∧ X10_fits d = some (r, d1) ∧ Rel c1 d1) ∧
  (∀ (v1 v2 : Int32) (c d : Mm), Rel c d → ∃ (r : Int32) (c1 d1 : Mm), X9_starts v1 v2 c = some (r, c1) ∧ X10_starts v1 v2 d = some (r, d1) ∧ Rel c1 d1) ∧
  (∀ (v1 v2 : Int32) (c d : Mm), Rel c d → ∃ (r : Int32) (c1 d1 : Mm), X9_bears v1 v2 c = some (r, c1) ∧ X10_bears v1 v2 d = some (r, d1) ∧ Rel c1 d1) ∧
  (∀ (v1 v2 v3 : Int32) (c d : Mm), Rel c d → ∃ (r : Int32) (c1 d1 : Mm), X9_day v1 v2 v3 c = some (r, c1) ∧ X10_day v1 v2 v3 d = some (r, d1) ∧ Rel c1 d1) ∧
  (∀ (c d : Mm), Rel c d → ∃ (r : Int32) (c1 d1 : Mm), X9_keep c = some (r, c1) ∧ X10_keep d = some (r, d1) ∧ Rel c1 d1) ∧
  (∀ (c d : Mm), Rel c d → ∃ (r : Int32) (c1 d1 : Mm), X9_back c = some (r, c1) ∧ X10_back d = some (r, d1) ∧ Rel c1 d1) ∧
  (∀ (v1 : Int32) (c d : Mm), Rel c d → ∃ (r : Int32) (c1 d1 : Mm), X9_count v1 c = some (r, c1) ∧ X10_count v1 d = some (r, d1) ∧ Rel c1 d1)
theorem m_wA {mk : m_MK} {n : Nat} {q : Nat → Nat} {c : Mm} {sz a : Nat} : va_A (m_wO mk n q c) sz a ↔ m_A n q sz a := by
  constructor
  · rintro (⟨k, e2, h⟩ | h)
    · obtain ⟨h1, h2⟩ := m_wO_inv h
      cases h2
      exact Or.inl ⟨k, h1, rfl⟩
    · exact Or.inr h
  · rintro (⟨j, hj, rfl⟩ | h)
    · exact Or.inl ⟨j, _, m_wO_get hj⟩
    · exact Or.inr h
theorem m_swapP {D : va_G} {cl : List vw_C} {a b : va_W} {H : Heap} (h : va_P D cl (a ++ b) H) : va_P D cl (b ++ a) H := va_P.app (m_right h) (m_left h)
theorem m_swapD {A : Nat → Prop} {a b : va_W} (h : va_D A (a ++ b)) : va_D A (b ++ a) := va_D.app (m_rightD h) (m_leftD h) (fun i j x y hx hy hxy => by
  have h1 := h.1 j (a.length + i) y x (by rw [List.getElem?_append_left (List.getElem?_eq_some_iff.mp hy).1]; exact hy) (by rw [List.getElem?_append_right (by omega), Nat.add_sub_cancel_left]; exact hx) hxy.symm
  have h2 := (List.getElem?_eq_some_iff.mp hy).1
  omega)
section ML
variable {p : Program} {l : Launch} {e : Env} {R : Room} {s : State} {m : MethodId} {args : Array Value} {below : List Frame} {meth : Method} {cd : Code} {H : Heap} {locs : List Loc} {cells slots : Nat} {Q : State → Prop}
variable {own : String} {cc : ByteArray} {nL : Nat} {ret : Option FieldType} {D : va_G} {cI cZ : ClassId} {A : Nat → Prop} {pc : Nat} {ls : Array Slot} {rest : List Value} {mk : m_MK} {n : Nat} {q : Nat → Nat} {c c1 : Mm} {wr : va_W}
set_option maxHeartbeats 4000000 in
theorem m_lcallR {idx maxL fr lo na : Nat} {C : String} {y : MethodName} {bytes : ByteArray} {rt : Option FieldType} {As : List Value} {r1 : Int32} {stk : List Value} (X : m_Cx p s m args meth cd own cc nL ret D cI cZ) (hP : va_P D vwCl (wr ++ m_wO mk n q c) H) (hD : va_D A (wr ++ m_wO mk n q c)) (hS : va_S A s.heap H locs) (hA : ∀ q, s.heap.size ≤ q → A q) (hl : ls.size = nL)
    (hM : m_Mi l y bytes maxL rt fr lo D cI cZ mk n q (.ref (q 0) :: As) c H.size (r1, c1)) (cw : m_CV own idx C y bytes maxL rt na) (V : m_O mk n 0 (c 0) C) (hst : stk = As.reverse ++ .ref (q 0) :: rest) (hn : As.length = na) (hR : fr + 1 ≤ R.frames ∧ 8 + (maxL + 11) + lo ≤ R.locals) (hcs : cells ≤ R.cells ∧ slots ≤ R.slots) (hw : (rest.map fun v => v.category).sum ≤ 8) (hdg : decode cc pc = .ok (.invokevirtual idx, 3))
    (kk : ∀ (H : Heap) (locs : List Loc), va_P D vwCl (wr ++ m_wO mk n q c1) H → va_D A (wr ++ m_wO mk n q c1) → va_S A s.heap H locs → W p l e R s m args below meth cd H locs cells slots Q (F0 m (pc + 3) ls (.int r1 :: rest))) : W p l e R s m args below meth cd H locs cells slots Q (F0 m pc ls stk) := by
  obtain ⟨hx, hb, hml, hown, hts, hr, hlk, hK⟩ := X
  subst hst
  have hF := m_freeR hD hS hA
  have hF1 : ∀ a, m_A n q H.size a → A a := fun a h => hF a (m_wA.mpr h)
  have hrec : ∃ cell : Cell, H[q 0]? = some cell ∧ cell.vm.isStatics = false ∧ s.vm.findClass C = some cell.cls := by
    obtain ⟨hj, ci, fs, w, he, hc, rfl⟩ := V
    exact va_recv hK.1 (m_right hP) hc (q0 := 0) (by rw [m_wO_get hj, he])
  refine va_calli (va_runV (As := As) (rest := rest) (b := q 0) ⟨hx, hb, hml, hown, hts⟩ hM (cwV na hts cw.1 rfl rfl rfl cw.2 hR) ⟨m_blind, hrec, fun U hU hW => ⟨rfl, by rw [hU], by rw [hU]; exact m_right hP, m_K.warm hW hK, (m_rightD hD).weaken (fun _ _ _ _ => trivial)⟩⟩ rfl hn hl rfl (lv_room hw) hdg hcs) hS (fun x _ h => hF1 x h) hF1 (fun r u t H1 locs1 ht hvm hw hB hz1 hk1 hS1 => ?_)
  cases hw
  have hP1 : va_P D vwCl (m_wO mk n q c1) H1 := by rw [← ht]; exact hB.1
  obtain ⟨g1, g2⟩ := m_join hP hD (fun a h1 h2 => hk1 a h1 (fun z => h2 (m_wA.mpr z))) hF hP1 (hB.2.weaken (fun _ _ _ h => m_wA.mpr h))
  exact kk H1 locs1 g1 g2 hS1
set_option maxHeartbeats 4000000 in
theorem m_lcallL {idx maxL fr lo na : Nat} {C : String} {y : MethodName} {bytes : ByteArray} {rt : Option FieldType} {As : List Value} {r1 : Int32} {stk : List Value} (X : m_Cx p s m args meth cd own cc nL ret D cI cZ) (hP : va_P D vwCl (m_wO mk n q c ++ wr) H) (hD : va_D A (m_wO mk n q c ++ wr)) (hS : va_S A s.heap H locs) (hA : ∀ q, s.heap.size ≤ q → A q) (hl : ls.size = nL)
    (hM : m_Mi l y bytes maxL rt fr lo D cI cZ mk n q (.ref (q 0) :: As) c H.size (r1, c1)) (cw : m_CV own idx C y bytes maxL rt na) (V : m_O mk n 0 (c 0) C) (hst : stk = As.reverse ++ .ref (q 0) :: rest) (hn : As.length = na) (hR : fr + 1 ≤ R.frames ∧ 8 + (maxL + 11) + lo ≤ R.locals) (hcs : cells ≤ R.cells ∧ slots ≤ R.slots) (hw : (rest.map fun v => v.category).sum ≤ 8) (hdg : decode cc pc = .ok (.invokevirtual idx, 3))
    (kk : ∀ (H : Heap) (locs : List Loc), va_P D vwCl (m_wO mk n q c1 ++ wr) H → va_D A (m_wO mk n q c1 ++ wr) → va_S A s.heap H locs → W p l e R s m args below meth cd H locs cells slots Q (F0 m (pc + 3) ls (.int r1 :: rest))) : W p l e R s m args below meth cd H locs cells slots Q (F0 m pc ls stk) :=
  m_lcallR X (m_swapP hP) (m_swapD hD) hS hA hl hM cw V hst hn hR hcs hw hdg (fun H locs h1 h2 h3 => kk H locs (m_swapP h1) (m_swapD h2) h3)
set_option maxHeartbeats 4000000 in
theorem m_lctor {idx maxL fr ce sl lo b : Nat} {y : MethodName} {bytes : ByteArray} {E : State → Prop} {mkk : (Nat → Nat) → m_MK} {x : va_E} {Rr : Mm} {stk : List Value} (X : m_Cx p s m args meth cd own cc nL ret D cI cZ) (hP : va_P D vwCl (wr ++ [(b, x)]) H) (hD : va_D A (wr ++ [(b, x)])) (hS : va_S A s.heap H locs) (hA : ∀ q, s.heap.size ≤ q → A q) (hl : ls.size = nL) (hE : ∀ U : State, U.heap = H → s.WarmedH U.vm → E U) (hEb : ∀ (U : State) (g : JFrame) (mk : MethodId) (a : Array Value), E U → E (U.calling g mk a))
    (hM : m_Mw l y bytes maxL fr ce sl lo D cI cZ E mkk n b x H.size Rr) (cw : m_CI own idx y bytes maxL 0) (hst : stk = .ref b :: rest) (hR : fr + 1 ≤ R.frames ∧ 8 + (maxL + 11) + lo ≤ R.locals) (hcs : cells + ce ≤ R.cells ∧ slots + sl ≤ R.slots) (hw : (rest.map fun v => v.category).sum ≤ 8) (hdg : decode cc pc = .ok (.invokespecial idx, 3))
    (kk : ∀ (q : Nat → Nat) (H : Heap) (locs : List Loc), q 0 = b → va_P D vwCl (wr ++ m_wO (mkk q) n q Rr) H → va_D A (wr ++ m_wO (mkk q) n q Rr) → va_S A s.heap H locs → W p l e R s m args below meth cd H locs (cells + ce) (slots + sl) Q (F0 m (pc + 3) ls rest)) : W p l e R s m args below meth cd H locs cells slots Q (F0 m pc ls stk) := by
  obtain ⟨hx, hb, hml, hown, hts, hr, hlk, hK⟩ := X
  subst hst
  have hF := m_freeR hD hS hA
  have hbl : FrameBlind (m_Pw D cI cZ E b [(b, x)] H.size) := by
    intro a U g mk z
    obtain ⟨q0, q1, qP, qK, qD, qE⟩ := z
    exact ⟨q0, q1, qP, m_K.same (s := U) rfl qK, qD, hEb U g mk a qE⟩
  refine va_callv (va_runI (As := []) (rest := rest) (b := b) ⟨hx, hb, hml, hown, hts⟩ hM (cwI 0 hts cw.1 rfl rfl rfl (hts _ cw.2.1) (hts _ cw.2.2.1) (hts _ cw.2.2.2.1) cw.2.2.2.2.1 cw.2.2.2.2.2 hR) ⟨hbl, fun U hU hW => ⟨rfl, by rw [hU], by rw [hU]; exact m_right hP, m_K.warm hW hK, (m_rightD hD).weaken (fun _ _ _ _ => trivial), hE U hU hW⟩⟩ rfl rfl hl rfl (lv_room hw) hdg hcs) hS (fun q _ h => hF q h) hF (fun f t H1 locs1 ht hvm hw hB hz1 hk1 hS1 => ?_)
  have hP1 : va_P D vwCl (m_wO (mkk f) n f Rr) H1 := by rw [← ht]; exact hB.1
  obtain ⟨g1, g2⟩ := m_join hP hD hk1 hF hP1 hB.2
  exact kk f H1 locs1 hw g1 g2 hS1
end ML
theorem lw_ix {i L k : Nat} (h : i + 5 ≤ L) (hL : L ≤ 2560) (hk : k < 5) : vp_in (nI i + nI k) L := by
  rw [nI_add]
  exact vp_in_nI (by omega) (by omega)
theorem lw_ix0 {i L : Nat} (h : i + 5 ≤ L) (hL : L ≤ 2560) : vp_in (nI i) L := vp_in_nI (by omega) (by omega)
theorem lw_end {i L : Nat} (hi : i ≤ L) (hL : L ≤ 2560) (h : ¬ (nI L - 5 < nI i)) : i + 5 ≤ L := by
  rcases Nat.lt_or_ge L (i + 5) with h2 | h2
  · refine absurd ?_ h
    rw [Int32.lt_iff_toInt_lt, show (5 : Int32) = nI 5 from rfl, pk_sub_toInt (by omega) (by omega), nI_toInt (by omega)]
    omega
  · exact h2
theorem cvL_13 : m_CV RL 13 RX9 yX9_write cX9_write 2 (some .int) 1 := m_cv (m_t2 217 rfl rfl) (m_t2 218 rfl rfl) (m_t2 219 rfl rfl) (m_t1 1 rfl rfl) (m_t2 220 rfl rfl) (by decide +kernel)
theorem cvL_17 : m_CV RL 17 RX10 yX10_write cX10_write 2 (some .int) 1 := m_cv (m_t4 130 rfl rfl) (m_t4 131 rfl rfl) (m_t4 132 rfl rfl) (m_t1 16 rfl rfl) (m_t4 133 rfl rfl) (by decide +kernel)
theorem cvL_18 : m_CV RL 18 RX9 yX9_wipe cX9_wipe 1 (some .int) 0 := m_cv (m_t2 222 rfl rfl) (m_t2 223 rfl rfl) (m_t2 224 rfl rfl) (m_t1 1 rfl rfl) (m_t2 225 rfl rfl) (by decide +kernel)
theorem cvL_22 : m_CV RL 22 RX10 yX10_wipe cX10_wipe 2 (some .int) 0 := m_cv (m_t4 139 rfl rfl) (m_t4 140 rfl rfl) (m_t4 141 rfl rfl) (m_t1 16 rfl rfl) (m_t4 142 rfl rfl) (by decide +kernel)
theorem cvL_23 : m_CV RL 23 RX9 yX9_fault cX9_fault 1 (some .int) 0 := m_cv (m_t2 226 rfl rfl) (m_t2 227 rfl rfl) (m_t2 228 rfl rfl) (m_t1 1 rfl rfl) (m_t2 229 rfl rfl) (by decide +kernel)
theorem cvL_26 : m_CV RL 26 RX10 yX10_fault cX10_fault 1 (some .int) 0 := m_cv (m_t4 143 rfl rfl) (m_t4 144 rfl rfl) (m_t4 145 rfl rfl) (m_t1 16 rfl rfl) (m_t4 146 rfl rfl) (by decide +kernel)
theorem cvL_27 : m_CV RL 27 RX9 yX9_lay cX9_lay 1 (some .int) 0 := m_cv (m_t2 230 rfl rfl) (m_t2 231 rfl rfl) (m_t2 232 rfl rfl) (m_t1 1 rfl rfl) (m_t2 233 rfl rfl) (by decide +kernel)
theorem cvL_30 : m_CV RL 30 RX10 yX10_lay cX10_lay 2 (some .int) 0 := m_cv (m_t4 179 rfl rfl) (m_t4 180 rfl rfl) (m_t4 181 rfl rfl) (m_t1 16 rfl rfl) (m_t4 182 rfl rfl) (by decide +kernel)
theorem cvL_31 : m_CV RL 31 RX9 yX9_boat cX9_boat 3 (some .int) 2 := m_cv (m_t2 234 rfl rfl) (m_t2 235 rfl rfl) (m_t2 236 rfl rfl) (m_t1 1 rfl rfl) (m_t2 237 rfl rfl) (by decide +kernel)
theorem cvL_35 : m_CV RL 35 RX10 yX10_boat cX10_boat 3 (some .int) 2 := m_cv (m_t4 183 rfl rfl) (m_t4 184 rfl rfl) (m_t4 185 rfl rfl) (m_t1 16 rfl rfl) (m_t4 186 rfl rfl) (by decide +kernel)
theorem cvL_36 : m_CV RL 36 RX9 yX9_where cX9_where 4 (some .int) 3 := m_cv (m_t3 2 rfl rfl) (m_t3 3 rfl rfl) (m_t3 4 rfl rfl) (m_t1 1 rfl rfl) (m_t3 5 rfl rfl) (by decide +kernel)
theorem cvL_40 : m_CV RL 40 RX10 yX10_where cX10_where 4 (some .int) 3 := m_cv (m_t4 192 rfl rfl) (m_t4 193 rfl rfl) (m_t4 194 rfl rfl) (m_t1 16 rfl rfl) (m_t4 195 rfl rfl) (by decide +kernel)
theorem cvL_41 : m_CV RL 41 RX9 yX9_there cX9_there 3 (some .int) 2 := m_cv (m_t3 72 rfl rfl) (m_t3 73 rfl rfl) (m_t3 74 rfl rfl) (m_t1 1 rfl rfl) (m_t3 75 rfl rfl) (by decide +kernel)
theorem cvL_44 : m_CV RL 44 RX10 yX10_there cX10_there 3 (some .int) 2 := m_cv (m_t5 8 rfl rfl) (m_t5 9 rfl rfl) (m_t5 10 rfl rfl) (m_t1 16 rfl rfl) (m_t5 11 rfl rfl) (by decide +kernel)
theorem cvL_45 : m_CV RL 45 RX9 yX9_stands cX9_stands 4 (some .int) 2 := m_cv (m_t3 76 rfl rfl) (m_t3 77 rfl rfl) (m_t3 78 rfl rfl) (m_t1 1 rfl rfl) (m_t3 79 rfl rfl) (by decide +kernel)
theorem cvL_48 : m_CV RL 48 RX10 yX10_stands cX10_stands 4 (some .int) 2 := m_cv (m_t5 12 rfl rfl) (m_t5 13 rfl rfl) (m_t5 14 rfl rfl) (m_t1 16 rfl rfl) (m_t5 15 rfl rfl) (by decide +kernel)
theorem cvL_49 : m_CV RL 49 RX9 yX9_yields cX9_yields 3 (some .int) 2 := m_cv (m_t3 80 rfl rfl) (m_t3 81 rfl rfl) (m_t3 82 rfl rfl) (m_t1 1 rfl rfl) (m_t3 83 rfl rfl) (by decide +kernel)
theorem cvL_52 : m_CV RL 52 RX10 yX10_yields cX10_yields 3 (some .int) 2 := m_cv (m_t5 16 rfl rfl) (m_t5 17 rfl rfl) (m_t5 18 rfl rfl) (m_t1 16 rfl rfl) (m_t5 19 rfl rfl) (by decide +kernel)
theorem cvL_53 : m_CV RL 53 RX9 yX9_meetings cX9_meetings 2 (some .int) 1 := m_cv (m_t3 84 rfl rfl) (m_t3 85 rfl rfl) (m_t3 86 rfl rfl) (m_t1 1 rfl rfl) (m_t3 87 rfl rfl) (by decide +kernel)
theorem cvL_56 : m_CV RL 56 RX10 yX10_meetings cX10_meetings 2 (some .int) 1 := m_cv (m_t5 20 rfl rfl) (m_t5 21 rfl rfl) (m_t5 22 rfl rfl) (m_t1 16 rfl rfl) (m_t5 23 rfl rfl) (by decide +kernel)
theorem cvL_57 : m_CV RL 57 RX9 yX9_meeting cX9_meeting 4 (some .int) 3 := m_cv (m_t3 88 rfl rfl) (m_t3 89 rfl rfl) (m_t3 90 rfl rfl) (m_t1 1 rfl rfl) (m_t3 91 rfl rfl) (by decide +kernel)
theorem cvL_60 : m_CV RL 60 RX10 yX10_meeting cX10_meeting 4 (some .int) 3 := m_cv (m_t5 24 rfl rfl) (m_t5 25 rfl rfl) (m_t5 26 rfl rfl) (m_t1 16 rfl rfl) (m_t5 27 rfl rfl) (by decide +kernel)
theorem cvL_61 : m_CV RL 61 RX9 yX9_load cX9_load 4 (some .int) 2 := m_cv (m_t3 92 rfl rfl) (m_t3 93 rfl rfl) (m_t3 94 rfl rfl) (m_t1 1 rfl rfl) (m_t3 95 rfl rfl) (by decide +kernel)
theorem cvL_64 : m_CV RL 64 RX10 yX10_load cX10_load 4 (some .int) 2 := m_cv (m_t5 28 rfl rfl) (m_t5 29 rfl rfl) (m_t5 30 rfl rfl) (m_t1 16 rfl rfl) (m_t5 31 rfl rfl) (by decide +kernel)
theorem cvL_65 : m_CV RL 65 RX9 yX9_later cX9_later 4 (some .int) 2 := m_cv (m_t3 104 rfl rfl) (m_t3 105 rfl rfl) (m_t3 106 rfl rfl) (m_t1 1 rfl rfl) (m_t3 107 rfl rfl) (by decide +kernel)
theorem cvL_68 : m_CV RL 68 RX10 yX10_later cX10_later 4 (some .int) 2 := m_cv (m_t5 37 rfl rfl) (m_t5 38 rfl rfl) (m_t5 39 rfl rfl) (m_t1 16 rfl rfl) (m_t5 40 rfl rfl) (by decide +kernel)
theorem cvL_69 : m_CV RL 69 RX9 yX9_undo cX9_undo 1 (some .int) 0 := m_cv (m_t3 108 rfl rfl) (m_t3 109 rfl rfl) (m_t3 110 rfl rfl) (m_t1 1 rfl rfl) (m_t3 111 rfl rfl) (by decide +kernel)
theorem cvL_72 : m_CV RL 72 RX10 yX10_undo cX10_undo 2 (some .int) 0 := m_cv (m_t5 42 rfl rfl) (m_t5 43 rfl rfl) (m_t5 44 rfl rfl) (m_t1 16 rfl rfl) (m_t5 45 rfl rfl) (by decide +kernel)
theorem cvL_73 : m_CV RL 73 RX9 yX9_who cX9_who 4 (some .int) 3 := m_cv (m_t3 116 rfl rfl) (m_t3 117 rfl rfl) (m_t3 118 rfl rfl) (m_t1 1 rfl rfl) (m_t3 119 rfl rfl) (by decide +kernel)
theorem cvL_76 : m_CV RL 76 RX10 yX10_who cX10_who 4 (some .int) 3 := m_cv (m_t5 46 rfl rfl) (m_t5 47 rfl rfl) (m_t5 48 rfl rfl) (m_t1 16 rfl rfl) (m_t5 49 rfl rfl) (by decide +kernel)
theorem cvL_77 : m_CV RL 77 RX9 yX9_best cX9_best 3 (some .int) 1 := m_cv (m_t3 125 rfl rfl) (m_t3 126 rfl rfl) (m_t3 127 rfl rfl) (m_t1 1 rfl rfl) (m_t3 128 rfl rfl) (by decide +kernel)
theorem cvL_80 : m_CV RL 80 RX10 yX10_best cX10_best 6 (some .int) 1 := m_cv (m_t5 54 rfl rfl) (m_t5 55 rfl rfl) (m_t5 56 rfl rfl) (m_t1 16 rfl rfl) (m_t5 57 rfl rfl) (by decide +kernel)
theorem cvL_81 : m_CV RL 81 RX9 yX9_custom cX9_custom 2 (some .int) 0 := m_cv (m_t3 133 rfl rfl) (m_t3 134 rfl rfl) (m_t3 135 rfl rfl) (m_t1 1 rfl rfl) (m_t3 136 rfl rfl) (by decide +kernel)
theorem cvL_84 : m_CV RL 84 RX10 yX10_custom cX10_custom 1 (some .int) 0 := m_cv (m_t5 58 rfl rfl) (m_t5 59 rfl rfl) (m_t5 60 rfl rfl) (m_t1 16 rfl rfl) (m_t5 61 rfl rfl) (by decide +kernel)
theorem cvL_85 : m_CV RL 85 RX9 yX9_send cX9_send 8 (some .int) 3 := m_cv (m_t3 137 rfl rfl) (m_t3 138 rfl rfl) (m_t3 139 rfl rfl) (m_t1 1 rfl rfl) (m_t3 140 rfl rfl) (by decide +kernel)
theorem cvL_88 : m_CV RL 88 RX10 yX10_send cX10_send 9 (some .int) 3 := m_cv (m_t5 63 rfl rfl) (m_t5 64 rfl rfl) (m_t5 65 rfl rfl) (m_t1 16 rfl rfl) (m_t5 66 rfl rfl) (by decide +kernel)
theorem cvL_89 : m_CV RL 89 RX9 yX9_swap cX9_swap 8 (some .int) 2 := m_cv (m_t3 146 rfl rfl) (m_t3 147 rfl rfl) (m_t3 148 rfl rfl) (m_t1 1 rfl rfl) (m_t3 149 rfl rfl) (by decide +kernel)
theorem cvL_92 : m_CV RL 92 RX10 yX10_swap cX10_swap 8 (some .int) 2 := m_cv (m_t5 67 rfl rfl) (m_t5 68 rfl rfl) (m_t5 69 rfl rfl) (m_t1 16 rfl rfl) (m_t5 70 rfl rfl) (by decide +kernel)
theorem cvL_93 : m_CV RL 93 RX9 yX9_fall cX9_fall 5 (some .int) 3 := m_cv (m_t3 154 rfl rfl) (m_t3 155 rfl rfl) (m_t3 156 rfl rfl) (m_t1 1 rfl rfl) (m_t3 157 rfl rfl) (by decide +kernel)
theorem cvL_96 : m_CV RL 96 RX10 yX10_fall cX10_fall 4 (some .int) 3 := m_cv (m_t5 75 rfl rfl) (m_t5 76 rfl rfl) (m_t5 77 rfl rfl) (m_t1 16 rfl rfl) (m_t5 78 rfl rfl) (by decide +kernel)
theorem cvL_97 : m_CV RL 97 RX9 yX9_caught cX9_caught 8 (some .int) 4 := m_cv (m_t3 163 rfl rfl) (m_t3 164 rfl rfl) (m_t3 165 rfl rfl) (m_t1 1 rfl rfl) (m_t3 166 rfl rfl) (by decide +kernel)
theorem cvL_101 : m_CV RL 101 RX10 yX10_caught cX10_caught 11 (some .int) 4 := m_cv (m_t5 83 rfl rfl) (m_t5 84 rfl rfl) (m_t5 85 rfl rfl) (m_t1 16 rfl rfl) (m_t5 86 rfl rfl) (by decide +kernel)
theorem cvL_102 : m_CV RL 102 RX9 yX9_rests cX9_rests 7 (some .int) 3 := m_cv (m_t3 177 rfl rfl) (m_t3 178 rfl rfl) (m_t3 179 rfl rfl) (m_t1 1 rfl rfl) (m_t3 180 rfl rfl) (by decide +kernel)
theorem cvL_105 : m_CV RL 105 RX10 yX10_rests cX10_rests 10 (some .int) 3 := m_cv (m_t5 92 rfl rfl) (m_t5 93 rfl rfl) (m_t5 94 rfl rfl) (m_t1 16 rfl rfl) (m_t5 95 rfl rfl) (by decide +kernel)
theorem cvL_106 : m_CV RL 106 RX9 yX9_seen cX9_seen 3 (some .int) 2 := m_cv (m_t3 189 rfl rfl) (m_t3 190 rfl rfl) (m_t3 191 rfl rfl) (m_t1 1 rfl rfl) (m_t3 192 rfl rfl) (by decide +kernel)
theorem cvL_109 : m_CV RL 109 RX10 yX10_seen cX10_seen 3 (some .int) 2 := m_cv (m_t5 100 rfl rfl) (m_t5 101 rfl rfl) (m_t5 102 rfl rfl) (m_t1 16 rfl rfl) (m_t5 103 rfl rfl) (by decide +kernel)
theorem cvL_110 : m_CV RL 110 RX9 yX9_forget cX9_forget 1 (some .int) 0 := m_cv (m_t3 197 rfl rfl) (m_t3 198 rfl rfl) (m_t3 199 rfl rfl) (m_t1 1 rfl rfl) (m_t3 200 rfl rfl) (by decide +kernel)
theorem cvL_113 : m_CV RL 113 RX10 yX10_forget cX10_forget 2 (some .int) 0 := m_cv (m_t5 104 rfl rfl) (m_t5 105 rfl rfl) (m_t5 106 rfl rfl) (m_t1 16 rfl rfl) (m_t5 107 rfl rfl) (by decide +kernel)
theorem cvL_114 : m_CV RL 114 RX9 yX9_fits cX9_fits 3 (some .int) 0 := m_cv (m_t3 201 rfl rfl) (m_t3 202 rfl rfl) (m_t3 203 rfl rfl) (m_t1 1 rfl rfl) (m_t3 204 rfl rfl) (by decide +kernel)
theorem cvL_117 : m_CV RL 117 RX10 yX10_fits cX10_fits 5 (some .int) 0 := m_cv (m_t5 108 rfl rfl) (m_t5 109 rfl rfl) (m_t5 110 rfl rfl) (m_t1 16 rfl rfl) (m_t5 111 rfl rfl) (by decide +kernel)
theorem cvL_118 : m_CV RL 118 RX9 yX9_starts cX9_starts 3 (some .int) 2 := m_cv (m_t3 209 rfl rfl) (m_t3 210 rfl rfl) (m_t3 211 rfl rfl) (m_t1 1 rfl rfl) (m_t3 212 rfl rfl) (by decide +kernel)
theorem cvL_121 : m_CV RL 121 RX10 yX10_starts cX10_starts 3 (some .int) 2 := m_cv (m_t5 112 rfl rfl) (m_t5 113 rfl rfl) (m_t5 114 rfl rfl) (m_t1 16 rfl rfl) (m_t5 115 rfl rfl) (by decide +kernel)
theorem cvL_122 : m_CV RL 122 RX9 yX9_bears cX9_bears 5 (some .int) 2 := m_cv (m_t3 213 rfl rfl) (m_t3 214 rfl rfl) (m_t3 215 rfl rfl) (m_t1 1 rfl rfl) (m_t3 216 rfl rfl) (by decide +kernel)
theorem cvL_125 : m_CV RL 125 RX10 yX10_bears cX10_bears 5 (some .int) 2 := m_cv (m_t5 116 rfl rfl) (m_t5 117 rfl rfl) (m_t5 118 rfl rfl) (m_t1 16 rfl rfl) (m_t5 119 rfl rfl) (by decide +kernel)
theorem cvL_126 : m_CV RL 126 RX9 yX9_day cX9_day 5 (some .int) 3 := m_cv (m_t3 217 rfl rfl) (m_t3 218 rfl rfl) (m_t3 219 rfl rfl) (m_t1 1 rfl rfl) (m_t3 220 rfl rfl) (by decide +kernel)
theorem cvL_129 : m_CV RL 129 RX10 yX10_day cX10_day 8 (some .int) 3 := m_cv (m_t5 120 rfl rfl) (m_t5 121 rfl rfl) (m_t5 122 rfl rfl) (m_t1 16 rfl rfl) (m_t5 123 rfl rfl) (by decide +kernel)
theorem cvL_130 : m_CV RL 130 RX9 yX9_keep cX9_keep 1 (some .int) 0 := m_cv (m_t3 228 rfl rfl) (m_t3 229 rfl rfl) (m_t3 230 rfl rfl) (m_t1 1 rfl rfl) (m_t3 231 rfl rfl) (by decide +kernel)
theorem cvL_133 : m_CV RL 133 RX10 yX10_keep cX10_keep 2 (some .int) 0 := m_cv (m_t5 128 rfl rfl) (m_t5 129 rfl rfl) (m_t5 130 rfl rfl) (m_t1 16 rfl rfl) (m_t5 131 rfl rfl) (by decide +kernel)
theorem cvL_134 : m_CV RL 134 RX9 yX9_back cX9_back 1 (some .int) 0 := m_cv (m_t3 237 rfl rfl) (m_t3 238 rfl rfl) (m_t3 239 rfl rfl) (m_t1 1 rfl rfl) (m_t4 0 rfl rfl) (by decide +kernel)
theorem cvL_137 : m_CV RL 137 RX10 yX10_back cX10_back 2 (some .int) 0 := m_cv (m_t5 132 rfl rfl) (m_t5 133 rfl rfl) (m_t5 134 rfl rfl) (m_t1 16 rfl rfl) (m_t5 135 rfl rfl) (by decide +kernel)
theorem cvL_138 : m_CV RL 138 RX9 yX9_count cX9_count 2 (some .int) 1 := m_cv (m_t4 5 rfl rfl) (m_t4 6 rfl rfl) (m_t4 7 rfl rfl) (m_t1 1 rfl rfl) (m_t4 8 rfl rfl) (by decide +kernel)
theorem cvL_141 : m_CV RL 141 RX10 yX10_count cX10_count 2 (some .int) 1 := m_cv (m_t5 136 rfl rfl) (m_t5 137 rfl rfl) (m_t5 138 rfl rfl) (m_t1 16 rfl rfl) (m_t5 139 rfl rfl) (by decide +kernel)
theorem fn_L_7 : m_FN RL 7 9 11 [.null, .null, .null, .null, .null, .null, .null, .null, .null, .null, .null] := ⟨RX9, TX9, tyX9, rfl, inX9, tyX9_ok, (m_t1 18 rfl rfl), (m_t1 19 rfl rfl), (m_t1 1 rfl rfl), fun j hj => match j, hj with | 0, _ => rfl | 1, _ => rfl | 2, _ => rfl | 3, _ => rfl | 4, _ => rfl | 5, _ => rfl | 6, _ => rfl | 7, _ => rfl | 8, _ => rfl | 9, _ => rfl | 10, _ => rfl | j + 11, hj => absurd hj (by omega)⟩
theorem fn_L_10 : m_FN RL 10 10 34 [.int 0, .null, .null, .null, .null, .null, .null, .null, .null, .null, .null, .null, .null, .null, .int 0, .null, .int 0, .int 0, .null, .null, .int 0, .null, .null, .null, .null, .null, .null, .null, .int 0, .null, .null, .null, .null, .null] := ⟨RX10, TX10, tyX10, rfl, inX10, tyX10_ok, (m_t4 9 rfl rfl), (m_t4 10 rfl rfl), (m_t1 16 rfl rfl), fun j hj => match j, hj with | 0, _ => rfl | 1, _ => rfl | 2, _ => rfl | 3, _ => rfl | 4, _ => rfl | 5, _ => rfl | 6, _ => rfl | 7, _ => rfl | 8, _ => rfl | 9, _ => rfl | 10, _ => rfl | 11, _ => rfl | 12, _ => rfl | 13, _ => rfl | 14, _ => rfl | 15, _ => rfl | 16, _ => rfl | 17, _ => rfl | 18, _ => rfl | 19, _ => rfl | 20, _ => rfl | 21, _ => rfl | 22, _ => rfl | 23, _ => rfl | 24, _ => rfl | 25, _ => rfl | 26, _ => rfl | 27, _ => rfl | 28, _ => rfl | 29, _ => rfl | 30, _ => rfl | 31, _ => rfl | 32, _ => rfl | 33, _ => rfl | j + 34, hj => absurd hj (by omega)⟩
theorem ci_L_9 : m_CI RL 9 yX9_init cX9_init 2 0 := m_ci (m_t1 22 rfl rfl) (m_t1 1 rfl rfl) (m_t1 20 rfl rfl) (m_t1 21 rfl rfl) (by decide +kernel)
theorem ci_L_12 : m_CI RL 12 yX10_init cX10_init 1 0 := m_ci (m_t4 13 rfl rfl) (m_t1 16 rfl rfl) (m_t4 11 rfl rfl) (m_t4 12 rfl rfl) (by decide +kernel)
