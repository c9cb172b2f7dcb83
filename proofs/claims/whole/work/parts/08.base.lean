/-! memories: of each cell a row of ints; the pure words of the walks -/
abbrev Mm : Type := Nat → Nat → Int32
def m_ix (i : Int32) : Nat := i.toNatClampNeg
def m_st (c : Mm) (a j : Nat) (x : Int32) : Mm := fun b => if b = a then upd (c a) j x else c b
def m_cp (c : Mm) (a sp b dp n : Nat) : Mm := fun z => if z = b then va_cpy (c a) (c b) sp dp n else c z
def m_bnd {α β : Type} (v : α) (k : α → β) : β := k v
def m_cal {β : Type} (o : Option (Int32 × Mm)) (k : Int32 → Mm → Option β) : Option β := match o with
  | some x => k x.1 x.2
  | none => none
def m_cav {β : Type} (o : Option Mm) (k : Mm → Option β) : Option β := match o with
  | some x => k x
  | none => none
def m_gi {β : Type} (i : Int32) (n : Nat) (k : Option β) : Option β := if i < 0 ∨ n ≤ m_ix i then none else k
def m_gz {β : Type} (y : Int32) (k : Option β) : Option β := if y = 0 then none else k
def m_gy {β : Type} (y : Int64) (k : Option β) : Option β := if y = 0 then none else k
def m_gb {β : Type} (v : Int32) (k : Option β) : Option β := if v = 0 ∨ v = 1 then k else none
def m_gc {β : Type} (sp dp n : Int32) (n0 n1 : Nat) (k : Option β) : Option β := if sp < 0 ∨ dp < 0 ∨ n < 0 ∨ n0 < m_ix sp + m_ix n ∨ n1 < m_ix dp + m_ix n then none else k
def m_lp0 {β : Type} (F : (Mm → Option β) → Mm → Option β) : Nat → Mm → Option β
  | 0, _ => none
  | n + 1, c => F (m_lp0 F n) c
def m_lp1 {β : Type} (F : (Int32 → Mm → Option β) → Int32 → Mm → Option β) : Nat → Int32 → Mm → Option β
  | 0, _, _ => none
  | n + 1, a, c => F (m_lp1 F n) a c
def m_lp2 {β : Type} (F : (Int32 → Int32 → Mm → Option β) → Int32 → Int32 → Mm → Option β) : Nat → Int32 → Int32 → Mm → Option β
  | 0, _, _, _ => none
  | n + 1, a, b, c => F (m_lp2 F n) a b c
def m_lp3 {β : Type} (F : (Int32 → Int32 → Int32 → Mm → Option β) → Int32 → Int32 → Int32 → Mm → Option β) : Nat → Int32 → Int32 → Int32 → Mm → Option β
  | 0, _, _, _, _ => none
  | n + 1, a, b, d, c => F (m_lp3 F n) a b d c
def m_lp4 {β : Type} (F : (Int32 → Int32 → Int32 → Int32 → Mm → Option β) → Int32 → Int32 → Int32 → Int32 → Mm → Option β) : Nat → Int32 → Int32 → Int32 → Int32 → Mm → Option β
  | 0, _, _, _, _, _ => none
  | n + 1, a, b, d, f, c => F (m_lp4 F n) a b d f c
theorem m_lp0_i {β : Type} {R : β} {F : (Mm → Option β) → Mm → Option β} {G : Mm → Prop} (hs : ∀ r, (∀ c, r c = some R → G c) → ∀ c, F r c = some R → G c) : ∀ n c, m_lp0 F n c = some R → G c
  | 0, _, h => by cases h
  | n + 1, c, h => hs (m_lp0 F n) (m_lp0_i hs n) c h
theorem m_lp1_i {β : Type} {R : β} {F : (Int32 → Mm → Option β) → Int32 → Mm → Option β} {G : Int32 → Mm → Prop} (hs : ∀ r, (∀ a c, r a c = some R → G a c) → ∀ a c, F r a c = some R → G a c) : ∀ n a c, m_lp1 F n a c = some R → G a c
  | 0, _, _, h => by cases h
  | n + 1, a, c, h => hs (m_lp1 F n) (m_lp1_i hs n) a c h
theorem m_lp2_i {β : Type} {R : β} {F : (Int32 → Int32 → Mm → Option β) → Int32 → Int32 → Mm → Option β} {G : Int32 → Int32 → Mm → Prop} (hs : ∀ r, (∀ a b c, r a b c = some R → G a b c) → ∀ a b c, F r a b c = some R → G a b c) : ∀ n a b c, m_lp2 F n a b c = some R → G a b c
  | 0, _, _, _, h => by cases h
  | n + 1, a, b, c, h => hs (m_lp2 F n) (m_lp2_i hs n) a b c h
theorem m_lp3_i {β : Type} {R : β} {F : (Int32 → Int32 → Int32 → Mm → Option β) → Int32 → Int32 → Int32 → Mm → Option β} {G : Int32 → Int32 → Int32 → Mm → Prop} (hs : ∀ r, (∀ a b d c, r a b d c = some R → G a b d c) → ∀ a b d c, F r a b d c = some R → G a b d c) : ∀ n a b d c, m_lp3 F n a b d c = some R → G a b d c
  | 0, _, _, _, _, h => by cases h
  | n + 1, a, b, d, c, h => hs (m_lp3 F n) (m_lp3_i hs n) a b d c h
theorem m_lp4_i {β : Type} {R : β} {F : (Int32 → Int32 → Int32 → Int32 → Mm → Option β) → Int32 → Int32 → Int32 → Int32 → Mm → Option β} {G : Int32 → Int32 → Int32 → Int32 → Mm → Prop} (hs : ∀ r, (∀ a b d f c, r a b d f c = some R → G a b d f c) → ∀ a b d f c, F r a b d f c = some R → G a b d f c) : ∀ n a b d f c, m_lp4 F n a b d f c = some R → G a b d f c
  | 0, _, _, _, _, _, h => by cases h
  | n + 1, a, b, d, f, c, h => hs (m_lp4 F n) (m_lp4_i hs n) a b d f c h
theorem o_bnd {α β : Type} {v : α} {k : α → Option β} {R : β} (h : m_bnd v k = some R) (y : α) (e : y = v) : k y = some R := by subst e; exact h
theorem o_cal {β : Type} {o : Option (Int32 × Mm)} {k : Int32 → Mm → Option β} {R : β} (h : m_cal o k = some R) : ∃ r c, o = some (r, c) ∧ k r c = some R := by
  cases o with
  | none => cases h
  | some x => exact ⟨x.1, x.2, rfl, h⟩
theorem o_cav {β : Type} {o : Option Mm} {k : Mm → Option β} {R : β} (h : m_cav o k = some R) : ∃ c, o = some c ∧ k c = some R := by
  cases o with
  | none => cases h
  | some x => exact ⟨x, rfl, h⟩
theorem o_t {β : Type} {p : Prop} [Decidable p] {a b : Option β} {R : β} (hp : p) (h : (if p then a else b) = some R) : a = some R := by rw [if_pos hp] at h; exact h
theorem o_f {β : Type} {p : Prop} [Decidable p] {a b : Option β} {R : β} (hp : ¬ p) (h : (if p then a else b) = some R) : b = some R := by rw [if_neg hp] at h; exact h
theorem o_gi {β : Type} {i : Int32} {n : Nat} {k : Option β} {R : β} (h : m_gi i n k = some R) : vp_in i n ∧ k = some R := by
  unfold m_gi at h
  split at h
  · cases h
  · rename_i hn
    exact ⟨hn, h⟩
theorem o_gz {β : Type} {y : Int32} {k : Option β} {R : β} (h : m_gz y k = some R) : ¬ y = 0 ∧ k = some R := by
  unfold m_gz at h
  split at h
  · cases h
  · rename_i hn
    exact ⟨hn, h⟩
theorem o_gy {β : Type} {y : Int64} {k : Option β} {R : β} (h : m_gy y k = some R) : ¬ y = 0 ∧ k = some R := by
  unfold m_gy at h
  split at h
  · cases h
  · rename_i hn
    exact ⟨hn, h⟩
theorem o_gb {β : Type} {v : Int32} {k : Option β} {R : β} (h : m_gb v k = some R) : (v = 0 ∨ v = 1) ∧ k = some R := by
  unfold m_gb at h
  split at h
  · rename_i hn
    exact ⟨hn, h⟩
  · cases h
theorem o_gc {β : Type} {sp dp n : Int32} {n0 n1 : Nat} {k : Option β} {R : β} (h : m_gc sp dp n n0 n1 k = some R) : ¬ (sp < 0 ∨ dp < 0 ∨ n < 0 ∨ n0 < m_ix sp + m_ix n ∨ n1 < m_ix dp + m_ix n) ∧ k = some R := by
  unfold m_gc at h
  split at h
  · cases h
  · rename_i hn
    exact ⟨hn, h⟩
theorem m_st_s {c : Mm} {a j : Nat} {x : Int32} : m_st c a j x a = upd (c a) j x := by unfold m_st; rw [if_pos rfl]
theorem m_st_n {c : Mm} {a b j : Nat} {x : Int32} (h : b ≠ a) : m_st c a j x b = c b := by unfold m_st; rw [if_neg h]
theorem m_cp_s {c : Mm} {a sp b dp n : Nat} : m_cp c a sp b dp n b = va_cpy (c a) (c b) sp dp n := by unfold m_cp; rw [if_pos rfl]
theorem m_cp_n {c : Mm} {a sp b dp n z : Nat} (h : z ≠ b) : m_cp c a sp b dp n z = c z := by unfold m_cp; rw [if_neg h]
/-! worlds: n cells at q 0 .. q (n - 1), what each is by its row -/
abbrev m_MK : Type := Nat → (Nat → Int32) → va_E
def m_wO (mk : m_MK) (n : Nat) (q : Nat → Nat) (c : Mm) : va_W := (List.range n).map (fun j => (q j, mk j (c j)))
theorem m_wO_get {mk : m_MK} {n : Nat} {q : Nat → Nat} {c : Mm} {k : Nat} (h : k < n) : (m_wO mk n q c)[k]? = some (q k, mk k (c k)) := by simp [m_wO, h]
theorem m_wO_inv {mk : m_MK} {n : Nat} {q : Nat → Nat} {c : Mm} {k : Nat} {z : Nat × va_E} (h : (m_wO mk n q c)[k]? = some z) : k < n ∧ z = (q k, mk k (c k)) := by
  have hk : k < n := by
    have := (List.getElem?_eq_some_iff.mp h).1
    simpa [m_wO] using this
  rw [m_wO_get hk] at h
  exact ⟨hk, (Option.some.inj h).symm⟩
theorem m_wO_set {mk : m_MK} {n : Nat} {q : Nat → Nat} {c c1 : Mm} {k : Nat} {e : va_E} (h1 : ∀ b, b ≠ k → c1 b = c b) (h2 : mk k (c1 k) = e) : (m_wO mk n q c).set k (q k, e) = m_wO mk n q c1 := by
  apply List.ext_getElem?
  intro j
  by_cases hj : j < n
  · rw [m_wO_get hj]
    by_cases hjk : j = k
    · subst hjk
      rw [List.getElem?_set_self (by simpa [m_wO] using hj), h2]
    · rw [List.getElem?_set_ne (Ne.symm hjk), m_wO_get hj, h1 j hjk]
  · rw [List.getElem?_eq_none (by simp [m_wO]; omega), List.getElem?_eq_none (by simp [m_wO]; omega)]
def m_A (n : Nat) (q : Nat → Nat) (sz : Nat) : Nat → Prop := fun a => (∃ j, j < n ∧ a = q j) ∨ sz ≤ a
theorem m_D_self {mk : m_MK} {n : Nat} {q : Nat → Nat} {c : Mm} {A : Nat → Prop} {sz : Nat} (h : va_D A (m_wO mk n q c)) : va_D (m_A n q sz) (m_wO mk n q c) := ⟨h.1, fun k z hk => by
  obtain ⟨h1, rfl⟩ := m_wO_inv hk
  exact Or.inl ⟨k, h1, rfl⟩⟩
def m_S (D : va_G) (mk : m_MK) (n : Nat) (q : Nat → Nat) (A : Nat → Prop) (H0 : Heap) (c : Mm) (H : Heap) (locs : List Loc) : Prop := va_P D vwCl (m_wO mk n q c) H ∧ va_D A (m_wO mk n q c) ∧ va_S A H0 H locs
def m_nR : Cond := .methodLinkNest RX4 55 yX9_isWithin RX9
def m_nC : Cond := .methodLinkNest RX1 58 yX9_isWithin RX9
def m_K (D : va_G) (cI cZ : ClassId) (U : State) : Prop := va_K D vwCl [(cI, .int), (cZ, .boolean)] U ∧ va_Nw m_nR U ∧ va_Nw m_nC U
theorem m_K.warm {D : va_G} {cI cZ : ClassId} {s U : State} (hW : s.WarmedH U.vm) (h : m_K D cI cZ s) : m_K D cI cZ U := ⟨va_K.moved hW.alike h.1, va_Nw.warmM hW h.2.1, va_Nw.warmM hW h.2.2⟩
theorem m_K.same {D : va_G} {cI cZ : ClassId} {s U : State} (hW : s.vm = U.vm) (h : m_K D cI cZ s) : m_K D cI cZ U := ⟨va_K.moved (by rw [hW]; exact Vm.Alike.refl U.vm) h.1, va_Nw.same rfl hW h.2.1, va_Nw.same rfl hW h.2.2⟩
/-! contracts -/
def m_Pc (D : va_G) (cI cZ : ClassId) (mk : m_MK) (n : Nat) (q : Nat → Nat) (av : List Value) (c : Mm) (sz : Nat) : Array Value → State → Prop := va_Pc av (fun U => U.heap.size = sz ∧ va_P D vwCl (m_wO mk n q c) U.heap ∧ m_K D cI cZ U ∧ va_D (fun _ => True) (m_wO mk n q c))
def m_B (D : va_G) (mk : m_MK) (n : Nat) (q : Nat → Nat) (sz : Nat) (u : Mm) (t : State) : Prop := va_P D vwCl (m_wO mk n q u) t.heap ∧ va_D (m_A n q sz) (m_wO mk n q u)
def m_Qi (D : va_G) (mk : m_MK) (n : Nat) (q : Nat → Nat) (sz : Nat) (R : Int32 × Mm) : Array Value → State → Outcome → State → Prop := va_Qi (fun r (u : Mm) => R = (r, u)) (m_B D mk n q sz) (m_A n q sz)
def m_Qv (D : va_G) (mk : m_MK) (n : Nat) (q : Nat → Nat) (sz : Nat) (R : Mm) : Array Value → State → Outcome → State → Prop := va_Qv (fun (u : Mm) => R = u) (m_B D mk n q sz) (m_A n q sz)
abbrev m_rm (fr lo : Nat) : Room := { frames := fr, cells := 0, slots := 0, locals := lo }
def m_Mi (l : Launch) (y : MethodName) (bytes : ByteArray) (maxL : Nat) (ret : Option FieldType) (fr lo : Nat) (D : va_G) (cI cZ : ClassId) (mk : m_MK) (n : Nat) (q : Nat → Nat) (av : List Value) (c : Mm) (sz : Nat) (R : Int32 × Mm) : Prop := Met l y (Cond.code y bytes maxL ret :: WS) (m_rm fr lo) (m_Pc D cI cZ mk n q av c sz) (m_Qi D mk n q sz R) 0 0 (m_A n q sz)
def m_Mv (l : Launch) (y : MethodName) (bytes : ByteArray) (maxL : Nat) (fr lo : Nat) (D : va_G) (cI cZ : ClassId) (mk : m_MK) (n : Nat) (q : Nat → Nat) (av : List Value) (c : Mm) (sz : Nat) (R : Mm) : Prop := Met l y (Cond.code y bytes maxL none :: WS) (m_rm fr lo) (m_Pc D cI cZ mk n q av c sz) (m_Qv D mk n q sz R) 0 0 (m_A n q sz)
theorem m_blind {D : va_G} {cI cZ : ClassId} {mk : m_MK} {n : Nat} {q : Nat → Nat} {av : List Value} {c : Mm} {sz : Nat} : FrameBlind (m_Pc D cI cZ mk n q av c sz) := by
  intro a U g mk z
  obtain ⟨q0, q1, qP, qK, qD⟩ := z
  exact ⟨q0, q1, qP, m_K.same (s := U) rfl qK, qD⟩
def m_Cx (p : Program) (s : State) (m : MethodId) (args : Array Value) (meth : Method) (cd : Code) (own : String) (cc : ByteArray) (nL : Nat) (ret : Option FieldType) (D : va_G) (cI cZ : ClassId) : Prop := p.tables.exec = Jvm.exec ∧ cd.code = cc ∧ cd.maxLocals = nL ∧ s.vm.findClass own = some m.cls ∧ (∀ w ∈ WS, w.before args s = true) ∧ meth.sig.returnType = ret ∧ meth.locks = false ∧ m_K D cI cZ s
abbrev m_G (p : Program) (l : Launch) (e : Env) (R : Room) (s : State) (m : MethodId) (args : Array Value) (below : List Frame) (meth : Method) (cd : Code) (Q : State → Prop) (D : va_G) (mk : m_MK) (n : Nat) (q : Nat → Nat) (nL pc : Nat) (lv : List (Nat × Value)) (stk : List Value) (c : Mm) : Prop := ∀ (H : Heap) (locs : List Loc) (ls : Array Slot), m_S D mk n q (m_A n q s.heap.size) s.heap c H locs → lv_has ls nL lv → W p l e R s m args below meth cd H locs 0 0 Q (F0 m pc ls stk)
