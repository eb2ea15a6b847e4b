/-! ===== what stands of the launch in every state of a run ===== -/
def exN (k : Nat) : String := match k with
  | 1 => "java/lang/IndexOutOfBoundsException"
  | 2 => "java/lang/IllegalArgumentException"
  | _ => "java/lang/IllegalStateException"
def nestW : List (String × Nat × MethodName × String) := [(RX6, 27, yX2_init, RX8), (RX2, 45, yX4_init, RX8), (RX6, 28, yX0_init, RX8), (RX0, 38, yX7_init, RX8), (RX8, 29, yX5_init, RX8), (RX8, 36, yX0_init, RX8), (RX1, 11, yX7_init, RX8)]
def va_Yc (C : String) (U : State) : Prop := ∃ c : ClassId, U.vm.findClass C = some c ∧ U.vm.assignable c c = true
theorem va_Yc.moved {C : String} {u U : State} (hvm : u.vm.Alike U.vm) (h : va_Yc C u) : va_Yc C U := by
  obtain ⟨c, h1, h2⟩ := h
  exact ⟨c, by rw [hvm.findClass]; exact h1, by rw [hvm.assignable]; exact h2⟩
theorem va_Yc.use {C : String} {U : State} {args : Array Value} (h : va_Yc C U) : (Cond.castable C C).before args U = true := by
  obtain ⟨c, h1, h2⟩ := h
  simp [Cond.before, Cond.holds, Cond.value, h1, h2]
theorem va_Yc.of {C : String} {U : State} {args : Array Value} (h : (Cond.castable C C).before args U = true) : va_Yc C U := by
  obtain ⟨c3, c4, hc3, hc4, hasg⟩ := Cond.castable_spec h
  cases Option.some.inj (hc3.symm.trans hc4)
  exact ⟨c3, hc3, hasg⟩
def strL : List (Nat × String) := [(467, "a version is 0 or 1"), (113, "a class that can be defined is 1 to 9"), (124, "not a superclass for this class"), (130, "not interfaces for this class"), (138, "the class exists already"), (288, "no such class"), (157, "class 0 always exists"), (165, "another class needs this class"), (178, "no such property or value"), (180, "class 0 never changes"), (185, "an interface has no such choice"), (187, "a superclass is never final"), (192, "the class has an abstract method"), (198, "the number of a class is 0 to 9"), (476, "a property is 0 to 9"), (206, "a method has 0 to 2 parameters"), (211, "a type is -1 to 9"), (226, "no such field can be in this class"), (234, "there is no room for this field"), (239, "no such method can be in this class"), (254, "there is no room for this method"), (472, "no such member"), (293, "the member can't be in this class"), (301, "there is no room for the member"), (342, "a name is 0 to 7"), (321, "a field or a static method is not selected"), (326, "not a plain class that has the method"), (340, "no such use, class or package"), (347, "the client does not compile"), (350, "there are 12 clients"), (474, "no such client"), (362, "no base for this client"), (369, "the client does not compile with this base"), (392, "a verdict is 0 to 5"), (398, "no such verdict or package"), (400, "a property of a sample is 0 to 5"), (442, "no state is saved")]
def declL : List MethodName := [Bundle.initS "java/lang/RuntimeException", Bundle.initS "java/lang/Exception", Bundle.initS Bundle.tN]
def GN (G : GC) (base : Nat) (U : State) : Prop :=
  va_K G.1 vwCl (gT G) U ∧ (∀ q ∈ nestW, va_Nw (.methodLinkNest q.1 q.2.1 q.2.2.1 q.2.2.2) U) ∧ (∀ q ∈ strL, ∃ sa, vk_R RX8 q.1 q.2 sa U) ∧
  (∀ a b, 1 ≤ a → a ≤ 3 → 1 ≤ b → b ≤ 3 → a ≠ b → va_Nc (exN a) (exN b) U) ∧ (∀ a, va_Yc (exN a) U) ∧ (∀ q ∈ [RX0, RX1, RX2, RX3, RX6], va_AO q U) ∧ (∀ q ∈ declL, va_Nw (.declares q) U) ∧
  vx_Zq Bundle.tN "UNASSIGNED_STACK" Bundle.steD (fun q => base ≤ q) U U.heap ∧ vx_Zq Bundle.tN "SUPPRESSED_SENTINEL" Bundle.listD (fun q => base ≤ q) U U.heap
theorem GN.moved {G : GC} {base : Nat} {s U : State} (hW : s.WarmedH U.vm) (hH : ∀ q : Nat, q < s.heap.size → ¬ base ≤ q → U.heap[q]? = s.heap[q]?) (h : GN G base s) : GN G base U := by
  obtain ⟨h1, h2, h3, h4, h5, h6, h9, h7, h8⟩ := h
  exact ⟨va_K.moved hW.alike h1, fun q hq => va_Nw.warmM hW (h2 q hq), fun q hq => (h3 q hq).imp fun sa h => vk_R.warm hW h, fun a b e1 e2 e3 e4 e5 => (h4 a b e1 e2 e3 e4 e5).moved hW.alike, fun a => (h5 a).moved hW.alike, fun q hq => (h6 q hq).moved hW.alike, fun q hq => va_Nw.warmD hW (h9 q hq), vx_Zq.moved hW.alike (h7.kept hH), vx_Zq.moved hW.alike (h8.kept hH)⟩
/-! ===== a method ===== -/
abbrev MI : Type := MethodName × ByteArray × Nat × Option FieldType × Room × List (Nat × Nat × Nat × Nat)
abbrev mY (M : MI) : MethodName := M.1
abbrev mC (M : MI) : ByteArray := M.2.1
abbrev mN (M : MI) : Nat := M.2.2.1
abbrev mR (M : MI) : Option FieldType := M.2.2.2.1
abbrev mO (M : MI) : Room := M.2.2.2.2.1
abbrev mH (M : MI) : List (Nat × Nat × Nat × Nat) := M.2.2.2.2.2
abbrev Rs : Type := Option Value ⊕ Nat
def Fx (M : MI) (l : Launch) (G : GC) (base : Nat) (p : Program) (s : State) (m : MethodId) (args : Array Value) (meth : Method) (c : Code) : Prop :=
  p.tables.exec = Jvm.exec ∧ c.code = mC M ∧ meth.sig.returnType = mR M ∧ c.maxLocals = mN M ∧ s.vm.findClass (mY M).cls = some m.cls ∧ (∀ w ∈ TW, w.before args s = true) ∧ meth.locks = false ∧ l.stackTraces = false ∧ GN G base s ∧ c.exceptionTable.toList = tableOf (mH M) ∧ meth.name = (mY M).name
def Qr (G : GC) (base : Nat) (o : Rs) (h' : AH) : Array Value → State → Outcome → State → Prop := fun _ st oc t => (∃ v, o = .inl v ∧ oc = .returned v ∧ Rp G base t t.heap h') ∧ va_F (fun q => base ≤ q) st t
def Xr (G : GC) (base : Nat) (o : Rs) (h' : AH) : String → State → State → Prop := fun E st t => (∃ k, o = .inr k ∧ E = exN k ∧ Rp G base t t.heap h') ∧ va_F (fun q => base ≤ q) st t
/-- the locals, by their places -/
def lvH (ls : Array Slot) (nL : Nat) (lv : List (Option Value)) : Prop := ls.size = nL ∧ lv_wf ls ∧ ∀ (i : Nat) (v : Value), lv[i]? = some (some v) → ls[i]? = some (Slot.val v)
def Sm {ρ : Type} (M : MI) (inj : ρ → Rs) (kc ks pc : Nat) (lv : List (Option Value)) (st : List Value) (F : AH → Option (ρ × AH)) : Prop :=
  ∀ (l : Launch) (G : GC) (base : Nat) (p : Program) (e : Env) (s : State) (m : MethodId) (args : Array Value) (below : List Frame) (meth : Method) (c : Code), Fx M l G base p s m args meth c →
  ∀ (H : Heap) (locs : List Loc) (ls : Array Slot) (h : AH) (r : ρ) (h' : AH), lvH ls (mN M) lv → va_S (fun q => base ≤ q) s.heap H locs → Rp G base s H h → F h = some (r, h') →
    W p l e (mO M) s m args below meth c H locs kc ks (vx_MQ below (Qr G base (inj r) h') (Xr G base (inj r) h') args s (mO M).cells (mO M).slots (fun q => base ≤ q)) (F0 m pc ls st)
def Pr (G : GC) (base : Nat) (as : List Value) (h : AH) : Array Value → State → Prop := fun v U => v = as.toArray ∧ GN G base U ∧ Rp G base U U.heap h
def wsM (M : MI) : List Cond := Cond.code (mY M) (mC M) (mN M) (mR M) :: TW
def Ct {ρ : Type} (M : MI) (inj : ρ → Rs) (as : List Value) (F : AH → Option (ρ × AH)) : Prop :=
  ∀ (l : Launch) (G : GC) (base : Nat) (h : AH) (r : ρ) (h' : AH), l.stackTraces = false → F h = some (r, h') →
    vx_Met l (mY M) (wsM M) (mO M) (Pr G base as h) (Qr G base (inj r) h') (Xr G base (inj r) h') (mO M).cells (mO M).slots (fun q => base ≤ q)
theorem Pr.blind {G : GC} {base : Nat} {as : List Value} {h : AH} : FrameBlind (Pr G base as h) := fun a U g mk q => ⟨q.1, GN.moved (s := U) (U := U.calling g mk a) (State.WarmedH.refl U) (fun _ _ _ => rfl) q.2.1, Rp.moved (u := U) (U := U.calling g mk a) (Vm.Alike.refl U.vm) q.2.2⟩
/-! ===== rows: constants, locals, arithmetic, branches ===== -/
theorem lvH.at {ls : Array Slot} {nL : Nat} {lv : List (Option Value)} (h : lvH ls nL lv) {i : Nat} {v : Value} (hi : lv[i]? = some (some v)) : ls[i]? = some (.val v) := h.2.2 i v hi
def toL (lv : List (Option Value)) : List (Nat × Value) := (List.range lv.length).filterMap (fun j => (lv[j]?.join).map (fun w => (j, w)))
theorem toL_mem {lv : List (Option Value)} {q : Nat × Value} : q ∈ toL lv ↔ lv[q.1]? = some (some q.2) := by
  unfold toL
  rw [List.mem_filterMap]
  constructor
  · rintro ⟨j, -, hj⟩
    cases hx : lv[j]? with
    | none => rw [hx] at hj; cases hj
    | some o =>
      rw [hx] at hj
      cases o with
      | none => cases hj
      | some w => cases hj; exact hx
  · intro h
    exact ⟨q.1, List.mem_range.mpr (List.getElem?_eq_some_iff.mp h).1, by rw [h]; rfl⟩
theorem lvH.has {ls : Array Slot} {nL : Nat} {lv : List (Option Value)} (h : lvH ls nL lv) : lv_has ls nL (toL lv) := ⟨h.1, h.2.1, fun q hq => h.2.2 q.1 q.2 (toL_mem.mp hq)⟩
/-- no value of two words stands at this place -/
def n2 : Option (Option Value) → Bool
  | some (some (.long _)) => false
  | some (some (.double _)) => false
  | _ => true
theorem n2_cat {o : Option (Option Value)} (h : n2 o = true) {v : Value} (ho : o = some (some v)) : v.category = 1 := by
  subst ho
  cases v <;> first | rfl | cases h
theorem lvH.set1 {ls' : Array Slot} {nL i : Nat} {lv : List (Option Value)} {v : Value} (h2 : n2 (lv[i - 1]?) = true) (hl : lv_has ls' nL ((i, v) :: (toL lv).filter (fun q => !(q.1 == i) && !(q.1 + 1 == i && q.2.category == 2)))) : lvH ls' nL (lv.set i (some v)) := by
  refine ⟨hl.1, hl.2.1, fun j w hj => ?_⟩
  rw [List.getElem?_set] at hj
  by_cases hij : i = j
  · subst hij
    rw [if_pos rfl] at hj
    split at hj
    · cases hj
      exact hl.2.2 (i, v) List.mem_cons_self
    · exact absurd hj (by simp)
  · rw [if_neg hij] at hj
    refine hl.2.2 (j, w) (List.mem_cons_of_mem _ (List.mem_filter.mpr ⟨toL_mem.mpr hj, ?_⟩))
    have e1 : (j == i) = false := by simp; omega
    by_cases h3 : j + 1 = i
    · have : w.category = 1 := n2_cat h2 (by rw [show i - 1 = j by omega]; exact hj)
      simp [e1, this]
    · have e2 : (j + 1 == i) = false := by simp; omega
      simp [e1, e2]
theorem lvH.set2 {ls' : Array Slot} {nL i : Nat} {lv : List (Option Value)} {v : Value} (h2 : n2 (lv[i - 1]?) = true) (hl : lv_has ls' nL ((i, v) :: (toL lv).filter (fun q => !(q.1 == i) && (!(q.1 == i + 1) && !(q.1 + 1 == i && q.2.category == 2))))) : lvH ls' nL ((lv.set i (some v)).set (i + 1) none) := by
  refine ⟨hl.1, hl.2.1, fun j w hj => ?_⟩
  rw [List.getElem?_set] at hj
  by_cases hi1 : i + 1 = j
  · subst hi1
    rw [if_pos rfl] at hj
    split at hj <;> cases hj
  rw [if_neg hi1, List.getElem?_set] at hj
  by_cases hij : i = j
  · subst hij
    rw [if_pos rfl] at hj
    split at hj
    · cases hj
      exact hl.2.2 (i, v) List.mem_cons_self
    · exact absurd hj (by simp)
  · rw [if_neg hij] at hj
    refine hl.2.2 (j, w) (List.mem_cons_of_mem _ (List.mem_filter.mpr ⟨toL_mem.mpr hj, ?_⟩))
    have e1 : (j == i) = false := by simp; omega
    have e3 : (j == i + 1) = false := by simp; omega
    by_cases h3 : j + 1 = i
    · have : w.category = 1 := n2_cat h2 (by rw [show i - 1 = j by omega]; exact hj)
      simp [e1, e3, this]
    · have e2 : (j + 1 == i) = false := by simp; omega
      simp [e1, e2, e3]
section R1
variable {ρ : Type} {M : MI} {inj : ρ → Rs} {kc ks pc : Nat} {lv lv' : List (Option Value)} {st : List Value} {F F1 F2 : AH → Option (ρ × AH)}
theorem S_iconst {n : Int} {v : Int32} (d : decode (mC M) pc = .ok (.iconst n, 1)) (hv : Int32.ofInt n = v) (k : Sm M inj kc ks (pc + 1) lv (.int v :: st) F) : Sm M inj kc ks pc lv st F := by
  intro l G base p e s m args below meth c C H locs ls h r h' hl hS hR hF
  exact lv_iconst C.1 C.2.1 d hv (k l G base p e s m args below meth c C H locs ls h r h' hl hS hR hF)
theorem S_bipush {n : Int} {v : Int32} (d : decode (mC M) pc = .ok (.bipush n, 2)) (hv : (Int8.ofInt n).toInt32 = v) (k : Sm M inj kc ks (pc + 2) lv (.int v :: st) F) : Sm M inj kc ks pc lv st F := by
  intro l G base p e s m args below meth c C H locs ls h r h' hl hS hR hF
  exact lv_bipush C.1 C.2.1 d hv (k l G base p e s m args below meth c C H locs ls h r h' hl hS hR hF)
theorem S_sipush {n : Int} {v : Int32} (d : decode (mC M) pc = .ok (.sipush n, 3)) (hv : (Int16.ofInt n).toInt32 = v) (k : Sm M inj kc ks (pc + 3) lv (.int v :: st) F) : Sm M inj kc ks pc lv st F := by
  intro l G base p e s m args below meth c C H locs ls h r h' hl hS hR hF
  exact lv_sipush C.1 C.2.1 d hv (k l G base p e s m args below meth c C H locs ls h r h' hl hS hR hF)
theorem S_ldc {i : Nat} {v : Int32} (hw : Cond.constant (mY M).cls i v ∈ TW) (d : decode (mC M) pc = .ok (.ldc i, 2)) (k : Sm M inj kc ks (pc + 2) lv (.int v :: st) F) : Sm M inj kc ks pc lv st F := by
  intro l G base p e s m args below meth c C H locs ls h r h' hl hS hR hF
  exact lv_ldc C.1 C.2.1 C.2.2.2.2.1 (C.2.2.2.2.2.1 _ hw) d (k l G base p e s m args below meth c C H locs ls h r h' hl hS hR hF)
theorem S_ldcw {i : Nat} {v : Int32} (hw : Cond.constant (mY M).cls i v ∈ TW) (d : decode (mC M) pc = .ok (.ldc_w i, 3)) (k : Sm M inj kc ks (pc + 3) lv (.int v :: st) F) : Sm M inj kc ks pc lv st F := by
  intro l G base p e s m args below meth c C H locs ls h r h' hl hS hR hF
  exact lv_ldcw C.1 C.2.1 C.2.2.2.2.1 (C.2.2.2.2.2.1 _ hw) d (k l G base p e s m args below meth c C H locs ls h r h' hl hS hR hF)
theorem S_ldc2 {i : Nat} {v : Int64} (hw : Cond.constantLong (mY M).cls i v ∈ TW) (d : decode (mC M) pc = .ok (.ldc2_w i, 3)) (k : Sm M inj kc ks (pc + 3) lv (.long v :: st) F) : Sm M inj kc ks pc lv st F := by
  intro l G base p e s m args below meth c C H locs ls h r h' hl hS hR hF
  exact lv_ldc2 C.1 C.2.1 C.2.2.2.2.1 (C.2.2.2.2.2.1 _ hw) d (k l G base p e s m args below meth c C H locs ls h r h' hl hS hR hF)
theorem S_lconst {n : Fin 2} {v : Int64} (d : decode (mC M) pc = .ok (.lconst n, 1)) (hv : Int64.ofNat n = v) (k : Sm M inj kc ks (pc + 1) lv (.long v :: st) F) : Sm M inj kc ks pc lv st F := by
  intro l G base p e s m args below meth c C H locs ls h r h' hl hS hR hF
  exact lv_lconst C.1 C.2.1 d hv (k l G base p e s m args below meth c C H locs ls h r h' hl hS hR hF)
theorem S_iload_n {i : Fin 4} {x : Int32} (d : decode (mC M) pc = .ok (.iload_n i, 1)) (hi : lv[(i : Nat)]? = some (some (.int x))) (k : Sm M inj kc ks (pc + 1) lv (.int x :: st) F) : Sm M inj kc ks pc lv st F := by
  intro l G base p e s m args below meth c C H locs ls h r h' hl hS hR hF
  exact lv_iload_n C.1 C.2.1 d rfl (hl.at hi) (k l G base p e s m args below meth c C H locs ls h r h' hl hS hR hF)
theorem S_iload {i : Nat} {x : Int32} (d : decode (mC M) pc = .ok (.iload i, 2)) (hi : lv[i]? = some (some (.int x))) (k : Sm M inj kc ks (pc + 2) lv (.int x :: st) F) : Sm M inj kc ks pc lv st F := by
  intro l G base p e s m args below meth c C H locs ls h r h' hl hS hR hF
  exact lv_iload C.1 C.2.1 d (hl.at hi) (k l G base p e s m args below meth c C H locs ls h r h' hl hS hR hF)
theorem S_lload_n {i : Fin 4} {x : Int64} (d : decode (mC M) pc = .ok (.lload_n i, 1)) (hi : lv[(i : Nat)]? = some (some (.long x))) (k : Sm M inj kc ks (pc + 1) lv (.long x :: st) F) : Sm M inj kc ks pc lv st F := by
  intro l G base p e s m args below meth c C H locs ls h r h' hl hS hR hF
  exact lv_lload_n C.1 C.2.1 d rfl (hl.at hi) (k l G base p e s m args below meth c C H locs ls h r h' hl hS hR hF)
theorem S_lload {i : Nat} {x : Int64} (d : decode (mC M) pc = .ok (.lload i, 2)) (hi : lv[i]? = some (some (.long x))) (k : Sm M inj kc ks (pc + 2) lv (.long x :: st) F) : Sm M inj kc ks pc lv st F := by
  intro l G base p e s m args below meth c C H locs ls h r h' hl hS hR hF
  exact lv_lload C.1 C.2.1 d (hl.at hi) (k l G base p e s m args below meth c C H locs ls h r h' hl hS hR hF)
theorem S_aload_n {i : Fin 4} {x : Nat} (d : decode (mC M) pc = .ok (.aload_n i, 1)) (hi : lv[(i : Nat)]? = some (some (.ref x))) (k : Sm M inj kc ks (pc + 1) lv (.ref x :: st) F) : Sm M inj kc ks pc lv st F := by
  intro l G base p e s m args below meth c C H locs ls h r h' hl hS hR hF
  exact lv_aload_n C.1 C.2.1 d rfl (hl.at hi) (k l G base p e s m args below meth c C H locs ls h r h' hl hS hR hF)
theorem S_aload {i : Nat} {x : Nat} (d : decode (mC M) pc = .ok (.aload i, 2)) (hi : lv[i]? = some (some (.ref x))) (k : Sm M inj kc ks (pc + 2) lv (.ref x :: st) F) : Sm M inj kc ks pc lv st F := by
  intro l G base p e s m args below meth c C H locs ls h r h' hl hS hR hF
  exact lv_aload C.1 C.2.1 d (hl.at hi) (k l G base p e s m args below meth c C H locs ls h r h' hl hS hR hF)
theorem S_istore_n {i : Fin 4} {x : Int32} (d : decode (mC M) pc = .ok (.istore_n i, 1)) (hn : (i : Nat) < mN M) (h2 : n2 (lv[(i : Nat) - 1]?) = true) (k : Sm M inj kc ks (pc + 1) (lv.set i (some (.int x))) st F) : Sm M inj kc ks pc lv (.int x :: st) F := by
  intro l G base p e s m args below meth c C H locs ls h r h' hl hS hR hF
  exact lv_istore_n C.1 C.2.1 d rfl hl.has hn rfl (fun ls' hl' => k l G base p e s m args below meth c C H locs ls' h r h' (lvH.set1 h2 hl') hS hR hF)
theorem S_istore {i : Nat} {x : Int32} (d : decode (mC M) pc = .ok (.istore i, 2)) (hn : i < mN M) (h2 : n2 (lv[i - 1]?) = true) (k : Sm M inj kc ks (pc + 2) (lv.set i (some (.int x))) st F) : Sm M inj kc ks pc lv (.int x :: st) F := by
  intro l G base p e s m args below meth c C H locs ls h r h' hl hS hR hF
  exact lv_istore C.1 C.2.1 d hl.has hn rfl (fun ls' hl' => k l G base p e s m args below meth c C H locs ls' h r h' (lvH.set1 h2 hl') hS hR hF)
theorem S_astore_n {i : Fin 4} {x : Nat} (d : decode (mC M) pc = .ok (.astore_n i, 1)) (hn : (i : Nat) < mN M) (h2 : n2 (lv[(i : Nat) - 1]?) = true) (k : Sm M inj kc ks (pc + 1) (lv.set i (some (.ref x))) st F) : Sm M inj kc ks pc lv (.ref x :: st) F := by
  intro l G base p e s m args below meth c C H locs ls h r h' hl hS hR hF
  exact lv_astore_n C.1 C.2.1 d rfl hl.has hn rfl (fun ls' hl' => k l G base p e s m args below meth c C H locs ls' h r h' (lvH.set1 h2 hl') hS hR hF)
theorem S_astore {i : Nat} {x : Nat} (d : decode (mC M) pc = .ok (.astore i, 2)) (hn : i < mN M) (h2 : n2 (lv[i - 1]?) = true) (k : Sm M inj kc ks (pc + 2) (lv.set i (some (.ref x))) st F) : Sm M inj kc ks pc lv (.ref x :: st) F := by
  intro l G base p e s m args below meth c C H locs ls h r h' hl hS hR hF
  exact lv_astore C.1 C.2.1 d hl.has hn rfl (fun ls' hl' => k l G base p e s m args below meth c C H locs ls' h r h' (lvH.set1 h2 hl') hS hR hF)
theorem S_lstore_n {i : Fin 4} {x : Int64} (d : decode (mC M) pc = .ok (.lstore_n i, 1)) (hn : (i : Nat) + 1 < mN M) (h2 : n2 (lv[(i : Nat) - 1]?) = true) (k : Sm M inj kc ks (pc + 1) ((lv.set i (some (.long x))).set (i + 1) none) st F) : Sm M inj kc ks pc lv (.long x :: st) F := by
  intro l G base p e s m args below meth c C H locs ls h r h' hl hS hR hF
  exact lv_lstore_n C.1 C.2.1 d rfl hl.has hn rfl (fun ls' hl' => k l G base p e s m args below meth c C H locs ls' h r h' (lvH.set2 h2 hl') hS hR hF)
theorem S_lstore {i : Nat} {x : Int64} (d : decode (mC M) pc = .ok (.lstore i, 2)) (hn : i + 1 < mN M) (h2 : n2 (lv[i - 1]?) = true) (k : Sm M inj kc ks (pc + 2) ((lv.set i (some (.long x))).set (i + 1) none) st F) : Sm M inj kc ks pc lv (.long x :: st) F := by
  intro l G base p e s m args below meth c C H locs ls h r h' hl hS hR hF
  exact lv_lstore C.1 C.2.1 d hl.has hn rfl (fun ls' hl' => k l G base p e s m args below meth c C H locs ls' h r h' (lvH.set2 h2 hl') hS hR hF)
theorem S_iinc {i : Nat} {n : Int} {x v : Int32} (d : decode (mC M) pc = .ok (.iinc i n, 3)) (hi : lv[i]? = some (some (.int x))) (hv : Int32.ofInt n = v) (hn : i < mN M) (h2 : n2 (lv[i - 1]?) = true) (k : Sm M inj kc ks (pc + 3) (lv.set i (some (.int (x + v)))) st F) : Sm M inj kc ks pc lv st F := by
  intro l G base p e s m args below meth c C H locs ls h r h' hl hS hR hF
  obtain ⟨z, hz⟩ := List.getElem?_of_mem ((toL_mem (q := (i, .int x))).mpr hi)
  exact lv_iinc C.1 C.2.1 d hl.has (k := z) hz (by rw [hv]) hn rfl (fun ls' hl' => k l G base p e s m args below meth c C H locs ls' h r h' (lvH.set1 h2 hl') hS hR hF)
end R1
