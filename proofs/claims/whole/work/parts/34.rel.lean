/-! ===== the members of a version, well-formed; the relation of a library of the class and a version of the row ===== -/
theorem tst_if {x : Int32} {c : Nat} (hc : c < 32) {α : Type} {A B : α} : (if ((x >>> (nI c &&& 31)) &&& nI 1) = 0 then A else B) = if bt x c = true then B else A := by
  have h : ((x >>> (nI c &&& 31)) &&& nI 1) = 0 ↔ bt x c = false := bt_tst0 c hc x
  cases hb : bt x c
  · rw [if_pos (h.mpr hb), if_neg (by decide)]
  · rw [if_neg (fun q => by rw [h.mp q] at hb; cases hb), if_pos rfl]
theorem bIf {b : Bool} {α : Type} {A B : α} : (if bI b = 0 then A else B) = if b = true then B else A := by
  cases b
  · rw [if_pos (by decide), if_neg (by decide)]
  · rw [if_neg (by decide), if_pos rfl]
theorem bIf1 {b : Bool} {α : Type} {A B : α} : (if bI b = nI 1 then A else B) = if b = true then A else B := by
  cases b
  · rw [if_neg (by decide), if_neg (by decide)]
  · rw [if_pos (by decide), if_pos rfl]
theorem flg_0 {k : Nat} (hk : k < 8) : (nI k &&& nI 1 = 0 ↔ bt (nI k) 0 = false) ∧ (nI k &&& nI 2 = 0 ↔ bt (nI k) 1 = false) ∧ (nI k &&& nI 4 = 0 ↔ bt (nI k) 2 = false) := (by decide +kernel : ∀ k, k < 8 → (nI k &&& nI 1 = 0 ↔ bt (nI k) 0 = false) ∧ (nI k &&& nI 2 = 0 ↔ bt (nI k) 1 = false) ∧ (nI k &&& nI 4 = 0 ↔ bt (nI k) 2 = false)) k hk
theorem flg_1 {k : Nat} (hk : k < 8) : nI k &&& nI 1 = bI (bt (nI k) 0) := (by decide +kernel : ∀ k, k < 8 → nI k &&& nI 1 = bI (bt (nI k) 0)) k hk
def exC (w : Nat → Int32) (v c : Nat) : Bool := decide (c < 10) && decide (cl w v c 0 = nI 1)
def itB (w : Nat → Int32) (v c : Nat) : Bool := decide (cl w v c 1 = nI 1)
def ow (w : Nat → Int32) (v m : Nat) : Nat := (mb w v m 1).toNatClampNeg
def nmb (w : Nat → Int32) (v : Nat) : Nat := (mn w v).toNatClampNeg
def tI (k : Nat) : Int32 := nI k + (-2)
def Ty1 (x : Int32) : Prop := ∃ k, 1 ≤ k ∧ k < 12 ∧ x = tI k
/-- a list of parameter types -/
def Pt (x y z : Int32) : Prop := (x = nI 0 ∧ y = -2 ∧ z = -2) ∨ (x = nI 1 ∧ Ty1 y ∧ z = -2) ∨ (x = nI 2 ∧ Ty1 y ∧ Ty1 z)
def WM (w : Nat → Int32) (v : Nat) : Prop :=
  (nmb w v ≤ 40) ∧
  (mn w v = nI (nmb w v)) ∧
  (∀ m, m < nmb w v → mb w v m 0 = nI 0 ∨ mb w v m 0 = nI 1) ∧
  (∀ m, m < nmb w v → 1 ≤ ow w v m ∧ ow w v m < 10 ∧ mb w v m 1 = nI (ow w v m) ∧ exC w v (ow w v m) = true) ∧
  (∀ m, m < nmb w v → ∃ k, k < 8 ∧ mb w v m 2 = nI k) ∧
  (∀ m, m < nmb w v → ∃ k, k < 4 ∧ mb w v m 3 = nI k) ∧
  (∀ m, m < nmb w v → ∃ k, k < 8 ∧ mb w v m 4 = nI k) ∧
  (∀ m, m < nmb w v → Ty1 (mb w v m 5)) ∧
  (∀ m, m < nmb w v → Pt (mb w v m 6) (mb w v m 7) (mb w v m 8)) ∧
  (∀ m, m < nmb w v → mb w v m 0 = nI 0 → bt (mb w v m 4) 2 = false ∧ mb w v m 6 = nI 0) ∧
  (∀ m, m < nmb w v → bt (mb w v m 4) 2 = true → mb w v m 4 = nI 4 ∧ mb w v m 3 ≠ nI 0 ∧ cl w v (ow w v m) 7 = nI 1) ∧
  (∀ m, m < nmb w v → itB w v (ow w v m) = true → mb w v m 3 = nI 3 ∧ (mb w v m 0 = nI 1 → bt (mb w v m 4) 1 = false) ∧ (mb w v m 0 = nI 0 → mb w v m 4 = nI 3)) ∧
  (∀ m, m < nmb w v → mb w v m 9 ≠ -2 → mb w v m 4 = nI 3 ∧ mb w v m 0 = nI 0) ∧
  (∀ m k, m < nmb w v → k < nmb w v → mb w v m 0 = mb w v k 0 → mb w v m 1 = mb w v k 1 → mb w v m 2 = mb w v k 2 → (mb w v m 0 = nI 0 ∨ (mb w v m 6 = mb w v k 6 ∧ mb w v m 7 = mb w v k 7 ∧ mb w v m 8 = mb w v k 8)) → m = k)
theorem WM.n40 {w : Nat → Int32} {v : Nat} (h : WM w v) : nmb w v ≤ 40 := h.1
theorem WM.n {w : Nat → Int32} {v : Nat} (h : WM w v) : mn w v = nI (nmb w v) := h.2.1
theorem WM.knd {w : Nat → Int32} {v : Nat} (h : WM w v) : ∀ m, m < nmb w v → mb w v m 0 = nI 0 ∨ mb w v m 0 = nI 1 := h.2.2.1
theorem WM.own {w : Nat → Int32} {v : Nat} (h : WM w v) : ∀ m, m < nmb w v → 1 ≤ ow w v m ∧ ow w v m < 10 ∧ mb w v m 1 = nI (ow w v m) ∧ exC w v (ow w v m) = true := h.2.2.2.1
theorem WM.nam {w : Nat → Int32} {v : Nat} (h : WM w v) : ∀ m, m < nmb w v → ∃ k, k < 8 ∧ mb w v m 2 = nI k := h.2.2.2.2.1
theorem WM.acc {w : Nat → Int32} {v : Nat} (h : WM w v) : ∀ m, m < nmb w v → ∃ k, k < 4 ∧ mb w v m 3 = nI k := h.2.2.2.2.2.1
theorem WM.flg {w : Nat → Int32} {v : Nat} (h : WM w v) : ∀ m, m < nmb w v → ∃ k, k < 8 ∧ mb w v m 4 = nI k := h.2.2.2.2.2.2.1
theorem WM.typ {w : Nat → Int32} {v : Nat} (h : WM w v) : ∀ m, m < nmb w v → Ty1 (mb w v m 5) := h.2.2.2.2.2.2.2.1
theorem WM.par {w : Nat → Int32} {v : Nat} (h : WM w v) : ∀ m, m < nmb w v → Pt (mb w v m 6) (mb w v m 7) (mb w v m 8) := h.2.2.2.2.2.2.2.2.1
theorem WM.fld {w : Nat → Int32} {v : Nat} (h : WM w v) : ∀ m, m < nmb w v → mb w v m 0 = nI 0 → bt (mb w v m 4) 2 = false ∧ mb w v m 6 = nI 0 := h.2.2.2.2.2.2.2.2.2.1
theorem WM.abs {w : Nat → Int32} {v : Nat} (h : WM w v) : ∀ m, m < nmb w v → bt (mb w v m 4) 2 = true → mb w v m 4 = nI 4 ∧ mb w v m 3 ≠ nI 0 ∧ cl w v (ow w v m) 7 = nI 1 := h.2.2.2.2.2.2.2.2.2.2.1
theorem WM.itf {w : Nat → Int32} {v : Nat} (h : WM w v) : ∀ m, m < nmb w v → itB w v (ow w v m) = true → mb w v m 3 = nI 3 ∧ (mb w v m 0 = nI 1 → bt (mb w v m 4) 1 = false) ∧ (mb w v m 0 = nI 0 → mb w v m 4 = nI 3) := h.2.2.2.2.2.2.2.2.2.2.2.1
theorem WM.val {w : Nat → Int32} {v : Nat} (h : WM w v) : ∀ m, m < nmb w v → mb w v m 9 ≠ -2 → mb w v m 4 = nI 3 ∧ mb w v m 0 = nI 0 := h.2.2.2.2.2.2.2.2.2.2.2.2.1
theorem WM.unq {w : Nat → Int32} {v : Nat} (h : WM w v) : ∀ m k, m < nmb w v → k < nmb w v → mb w v m 0 = mb w v k 0 → mb w v m 1 = mb w v k 1 → mb w v m 2 = mb w v k 2 → (mb w v m 0 = nI 0 ∨ (mb w v m 6 = mb w v k 6 ∧ mb w v m 7 = mb w v k 7 ∧ mb w v m 8 = mb w v k 8)) → m = k := h.2.2.2.2.2.2.2.2.2.2.2.2.2
/-- c and its superclasses -/
def lnF (w : Nat → Int32) (v : Nat) : Nat → Nat → Nat → Bool
  | 0, _, _ => false
  | f + 1, c, t => decide (c = t) || (decide (0 < c) && !itB w v c && lnF w v f (spn w v c) t)
def lnB (w : Nat → Int32) (v c t : Nat) : Bool := lnF w v (c + 1) c t
def sgI (x y z : Int32) : Int32 := ((((((x * nI 12) + y) - (-2)) * nI 12) + z) - (-2))
def dsI (s r : Int32) : Int32 := (((s * nI 12) + r) - (-2))
def RLib (I : Mem) (a : Nat) (w : Nat → Int32) (v : Nat) : Prop :=
  (∀ c, c < 32 → bt (I a 0) c = exC w v c) ∧
  (∀ c, c < 32 → bt (I a 1) c = (exC w v c && itB w v c)) ∧
  (∀ c, c < 32 → bt (I a 2) c = (exC w v c && decide (cl w v c 5 = nI 1))) ∧
  (∀ c, c < 32 → bt (I a 3) c = (exC w v c && decide (cl w v c 6 = nI 1))) ∧
  (∀ c, c < 32 → bt (I a 4) c = (exC w v c && decide (cl w v c 7 = nI 1))) ∧
  (∀ c, exC w v c = true → I (a + 1) c = cl w v c 4) ∧
  (∀ c, exC w v c = true → I (a + 2) c = cl w v c 2) ∧
  (∀ c, exC w v c = true → I (a + 3) c = cl w v c 3) ∧
  (∀ c t, c < 10 → t < 32 → bt (I (a + 4) c) t = (exC w v c && stB w v c t)) ∧
  (∀ c t, c < 10 → t < 32 → bt (I (a + 5) c) t = (exC w v c && lnB w v c t)) ∧
  (I (a + 6) 0 = mn w v) ∧
  (∀ m, m < nmb w v → I (a + 6 + 1) m = mb w v m 3) ∧
  (∀ m, m < nmb w v → I (a + 6 + 2) m = mb w v m 4) ∧
  (∀ m, m < nmb w v → I (a + 6 + 3) m = mb w v m 9) ∧
  (∀ m, m < nmb w v → I (a + 6 + 4) m = mb w v m 0) ∧
  (∀ m, m < nmb w v → I (a + 6 + 5) m = mb w v m 1) ∧
  (∀ m, m < nmb w v → I (a + 6 + 6) m = mb w v m 2) ∧
  (∀ m, m < nmb w v → I (a + 6 + 7) m = mb w v m 5) ∧
  (∀ m, m < nmb w v → I (a + 6 + 8) m = if mb w v m 0 = nI 1 then mb w v m 6 else -2) ∧
  (∀ m, m < nmb w v → I (a + 6 + 9) m = mb w v m 7) ∧
  (∀ m, m < nmb w v → I (a + 6 + 10) m = mb w v m 8) ∧
  (∀ m, m < nmb w v → I (a + 6 + 11) m = if mb w v m 0 = nI 1 then sgI (mb w v m 2) (mb w v m 7) (mb w v m 8) else -1) ∧
  (∀ m, m < nmb w v → I (a + 6 + 12) m = if mb w v m 0 = nI 1 then dsI (sgI (mb w v m 2) (mb w v m 7) (mb w v m 8)) (mb w v m 5) else -1)
theorem RLib.ex {I : Mem} {a : Nat} {w : Nat → Int32} {v : Nat} (h : RLib I a w v) : ∀ c, c < 32 → bt (I a 0) c = exC w v c := h.1
theorem RLib.ifc {I : Mem} {a : Nat} {w : Nat → Int32} {v : Nat} (h : RLib I a w v) : ∀ c, c < 32 → bt (I a 1) c = (exC w v c && itB w v c) := h.2.1
theorem RLib.pub {I : Mem} {a : Nat} {w : Nat → Int32} {v : Nat} (h : RLib I a w v) : ∀ c, c < 32 → bt (I a 2) c = (exC w v c && decide (cl w v c 5 = nI 1)) := h.2.2.1
theorem RLib.fin {I : Mem} {a : Nat} {w : Nat → Int32} {v : Nat} (h : RLib I a w v) : ∀ c, c < 32 → bt (I a 3) c = (exC w v c && decide (cl w v c 6 = nI 1)) := h.2.2.2.1
theorem RLib.abs {I : Mem} {a : Nat} {w : Nat → Int32} {v : Nat} (h : RLib I a w v) : ∀ c, c < 32 → bt (I a 4) c = (exC w v c && decide (cl w v c 7 = nI 1)) := h.2.2.2.2.1
theorem RLib.home {I : Mem} {a : Nat} {w : Nat → Int32} {v : Nat} (h : RLib I a w v) : ∀ c, exC w v c = true → I (a + 1) c = cl w v c 4 := h.2.2.2.2.2.1
theorem RLib.sup {I : Mem} {a : Nat} {w : Nat → Int32} {v : Nat} (h : RLib I a w v) : ∀ c, exC w v c = true → I (a + 2) c = cl w v c 2 := h.2.2.2.2.2.2.1
theorem RLib.itf {I : Mem} {a : Nat} {w : Nat → Int32} {v : Nat} (h : RLib I a w v) : ∀ c, exC w v c = true → I (a + 3) c = cl w v c 3 := h.2.2.2.2.2.2.2.1
theorem RLib.sty {I : Mem} {a : Nat} {w : Nat → Int32} {v : Nat} (h : RLib I a w v) : ∀ c t, c < 10 → t < 32 → bt (I (a + 4) c) t = (exC w v c && stB w v c t) := h.2.2.2.2.2.2.2.2.1
theorem RLib.lin {I : Mem} {a : Nat} {w : Nat → Int32} {v : Nat} (h : RLib I a w v) : ∀ c t, c < 10 → t < 32 → bt (I (a + 5) c) t = (exC w v c && lnB w v c t) := h.2.2.2.2.2.2.2.2.2.1
theorem RLib.size {I : Mem} {a : Nat} {w : Nat → Int32} {v : Nat} (h : RLib I a w v) : I (a + 6) 0 = mn w v := h.2.2.2.2.2.2.2.2.2.2.1
theorem RLib.acc {I : Mem} {a : Nat} {w : Nat → Int32} {v : Nat} (h : RLib I a w v) : ∀ m, m < nmb w v → I (a + 6 + 1) m = mb w v m 3 := h.2.2.2.2.2.2.2.2.2.2.2.1
theorem RLib.flg {I : Mem} {a : Nat} {w : Nat → Int32} {v : Nat} (h : RLib I a w v) : ∀ m, m < nmb w v → I (a + 6 + 2) m = mb w v m 4 := h.2.2.2.2.2.2.2.2.2.2.2.2.1
theorem RLib.con {I : Mem} {a : Nat} {w : Nat → Int32} {v : Nat} (h : RLib I a w v) : ∀ m, m < nmb w v → I (a + 6 + 3) m = mb w v m 9 := h.2.2.2.2.2.2.2.2.2.2.2.2.2.1
theorem RLib.knd {I : Mem} {a : Nat} {w : Nat → Int32} {v : Nat} (h : RLib I a w v) : ∀ m, m < nmb w v → I (a + 6 + 4) m = mb w v m 0 := h.2.2.2.2.2.2.2.2.2.2.2.2.2.2.1
theorem RLib.own {I : Mem} {a : Nat} {w : Nat → Int32} {v : Nat} (h : RLib I a w v) : ∀ m, m < nmb w v → I (a + 6 + 5) m = mb w v m 1 := h.2.2.2.2.2.2.2.2.2.2.2.2.2.2.2.1
theorem RLib.nam {I : Mem} {a : Nat} {w : Nat → Int32} {v : Nat} (h : RLib I a w v) : ∀ m, m < nmb w v → I (a + 6 + 6) m = mb w v m 2 := h.2.2.2.2.2.2.2.2.2.2.2.2.2.2.2.2.1
theorem RLib.typ {I : Mem} {a : Nat} {w : Nat → Int32} {v : Nat} (h : RLib I a w v) : ∀ m, m < nmb w v → I (a + 6 + 7) m = mb w v m 5 := h.2.2.2.2.2.2.2.2.2.2.2.2.2.2.2.2.2.1
theorem RLib.man {I : Mem} {a : Nat} {w : Nat → Int32} {v : Nat} (h : RLib I a w v) : ∀ m, m < nmb w v → I (a + 6 + 8) m = if mb w v m 0 = nI 1 then mb w v m 6 else -2 := h.2.2.2.2.2.2.2.2.2.2.2.2.2.2.2.2.2.2.1
theorem RLib.fst {I : Mem} {a : Nat} {w : Nat → Int32} {v : Nat} (h : RLib I a w v) : ∀ m, m < nmb w v → I (a + 6 + 9) m = mb w v m 7 := h.2.2.2.2.2.2.2.2.2.2.2.2.2.2.2.2.2.2.2.1
theorem RLib.snd {I : Mem} {a : Nat} {w : Nat → Int32} {v : Nat} (h : RLib I a w v) : ∀ m, m < nmb w v → I (a + 6 + 10) m = mb w v m 8 := h.2.2.2.2.2.2.2.2.2.2.2.2.2.2.2.2.2.2.2.2.1
theorem RLib.sig {I : Mem} {a : Nat} {w : Nat → Int32} {v : Nat} (h : RLib I a w v) : ∀ m, m < nmb w v → I (a + 6 + 11) m = if mb w v m 0 = nI 1 then sgI (mb w v m 2) (mb w v m 7) (mb w v m 8) else -1 := h.2.2.2.2.2.2.2.2.2.2.2.2.2.2.2.2.2.2.2.2.2.1
theorem RLib.dsc {I : Mem} {a : Nat} {w : Nat → Int32} {v : Nat} (h : RLib I a w v) : ∀ m, m < nmb w v → I (a + 6 + 12) m = if mb w v m 0 = nI 1 then dsI (sgI (mb w v m 2) (mb w v m 7) (mb w v m 8)) (mb w v m 5) else -1 := h.2.2.2.2.2.2.2.2.2.2.2.2.2.2.2.2.2.2.2.2.2.2
/-! arithmetic of types and keys -/
theorem tI_m2 (k : Nat) (a : Int32) : a + tI k - (-2) = a + nI k := by
  unfold tI
  rw [Int32.sub_eq_add_neg, show (-(-2) : Int32) = 2 from by decide, ← Int32.add_assoc, Int32.add_assoc (a + nI k), show ((-2) + 2 : Int32) = 0 from by decide, Int32.add_zero]
theorem tI_0 : tI 0 = -2 := by decide
theorem tI_inj : ∀ j k, j < 12 → k < 12 → (tI j = tI k ↔ j = k) := by
  have h : ∀ j, j < 12 → ∀ k, k < 12 → (tI j = tI k ↔ j = k) := by decide +kernel
  exact fun j k hj hk => h j hj k hk
theorem Ty1.ne {x : Int32} (h : Ty1 x) : x ≠ -2 := by
  obtain ⟨k, h1, h2, rfl⟩ := h
  intro e
  rw [← tI_0] at e
  have := (tI_inj k 0 h2 (by omega)).mp e
  omega
theorem sg_nat (n f s : Nat) : sgI (nI n) (tI f) (tI s) = nI ((n * 12 + f) * 12 + s) := by
  unfold sgI
  rw [tI_m2, tI_m2, pk_mul, nI_add, pk_mul, nI_add]
theorem ds_nat (k r : Nat) : dsI (nI k) (tI r) = nI (k * 12 + r) := by
  unfold dsI
  rw [tI_m2, pk_mul, nI_add]
/-- a type or NONE -/
def Ty (x : Int32) : Prop := ∃ k, k < 12 ∧ x = tI k
theorem Ty1.ty {x : Int32} (h : Ty1 x) : Ty x := by
  obtain ⟨k, -, h2, e⟩ := h
  exact ⟨k, h2, e⟩
theorem Ty_m2 : Ty (-2) := ⟨0, by decide, tI_0.symm⟩
theorem Pt.t1 {x y z : Int32} (h : Pt x y z) : Ty y := by
  rcases h with ⟨-, e, -⟩ | ⟨-, e, -⟩ | ⟨-, e, -⟩
  · rw [e]; exact Ty_m2
  · exact e.ty
  · exact e.ty
theorem Pt.t2 {x y z : Int32} (h : Pt x y z) : Ty z := by
  rcases h with ⟨-, -, e⟩ | ⟨-, -, e⟩ | ⟨-, -, e⟩
  · rw [e]; exact Ty_m2
  · rw [e]; exact Ty_m2
  · exact e.ty
/-- the number of the parameters is told by them -/
theorem Pt.many {x y z x' : Int32} (h : Pt x y z) (h' : Pt x' y z) : x = x' := by
  rcases h with ⟨a, b, c⟩ | ⟨a, b, c⟩ | ⟨a, b, c⟩ <;> rcases h' with ⟨a', b', c'⟩ | ⟨a', b', c'⟩ | ⟨a', b', c'⟩
  all_goals first
    | exact a.trans a'.symm
    | exact absurd b b'.ne
    | exact absurd b' b.ne
    | exact absurd c c'.ne
    | exact absurd c' c.ne
theorem sg_eq {n n' : Nat} {y z y' z' : Int32} (hn : n < 8) (hn' : n' < 8) (h1 : Ty y) (h2 : Ty z) (h1' : Ty y') (h2' : Ty z') : sgI (nI n) y z = sgI (nI n') y' z' ↔ n = n' ∧ y = y' ∧ z = z' := by
  obtain ⟨f, hf, rfl⟩ := h1
  obtain ⟨s, hs, rfl⟩ := h2
  obtain ⟨f', hf', rfl⟩ := h1'
  obtain ⟨s', hs', rfl⟩ := h2'
  rw [sg_nat, sg_nat, nI_eq (by omega) (by omega), tI_inj _ _ hf hf', tI_inj _ _ hs hs']
  omega
theorem ds_eq {n n' : Nat} {y z y' z' r r' : Int32} (hn : n < 8) (hn' : n' < 8) (h1 : Ty y) (h2 : Ty z) (h1' : Ty y') (h2' : Ty z') (hr : Ty r) (hr' : Ty r') : dsI (sgI (nI n) y z) r = dsI (sgI (nI n') y' z') r' ↔ n = n' ∧ y = y' ∧ z = z' ∧ r = r' := by
  obtain ⟨f, hf, rfl⟩ := h1
  obtain ⟨s, hs, rfl⟩ := h2
  obtain ⟨f', hf', rfl⟩ := h1'
  obtain ⟨s', hs', rfl⟩ := h2'
  obtain ⟨t, ht, rfl⟩ := hr
  obtain ⟨t', ht', rfl⟩ := hr'
  rw [sg_nat, sg_nat, ds_nat, ds_nat, nI_eq (by omega) (by omega), tI_inj _ _ hf hf', tI_inj _ _ hs hs', tI_inj _ _ ht ht']
  omega
theorem nI_nem {k : Nat} {z : Int32} (hk : k < 2 ^ 31) (hz : z < 0) : nI k ≠ z := fun e => nI_pos hk (e ▸ hz)
theorem ds_ne {n : Nat} {y z r : Int32} (hn : n < 8) (h1 : Ty y) (h2 : Ty z) (hr : Ty r) : dsI (sgI (nI n) y z) r ≠ -1 := by
  obtain ⟨f, hf, rfl⟩ := h1
  obtain ⟨s, hs, rfl⟩ := h2
  obtain ⟨t, ht, rfl⟩ := hr
  rw [sg_nat, ds_nat]
  exact nI_nem (by omega) (by decide)
theorem sg_ne {n : Nat} {y z : Int32} (hn : n < 8) (h1 : Ty y) (h2 : Ty z) : sgI (nI n) y z ≠ -1 := by
  obtain ⟨f, hf, rfl⟩ := h1
  obtain ⟨s, hs, rfl⟩ := h2
  rw [sg_nat]
  exact nI_nem (by omega) (by decide)
theorem exC_lt {w : Nat → Int32} {v c : Nat} (h : exC w v c = true) : c < 10 := by
  unfold exC at h
  simp only [Bool.and_eq_true, decide_eq_true_eq] at h
  exact h.1
theorem exC_ex {w : Nat → Int32} {v c : Nat} (h : exC w v c = true) : cl w v c 0 = nI 1 := by
  unfold exC at h
  simp only [Bool.and_eq_true, decide_eq_true_eq] at h
  exact h.2
theorem exC_of {w : Nat → Int32} {v c : Nat} (h : c < 10) (h2 : cl w v c 0 = nI 1) : exC w v c = true := by
  unfold exC
  rw [decide_eq_true h, decide_eq_true h2]
  rfl
theorem exC_in {w : Nat → Int32} {v c : Nat} (h : c < 10) : exC w v c = decide (cl w v c 0 = nI 1) := by
  unfold exC
  rw [decide_eq_true h, Bool.true_and]
/-! the small questions to a library -/
section Cl
variable {g : Gr} {a : Nat} {I : Mem} {J : Nat → Nat → Int64} {Z : Option Nat} {w : Nat → Int32} {v c m : Nat} {x y : Int32}
theorem C_isThere (hL : LibG g a) (hR : RLib I a w v) (hc : c < 10) : fX2_isThere a (nI c) (mm g I J Z) = some (bI (exC w v c), mm g I J Z) := by
  unfold fX2_isThere
  rw [if_neg (nI_pos (by omega)), if_neg (nI_ge hc (by omega)), lib_g0 hL, Option.bind_some, tst_if (by omega), hR.ex c (by omega)]
  cases exC w v c
  · exact rz_n0 _
  · exact rz_n1 _
theorem C_isThereX (hx : x < 0 ∨ nI 10 ≤ x) (h : AH) : fX2_isThere a x h = some (bI false, h) := by
  unfold fX2_isThere
  rcases hx with hx | hx
  · rw [if_pos hx, rz_n0]
  · by_cases h0 : x < 0
    · rw [if_pos h0, rz_n0]
    · rw [if_neg h0, if_pos hx, rz_n0]
theorem C_isI (hL : LibG g a) (hR : RLib I a w v) (hc : c < 10) : fX2_isInterface a (nI c) (mm g I J Z) = some (bI (exC w v c && itB w v c), mm g I J Z) := by
  unfold fX2_isInterface
  rw [lib_g1 hL, Option.bind_some, tst_if (by omega), hR.ifc c (by omega)]
  cases exC w v c && itB w v c
  · exact rz_n0 _
  · exact rz_n1 _
theorem C_isFinal (hL : LibG g a) (hR : RLib I a w v) (hc : c < 10) : fX2_isFinal a (nI c) (mm g I J Z) = some (bI (exC w v c && decide (cl w v c 6 = nI 1)), mm g I J Z) := by
  unfold fX2_isFinal
  rw [lib_g3 hL, Option.bind_some, tst_if (by omega), hR.fin c (by omega)]
  cases exC w v c && decide (cl w v c 6 = nI 1)
  · exact rz_n0 _
  · exact rz_n1 _
theorem C_isAbs (hL : LibG g a) (hR : RLib I a w v) (hc : c < 10) : fX2_isAbstract a (nI c) (mm g I J Z) = some (bI (exC w v c && decide (cl w v c 7 = nI 1)), mm g I J Z) := by
  unfold fX2_isAbstract
  rw [lib_g4 hL, Option.bind_some, tst_if (by omega), hR.abs c (by omega)]
  cases exC w v c && decide (cl w v c 7 = nI 1)
  · exact rz_n0 _
  · exact rz_n1 _
theorem C_size (hL : LibG g a) (hR : RLib I a w v) (hM : WM w v) : gI 4 (a + 6) 0 (mm g I J Z) = some (nI (nmb w v)) := by rw [mem_gI hL.mem, hR.size, hM.n]
theorem C_hasMember (hL : LibG g a) (hR : RLib I a w v) (hM : WM w v) (hm : m < 2 ^ 31) : fX2_hasMember a (nI m) (mm g I J Z) = some (bI (decide (m < nmb w v)), mm g I J Z) := by
  have hn := hM.n40
  unfold fX2_hasMember
  rw [if_neg (nI_pos hm), lib_p10 hL, Option.bind_some, C_size hL hR hM, Option.bind_some]
  by_cases h : m < nmb w v
  · rw [if_neg (nI_ge h (by omega)), rz_n1, decide_eq_true h]
  · rw [if_pos (nI_le (by omega) hm), rz_n0, decide_eq_false h]
theorem C_hasMemberX (hx : x < 0) (h : AH) : fX2_hasMember a x h = some (bI false, h) := by
  unfold fX2_hasMember
  rw [if_pos hx, rz_n0]
/-- one type fits another -/
def fitB (w : Nat → Int32) (v : Nat) (x y : Int32) : Bool := decide (x = y) || (!decide (x < 0) && !decide (y < 0) && exC w v x.toNatClampNeg && stB w v x.toNatClampNeg y.toNatClampNeg)
theorem ty_cases {x : Int32} (h : Ty x) : x < 0 ∨ ∃ k, k < 10 ∧ x = nI k := by
  obtain ⟨k, hk, rfl⟩ := h
  exact (by decide +kernel : ∀ k, k < 12 → (tI k < 0 ∨ ∃ j, j < 10 ∧ tI k = nI j)) k hk
theorem C_fits (hL : LibG g a) (hR : RLib I a w v) (hx : Ty x) (hy : Ty y) : fX2_fitsType a x y (mm g I J Z) = some (bI (fitB w v x y), mm g I J Z) := by
  unfold fX2_fitsType fitB
  by_cases h : x = y
  · rw [if_pos h, rz_n1, decide_eq_true h, Bool.true_or]
  · rw [if_neg h, decide_eq_false h, Bool.false_or]
    rcases ty_cases hx with h1 | ⟨j, hj, rfl⟩
    · rw [if_pos h1, rz_n0, decide_eq_true h1]
      rfl
    · rw [if_neg (nI_pos (by omega)), decide_eq_false (nI_pos (by omega : j < 2 ^ 31))]
      rcases ty_cases hy with h2 | ⟨k, hk, rfl⟩
      · rw [if_pos h2, rz_n0, decide_eq_true h2]
        rfl
      · rw [if_neg (nI_pos (by omega)), decide_eq_false (nI_pos (by omega : k < 2 ^ 31)), lib_p8 hL, Option.bind_some, lib_l4 hL hj, Option.bind_some, tst_if (by omega), hR.sty j k hj (by omega), nI_clamp (by omega), nI_clamp (by omega)]
        simp only [Bool.not_false, Bool.true_and]
        cases exC w v j && stB w v j k
        · exact rz_n0 _
        · exact rz_n1 _
theorem C_open (hL : LibG g a) (hR : RLib I a w v) (he : exC w v c = true) : fX2_isClassOpen a (nI c) x (mm g I J Z) = some (bI (decide (cl w v c 5 = nI 1) || decide (cl w v c 4 = x)), mm g I J Z) := by
  have hc := exC_lt he
  unfold fX2_isClassOpen
  rw [lib_g2 hL, Option.bind_some, tst_if (by omega), hR.pub c (by omega), he, Bool.true_and]
  by_cases h : cl w v c 5 = nI 1
  · rw [decide_eq_true h, if_pos rfl, rz_n1, Bool.true_or]
  · rw [decide_eq_false h, if_neg (by decide), lib_p5 hL, Option.bind_some, lib_l1 hL hc, Option.bind_some, hR.home c he, Bool.false_or]
    by_cases h2 : cl w v c 4 = x
    · rw [if_pos h2, rz_n1, decide_eq_true h2]
    · rw [if_neg h2, rz_n0, decide_eq_false h2]
/-- a member is open to a client of a package with a base -/
def opB (w : Nat → Int32) (v m : Nat) (pk : Int32) (bs : Nat) : Bool := decide (mb w v m 3 = nI 3) || (!decide (mb w v m 3 = 0) && decide (cl w v (ow w v m) 4 = pk)) || (decide (mb w v m 3 = nI 2) && exC w v bs && stB w v bs (ow w v m))
theorem C_mopen (hL : LibG g a) (hR : RLib I a w v) (hM : WM w v) (hm : m < nmb w v) {p b : Nat} (hp : g.1 p = 1) (hb : b < 10) (hpb : I p 4 = nI b) : fX2_isMemberOpen a (nI m) p (mm g I J Z) = some (bI (opB w v m (I p 3) b), mm g I J Z) := by
  have hn := hM.n40
  obtain ⟨o1, o2, o3, o4⟩ := hM.own m hm
  have h48 : fX2_isMemberOpen_48 a p (mb w v m 3) (nI (ow w v m)) (mm g I J Z) = some (bI (decide (mb w v m 3 = nI 2) && exC w v b && stB w v b (ow w v m)), mm g I J Z) := by
    unfold fX2_isMemberOpen_48
    by_cases h : mb w v m 3 = nI 2
    · rw [if_pos h, lib_p8 hL, Option.bind_some, gI_m hp, Option.bind_some, hpb, lib_l4 hL hb, Option.bind_some, tst_if (by omega), hR.sty b _ hb (by omega), decide_eq_true h, Bool.true_and]
      cases exC w v b && stB w v b (ow w v m)
      · exact rz_n0 _
      · exact rz_n1 _
    · rw [if_neg h, rz_n0, decide_eq_false h]
      rfl
  unfold fX2_isMemberOpen opB
  rw [lib_p10 hL, Option.bind_some, mem_p1 hL.mem, Option.bind_some, mem_l1 hL.mem (by omega), Option.bind_some, Option.bind_some, mem_p5 hL.mem, Option.bind_some, mem_l5 hL.mem (by omega), Option.bind_some, hR.acc m hm, hR.own m hm, o3]
  by_cases h3 : mb w v m 3 = nI 3
  · rw [if_pos h3, rz_n1, decide_eq_true h3]
    rfl
  · rw [if_neg h3, decide_eq_false h3, Bool.false_or]
    by_cases h0 : mb w v m 3 = 0
    · rw [if_pos h0, h48, decide_eq_true h0]
      rfl
    · rw [if_neg h0, decide_eq_false h0, lib_p5 hL, Option.bind_some, lib_l1 hL o2, Option.bind_some, gI_m hp, Option.bind_some, hR.home _ o4]
      by_cases h : cl w v (ow w v m) 4 = I p 3
      · rw [if_pos h, rz_n1, decide_eq_true h]
        rfl
      · rw [if_neg h, h48, decide_eq_false h]
        rfl
end Cl
