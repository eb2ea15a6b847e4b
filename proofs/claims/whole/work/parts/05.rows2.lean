section R2
variable {ρ : Type} {M : MI} {inj : ρ → Rs} {kc ks pc : Nat} {lv lv' : List (Option Value)} {st : List Value} {F F1 F2 : AH → Option (ρ × AH)}
theorem S_iadd {x y : Int32} (d : decode (mC M) pc = .ok (.iadd, 1)) (k : Sm M inj kc ks (pc + 1) lv (.int (x + y) :: st) F) : Sm M inj kc ks pc lv (.int y :: .int x :: st) F := by
  intro l G base p e s m args below meth c C H locs ls h r h' hl hS hR hF
  exact lv_iadd C.1 C.2.1 d (k l G base p e s m args below meth c C H locs ls h r h' hl hS hR hF)
theorem S_isub {x y : Int32} (d : decode (mC M) pc = .ok (.isub, 1)) (k : Sm M inj kc ks (pc + 1) lv (.int (x - y) :: st) F) : Sm M inj kc ks pc lv (.int y :: .int x :: st) F := by
  intro l G base p e s m args below meth c C H locs ls h r h' hl hS hR hF
  exact lv_isub C.1 C.2.1 d (k l G base p e s m args below meth c C H locs ls h r h' hl hS hR hF)
theorem S_imul {x y : Int32} (d : decode (mC M) pc = .ok (.imul, 1)) (k : Sm M inj kc ks (pc + 1) lv (.int (x * y) :: st) F) : Sm M inj kc ks pc lv (.int y :: .int x :: st) F := by
  intro l G base p e s m args below meth c C H locs ls h r h' hl hS hR hF
  exact lv_imul C.1 C.2.1 d (k l G base p e s m args below meth c C H locs ls h r h' hl hS hR hF)
theorem S_iand {x y : Int32} (d : decode (mC M) pc = .ok (.iand, 1)) (k : Sm M inj kc ks (pc + 1) lv (.int (x &&& y) :: st) F) : Sm M inj kc ks pc lv (.int y :: .int x :: st) F := by
  intro l G base p e s m args below meth c C H locs ls h r h' hl hS hR hF
  exact lv_iand C.1 C.2.1 d (k l G base p e s m args below meth c C H locs ls h r h' hl hS hR hF)
theorem S_ior {x y : Int32} (d : decode (mC M) pc = .ok (.ior, 1)) (k : Sm M inj kc ks (pc + 1) lv (.int (x ||| y) :: st) F) : Sm M inj kc ks pc lv (.int y :: .int x :: st) F := by
  intro l G base p e s m args below meth c C H locs ls h r h' hl hS hR hF
  exact lv_ior C.1 C.2.1 d (k l G base p e s m args below meth c C H locs ls h r h' hl hS hR hF)
theorem S_ixor {x y : Int32} (d : decode (mC M) pc = .ok (.ixor, 1)) (k : Sm M inj kc ks (pc + 1) lv (.int (x ^^^ y) :: st) F) : Sm M inj kc ks pc lv (.int y :: .int x :: st) F := by
  intro l G base p e s m args below meth c C H locs ls h r h' hl hS hR hF
  exact lv_ixor C.1 C.2.1 d (k l G base p e s m args below meth c C H locs ls h r h' hl hS hR hF)
theorem S_ishl {x y : Int32} (d : decode (mC M) pc = .ok (.ishl, 1)) (k : Sm M inj kc ks (pc + 1) lv (.int (x <<< (y &&& 31)) :: st) F) : Sm M inj kc ks pc lv (.int y :: .int x :: st) F := by
  intro l G base p e s m args below meth c C H locs ls h r h' hl hS hR hF
  exact lv_ishl C.1 C.2.1 d (k l G base p e s m args below meth c C H locs ls h r h' hl hS hR hF)
theorem S_ishr {x y : Int32} (d : decode (mC M) pc = .ok (.ishr, 1)) (k : Sm M inj kc ks (pc + 1) lv (.int (x >>> (y &&& 31)) :: st) F) : Sm M inj kc ks pc lv (.int y :: .int x :: st) F := by
  intro l G base p e s m args below meth c C H locs ls h r h' hl hS hR hF
  exact lv_ishr C.1 C.2.1 d (k l G base p e s m args below meth c C H locs ls h r h' hl hS hR hF)
theorem S_ladd {x y : Int64} (d : decode (mC M) pc = .ok (.ladd, 1)) (k : Sm M inj kc ks (pc + 1) lv (.long (x + y) :: st) F) : Sm M inj kc ks pc lv (.long y :: .long x :: st) F := by
  intro l G base p e s m args below meth c C H locs ls h r h' hl hS hR hF
  exact lv_ladd C.1 C.2.1 d (k l G base p e s m args below meth c C H locs ls h r h' hl hS hR hF)
theorem S_lmul {x y : Int64} (d : decode (mC M) pc = .ok (.lmul, 1)) (k : Sm M inj kc ks (pc + 1) lv (.long (x * y) :: st) F) : Sm M inj kc ks pc lv (.long y :: .long x :: st) F := by
  intro l G base p e s m args below meth c C H locs ls h r h' hl hS hR hF
  exact lv_lmul C.1 C.2.1 d (k l G base p e s m args below meth c C H locs ls h r h' hl hS hR hF)
theorem S_lcmp {x y : Int64} (d : decode (mC M) pc = .ok (.lcmp, 1)) (k : Sm M inj kc ks (pc + 1) lv (.int (lg_cmp x y) :: st) F) : Sm M inj kc ks pc lv (.long y :: .long x :: st) F := by
  intro l G base p e s m args below meth c C H locs ls h r h' hl hS hR hF
  exact W.lcmp C.1 C.2.1 d (k l G base p e s m args below meth c C H locs ls h r h' hl hS hR hF)
theorem S_i2l {x : Int32} (d : decode (mC M) pc = .ok (.i2l, 1)) (k : Sm M inj kc ks (pc + 1) lv (.long x.toInt64 :: st) F) : Sm M inj kc ks pc lv (.int x :: st) F := by
  intro l G base p e s m args below meth c C H locs ls h r h' hl hS hR hF
  exact lv_i2l C.1 C.2.1 d rfl (k l G base p e s m args below meth c C H locs ls h r h' hl hS hR hF)
theorem S_pop {v : Value} (hv : v.category = 1) (d : decode (mC M) pc = .ok (.pop, 1)) (k : Sm M inj kc ks (pc + 1) lv st F) : Sm M inj kc ks pc lv (v :: st) F := by
  intro l G base p e s m args below meth c C H locs ls h r h' hl hS hR hF
  exact lv_pop C.1 C.2.1 d hv (k l G base p e s m args below meth c C H locs ls h r h' hl hS hR hF)
theorem S_dup {v : Value} (hv : v.category = 1) (d : decode (mC M) pc = .ok (.dup, 1)) (k : Sm M inj kc ks (pc + 1) lv (v :: v :: st) F) : Sm M inj kc ks pc lv (v :: st) F := by
  intro l G base p e s m args below meth c C H locs ls h r h' hl hS hR hF
  exact lv_dup C.1 C.2.1 d hv (k l G base p e s m args below meth c C H locs ls h r h' hl hS hR hF)
theorem S_ifeq {x : Int32} {off : Int} {tgt : Nat} (d : decode (mC M) pc = .ok (.ifCond .eq off, 3)) (ht : (pc : Int) + off = (tgt : Int)) (k1 : Sm M inj kc ks tgt lv st F1) (k2 : Sm M inj kc ks (pc + 3) lv st F2) : Sm M inj kc ks pc lv (.int x :: st) (fun h => if x = 0 then F1 h else F2 h) := by
  intro l G base p e s m args below meth c C H locs ls h r h' hl hS hR hF
  exact lv_if_eq C.1 C.2.1 d ht (fun q => k1 l G base p e s m args below meth c C H locs ls h r h' hl hS hR ((if_pos q).symm.trans hF)) (fun q => k2 l G base p e s m args below meth c C H locs ls h r h' hl hS hR ((if_neg q).symm.trans hF))
theorem S_icmpeq {x y : Int32} {off : Int} {tgt : Nat} (d : decode (mC M) pc = .ok (.if_icmp .eq off, 3)) (ht : (pc : Int) + off = (tgt : Int)) (k1 : Sm M inj kc ks tgt lv st F1) (k2 : Sm M inj kc ks (pc + 3) lv st F2) : Sm M inj kc ks pc lv (.int y :: .int x :: st) (fun h => if x = y then F1 h else F2 h) := by
  intro l G base p e s m args below meth c C H locs ls h r h' hl hS hR hF
  exact lv_icmp_eq C.1 C.2.1 d ht (fun q => k1 l G base p e s m args below meth c C H locs ls h r h' hl hS hR ((if_pos q).symm.trans hF)) (fun q => k2 l G base p e s m args below meth c C H locs ls h r h' hl hS hR ((if_neg q).symm.trans hF))
theorem S_ifne {x : Int32} {off : Int} {tgt : Nat} (d : decode (mC M) pc = .ok (.ifCond .ne off, 3)) (ht : (pc : Int) + off = (tgt : Int)) (k1 : Sm M inj kc ks tgt lv st F1) (k2 : Sm M inj kc ks (pc + 3) lv st F2) : Sm M inj kc ks pc lv (.int x :: st) (fun h => if x = 0 then F2 h else F1 h) := by
  intro l G base p e s m args below meth c C H locs ls h r h' hl hS hR hF
  exact lv_if_ne C.1 C.2.1 d ht (fun q => k1 l G base p e s m args below meth c C H locs ls h r h' hl hS hR ((if_neg q).symm.trans hF)) (fun q => k2 l G base p e s m args below meth c C H locs ls h r h' hl hS hR ((if_pos q).symm.trans hF))
theorem S_icmpne {x y : Int32} {off : Int} {tgt : Nat} (d : decode (mC M) pc = .ok (.if_icmp .ne off, 3)) (ht : (pc : Int) + off = (tgt : Int)) (k1 : Sm M inj kc ks tgt lv st F1) (k2 : Sm M inj kc ks (pc + 3) lv st F2) : Sm M inj kc ks pc lv (.int y :: .int x :: st) (fun h => if x = y then F2 h else F1 h) := by
  intro l G base p e s m args below meth c C H locs ls h r h' hl hS hR hF
  exact lv_icmp_ne C.1 C.2.1 d ht (fun q => k1 l G base p e s m args below meth c C H locs ls h r h' hl hS hR ((if_neg q).symm.trans hF)) (fun q => k2 l G base p e s m args below meth c C H locs ls h r h' hl hS hR ((if_pos q).symm.trans hF))
theorem S_iflt {x : Int32} {off : Int} {tgt : Nat} (d : decode (mC M) pc = .ok (.ifCond .lt off, 3)) (ht : (pc : Int) + off = (tgt : Int)) (k1 : Sm M inj kc ks tgt lv st F1) (k2 : Sm M inj kc ks (pc + 3) lv st F2) : Sm M inj kc ks pc lv (.int x :: st) (fun h => if x < 0 then F1 h else F2 h) := by
  intro l G base p e s m args below meth c C H locs ls h r h' hl hS hR hF
  exact lv_if_lt C.1 C.2.1 d ht (fun q => k1 l G base p e s m args below meth c C H locs ls h r h' hl hS hR ((if_pos q).symm.trans hF)) (fun q => k2 l G base p e s m args below meth c C H locs ls h r h' hl hS hR ((if_neg q).symm.trans hF))
theorem S_icmplt {x y : Int32} {off : Int} {tgt : Nat} (d : decode (mC M) pc = .ok (.if_icmp .lt off, 3)) (ht : (pc : Int) + off = (tgt : Int)) (k1 : Sm M inj kc ks tgt lv st F1) (k2 : Sm M inj kc ks (pc + 3) lv st F2) : Sm M inj kc ks pc lv (.int y :: .int x :: st) (fun h => if x < y then F1 h else F2 h) := by
  intro l G base p e s m args below meth c C H locs ls h r h' hl hS hR hF
  exact lv_icmp_lt C.1 C.2.1 d ht (fun q => k1 l G base p e s m args below meth c C H locs ls h r h' hl hS hR ((if_pos q).symm.trans hF)) (fun q => k2 l G base p e s m args below meth c C H locs ls h r h' hl hS hR ((if_neg q).symm.trans hF))
theorem S_ifge {x : Int32} {off : Int} {tgt : Nat} (d : decode (mC M) pc = .ok (.ifCond .ge off, 3)) (ht : (pc : Int) + off = (tgt : Int)) (k1 : Sm M inj kc ks tgt lv st F1) (k2 : Sm M inj kc ks (pc + 3) lv st F2) : Sm M inj kc ks pc lv (.int x :: st) (fun h => if 0 ≤ x then F1 h else F2 h) := by
  intro l G base p e s m args below meth c C H locs ls h r h' hl hS hR hF
  exact lv_if_ge C.1 C.2.1 d ht (fun q => k1 l G base p e s m args below meth c C H locs ls h r h' hl hS hR ((if_pos q).symm.trans hF)) (fun q => k2 l G base p e s m args below meth c C H locs ls h r h' hl hS hR ((if_neg q).symm.trans hF))
theorem S_icmpge {x y : Int32} {off : Int} {tgt : Nat} (d : decode (mC M) pc = .ok (.if_icmp .ge off, 3)) (ht : (pc : Int) + off = (tgt : Int)) (k1 : Sm M inj kc ks tgt lv st F1) (k2 : Sm M inj kc ks (pc + 3) lv st F2) : Sm M inj kc ks pc lv (.int y :: .int x :: st) (fun h => if y ≤ x then F1 h else F2 h) := by
  intro l G base p e s m args below meth c C H locs ls h r h' hl hS hR hF
  exact lv_icmp_ge C.1 C.2.1 d ht (fun q => k1 l G base p e s m args below meth c C H locs ls h r h' hl hS hR ((if_pos q).symm.trans hF)) (fun q => k2 l G base p e s m args below meth c C H locs ls h r h' hl hS hR ((if_neg q).symm.trans hF))
theorem S_ifgt {x : Int32} {off : Int} {tgt : Nat} (d : decode (mC M) pc = .ok (.ifCond .gt off, 3)) (ht : (pc : Int) + off = (tgt : Int)) (k1 : Sm M inj kc ks tgt lv st F1) (k2 : Sm M inj kc ks (pc + 3) lv st F2) : Sm M inj kc ks pc lv (.int x :: st) (fun h => if 0 < x then F1 h else F2 h) := by
  intro l G base p e s m args below meth c C H locs ls h r h' hl hS hR hF
  exact lv_if_gt C.1 C.2.1 d ht (fun q => k1 l G base p e s m args below meth c C H locs ls h r h' hl hS hR ((if_pos q).symm.trans hF)) (fun q => k2 l G base p e s m args below meth c C H locs ls h r h' hl hS hR ((if_neg q).symm.trans hF))
theorem S_icmpgt {x y : Int32} {off : Int} {tgt : Nat} (d : decode (mC M) pc = .ok (.if_icmp .gt off, 3)) (ht : (pc : Int) + off = (tgt : Int)) (k1 : Sm M inj kc ks tgt lv st F1) (k2 : Sm M inj kc ks (pc + 3) lv st F2) : Sm M inj kc ks pc lv (.int y :: .int x :: st) (fun h => if y < x then F1 h else F2 h) := by
  intro l G base p e s m args below meth c C H locs ls h r h' hl hS hR hF
  exact lv_icmp_gt C.1 C.2.1 d ht (fun q => k1 l G base p e s m args below meth c C H locs ls h r h' hl hS hR ((if_pos q).symm.trans hF)) (fun q => k2 l G base p e s m args below meth c C H locs ls h r h' hl hS hR ((if_neg q).symm.trans hF))
theorem S_ifle {x : Int32} {off : Int} {tgt : Nat} (d : decode (mC M) pc = .ok (.ifCond .le off, 3)) (ht : (pc : Int) + off = (tgt : Int)) (k1 : Sm M inj kc ks tgt lv st F1) (k2 : Sm M inj kc ks (pc + 3) lv st F2) : Sm M inj kc ks pc lv (.int x :: st) (fun h => if x ≤ 0 then F1 h else F2 h) := by
  intro l G base p e s m args below meth c C H locs ls h r h' hl hS hR hF
  exact lv_if_le C.1 C.2.1 d ht (fun q => k1 l G base p e s m args below meth c C H locs ls h r h' hl hS hR ((if_pos q).symm.trans hF)) (fun q => k2 l G base p e s m args below meth c C H locs ls h r h' hl hS hR ((if_neg q).symm.trans hF))
theorem S_icmple {x y : Int32} {off : Int} {tgt : Nat} (d : decode (mC M) pc = .ok (.if_icmp .le off, 3)) (ht : (pc : Int) + off = (tgt : Int)) (k1 : Sm M inj kc ks tgt lv st F1) (k2 : Sm M inj kc ks (pc + 3) lv st F2) : Sm M inj kc ks pc lv (.int y :: .int x :: st) (fun h => if x ≤ y then F1 h else F2 h) := by
  intro l G base p e s m args below meth c C H locs ls h r h' hl hS hR hF
  exact lv_icmp_le C.1 C.2.1 d ht (fun q => k1 l G base p e s m args below meth c C H locs ls h r h' hl hS hR ((if_pos q).symm.trans hF)) (fun q => k2 l G base p e s m args below meth c C H locs ls h r h' hl hS hR ((if_neg q).symm.trans hF))
theorem S_goto {off : Int} {tgt : Nat} (d : decode (mC M) pc = .ok (.goto off, 3)) (ht : (pc : Int) + off = (tgt : Int)) (k : Sm M inj kc ks tgt lv st F) : Sm M inj kc ks pc lv st F := by
  intro l G base p e s m args below meth c C H locs ls h r h' hl hS hR hF
  exact lv_goto C.1 C.2.1 d ht (k l G base p e s m args below meth c C H locs ls h r h' hl hS hR hF)
theorem S_dup2 {v w : Value} (hv : v.category = 1) (hw : w.category = 1) (d : decode (mC M) pc = .ok (.dup2, 1)) (k : Sm M inj kc ks (pc + 1) lv (v :: w :: v :: w :: st) F) : Sm M inj kc ks pc lv (v :: w :: st) F := by
  intro l G base p e s m args below meth c C H locs ls h r h' hl hS hR hF
  exact lv_dup2_11 C.1 C.2.1 d hv hw (k l G base p e s m args below meth c C H locs ls h r h' hl hS hR hF)
theorem S_irem {x y : Int32} (hy : ¬ y = 0) (d : decode (mC M) pc = .ok (.irem, 1)) (k : Sm M inj kc ks (pc + 1) lv (.int (x - x / y * y) :: st) F) : Sm M inj kc ks pc lv (.int y :: .int x :: st) F := by
  intro l G base p e s m args below meth c C H locs ls h r h' hl hS hR hF
  exact lv_irem C.1 C.2.1 d hy (k l G base p e s m args below meth c C H locs ls h r h' hl hS hR hF)
theorem S_idiv {x y : Int32} (hy : ¬ y = 0) (d : decode (mC M) pc = .ok (.idiv, 1)) (k : Sm M inj kc ks (pc + 1) lv (.int (x / y) :: st) F) : Sm M inj kc ks pc lv (.int y :: .int x :: st) F := by
  intro l G base p e s m args below meth c C H locs ls h r h' hl hS hR hF
  exact lv_idiv C.1 C.2.1 d hy (k l G base p e s m args below meth c C H locs ls h r h' hl hS hR hF)
theorem S_iushr {x y : Int32} (d : decode (mC M) pc = .ok (.iushr, 1)) (k : Sm M inj kc ks (pc + 1) lv (.int (x.toUInt32 >>> (y.toUInt32 &&& Int32.toUInt32 31)).toInt32 :: st) F) : Sm M inj kc ks pc lv (.int y :: .int x :: st) F := by
  intro l G base p e s m args below meth c C H locs ls h r h' hl hS hR hF
  exact lv_iushr C.1 C.2.1 d rfl (k l G base p e s m args below meth c C H locs ls h r h' hl hS hR hF)
theorem S_widen {kc' ks' : Nat} (h1 : Nat.ble kc kc' = true) (h2 : Nat.ble ks ks' = true) (k : Sm M inj kc' ks' pc lv st F) : Sm M inj kc ks pc lv st F := by
  intro l G base p e s m args below meth c C H locs ls h r h' hl hS hR hF
  exact W.widen (Nat.le_of_ble_eq_true h1) (Nat.le_of_ble_eq_true h2) (k l G base p e s m args below meth c C H locs ls h r h' hl hS hR hF)
/-- fewer locals are known -/
def Lw : List (Option Value) → List (Option Value) → Prop
  | [], _ => True
  | none :: a, _ :: b => Lw a b
  | none :: a, [] => Lw a []
  | some v :: a, some w :: b => v = w ∧ Lw a b
  | some _ :: _, _ => False
theorem Lw.get : ∀ {a b : List (Option Value)}, Lw a b → ∀ {i : Nat} {v : Value}, a[i]? = some (some v) → b[i]? = some (some v)
  | [], _, _, i, v, hi => by simp at hi
  | none :: a, x :: b, h, 0, v, hi => by simp at hi
  | none :: a, x :: b, h, i + 1, v, hi => by
    simp only [List.getElem?_cons_succ] at hi ⊢
    exact Lw.get (a := a) (b := b) h hi
  | none :: a, [], h, 0, v, hi => by simp at hi
  | none :: a, [], h, i + 1, v, hi => by
    simp only [List.getElem?_cons_succ] at hi
    have := Lw.get (a := a) (b := []) h hi
    simp at this
  | some w :: a, some x :: b, h, 0, v, hi => by
    simp only [List.getElem?_cons_zero] at hi ⊢
    rw [← h.1]; exact hi
  | some w :: a, some x :: b, h, i + 1, v, hi => by
    simp only [List.getElem?_cons_succ] at hi ⊢
    exact Lw.get (a := a) (b := b) h.2 hi
  | some w :: a, none :: b, h, _, v, hi => absurd h (by simp [Lw])
  | some w :: a, [], h, _, v, hi => absurd h (by simp [Lw])
theorem S_lv {lv0 : List (Option Value)} (hw : Lw lv0 lv) (k : Sm M inj kc ks pc lv0 st F) : Sm M inj kc ks pc lv st F := by
  intro l G base p e s m args below meth c C H locs ls h r h' hl hS hR hF
  exact k l G base p e s m args below meth c C H locs ls h r h' ⟨hl.1, hl.2.1, fun i v hi => hl.2.2 i v (hw.get hi)⟩ hS hR hF
theorem S_none {M : MI} : Sm M inj kc ks pc lv st (fun _ => none) := by
  intro l G base p e s m args below meth c C H locs ls h r h' hl hS hR hF
  cases hF
/-- a loop: its body, from its head back to its head, and out -/
theorem S_loop {α : Type} {L : α → List (Option Value)} {b : (α → AH → Option (ρ × AH)) → α → AH → Option (ρ × AH)} (hb : ∀ k : α → AH → Option (ρ × AH), (∀ x, Sm M inj kc ks pc (L x) st (k x)) → ∀ x, Sm M inj kc ks pc (L x) st (b k x)) : ∀ (n : Nat) (x : α), Sm M inj kc ks pc (L x) st (loopN b n x)
  | 0, _ => S_none
  | n + 1, x => hb _ (S_loop hb n) x
/-! switches -/
theorem S_tsw {x : Int32} {dflt lo hi : Int} {offs : Array Int} {len tgt : Nat} (d : decode (mC M) pc = .ok (.tableswitch dflt lo hi offs, len)) (ht : (pc : Int) + dflt = (tgt : Int)) (hlh : lo ≤ hi ∧ (offs.size : Int) = hi - lo + 1)
    {tg : List Nat} (htg : ∀ j (hj : j < offs.size), (pc : Int) + offs[j] = ((tg.getD j 0 : Nat) : Int)) {Fs : Nat → AH → Option (ρ × AH)}
    (k : ∀ j, j < offs.size → Sm M inj kc ks (tg.getD j 0) lv st (Fs j)) (kd : Sm M inj kc ks tgt lv st F) :
    Sm M inj kc ks pc lv (.int x :: st) (fun h => if x.toInt < lo ∨ hi < x.toInt then F h else Fs (x.toInt - lo).toNat h) := by
  intro l G base p e s m args below meth c C H locs ls h r h' hl hS hR hF
  by_cases hq : x.toInt < lo ∨ hi < x.toInt
  · exact lv_tableOut C.1 C.2.1 d hq ht (kd l G base p e s m args below meth c C H locs ls h r h' hl hS hR ((if_pos hq).symm.trans hF))
  · have h1 : ¬ x.toInt < lo := fun z => hq (Or.inl z)
    have h2 : ¬ hi < x.toInt := fun z => hq (Or.inr z)
    have hj : (x.toInt - lo).toNat < offs.size := by omega
    exact lv_tableIn C.1 C.2.1 d h1 h2 (Array.getElem?_eq_getElem hj) (htg _ hj) (k _ hj l G base p e s m args below meth c C H locs ls h r h' hl hS hR ((if_neg hq).symm.trans hF))
end R2
