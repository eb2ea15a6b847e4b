/-! ===== rows: constructors, entries, methods with handlers ===== -/
def rI : Int32 → Rs := fun x => .inl (some (.int x))
def rL : Int64 → Rs := fun x => .inl (some (.long x))
def rA : Nat → Rs := fun x => .inl (some (.ref x))
def rV : Unit → Rs := fun _ => .inl none
def xI : Nat ⊕ Int32 → Rs := fun q => match q with
  | .inl k => .inr k
  | .inr x => .inl (some (.int x))
def xA : Nat ⊕ Nat → Rs := fun q => match q with
  | .inl k => .inr k
  | .inr x => .inl (some (.ref x))
def xV : Nat ⊕ Unit → Rs := fun q => match q with
  | .inl k => .inr k
  | .inr _ => .inl none
theorem vx_toMet {l : Launch} {y : MethodName} {ws : List Cond} {rm : Room} {Pc : Array Value → State → Prop} {G : GC} {base : Nat} {o : Rs} {v : Option Value} {h' : AH} {mc ms : Nat} {free : Addr → Prop} (ho : o = .inl v) (hM : vx_Met l y ws rm Pc (Qr G base o h') (Xr G base o h') mc ms free) : Met l y ws rm Pc (Qr G base o h') mc ms free := by
  intro p e ha hc hk s m args below hf happ hP hK
  obtain ⟨n, oc, h1, h2, h3, hq⟩ := hM p e ha hc hk s m args below hf happ hP hK
  refine ⟨n, oc, h1, h2, h3, ?_⟩
  rcases hq with hq | ⟨q, -, E, ce, L, ⟨⟨k, hk, -⟩, -⟩, -⟩
  · exact hq
  · rw [ho] at hk; cases hk
def entryL : List Value → List (Option Value)
  | [] => []
  | v :: vs => if v.category = 2 then some v :: none :: entryL vs else some v :: entryL vs
theorem entryL_in : ∀ (as : List Value) (j i : Nat) (v : Value), (entryL as)[i]? = some (some v) → (j + i, v) ∈ lv_args j as
  | [], j, i, v, h => by simp [entryL] at h
  | w :: ws, j, i, v, h => by
    unfold entryL at h
    unfold lv_args
    by_cases hc : w.category = 2
    · rw [if_pos hc] at h ⊢
      match i, h with
      | 0, h => cases h; exact List.mem_cons_self
      | 1, h => cases h
      | i + 2, h =>
        have := entryL_in ws (j + 2) i v h
        rw [show j + 2 + i = j + (i + 2) by omega] at this
        exact List.mem_cons_of_mem _ this
    · rw [if_neg hc] at h ⊢
      match i, h with
      | 0, h => cases h; exact List.mem_cons_self
      | i + 1, h =>
        have := entryL_in ws (j + 1) i v h
        rw [show j + 1 + i = j + (i + 1) by omega] at this
        exact List.mem_cons_of_mem _ this
theorem lvH.entry {as : List Value} {n z : Nat} {lv : List (Option Value)} (hlv : lv = entryL as ++ List.replicate z none) (hlen : (lg_sl as).length ≤ n) : lvH ((lg_sl as ++ List.replicate (n - (lg_sl as).length) Slot.unset).toArray) n lv := by
  have h := lv_entry as hlen
  refine ⟨h.1, h.2.1, fun i v hi => ?_⟩
  rw [hlv] at hi
  by_cases hl : i < (entryL as).length
  · rw [List.getElem?_append_left hl] at hi
    have := entryL_in as 0 i v hi
    rw [Nat.zero_add] at this
    exact h.2.2 (i, v) this
  · rw [List.getElem?_append_right (by omega), List.getElem?_replicate] at hi
    split at hi <;> cases hi
def wsH (M : MI) : List Cond := Cond.codeWith (mY M) (mC M) (mN M) (mR M) (mH M) :: TW
/-- a method with handlers -/
def CtH {ρ : Type} (M : MI) (inj : ρ → Rs) (as : List Value) (F : AH → Option (ρ × AH)) : Prop :=
  ∀ (l : Launch) (G : GC) (base : Nat) (h : AH) (r : ρ) (h' : AH), l.stackTraces = false → F h = some (r, h') →
    vx_Met l (mY M) (wsH M) (mO M) (Pr G base as h) (Qr G base (inj r) h') (Xr G base (inj r) h') (mO M).cells (mO M).slots (fun q => base ≤ q)
section R6
variable {ρ : Type} {M : MI} {inj : ρ → Rs} {kc ks pc : Nat} {lv lv' : List (Option Value)} {st : List Value}
theorem Ct.of {as : List Value} {z : Nat} {F : AH → Option (ρ × AH)} (hp : plainName (mY M).cls = true) (hH : mH M = []) (hlv : lv = entryL as ++ List.replicate z none) (hlen : Nat.ble (lg_sl as).length (mN M) = true) (k : Sm M inj 0 0 0 lv [] F) : Ct M inj as F := by
  intro l G base h r h' hl0 hF
  refine vx_ofW (cc := mC M) (maxL := mN M) (ret := mR M) hp rfl ?_
  intro p e s m args below meth c s₁ B hml ht hv
  obtain ⟨rfl, hG, hR⟩ := hv
  have hts := atoms_spec (ws := wsM M) B.pre
  have htb : c.exceptionTable.toList = tableOf (mH M) := by
    rw [hH]
    cases hq : c.exceptionTable.toList with
    | nil => rfl
    | cons a b => exact absurd (ht a (by rw [hq]; exact List.mem_cons_self)) id
  rw [lg_entry_eq]
  exact k l G base p e s m _ below meth c ⟨B.exec, B.bytes, B.returns, hml, findClass_of_methodNamed B.named, fun w h => hts w (List.mem_cons_of_mem _ h), B.notSynchronized, hl0, hG, htb, (name_of_methodNamed B.named B.method).1⟩ s.heap [] _ h r h' (lvH.entry hlv (Nat.le_of_ble_eq_true hlen)) va_S.rf hR hF
theorem CtH.of {as : List Value} {z : Nat} {F : AH → Option (ρ × AH)} (hp : plainName (mY M).cls = true) (hlv : lv = entryL as ++ List.replicate z none) (hlen : Nat.ble (lg_sl as).length (mN M) = true) (k : Sm M inj 0 0 0 lv [] F) : CtH M inj as F := by
  intro l G base h r h' hl0 hF
  refine vx_ofWH (cc := mC M) (maxL := mN M) (ret := mR M) (hh := mH M) hp rfl ?_
  intro p e s m args below meth c s₁ B hml hv
  obtain ⟨rfl, hG, hR⟩ := hv
  have hts := atoms_spec (ws := wsH M) B.pre
  have htb : c.exceptionTable.toList = tableOf (mH M) := vx_table (x := mY M) B (hts _ List.mem_cons_self)
  rw [lg_entry_eq]
  exact k l G base p e s m _ below meth c ⟨B.exec, B.bytes, B.returns, hml, findClass_of_methodNamed B.named, fun w h => hts w (List.mem_cons_of_mem _ h), B.notSynchronized, hl0, hG, htb, (name_of_methodNamed B.named B.method).1⟩ s.heap [] _ h r h' (lvH.entry hlv (Nat.le_of_ble_eq_true hlen)) va_S.rf hR hF
theorem ff_callM {ρ' : Type} {inj' : ρ' → Rs} {l : Launch} {G : GC} {base : Nat} {p : Program} {e : Env} {s : State} {m : MethodId} {args : Array Value} {below : List Frame} {meth : Method} {c0 : Code} (C : Fx M l G base p s m args meth c0) {H : Heap} {locs : List Loc} {ls : Array Slot} {h1 h' : AH} {r : ρ} {r' : ρ'} {mc ms : Nat} {av : Array Value} {stk : List Value} {K : ρ' → AH → Option (ρ × AH)}
    (hr : va_Run p l e (mO M) s m args below meth c0 H locs kc ks mc ms (F0 m pc ls stk) st (Qr G base (inj' r') h1 av) (fun q => base ≤ q)) (hl : lvH ls (mN M) lv) (hS : va_S (fun q => base ≤ q) s.heap H locs) (hF : K r' h1 = some (r, h'))
    (kn : ∀ r v, inj' r = .inl v → Sm M inj (kc + mc) (ks + ms) (pc + 3) lv (v.toList ++ st) (K r)) :
    W p l e (mO M) s m args below meth c0 H locs kc ks (vx_MQ below (Qr G base (inj r) h') (Xr G base (inj r) h') args s (mO M).cells (mO M).slots (fun q => base ≤ q)) (F0 m pc ls stk) := by
  intro T hT X
  obtain ⟨v, st₀, t, T', L, h0, X', hL, e1, e2, ⟨⟨v', hv', hvv, hR1⟩, hF1⟩, go⟩ := hr T hT X
  cases hvv
  obtain ⟨z1, z2, z3⟩ := vx_keep h0 e1 hS (fun q _ h => h) (fun q h => h) hL hF1
  have hR2 : Rp G base s T'.heap h1 := by rw [e1]; exact Rp.moved (by rw [← e2]; exact X'.warmed.alike.symm) hR1
  obtain ⟨tt, a1, b1⟩ := kn r' v hv' l G base p e s m args below meth c0 C T'.heap _ ls h1 r h' hl z3 hR2 hF T' rfl X'
  exact ⟨tt, go tt a1, b1⟩
theorem S_callI {M' : MI} {b idx n : Nat} {As stk : List Value} {f : AH → Option (Unit × AH)} {K : Unit → AH → Option (ρ × AH)} (hC : Ct M' rV (.ref b :: As) f) (hw : MW M' n) (hR0 : mR M' = none) (hnm : (mY M').name = "<init>") (hv : Cond.instanceMethod (mY M') ∈ TW) (hl : Cond.methodLink (mY M).cls idx (mY M') ∈ TW) (hr : RO M M' kc ks) (hn : As.length = n) (hst : stk = As.reverse ++ .ref b :: st) (hW : Nat.ble (st.map fun v => v.category).sum 8 = true) (d : decode (mC M) pc = .ok (.invokespecial idx, 3))
    (kn : Sm M inj (kc + (mO M').cells) (ks + (mO M').slots) (pc + 3) lv st (K ())) : Sm M inj kc ks pc lv stk (fun h => bd (f h) K) := by
  intro l G base p e s m args below meth c0 C H locs ls h r h' hl' hS hR hF
  obtain ⟨r', h1, hf, hF⟩ := bd_eq hF
  have cb := cb_of C hw hl hr
  rw [hR0] at cb
  exact ff_callM (inj' := rV) C (va_runI (As := As) (rest := st) ⟨C.1, C.2.1, C.2.2.2.1, C.2.2.2.2.1, C.2.2.2.2.2.1⟩ (vx_toMet rfl (hC l G base h r' h1 C.2.2.2.2.2.2.2.1 hf)) ⟨cb, hnm, C.2.2.2.2.2.1 _ hv⟩ ⟨Pr.blind, fun U hU hW => Pr.of C.2.2.2.2.2.2.2.2.1 hS hR U hU hW⟩ rfl hn hl'.1 hst (lv_room (Nat.le_of_ble_eq_true hW)) d ⟨Nat.le_of_ble_eq_true hr.2.2.1, Nat.le_of_ble_eq_true hr.2.2.2⟩) hl' hS hF (fun _ v hv => by cases hv; exact kn)
theorem S_callIN {M' : MI} {b idx n : Nat} {host : String} {As stk : List Value} {f : AH → Option (Unit × AH)} {K : Unit → AH → Option (ρ × AH)} (hC : Ct M' rV (.ref b :: As) f) (hw : MW M' n) (hR0 : mR M' = none) (hnm : (mY M').name = "<init>") (hv : Cond.instanceMethod (mY M') ∈ TW) (hl : ((mY M).cls, idx, mY M', host) ∈ nestW) (hr : RO M M' kc ks) (hn : As.length = n) (hst : stk = As.reverse ++ .ref b :: st) (hW : Nat.ble (st.map fun v => v.category).sum 8 = true) (d : decode (mC M) pc = .ok (.invokespecial idx, 3))
    (kn : Sm M inj (kc + (mO M').cells) (ks + (mO M').slots) (pc + 3) lv st (K ())) : Sm M inj kc ks pc lv stk (fun h => bd (f h) K) := by
  intro l G base p e s m args below meth c0 C H locs ls h r h' hl' hS hR hF
  obtain ⟨r', h1, hf, hF⟩ := bd_eq hF
  have hts := C.2.2.2.2.2.1
  have cb : va_CN (mO M) s args (mY M).cls idx (mY M') host (mC M') (mN M') (mR M') (wsM M') (mO M') (mO M').cells (mO M').slots n := by
    refine ⟨⟨rfl, rfl, Nat.le_of_ble_eq_true hr.1, Nat.le_of_ble_eq_true hr.2.1, fun w h a' U hW => ?_, List.mem_cons_self⟩, hts _ hw.1, hts _ hw.2.1, hw.2.2.1, fun sig h => ?_, va_Nw.use rfl (C.2.2.2.2.2.2.2.2.1.2.1 _ hl)⟩
    · rcases List.mem_cons.mp h with rfl | h
      · exact TW_use hts hW hw.1
      · exact TW_use hts hW h
    · have h2 := hw.2.2.2
      rw [h] at h2
      exact (Option.some.inj h2).symm
  rw [hR0] at cb
  exact ff_callM (inj' := rV) C (va_runIN (As := As) (rest := st) ⟨C.1, C.2.1, C.2.2.2.1, C.2.2.2.2.1, C.2.2.2.2.2.1⟩ (vx_toMet rfl (hC l G base h r' h1 C.2.2.2.2.2.2.2.1 hf)) ⟨cb, hnm, C.2.2.2.2.2.1 _ hv⟩ ⟨Pr.blind, fun U hU hW => Pr.of C.2.2.2.2.2.2.2.2.1 hS hR U hU hW⟩ rfl hn hl'.1 hst (lv_room (Nat.le_of_ble_eq_true hW)) d ⟨Nat.le_of_ble_eq_true hr.2.2.1, Nat.le_of_ble_eq_true hr.2.2.2⟩) hl' hS hF (fun _ v hv => by cases hv; exact kn)
/-- a static method with handlers, that hands nothing on -/
theorem S_callSH {M' : MI} {idx n : Nat} {As stk : List Value} {f : AH → Option (Int32 × AH)} {K : Int32 → AH → Option (ρ × AH)} (hC : CtH M' rI As f) (w1 : Cond.codeWith (mY M') (mC M') (mN M') (mR M') (mH M') ∈ TW) (w2 : Cond.initialized (mY M').cls ∈ TW) (w3 : (mY M').cls ≠ "java/lang/invoke/MethodHandle" ∧ (mY M').cls ≠ "java/lang/invoke/VarHandle") (w4 : (parseMethodDescriptor (mY M').desc).map (fun d => d.parameters.length) = some n) (hv : Cond.static (mY M') ∈ TW) (hl : Cond.methodLink (mY M).cls idx (mY M') ∈ TW) (hr : RO M M' kc ks) (hn : As.length = n) (hst : stk = As.reverse ++ st) (hW : Nat.ble (st.map fun v => v.category).sum 8 = true) (d : decode (mC M) pc = .ok (.invokestatic idx, 3))
    (kn : ∀ x, Sm M inj (kc + (mO M').cells) (ks + (mO M').slots) (pc + 3) lv (.int x :: st) (K x)) : Sm M inj kc ks pc lv stk (fun h => bd (f h) K) := by
  intro l G base p e s m args below meth c0 C H locs ls h r h' hl' hS hR hF
  obtain ⟨r', h1, hf, hF⟩ := bd_eq hF
  have hts := C.2.2.2.2.2.1
  have cb : vx_CSW (mO M) s args (mY M).cls idx (mY M') (mC M') (mN M') (mR M') (mH M') (wsH M') (mO M') (mO M').cells (mO M').slots n := by
    refine ⟨⟨rfl, rfl, Nat.le_of_ble_eq_true hr.1, Nat.le_of_ble_eq_true hr.2.1, fun w h a' U hW => ?_, List.mem_cons_self⟩, hts _ w1, hts _ w2, w3, fun sig h => ?_, hts _ hl, hts _ hv⟩
    · rcases List.mem_cons.mp h with rfl | h
      · exact TW_use hts hW w1
      · exact TW_use hts hW h
    · rw [h] at w4
      exact (Option.some.inj w4).symm
  exact ff_callM (inj' := rI) C (vx_runSW (As := As) (rest := st) ⟨C.1, C.2.1, C.2.2.2.1, C.2.2.2.2.1, C.2.2.2.2.2.1⟩ (vx_toMet rfl (hC l G base h r' h1 C.2.2.2.2.2.2.2.1 hf)) cb ⟨Pr.blind, fun U hU hW => Pr.of C.2.2.2.2.2.2.2.2.1 hS hR U hU hW⟩ rfl hn hl'.1 hst (lv_room (Nat.le_of_ble_eq_true hW)) d ⟨Nat.le_of_ble_eq_true hr.2.2.1, Nat.le_of_ble_eq_true hr.2.2.2⟩) hl' hS hF (fun x v hv => by cases hv; exact kn x)
theorem S_obj {a idx : Nat} {F : AH → Option (ρ × AH)} (w1 : Cond.methodLink (mY M).cls idx objectInit ∈ TW) (w2 : Cond.instanceMethod objectInit ∈ TW) (w3 : Cond.code objectInit ⟨#[0xb1]⟩ 1 none ∈ TW) (hm : Nat.ble 1 (mO M).frames = true ∧ Nat.ble ((st.map fun v => v.category).sum + 12) (mO M).locals = true) (d : decode (mC M) pc = .ok (.invokespecial idx, 3)) (kk : Sm M inj kc ks (pc + 3) lv st F) : Sm M inj kc ks pc lv (.ref a :: st) F := by
  intro l G base p e s m args below meth c0 C H locs ls h r h' hl hS hR hF
  have hts := C.2.2.2.2.2.1
  exact W.objInit C.1 C.2.1 C.2.2.2.2.1 (hts _ w1) (hts _ w2) (hts _ w3) rfl (hl.1.trans C.2.2.2.1.symm) rfl d (Nat.le_of_ble_eq_true hm.1) (by have := Nat.le_of_ble_eq_true hm.2; show 2 * 0 + _ + 12 ≤ _; omega) (kk l G base p e s m args below meth c0 C H locs ls h r h' hl hS hR hF)
/-! calls by their answers -/
variable {M' : MI} {b c idx n : Nat} {As stk : List Value}
theorem V_i {f : AH → Option (Int32 × AH)} {K : Int32 → AH → Option (ρ × AH)} (hC : Ct M' rI (.ref b :: As) f) (hw : MW M' n) (hv : MV M' c) (hl : Cond.methodLink (mY M).cls idx (mY M') ∈ TW) (hr : RO M M' kc ks) (hn : As.length = n) (hst : stk = As.reverse ++ .ref b :: st) (hW : Nat.ble (st.map fun v => v.category).sum 8 = true) (d : decode (mC M) pc = .ok (.invokevirtual idx, 3)) (kn : ∀ x, Sm M inj (kc + (mO M').cells) (ks + (mO M').slots) (pc + 3) lv (.int x :: st) (K x)) : Sm M inj kc ks pc lv stk (fun h => cv c b f h K) := S_callV hC hw hv hl hr hn hst hW d (fun x v hv => by cases hv; exact kn x) (fun x k hk => by cases hk)
theorem V_l {f : AH → Option (Int64 × AH)} {K : Int64 → AH → Option (ρ × AH)} (hC : Ct M' rL (.ref b :: As) f) (hw : MW M' n) (hv : MV M' c) (hl : Cond.methodLink (mY M).cls idx (mY M') ∈ TW) (hr : RO M M' kc ks) (hn : As.length = n) (hst : stk = As.reverse ++ .ref b :: st) (hW : Nat.ble (st.map fun v => v.category).sum 8 = true) (d : decode (mC M) pc = .ok (.invokevirtual idx, 3)) (kn : ∀ x, Sm M inj (kc + (mO M').cells) (ks + (mO M').slots) (pc + 3) lv (.long x :: st) (K x)) : Sm M inj kc ks pc lv stk (fun h => cv c b f h K) := S_callV hC hw hv hl hr hn hst hW d (fun x v hv => by cases hv; exact kn x) (fun x k hk => by cases hk)
theorem V_v {f : AH → Option (Unit × AH)} {K : Unit → AH → Option (ρ × AH)} (hC : Ct M' rV (.ref b :: As) f) (hw : MW M' n) (hv : MV M' c) (hl : Cond.methodLink (mY M).cls idx (mY M') ∈ TW) (hr : RO M M' kc ks) (hn : As.length = n) (hst : stk = As.reverse ++ .ref b :: st) (hW : Nat.ble (st.map fun v => v.category).sum 8 = true) (d : decode (mC M) pc = .ok (.invokevirtual idx, 3)) (kn : Sm M inj (kc + (mO M').cells) (ks + (mO M').slots) (pc + 3) lv st (K ())) : Sm M inj kc ks pc lv stk (fun h => cv c b f h K) := S_callV hC hw hv hl hr hn hst hW d (fun x v hv => by cases hv; exact kn) (fun x k hk => by cases hk)
theorem V_a {f : AH → Option (Nat × AH)} {K : Nat → AH → Option (ρ × AH)} (hC : Ct M' rA (.ref b :: As) f) (hw : MW M' n) (hv : MV M' c) (hl : Cond.methodLink (mY M).cls idx (mY M') ∈ TW) (hr : RO M M' kc ks) (hn : As.length = n) (hst : stk = As.reverse ++ .ref b :: st) (hW : Nat.ble (st.map fun v => v.category).sum 8 = true) (d : decode (mC M) pc = .ok (.invokevirtual idx, 3)) (kn : ∀ x, Sm M inj (kc + (mO M').cells) (ks + (mO M').slots) (pc + 3) lv (.ref x :: st) (K x)) : Sm M inj kc ks pc lv stk (fun h => cv c b f h K) := S_callV hC hw hv hl hr hn hst hW d (fun x v hv => by cases hv; exact kn x) (fun x k hk => by cases hk)
theorem T_i {f : AH → Option (Int32 × AH)} {K : Int32 → AH → Option (ρ × AH)} (hC : Ct M' rI As f) (hw : MW M' n) (hv : Cond.static (mY M') ∈ TW) (hl : Cond.methodLink (mY M).cls idx (mY M') ∈ TW) (hr : RO M M' kc ks) (hn : As.length = n) (hst : stk = As.reverse ++ st) (hW : Nat.ble (st.map fun v => v.category).sum 8 = true) (d : decode (mC M) pc = .ok (.invokestatic idx, 3)) (kn : ∀ x, Sm M inj (kc + (mO M').cells) (ks + (mO M').slots) (pc + 3) lv (.int x :: st) (K x)) : Sm M inj kc ks pc lv stk (fun h => bd (f h) K) := S_callS hC hw hv hl hr hn hst hW d (fun x v hv => by cases hv; exact kn x) (fun x k hk => by cases hk)
theorem T_l {f : AH → Option (Int64 × AH)} {K : Int64 → AH → Option (ρ × AH)} (hC : Ct M' rL As f) (hw : MW M' n) (hv : Cond.static (mY M') ∈ TW) (hl : Cond.methodLink (mY M).cls idx (mY M') ∈ TW) (hr : RO M M' kc ks) (hn : As.length = n) (hst : stk = As.reverse ++ st) (hW : Nat.ble (st.map fun v => v.category).sum 8 = true) (d : decode (mC M) pc = .ok (.invokestatic idx, 3)) (kn : ∀ x, Sm M inj (kc + (mO M').cells) (ks + (mO M').slots) (pc + 3) lv (.long x :: st) (K x)) : Sm M inj kc ks pc lv stk (fun h => bd (f h) K) := S_callS hC hw hv hl hr hn hst hW d (fun x v hv => by cases hv; exact kn x) (fun x k hk => by cases hk)
theorem T_v {f : AH → Option (Unit × AH)} {K : Unit → AH → Option (ρ × AH)} (hC : Ct M' rV As f) (hw : MW M' n) (hv : Cond.static (mY M') ∈ TW) (hl : Cond.methodLink (mY M).cls idx (mY M') ∈ TW) (hr : RO M M' kc ks) (hn : As.length = n) (hst : stk = As.reverse ++ st) (hW : Nat.ble (st.map fun v => v.category).sum 8 = true) (d : decode (mC M) pc = .ok (.invokestatic idx, 3)) (kn : Sm M inj (kc + (mO M').cells) (ks + (mO M').slots) (pc + 3) lv st (K ())) : Sm M inj kc ks pc lv stk (fun h => bd (f h) K) := S_callS hC hw hv hl hr hn hst hW d (fun x v hv => by cases hv; exact kn) (fun x k hk => by cases hk)
/-! calls that may throw, nothing taken here: for a caller whose answer is Nat ⊕ β -/
variable {β : Type} {injx : Nat ⊕ β → Rs}
theorem VX_a {f : AH → Option ((Nat ⊕ Nat) × AH)} {K : Nat → AH → Option ((Nat ⊕ β) × AH)} (hx : ∀ k, injx (.inl k) = .inr k) (hH : mH M = []) (hC : Ct M' xA (.ref b :: As) f) (hw : MW M' n) (hv : MV M' c) (hl : Cond.methodLink (mY M).cls idx (mY M') ∈ TW) (hr : RO M M' kc ks) (hn : As.length = n) (hst : stk = As.reverse ++ .ref b :: st) (hW : Nat.ble (st.map fun v => v.category).sum 8 = true) (d : decode (mC M) pc = .ok (.invokevirtual idx, 3)) (kn : ∀ x, Sm M injx (kc + (mO M').cells) (ks + (mO M').slots) (pc + 3) lv (.ref x :: st) (K x)) : Sm M injx kc ks pc lv stk (fun h => cv c b f h (xp K)) := S_callV hC hw hv hl hr hn hst hW d (fun x v hv => by
    cases x with
    | inl k => cases hv
    | inr x => cases hv; exact kn x) (fun x k hk => by
    cases x with
    | inl k => cases hk; exact X_out hH ⟨hr.2.2.1, hr.2.2.2⟩ (hx k)
    | inr x => cases hk)
theorem VX_v {f : AH → Option ((Nat ⊕ Unit) × AH)} {K : Unit → AH → Option ((Nat ⊕ β) × AH)} (hx : ∀ k, injx (.inl k) = .inr k) (hH : mH M = []) (hC : Ct M' xV (.ref b :: As) f) (hw : MW M' n) (hv : MV M' c) (hl : Cond.methodLink (mY M).cls idx (mY M') ∈ TW) (hr : RO M M' kc ks) (hn : As.length = n) (hst : stk = As.reverse ++ .ref b :: st) (hW : Nat.ble (st.map fun v => v.category).sum 8 = true) (d : decode (mC M) pc = .ok (.invokevirtual idx, 3)) (kn : Sm M injx (kc + (mO M').cells) (ks + (mO M').slots) (pc + 3) lv st (K ())) : Sm M injx kc ks pc lv stk (fun h => cv c b f h (xp K)) := S_callV hC hw hv hl hr hn hst hW d (fun x v hv => by
    cases x with
    | inl k => cases hv
    | inr x => cases hv; exact kn) (fun x k hk => by
    cases x with
    | inl k => cases hk; exact X_out hH ⟨hr.2.2.1, hr.2.2.2⟩ (hx k)
    | inr x => cases hk)
theorem TX_v {f : AH → Option ((Nat ⊕ Unit) × AH)} {K : Unit → AH → Option ((Nat ⊕ β) × AH)} (hx : ∀ k, injx (.inl k) = .inr k) (hH : mH M = []) (hC : Ct M' xV As f) (hw : MW M' n) (hv : Cond.static (mY M') ∈ TW) (hl : Cond.methodLink (mY M).cls idx (mY M') ∈ TW) (hr : RO M M' kc ks) (hn : As.length = n) (hst : stk = As.reverse ++ st) (hW : Nat.ble (st.map fun v => v.category).sum 8 = true) (d : decode (mC M) pc = .ok (.invokestatic idx, 3)) (kn : Sm M injx (kc + (mO M').cells) (ks + (mO M').slots) (pc + 3) lv st (K ())) : Sm M injx kc ks pc lv stk (fun h => bd (f h) (xp K)) := S_callS hC hw hv hl hr hn hst hW d (fun x v hv => by
    cases x with
    | inl k => cases hv
    | inr x => cases hv; exact kn) (fun x k hk => by
    cases x with
    | inl k => cases hk; exact X_out hH ⟨hr.2.2.1, hr.2.2.2⟩ (hx k)
    | inr x => cases hk)
end R6
