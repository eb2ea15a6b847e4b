/-! ===== rows in the form in which a program writes them ===== -/
theorem RO.mk {M M' : MI} {kc ks : Nat} (h1 : Nat.ble ((mO M').frames + 1) (mO M).frames = true) (h2 : Nat.ble (8 + (mN M' + 11) + (mO M').locals) (mO M).locals = true) (h3 : Nat.ble (kc + (mO M').cells) (mO M).cells = true) (h4 : Nat.ble (ks + (mO M').slots) (mO M).slots = true) : RO M M' kc ks := ⟨h1, h2, h3, h4⟩
section R7
variable {ρ : Type} {M : MI} {inj : ρ → Rs} {kc ks pc : Nat} {lv lv' : List (Option Value)} {st : List Value} {F F1 F2 : AH → Option (ρ × AH)}
theorem Z_istore_n {i : Fin 4} {x : Int32} (d : decode (mC M) pc = .ok (.istore_n i, 1)) (hn : Nat.ble ((i : Nat) + 1) (mN M) = true) (h2 : n2 (lv[(i : Nat) - 1]?) = true) (he : lv.set (i : Nat) (some (.int x)) = lv') (k : Sm M inj kc ks (pc + 1) lv' st F) : Sm M inj kc ks pc lv (.int x :: st) F := by
  subst he
  exact S_istore_n d (Nat.le_of_ble_eq_true hn) h2 k
theorem Z_istore {i : Nat} {x : Int32} (d : decode (mC M) pc = .ok (.istore i, 2)) (hn : Nat.ble (i + 1) (mN M) = true) (h2 : n2 (lv[i - 1]?) = true) (he : lv.set i (some (.int x)) = lv') (k : Sm M inj kc ks (pc + 2) lv' st F) : Sm M inj kc ks pc lv (.int x :: st) F := by
  subst he
  exact S_istore d (Nat.le_of_ble_eq_true hn) h2 k
theorem Z_astore_n {i : Fin 4} {x : Nat} (d : decode (mC M) pc = .ok (.astore_n i, 1)) (hn : Nat.ble ((i : Nat) + 1) (mN M) = true) (h2 : n2 (lv[(i : Nat) - 1]?) = true) (he : lv.set (i : Nat) (some (.ref x)) = lv') (k : Sm M inj kc ks (pc + 1) lv' st F) : Sm M inj kc ks pc lv (.ref x :: st) F := by
  subst he
  exact S_astore_n d (Nat.le_of_ble_eq_true hn) h2 k
theorem Z_astore {i : Nat} {x : Nat} (d : decode (mC M) pc = .ok (.astore i, 2)) (hn : Nat.ble (i + 1) (mN M) = true) (h2 : n2 (lv[i - 1]?) = true) (he : lv.set i (some (.ref x)) = lv') (k : Sm M inj kc ks (pc + 2) lv' st F) : Sm M inj kc ks pc lv (.ref x :: st) F := by
  subst he
  exact S_astore d (Nat.le_of_ble_eq_true hn) h2 k
theorem Z_lstore_n {i : Fin 4} {x : Int64} (d : decode (mC M) pc = .ok (.lstore_n i, 1)) (hn : Nat.ble ((i : Nat) + 2) (mN M) = true) (h2 : n2 (lv[(i : Nat) - 1]?) = true) (he : (lv.set (i : Nat) (some (.long x))).set ((i : Nat) + 1) none = lv') (k : Sm M inj kc ks (pc + 1) lv' st F) : Sm M inj kc ks pc lv (.long x :: st) F := by
  subst he
  exact S_lstore_n d (Nat.le_of_ble_eq_true hn) h2 k
theorem Z_lstore {i : Nat} {x : Int64} (d : decode (mC M) pc = .ok (.lstore i, 2)) (hn : Nat.ble (i + 2) (mN M) = true) (h2 : n2 (lv[i - 1]?) = true) (he : (lv.set i (some (.long x))).set (i + 1) none = lv') (k : Sm M inj kc ks (pc + 2) lv' st F) : Sm M inj kc ks pc lv (.long x :: st) F := by
  subst he
  exact S_lstore d (Nat.le_of_ble_eq_true hn) h2 k
theorem Z_iinc {i : Nat} {n : Int} {x v : Int32} (d : decode (mC M) pc = .ok (.iinc i n, 3)) (hi : lv[i]? = some (some (.int x))) (hv : Int32.ofInt n = v) (hn : Nat.ble (i + 1) (mN M) = true) (h2 : n2 (lv[i - 1]?) = true) (he : lv.set i (some (.int (x + v))) = lv') (k : Sm M inj kc ks (pc + 3) lv' st F) : Sm M inj kc ks pc lv st F := by
  subst he
  exact S_iinc d hi hv (Nat.le_of_ble_eq_true hn) h2 k
theorem S_case {x v : Int32} (k1 : x = v → Sm M inj kc ks pc lv st F1) (k2 : ¬ x = v → Sm M inj kc ks pc lv st F2) : Sm M inj kc ks pc lv st (fun h => if x = v then F1 h else F2 h) := by
  by_cases hq : x = v
  · have : (fun h => if x = v then F1 h else F2 h) = F1 := by funext h; rw [if_pos hq]
    rw [this]; exact k1 hq
  · have : (fun h => if x = v then F1 h else F2 h) = F2 := by funext h; rw [if_neg hq]
    rw [this]; exact k2 hq
theorem X_if {j k : Nat} (k1 : k = j → Sx M inj kc ks pc lv st k F1) (k2 : ¬ k = j → Sx M inj kc ks pc lv st k F2) : Sx M inj kc ks pc lv st k (fun h => if k = j then F1 h else F2 h) := by
  by_cases hq : k = j
  · have : (fun h => if k = j then F1 h else F2 h) = F1 := by funext h; rw [if_pos hq]
    rw [this]; exact k1 hq
  · have : (fun h => if k = j then F1 h else F2 h) = F2 := by funext h; rw [if_neg hq]
    rw [this]; exact k2 hq
theorem S_tsI {x v : Int32} {dflt lo hi : Int} {offs : Array Int} {len tgt : Nat} {off : Int} (hx : x = v) (d : decode (mC M) pc = .ok (.tableswitch dflt lo hi offs, len)) (h1 : ¬ v.toInt < lo ∧ ¬ hi < v.toInt) (ho : offs[(v.toInt - lo).toNat]? = some off) (ht : (pc : Int) + off = (tgt : Int)) (k : Sm M inj kc ks tgt lv st F) : Sm M inj kc ks pc lv (.int x :: st) F := by
  subst hx
  intro l G base p e s m args below meth c C H locs ls h r h' hl hS hR hF
  exact lv_tableIn C.1 C.2.1 d h1.1 h1.2 ho ht (k l G base p e s m args below meth c C H locs ls h r h' hl hS hR hF)
theorem S_tsD {x : Int32} {dflt lo hi : Int} {offs : Array Int} {len tgt : Nat} (hx : x.toInt < lo ∨ hi < x.toInt) (d : decode (mC M) pc = .ok (.tableswitch dflt lo hi offs, len)) (ht : (pc : Int) + dflt = (tgt : Int)) (k : Sm M inj kc ks tgt lv st F) : Sm M inj kc ks pc lv (.int x :: st) F := by
  intro l G base p e s m args below meth c C H locs ls h r h' hl hS hR hF
  exact lv_tableOut C.1 C.2.1 d hx ht (k l G base p e s m args below meth c C H locs ls h r h' hl hS hR hF)
theorem S_lsI {x v : Int32} {dflt : Int} {ps : Array (Int × Int)} {len tgt : Nat} {off : Int} (hx : x = v) (d : decode (mC M) pc = .ok (.lookupswitch dflt ps, len)) (hp : (ps.toList.zip (ps.toList.drop 1)).all (fun (a, next) => a.1 < next.1) = true) (ho : Op.lookupswitch.offset ps.toList dflt v.toInt = off) (ht : (pc : Int) + off = (tgt : Int)) (k : Sm M inj kc ks tgt lv st F) : Sm M inj kc ks pc lv (.int x :: st) F := by
  subst hx
  intro l G base p e s m args below meth c C H locs ls h r h' hl hS hR hF
  exact lv_lookup C.1 C.2.1 d hp ho ht (k l G base p e s m args below meth c C H locs ls h r h' hl hS hR hF)
theorem S_lsD {x : Int32} {dflt : Int} {ps : Array (Int × Int)} {len tgt : Nat} (ho : Op.lookupswitch.offset ps.toList dflt x.toInt = dflt) (hp : (ps.toList.zip (ps.toList.drop 1)).all (fun (a, next) => a.1 < next.1) = true) (d : decode (mC M) pc = .ok (.lookupswitch dflt ps, len)) (ht : (pc : Int) + dflt = (tgt : Int)) (k : Sm M inj kc ks tgt lv st F) : Sm M inj kc ks pc lv (.int x :: st) F := by
  intro l G base p e s m args below meth c C H locs ls h r h' hl hS hR hF
  exact lv_lookup C.1 C.2.1 d hp ho ht (k l G base p e s m args below meth c C H locs ls h r h' hl hS hR hF)
variable {M' : MI} {b c idx n kc' ks' : Nat} {As stk : List Value}
theorem Y_Vi {f : AH → Option (Int32 × AH)} {K : Int32 → AH → Option (ρ × AH)} (hC : Ct M' rI (.ref b :: As) f) (hw : MW M' n) (hv : MV M' c) (hl : Cond.methodLink (mY M).cls idx (mY M') ∈ TW) (hr : RO M M' kc ks) (hn : As.length = n) (hst : stk = As.reverse ++ .ref b :: st) (hW : Nat.ble (st.map fun v => v.category).sum 8 = true) (d : decode (mC M) pc = .ok (.invokevirtual idx, 3)) (hk : kc + (mO M').cells = kc' ∧ ks + (mO M').slots = ks') (kn : ∀ x, Sm M inj kc' ks' (pc + 3) lv (.int x :: st) (K x)) : Sm M inj kc ks pc lv stk (fun h => cv c b f h K) := by
  obtain ⟨rfl, rfl⟩ := hk
  exact V_i hC hw hv hl hr hn hst hW d kn
theorem Y_Ti {f : AH → Option (Int32 × AH)} {K : Int32 → AH → Option (ρ × AH)} (hC : Ct M' rI As f) (hw : MW M' n) (hv : Cond.static (mY M') ∈ TW) (hl : Cond.methodLink (mY M).cls idx (mY M') ∈ TW) (hr : RO M M' kc ks) (hn : As.length = n) (hst : stk = As.reverse ++ st) (hW : Nat.ble (st.map fun v => v.category).sum 8 = true) (d : decode (mC M) pc = .ok (.invokestatic idx, 3)) (hk : kc + (mO M').cells = kc' ∧ ks + (mO M').slots = ks') (kn : ∀ x, Sm M inj kc' ks' (pc + 3) lv (.int x :: st) (K x)) : Sm M inj kc ks pc lv stk (fun h => bd (f h) K) := by
  obtain ⟨rfl, rfl⟩ := hk
  exact T_i hC hw hv hl hr hn hst hW d kn
theorem Y_Vl {f : AH → Option (Int64 × AH)} {K : Int64 → AH → Option (ρ × AH)} (hC : Ct M' rL (.ref b :: As) f) (hw : MW M' n) (hv : MV M' c) (hl : Cond.methodLink (mY M).cls idx (mY M') ∈ TW) (hr : RO M M' kc ks) (hn : As.length = n) (hst : stk = As.reverse ++ .ref b :: st) (hW : Nat.ble (st.map fun v => v.category).sum 8 = true) (d : decode (mC M) pc = .ok (.invokevirtual idx, 3)) (hk : kc + (mO M').cells = kc' ∧ ks + (mO M').slots = ks') (kn : ∀ x, Sm M inj kc' ks' (pc + 3) lv (.long x :: st) (K x)) : Sm M inj kc ks pc lv stk (fun h => cv c b f h K) := by
  obtain ⟨rfl, rfl⟩ := hk
  exact V_l hC hw hv hl hr hn hst hW d kn
theorem Y_Tl {f : AH → Option (Int64 × AH)} {K : Int64 → AH → Option (ρ × AH)} (hC : Ct M' rL As f) (hw : MW M' n) (hv : Cond.static (mY M') ∈ TW) (hl : Cond.methodLink (mY M).cls idx (mY M') ∈ TW) (hr : RO M M' kc ks) (hn : As.length = n) (hst : stk = As.reverse ++ st) (hW : Nat.ble (st.map fun v => v.category).sum 8 = true) (d : decode (mC M) pc = .ok (.invokestatic idx, 3)) (hk : kc + (mO M').cells = kc' ∧ ks + (mO M').slots = ks') (kn : ∀ x, Sm M inj kc' ks' (pc + 3) lv (.long x :: st) (K x)) : Sm M inj kc ks pc lv stk (fun h => bd (f h) K) := by
  obtain ⟨rfl, rfl⟩ := hk
  exact T_l hC hw hv hl hr hn hst hW d kn
theorem Y_Va {f : AH → Option (Nat × AH)} {K : Nat → AH → Option (ρ × AH)} (hC : Ct M' rA (.ref b :: As) f) (hw : MW M' n) (hv : MV M' c) (hl : Cond.methodLink (mY M).cls idx (mY M') ∈ TW) (hr : RO M M' kc ks) (hn : As.length = n) (hst : stk = As.reverse ++ .ref b :: st) (hW : Nat.ble (st.map fun v => v.category).sum 8 = true) (d : decode (mC M) pc = .ok (.invokevirtual idx, 3)) (hk : kc + (mO M').cells = kc' ∧ ks + (mO M').slots = ks') (kn : ∀ x, Sm M inj kc' ks' (pc + 3) lv (.ref x :: st) (K x)) : Sm M inj kc ks pc lv stk (fun h => cv c b f h K) := by
  obtain ⟨rfl, rfl⟩ := hk
  exact V_a hC hw hv hl hr hn hst hW d kn
theorem Y_Vv {f : AH → Option (Unit × AH)} {K : Unit → AH → Option (ρ × AH)} (hC : Ct M' rV (.ref b :: As) f) (hw : MW M' n) (hv : MV M' c) (hl : Cond.methodLink (mY M).cls idx (mY M') ∈ TW) (hr : RO M M' kc ks) (hn : As.length = n) (hst : stk = As.reverse ++ .ref b :: st) (hW : Nat.ble (st.map fun v => v.category).sum 8 = true) (d : decode (mC M) pc = .ok (.invokevirtual idx, 3)) (hk : kc + (mO M').cells = kc' ∧ ks + (mO M').slots = ks') (kn : Sm M inj kc' ks' (pc + 3) lv st (K ())) : Sm M inj kc ks pc lv stk (fun h => cv c b f h K) := by
  obtain ⟨rfl, rfl⟩ := hk
  exact V_v hC hw hv hl hr hn hst hW d kn
theorem Y_Tv {f : AH → Option (Unit × AH)} {K : Unit → AH → Option (ρ × AH)} (hC : Ct M' rV As f) (hw : MW M' n) (hv : Cond.static (mY M') ∈ TW) (hl : Cond.methodLink (mY M).cls idx (mY M') ∈ TW) (hr : RO M M' kc ks) (hn : As.length = n) (hst : stk = As.reverse ++ st) (hW : Nat.ble (st.map fun v => v.category).sum 8 = true) (d : decode (mC M) pc = .ok (.invokestatic idx, 3)) (hk : kc + (mO M').cells = kc' ∧ ks + (mO M').slots = ks') (kn : Sm M inj kc' ks' (pc + 3) lv st (K ())) : Sm M inj kc ks pc lv stk (fun h => bd (f h) K) := by
  obtain ⟨rfl, rfl⟩ := hk
  exact T_v hC hw hv hl hr hn hst hW d kn
theorem Y_I {f : AH → Option (Unit × AH)} {K : Unit → AH → Option (ρ × AH)} (hC : Ct M' rV (.ref b :: As) f) (hw : MW M' n) (hR0 : mR M' = none) (hnm : (mY M').name = "<init>") (hv : Cond.instanceMethod (mY M') ∈ TW) (hl : Cond.methodLink (mY M).cls idx (mY M') ∈ TW) (hr : RO M M' kc ks) (hn : As.length = n) (hst : stk = As.reverse ++ .ref b :: st) (hW : Nat.ble (st.map fun v => v.category).sum 8 = true) (d : decode (mC M) pc = .ok (.invokespecial idx, 3)) (hk : kc + (mO M').cells = kc' ∧ ks + (mO M').slots = ks') (kn : Sm M inj kc' ks' (pc + 3) lv st (K ())) : Sm M inj kc ks pc lv stk (fun h => bd (f h) K) := by
  obtain ⟨rfl, rfl⟩ := hk
  exact S_callI hC hw hR0 hnm hv hl hr hn hst hW d kn
theorem Y_IN {host : String} {f : AH → Option (Unit × AH)} {K : Unit → AH → Option (ρ × AH)} (hC : Ct M' rV (.ref b :: As) f) (hw : MW M' n) (hR0 : mR M' = none) (hnm : (mY M').name = "<init>") (hv : Cond.instanceMethod (mY M') ∈ TW) (hl : ((mY M).cls, idx, mY M', host) ∈ nestW) (hr : RO M M' kc ks) (hn : As.length = n) (hst : stk = As.reverse ++ .ref b :: st) (hW : Nat.ble (st.map fun v => v.category).sum 8 = true) (d : decode (mC M) pc = .ok (.invokespecial idx, 3)) (hk : kc + (mO M').cells = kc' ∧ ks + (mO M').slots = ks') (kn : Sm M inj kc' ks' (pc + 3) lv st (K ())) : Sm M inj kc ks pc lv stk (fun h => bd (f h) K) := by
  obtain ⟨rfl, rfl⟩ := hk
  exact S_callIN hC hw hR0 hnm hv hl hr hn hst hW d kn
variable {β : Type} {injx : Nat ⊕ β → Rs}
theorem YX_Va {f : AH → Option ((Nat ⊕ Nat) × AH)} {K : Nat → AH → Option ((Nat ⊕ β) × AH)} (hx : ∀ k, injx (.inl k) = .inr k) (hH : mH M = []) (hC : Ct M' xA (.ref b :: As) f) (hw : MW M' n) (hv : MV M' c) (hl : Cond.methodLink (mY M).cls idx (mY M') ∈ TW) (hr : RO M M' kc ks) (hn : As.length = n) (hst : stk = As.reverse ++ .ref b :: st) (hW : Nat.ble (st.map fun v => v.category).sum 8 = true) (d : decode (mC M) pc = .ok (.invokevirtual idx, 3)) (hk : kc + (mO M').cells = kc' ∧ ks + (mO M').slots = ks') (kn : ∀ x, Sm M injx kc' ks' (pc + 3) lv (.ref x :: st) (K x)) : Sm M injx kc ks pc lv stk (fun h => cv c b f h (xp K)) := by
  obtain ⟨rfl, rfl⟩ := hk
  exact VX_a hx hH hC hw hv hl hr hn hst hW d kn
theorem YX_Vv {f : AH → Option ((Nat ⊕ Unit) × AH)} {K : Unit → AH → Option ((Nat ⊕ β) × AH)} (hx : ∀ k, injx (.inl k) = .inr k) (hH : mH M = []) (hC : Ct M' xV (.ref b :: As) f) (hw : MW M' n) (hv : MV M' c) (hl : Cond.methodLink (mY M).cls idx (mY M') ∈ TW) (hr : RO M M' kc ks) (hn : As.length = n) (hst : stk = As.reverse ++ .ref b :: st) (hW : Nat.ble (st.map fun v => v.category).sum 8 = true) (d : decode (mC M) pc = .ok (.invokevirtual idx, 3)) (hk : kc + (mO M').cells = kc' ∧ ks + (mO M').slots = ks') (kn : Sm M injx kc' ks' (pc + 3) lv st (K ())) : Sm M injx kc ks pc lv stk (fun h => cv c b f h (xp K)) := by
  obtain ⟨rfl, rfl⟩ := hk
  exact VX_v hx hH hC hw hv hl hr hn hst hW d kn
theorem YX_Tv {f : AH → Option ((Nat ⊕ Unit) × AH)} {K : Unit → AH → Option ((Nat ⊕ β) × AH)} (hx : ∀ k, injx (.inl k) = .inr k) (hH : mH M = []) (hC : Ct M' xV As f) (hw : MW M' n) (hv : Cond.static (mY M') ∈ TW) (hl : Cond.methodLink (mY M).cls idx (mY M') ∈ TW) (hr : RO M M' kc ks) (hn : As.length = n) (hst : stk = As.reverse ++ st) (hW : Nat.ble (st.map fun v => v.category).sum 8 = true) (d : decode (mC M) pc = .ok (.invokestatic idx, 3)) (hk : kc + (mO M').cells = kc' ∧ ks + (mO M').slots = ks') (kn : Sm M injx kc' ks' (pc + 3) lv st (K ())) : Sm M injx kc ks pc lv stk (fun h => bd (f h) (xp K)) := by
  obtain ⟨rfl, rfl⟩ := hk
  exact TX_v hx hH hC hw hv hl hr hn hst hW d kn
end R7
