/-! ===== rows: calls, throws, System.arraycopy ===== -/
theorem TW_use {s U : State} {args a' : Array Value} (hts : ∀ w ∈ TW, w.before args s = true) (hW : s.WarmedH U.vm) {w : Cond} (hw : w ∈ TW) : w.before a' U = true := word_at hW (good_of_word (TW_good hw)) (hts w hw)
/-- what a callee's own words are -/
def MW (M : MI) (n : Nat) : Prop := Cond.code (mY M) (mC M) (mN M) (mR M) ∈ TW ∧ Cond.initialized (mY M).cls ∈ TW ∧ ((mY M).cls ≠ "java/lang/invoke/MethodHandle" ∧ (mY M).cls ≠ "java/lang/invoke/VarHandle") ∧ (parseMethodDescriptor (mY M).desc).map (fun d => d.parameters.length) = some n
/-- a virtual method of class c -/
def MV (M : MI) (c : Nat) : Prop := ∃ r : vw_C, vwCl[c]? = some r ∧ Cond.instanceMethod (mY M) ∈ TW ∧ Cond.selects r.1 (mY M) (mY M) ∈ TW
/-- the callee's room within the caller's -/
def RO (M M' : MI) (kc ks : Nat) : Prop := Nat.ble ((mO M').frames + 1) (mO M).frames = true ∧ Nat.ble (8 + (mN M' + 11) + (mO M').locals) (mO M).locals = true ∧ Nat.ble (kc + (mO M').cells) (mO M).cells = true ∧ Nat.ble (ks + (mO M').slots) (mO M).slots = true
def Sx {ρ : Type} (M : MI) (inj : ρ → Rs) (kc ks pc : Nat) (lv : List (Option Value)) (st : List Value) (k : Nat) (F : AH → Option (ρ × AH)) : Prop :=
  ∀ (l : Launch) (G : GC) (base : Nat) (p : Program) (e : Env) (s : State) (m : MethodId) (args : Array Value) (below : List Frame) (meth : Method) (c : Code), Fx M l G base p s m args meth c →
  ∀ (H : Heap) (locs : List Loc) (ls : Array Slot) (h : AH) (r : ρ) (h' : AH), lvH ls (mN M) lv → va_S (fun q => base ≤ q) s.heap H locs → Rp G base s H h → F h = some (r, h') →
    ∀ (q : Addr) (ce : Cell), H[q]? = some ce → ce.vm = .none → s.vm.findClass (exN k) = some ce.cls →
    vx_W p l e (mO M) s m args below meth c H locs kc ks (vx_MQ below (Qr G base (inj r) h') (Xr G base (inj r) h') args s (mO M).cells (mO M).slots (fun q => base ≤ q)) (F0 m pc ls st) q
section R5
variable {ρ : Type} {M : MI} {inj : ρ → Rs} {kc ks pc : Nat} {lv lv' : List (Option Value)} {st : List Value}
theorem cb_of {l : Launch} {G : GC} {base : Nat} {p : Program} {s : State} {m : MethodId} {args : Array Value} {meth : Method} {c0 : Code} (C : Fx M l G base p s m args meth c0) {M' : MI} {idx n : Nat} (hw : MW M' n) (hl : Cond.methodLink (mY M).cls idx (mY M') ∈ TW) (hr : RO M M' kc ks) :
    CallB (mO M) s args (mY M).cls idx (mY M') (mC M') (mN M') (mR M') (wsM M') (mO M') (mO M').cells (mO M').slots n := by
  have hts := C.2.2.2.2.2.1
  refine ⟨rfl, rfl, Nat.le_of_ble_eq_true hr.1, Nat.le_of_ble_eq_true hr.2.1, fun w h a' U hW => ?_, List.mem_cons_self, hts _ hw.1, hts _ hw.2.1, hw.2.2.1, fun sig h => ?_, hts _ hl⟩
  · rcases List.mem_cons.mp h with rfl | h
    · exact TW_use hts hW hw.1
    · exact TW_use hts hW h
  · have h2 := hw.2.2.2
    rw [h] at h2
    exact (Option.some.inj h2).symm
theorem Pr.of {G : GC} {base : Nat} {s : State} {H : Heap} {locs : List Loc} {h : AH} {as : List Value} (hG : GN G base s) (hS : va_S (fun q => base ≤ q) s.heap H locs) (hR : Rp G base s H h) (U : State) (hU : U.heap = H) (hW : s.WarmedH U.vm) : Pr G base as h as.toArray U := ⟨rfl, hG.moved hW (fun q h1 h2 => by rw [hU]; exact hS.2.1 q h1 h2), by rw [hU]; exact Rp.moved hW.alike hR⟩
theorem ff_call {ρ' : Type} {inj' : ρ' → Rs} {l : Launch} {G : GC} {base : Nat} {p : Program} {e : Env} {s : State} {m : MethodId} {args : Array Value} {below : List Frame} {meth : Method} {c0 : Code} (C : Fx M l G base p s m args meth c0) {H : Heap} {locs : List Loc} {ls : Array Slot} {h1 h' : AH} {r : ρ} {r' : ρ'} {mc ms : Nat} {av : Array Value} {stk : List Value} {K : ρ' → AH → Option (ρ × AH)}
    (hr : vx_Run p l e (mO M) s m args below meth c0 H locs kc ks mc ms (F0 m pc ls stk) st (Qr G base (inj' r') h1 av) (Xr G base (inj' r') h1) (fun q => base ≤ q)) (hl : lvH ls (mN M) lv) (hS : va_S (fun q => base ≤ q) s.heap H locs) (hF : K r' h1 = some (r, h'))
    (kn : ∀ r v, inj' r = .inl v → Sm M inj (kc + mc) (ks + ms) (pc + 3) lv (v.toList ++ st) (K r)) (kx : ∀ r k, inj' r = .inr k → Sx M inj (kc + mc) (ks + ms) pc lv st k (K r)) :
    W p l e (mO M) s m args below meth c0 H locs kc ks (vx_MQ below (Qr G base (inj r) h') (Xr G base (inj r) h') args s (mO M).cells (mO M).slots (fun q => base ≤ q)) (F0 m pc ls stk) := by
  intro T hT X
  rcases hr T hT X with ⟨v, st₀, t, T', L, h0, X', hL, e1, e2, ⟨⟨v', hv', hvv, hR1⟩, hF1⟩, go⟩ | ⟨q, st₀, t, T', L, E, ce, h0, X', hL, e1, e2, ⟨⟨k, hk, hE, hR1⟩, hF1⟩, hce, hcv, hcl, go⟩
  · cases hvv
    obtain ⟨z1, z2, z3⟩ := vx_keep h0 e1 hS (fun q _ h => h) (fun q h => h) hL hF1
    have hR2 : Rp G base s T'.heap h1 := by rw [e1]; exact Rp.moved (by rw [← e2]; exact X'.warmed.alike.symm) hR1
    obtain ⟨tt, a1, b1⟩ := kn r' v hv' l G base p e s m args below meth c0 C T'.heap _ ls h1 r h' hl z3 hR2 hF T' rfl X'
    exact ⟨tt, go tt a1, b1⟩
  · subst hE
    obtain ⟨z1, z2, z3⟩ := vx_keep h0 e1 hS (fun q _ h => h) (fun q h => h) hL hF1
    have hR2 : Rp G base s T'.heap h1 := by rw [e1]; exact Rp.moved (by rw [← e2]; exact X'.warmed.alike.symm) hR1
    obtain ⟨tt, a1, b1⟩ := kx r' k hk l G base p e s m args below meth c0 C T'.heap _ ls h1 r h' hl z3 hR2 hF q ce (by rw [e1]; exact hce) hcv hcl T' rfl X'
    exact ⟨tt, go.trans a1, b1⟩
theorem S_callV {ρ' : Type} {M' : MI} {inj' : ρ' → Rs} {b c idx n : Nat} {As stk : List Value} {f : AH → Option (ρ' × AH)} {K : ρ' → AH → Option (ρ × AH)} (hC : Ct M' inj' (.ref b :: As) f) (hw : MW M' n) (hv : MV M' c) (hl : Cond.methodLink (mY M).cls idx (mY M') ∈ TW) (hr : RO M M' kc ks) (hn : As.length = n) (hst : stk = As.reverse ++ .ref b :: st) (hW : Nat.ble (st.map fun v => v.category).sum 8 = true) (d : decode (mC M) pc = .ok (.invokevirtual idx, 3))
    (kn : ∀ r v, inj' r = .inl v → Sm M inj (kc + (mO M').cells) (ks + (mO M').slots) (pc + 3) lv (v.toList ++ st) (K r)) (kx : ∀ r k, inj' r = .inr k → Sx M inj (kc + (mO M').cells) (ks + (mO M').slots) pc lv st k (K r)) : Sm M inj kc ks pc lv stk (fun h => cv c b f h K) := by
  intro l G base p e s m args below meth c0 C H locs ls h r h' hl' hS hR hF
  obtain ⟨hk, hF⟩ := if_eq' hF
  obtain ⟨r', h1, hf, hF⟩ := bd_eq hF
  obtain ⟨r9, hr9, w1, w2⟩ := hv
  obtain ⟨-, cellB, g1, g2, g3, -⟩ := (hR.2.2 b).1 c r9 hk hr9
  have hKn := C.2.2.2.2.2.2.2.2.1.1.1 c r9 hr9
  exact ff_call C (vx_runV (As := As) (rest := st) ⟨C.1, C.2.1, C.2.2.2.1, C.2.2.2.2.1, C.2.2.2.2.2.1⟩ (hC l G base h r' h1 C.2.2.2.2.2.2.2.1 hf) ⟨cb_of C hw hl hr, C.2.2.2.2.2.1 _ w1, C.2.2.2.2.2.1 _ w2⟩ ⟨Pr.blind, ⟨cellB, g1, by rw [g3]; rfl, by rw [g2]; exact hKn.2.1⟩, fun U hU hW => Pr.of C.2.2.2.2.2.2.2.2.1 hS hR U hU hW⟩ rfl hn hl'.1 hst (lv_room (Nat.le_of_ble_eq_true hW)) d ⟨Nat.le_of_ble_eq_true hr.2.2.1, Nat.le_of_ble_eq_true hr.2.2.2⟩) hl' hS hF kn kx
theorem S_callS {ρ' : Type} {M' : MI} {inj' : ρ' → Rs} {idx n : Nat} {As stk : List Value} {f : AH → Option (ρ' × AH)} {K : ρ' → AH → Option (ρ × AH)} (hC : Ct M' inj' As f) (hw : MW M' n) (hv : Cond.static (mY M') ∈ TW) (hl : Cond.methodLink (mY M).cls idx (mY M') ∈ TW) (hr : RO M M' kc ks) (hn : As.length = n) (hst : stk = As.reverse ++ st) (hW : Nat.ble (st.map fun v => v.category).sum 8 = true) (d : decode (mC M) pc = .ok (.invokestatic idx, 3))
    (kn : ∀ r v, inj' r = .inl v → Sm M inj (kc + (mO M').cells) (ks + (mO M').slots) (pc + 3) lv (v.toList ++ st) (K r)) (kx : ∀ r k, inj' r = .inr k → Sx M inj (kc + (mO M').cells) (ks + (mO M').slots) pc lv st k (K r)) : Sm M inj kc ks pc lv stk (fun h => bd (f h) K) := by
  intro l G base p e s m args below meth c0 C H locs ls h r h' hl' hS hR hF
  obtain ⟨r', h1, hf, hF⟩ := bd_eq hF
  exact ff_call C (vx_runS (As := As) (rest := st) ⟨C.1, C.2.1, C.2.2.2.1, C.2.2.2.2.1, C.2.2.2.2.2.1⟩ (hC l G base h r' h1 C.2.2.2.2.2.2.2.1 hf) ⟨cb_of C hw hl hr, C.2.2.2.2.2.1 _ hv⟩ ⟨Pr.blind, fun U hU hW => Pr.of C.2.2.2.2.2.2.2.2.1 hS hR U hU hW⟩ rfl hn hl'.1 hst (lv_room (Nat.le_of_ble_eq_true hW)) d ⟨Nat.le_of_ble_eq_true hr.2.2.1, Nat.le_of_ble_eq_true hr.2.2.2⟩) hl' hS hF kn kx
theorem Rp.past {G : GC} {base : Nat} {U : State} {H : Heap} {h : AH} {b : Nat} (hR : Rp G base U H h) (hlt : ¬ b < H.size) (U' : State) (H' : Heap) : Ra G base U' H' h b := by
  have hN : H[b]? = none := by simp; omega
  obtain ⟨g1, g2, g3, g4, g5, g6⟩ := hR.2.2 b
  refine ⟨fun c r hk hr => ?_, fun hk => ?_, fun hk => ?_, fun hk => ?_, fun hk => ?_, fun c hk => ?_⟩
  · obtain ⟨-, cell, q, -⟩ := g1 c r hk hr
    rw [hN] at q; cases q
  · have := (g2 hk).2
    rw [hN] at this; cases this
  · have := (g3 hk).2
    rw [hN] at this; cases this
  · have := (g4 hk).2
    rw [hN] at this; cases this
  · obtain ⟨scr, q, -⟩ := g5 hk
    rw [hN] at q; cases q
  · have := (g6 c hk).2
    rw [hN] at this; cases this
/-- an exception that no handler of this method takes -/
theorem X_out {k : Nat} {r0 : ρ} (hH : mH M = []) (hm : Nat.ble kc (mO M).cells = true ∧ Nat.ble ks (mO M).slots = true) (hi : inj r0 = .inr k) : Sx M inj kc ks pc lv st k (fun h => some (r0, h)) := by
  intro l G base p e s m args below meth c0 C H locs ls h r h' hl hS hR hF q ce hce hcv hcl
  cases hF
  refine vx_out (fun x hx => ?_) C.2.2.2.2.2.2.1 hce hcv hcl (fun t ht hvm => ⟨⟨k, hi, rfl, by rw [ht]; exact Rp.moved hvm hR⟩, hS.F ht⟩) hS.2.2 (Nat.le_of_ble_eq_true hm.1) (Nat.le_of_ble_eq_true hm.2)
  rw [C.2.2.2.2.2.2.2.2.2.1, hH] at hx
  cases hx
theorem X_none {k : Nat} : Sx M inj kc ks pc lv st k (fun _ => none) := by
  intro l G base p e s m args below meth c0 C H locs ls h r h' hl hS hR hF q ce hce hcv hcl
  cases hF
theorem ex_hat {k ic : Nat} {G : GC} {base : Nat} {s : State} {args : Array Value} (hA : exA k ic) (hts : ∀ w ∈ TW, w.before args s = true) (hG : GN G base s) : ∀ w ∈ vx_atS RX8 ic (exN k) ["java/lang/RuntimeException", "java/lang/Exception"], w.before args s = true := by
  refine vx_hat (fun w hw => hts w (hA.1 w hw)) hA.2.1 (fun w hw => ?_)
  rcases List.mem_cons.mp hw with rfl | hw
  · exact (hG.2.2.2.2.1 k).use
  · obtain ⟨q, hq, rfl⟩ := List.mem_map.mp hw
    exact va_Nw.use rfl (hG.2.2.2.2.2.2.1 q hq)
/-- throw new E("text") -/
theorem S_thr {k ik is ic : Nat} {text : String} {r0 : ρ} (hy : (mY M).cls = RX8) (hA : exA k ic) (w1 : Cond.classLink RX8 ik (exN k) ∈ TW) (w2 : Cond.initialized (exN k) ∈ TW) (hs : (is, text) ∈ strL) (hH : mH M = []) (hm : Nat.ble (kc + 1) (mO M).cells = true ∧ Nat.ble (ks + 6) (mO M).slots = true ∧ Nat.ble 6 (mO M).frames = true ∧ Nat.ble ((st.map fun v => v.category).sum + 82) (mO M).locals = true) (hi : inj r0 = .inr k)
    (d0 : decode (mC M) pc = .ok (.new ik, 3)) (d3 : decode (mC M) (pc + 3) = .ok (.dup, 1)) (d4 : decode (mC M) (pc + 4) = .ok (.ldc is, 2)) (d6 : decode (mC M) (pc + 6) = .ok (.invokespecial ic, 3)) (d9 : decode (mC M) (pc + 9) = .ok (.athrow, 1)) : Sm M inj kc ks pc lv st (fun h => some (r0, thr h)) := by
  intro l G base p e s m args below meth c0 C H locs ls h r h' hl hS hR hF
  cases hF
  have hts := C.2.2.2.2.2.1
  have hG := C.2.2.2.2.2.2.2.2.1
  obtain ⟨sa, hsa⟩ := hG.2.2.1 _ hs
  have hown := C.2.2.2.2.1
  rw [hy] at hown
  have hat := ex_hat hA hts hG
  refine vx_throwS (names := ["java/lang/RuntimeException", "java/lang/Exception"]) C.1 C.2.1 C.2.2.2.2.2.2.2.1 hown hA.2.2.2 (by decide +kernel) (hts _ w1) (hts _ w2) hsa hat (fun w hw => ?_) hG.2.2.2.2.2.2.2.1 hG.2.2.2.2.2.2.2.2 hS (hl.1.trans C.2.2.2.1.symm) d0 d3 d4 d6 d9 (fun x hx => ?_) (Nat.lt_of_lt_of_le (by decide) (Nat.le_of_ble_eq_true hm.2.2.1)) (Nat.le_of_ble_eq_true hm.2.2.2) (Nat.le_of_ble_eq_true hm.1) (Nat.le_of_ble_eq_true hm.2.1) C.2.2.2.2.2.2.1 (fun t hvm hz hq => ?_) hS.2.2 (Nat.le_of_ble_eq_true hm.1) (Nat.le_of_ble_eq_true hm.2.1)
  · rcases List.mem_cons.mp hw with rfl | hw
    · rfl
    · rcases List.mem_cons.mp hw with rfl | hw
      · rfl
      · exact List.all_eq_true.mp hA.2.2.1 w hw
  · rw [C.2.2.2.2.2.2.2.2.2.1, hH] at hx
    cases hx
  · refine ⟨⟨k, hi, rfl, ?_⟩, ?_⟩
    · refine Rp.moved hvm ⟨Nat.le_trans hR.1 hz, (fun n hn => by cases hn), fun a => ?_⟩
      by_cases ha : a < H.size
      · exact (hR.2.2 a).cong (hq a ha) rfl rfl rfl rfl rfl
      · exact Rp.past hR ha s t.heap
    · exact ⟨Nat.le_trans hS.1 hz, fun q h1 h2 => by rw [hq q (Nat.lt_of_lt_of_le h1 hS.1)]; exact hS.2.1 q h1 h2⟩
/-- the same, the text by a wide index -/
theorem S_thrW {k ik is ic : Nat} {text : String} {r0 : ρ} (hy : (mY M).cls = RX8) (hA : exA k ic) (w1 : Cond.classLink RX8 ik (exN k) ∈ TW) (w2 : Cond.initialized (exN k) ∈ TW) (hs : (is, text) ∈ strL) (hH : mH M = []) (hm : Nat.ble (kc + 1) (mO M).cells = true ∧ Nat.ble (ks + 6) (mO M).slots = true ∧ Nat.ble 6 (mO M).frames = true ∧ Nat.ble ((st.map fun v => v.category).sum + 82) (mO M).locals = true) (hi : inj r0 = .inr k)
    (d0 : decode (mC M) pc = .ok (.new ik, 3)) (d3 : decode (mC M) (pc + 3) = .ok (.dup, 1)) (d4 : decode (mC M) (pc + 4) = .ok (.ldc_w is, 3)) (d7 : decode (mC M) (pc + 7) = .ok (.invokespecial ic, 3)) (d10 : decode (mC M) (pc + 10) = .ok (.athrow, 1)) : Sm M inj kc ks pc lv st (fun h => some (r0, thr h)) := by
  intro l G base p e s m args below meth c0 C H locs ls h r h' hl hS hR hF
  cases hF
  have hts := C.2.2.2.2.2.1
  have hG := C.2.2.2.2.2.2.2.2.1
  obtain ⟨sa, hsa⟩ := hG.2.2.1 _ hs
  have hown := C.2.2.2.2.1
  rw [hy] at hown
  have hat := ex_hat hA hts hG
  refine vx_throwSW (names := ["java/lang/RuntimeException", "java/lang/Exception"]) C.1 C.2.1 C.2.2.2.2.2.2.2.1 hown hA.2.2.2 (by decide +kernel) (hts _ w1) (hts _ w2) hsa hat (fun w hw => ?_) hG.2.2.2.2.2.2.2.1 hG.2.2.2.2.2.2.2.2 hS (hl.1.trans C.2.2.2.1.symm) d0 d3 d4 d7 d10 (fun x hx => ?_) (Nat.lt_of_lt_of_le (by decide) (Nat.le_of_ble_eq_true hm.2.2.1)) (Nat.le_of_ble_eq_true hm.2.2.2) (Nat.le_of_ble_eq_true hm.1) (Nat.le_of_ble_eq_true hm.2.1) C.2.2.2.2.2.2.1 (fun t hvm hz hq => ?_) hS.2.2 (Nat.le_of_ble_eq_true hm.1) (Nat.le_of_ble_eq_true hm.2.1)
  · rcases List.mem_cons.mp hw with rfl | hw
    · rfl
    · rcases List.mem_cons.mp hw with rfl | hw
      · rfl
      · exact List.all_eq_true.mp hA.2.2.1 w hw
  · rw [C.2.2.2.2.2.2.2.2.2.1, hH] at hx
    cases hx
  · refine ⟨⟨k, hi, rfl, ?_⟩, ?_⟩
    · refine Rp.moved hvm ⟨Nat.le_trans hR.1 hz, (fun n hn => by cases hn), fun a => ?_⟩
      by_cases ha : a < H.size
      · exact (hR.2.2 a).cong (hq a ha) rfl rfl rfl rfl rfl
      · exact Rp.past hR ha s t.heap
    · exact ⟨Nat.le_trans hS.1 hz, fun q h1 h2 => by rw [hq q (Nat.lt_of_lt_of_le h1 hS.1)]; exact hS.2.1 q h1 h2⟩
/-- a handler takes it: the handlers ahead don't -/
theorem X_catch {k hp : Nat} (pre : List (Nat × Nat × Nat × Nat)) (x : Nat × Nat × Nat × Nat) (suf : List (Nat × Nat × Nat × Nat)) (hk : 1 ≤ k ∧ k ≤ 3) (hsp : mH M = pre ++ x :: suf)
    (hpass : ∀ z ∈ pre, ∃ j, 1 ≤ j ∧ j ≤ 3 ∧ j ≠ k ∧ z.2.2.2 ≠ 0 ∧ Cond.classLink (mY M).cls z.2.2.2 (exN j) ∈ TW) (hx : x.1 ≤ pc ∧ pc < x.2.1) (h0 : x.2.2.2 ≠ 0) (hh : x.2.2.1 = hp) (w1 : Cond.classLink (mY M).cls x.2.2.2 (exN k) ∈ TW) {F : AH → Option (ρ × AH)} (kk : ∀ q, Sm M inj kc ks hp lv [.ref q] F) : Sx M inj kc ks pc lv st k F := by
  intro l G base p e s m args below meth c0 C H locs ls h r h' hl hS hR hF q ce hce hcv hcl
  have hts := C.2.2.2.2.2.1
  have hG := C.2.2.2.2.2.2.2.2.1
  refine vx_catch (own := (mY M).cls) (name := exN k) (E := exN k) (ce := ce) C.2.2.2.2.1 (tableOf pre) ⟨x.1, x.2.1, x.2.2.1, x.2.2.2⟩ (tableOf suf) (by rw [C.2.2.2.2.2.2.2.2.2.1, hsp]; simp [tableOf]) (fun z hz => ?_) ?_ h0 (hts _ w1) ((hG.2.2.2.2.1 k).use) hce hcv hcl ?_
  · obtain ⟨y, hy, rfl⟩ := List.mem_map.mp hz
    obtain ⟨j, j1, j2, j3, j4, j5⟩ := hpass y hy
    exact Or.inr ⟨j4, exN j, hts _ j5, hG.2.2.2.1 k j hk.1 hk.2 j1 j2 (Ne.symm j3)⟩
  · simp [covers, hx.1, hx.2]
  · subst hh
    exact kk q l G base p e s m args below meth c0 C H locs ls h r h' hl hS hR hF
/-! System.arraycopy of ints -/
theorem nn_of (z : Int32) (hz : ¬ z < 0) : z.toInt = (z.toNatClampNeg : Int) := by
  have hz0 : (0 : Int) ≤ z.toInt := by
    have := Int32.not_lt.mp hz
    simpa using Int32.le_iff_toInt_le.mp this
  show z.toInt = ((z.toInt.toNat : Nat) : Int)
  omega
theorem S_cpI {a b idx : Nat} {sp dp n : Int32} {F : AH → Option (ρ × AH)} (w1 : Cond.methodLink (mY M).cls idx arraycopyName ∈ TW) (w2 : Cond.native arraycopyName ∈ TW) (w3 : Cond.static arraycopyName ∈ TW) (w4 : Cond.initialized "java/lang/System" ∈ TW) (hm : Nat.ble 1 (mO M).frames = true ∧ Nat.ble ((st.map fun v => v.category).sum + 18) (mO M).locals = true) (d : decode (mC M) pc = .ok (.invokestatic idx, 3)) (kk : Sm M inj kc ks (pc + 3) lv st F) : Sm M inj kc ks pc lv (.int n :: .int dp :: .ref b :: .int sp :: .ref a :: st) (fun h => (cpI a sp b dp n h).bind fun h => F h) := by
  intro l G base p e s m args below meth c0 C H locs ls h r h' hl hS hR hF
  obtain ⟨h1, hx, hF⟩ := ob_eq hF
  obtain ⟨⟨ka, kb, g1, g2, g3, g4, g5⟩, rfl⟩ := if_eq hx
  obtain ⟨hba, hc0⟩ := (hR.2.2 a).2.1 ka
  obtain ⟨hbb, hc1⟩ := (hR.2.2 b).2.1 kb
  have hts := C.2.2.2.2.2.1
  have hG := C.2.2.2.2.2.2.2.2.1
  intro T hT X
  obtain ⟨-, k0, hk0, cm0, hkk0⟩ := (hG.1.2 0 _ rfl).1 (aL h a) (fun j => .int (aI h a j))
  obtain ⟨-, k1, hk1, cm1, hkk1⟩ := (hG.1.2 0 _ rfl).1 (aL h b) (fun j => .int (aI h b j))
  obtain ⟨vm', X', step⟩ := X.arraycopy C.1 C.2.2.2.2.1 (hts _ w1) (hts _ w2) (hts _ w3) (hts _ w4) (src := a) (dst := b) (srcPos := sp) (destPos := dp) (n := n) (by rw [hT]; exact hc0) (by rw [hT]; exact hc1)
    (fun _ h => by cases h) (fun _ h => by cases h) (fun h => by cases h) (fun h => by cases h) hk0 hk1 hkk0 hkk1 (by simp [refKind]) g1 g2 g3
    (by rw [nn_of sp g1, nn_of n g3, arrV_size]; omega)
    (by rw [nn_of dp g2, nn_of n g3, arrV_size]; omega)
    (fun vm₁ _ i hi => by
      have e : (arrV G.2.1 (aL h a) (fun j => Value.int (aI h a j))).slots.getD (sp.toNatClampNeg + i) .null = .int (aI h a (sp.toNatClampNeg + i)) := by
        rw [Array.getD_eq_getD_getElem?, arrV_read _ _ (by omega)]
        rfl
      refine ⟨?_, ?_⟩
      · rw [e]
        rfl
      · rw [e]
        exact trivial)
    (g := F0 m pc ls (.int n :: .int dp :: .ref b :: .int sp :: .ref a :: st)) rfl (by rw [C.2.2.2.1]; exact hl.1) (rest := st) rfl (by rw [C.2.1]; exact d) (Nat.le_of_ble_eq_true hm.1) (by
      have h9 := Nat.le_of_ble_eq_true hm.2
      show 2 * 0 + _ + (nativeFrameWords "java/lang/System" "arraycopy" 5 + 11) ≤ _
      rw [show nativeFrameWords "java/lang/System" "arraycopy" 5 = 7 by decide +kernel]
      omega)
  have e1 : copied (arrV G.2.1 (aL h a) (fun j => Value.int (aI h a j))) (arrV G.2.1 (aL h b) (fun j => Value.int (aI h b j))) sp dp n = arrV G.2.1 (aL h b) (fun j => .int (va_cpy (aI h a) (aI h b) sp.toNatClampNeg dp.toNatClampNeg n.toNatClampNeg j)) := va_copied (fun z => .int z) G.2.1 G.2.1 (aI h a) (aI h b) g4
  rw [e1] at X' step
  have hlt : b < H.size := (Array.getElem?_eq_some_iff.mp hc1).1
  obtain ⟨H1, hH1⟩ : ∃ z, z = H.setIfInBounds b (arrV G.2.1 (aL h b) (fun j => .int (va_cpy (aI h a) (aI h b) sp.toNatClampNeg dp.toNatClampNeg n.toNatClampNeg j))) := ⟨_, rfl⟩
  have z1 : H1.size = H.size := by rw [hH1]; simp
  have o1 : ∀ q, q ≠ b → H1[q]? = H[q]? := fun q hq => by rw [hH1]; simp [Array.getElem?_setIfInBounds, Ne.symm hq]
  have c1 : H1[b]? = some (arrV G.2.1 (aL h b) (fun j => .int (va_cpy (aI h a) (aI h b) sp.toNatClampNeg dp.toNatClampNeg n.toNatClampNeg j))) := by rw [hH1]; simp [Array.getElem?_setIfInBounds, hlt]
  have hR1 : Rp G base s H1 (sA h b (va_cpy (aI h a) (aI h b) sp.toNatClampNeg dp.toNatClampNeg n.toNatClampNeg)) := by
    refine hR.upd z1 o1 rfl rfl rfl (fun q hq => up1_ne hq) (fun _ _ => rfl) (fun _ _ => rfl) (Ra.ofK hbb (Or.inl ⟨kb, ?_⟩))
    rw [c1]
    show _ = some (arrV _ _ (fun j => .int ((up1 (aI h) b (va_cpy (aI h a) (aI h b) sp.toNatClampNeg dp.toNatClampNeg n.toNatClampNeg)) b j)))
    rw [up1_self]
    rfl
  obtain ⟨t, a1, b1⟩ := kk l G base p e s m args below meth c0 C H1 _ ls _ r h' hl ⟨by rw [z1]; exact hS.1, fun q q1 q2 => by rw [o1 q (fun e => q2 (by rw [e]; exact hbb))]; exact hS.2.1 q q1 q2, fun q hq => by
      rcases List.mem_append.mp hq with h | h
      · exact hS.2.2 q h
      · obtain ⟨z, -, hz⟩ := List.mem_map.mp h
        rw [← hz]
        exact hbb⟩ hR1 hF _ (by rw [hH1, ← hT]; rfl) X'
  exact ⟨t, step t a1, b1⟩
end R5
