def FL (own : String) (idx c k : Nat) : Prop := ∃ r : vw_C, vwCl[c]? = some r ∧ k < r.2.2 ∧ Cond.fieldLink own idx (r.2.1 k).1 (r.2.1 k).2.1 (r.2.1 k).2.2.1 ∈ TW
def finF (c k : Nat) : Bool := match vwCl[c]? with
  | some r => (r.2.1 k).2.2.2
  | none => true
def isI (t : FieldType) : Bool := match t with
  | .int => true
  | .boolean => true
  | _ => false
def isR (t : FieldType) : Bool := match t with
  | .object _ => true
  | .array _ => true
  | _ => false
theorem vf_I {t : FieldType} {i : Int32} {j : Int64} {p : Option Nat} (h : isI t = true) : vf t i j p = .int i := by
  cases t <;> first | rfl | cases h
theorem vf_R {t : FieldType} {i : Int32} {j : Int64} {p : Option Nat} (h : isR t = true) : vf t i j p = va_rf p := by
  cases t <;> first | rfl | cases h
section R3
variable {ρ : Type} {M : MI} {inj : ρ → Rs} {kc ks pc : Nat} {lv lv' : List (Option Value)} {st : List Value}
theorem ff_get {l : Launch} {G : GC} {base : Nat} {p : Program} {e : Env} {s : State} {m : MethodId} {args : Array Value} {below : List Frame} {meth : Method} {c0 : Code} {H : Heap} {locs : List Loc} {ls : Array Slot} {Q : State → Prop} (C : Fx M l G base p s m args meth c0) {h : AH} (hR : Rp G base s H h) {a c k idx : Nat} (hf : FL (mY M).cls idx c k) (hk : aK h a = c + 1) (d : decode (mC M) pc = .ok (.getfield idx, 3))
    (kk : W p l e (mO M) s m args below meth c0 H locs kc ks Q (F0 m (pc + 3) ls (aV h c a k :: st))) : W p l e (mO M) s m args below meth c0 H locs kc ks Q (F0 m pc ls (.ref a :: st)) := by
  obtain ⟨hx, hb, hr, hml, hown, hts, hlk, hl0, hG, hH, hnm⟩ := C
  obtain ⟨r, hrr, hkN, hlink⟩ := hf
  obtain ⟨hbs, cell, q1, q2, q3, q4⟩ := (hR.2.2 a).1 c r hk hrr
  obtain ⟨hin, hty, hnmm⟩ := cl_all hrr
  obtain ⟨hS', hfc, kC, hkC, hkind⟩ := hG.1.1 c _ hrr
  obtain ⟨cf, kf, fi, f, hi, hsl⟩ := hS' k hkN
  refine W.getf hx hb hown (hts _ hlink) hi (u_facts hfc hkC (u_lays hts hin hkN) hi).1 q1 (by rw [q3]; exact fun h => by cases h) (v := aV h c a k) ?_ rfl rfl d kk
  rw [hsl, q4 k hkN]
theorem ff_put {l : Launch} {G : GC} {base : Nat} {p : Program} {e : Env} {s : State} {m : MethodId} {args : Array Value} {below : List Frame} {meth : Method} {c0 : Code} {H : Heap} {locs : List Loc} {ls : Array Slot} {Q : State → Prop} (C : Fx M l G base p s m args meth c0) {h h1 : AH} (hR : Rp G base s H h) (hS : va_S (fun q => base ≤ q) s.heap H locs) {a c k idx : Nat} (hf : FL (mY M).cls idx c k) (hk : aK h a = c + 1) (hfin : finF c k = false ∨ (finF c k = true ∧ (mY M).name = "<init>" ∧ ∀ r, vwCl[c]? = some r → (r.2.1 k).1 = (mY M).cls)) {v : Value} (hn : narrow (tyF c k) v = v) (hfit : fits (tyF c k) v = true)
    (e0 : aK h1 = aK h ∧ aL h1 = aL h ∧ aZ h1 = aZ h) (e1 : (∀ b, b ≠ a → aI h1 b = aI h b) ∧ (∀ b, b ≠ a → aJ h1 b = aJ h b) ∧ ∀ b, b ≠ a → aP h1 b = aP h b) (e2 : ∀ j, aV h1 c a j = updV (aV h c a) k v j)
    (d : decode (mC M) pc = .ok (.putfield idx, 3))
    (kk : ∀ (H1 : Heap) (locs1 : List Loc), va_S (fun q => base ≤ q) s.heap H1 locs1 → Rp G base s H1 h1 → W p l e (mO M) s m args below meth c0 H1 locs1 kc ks Q (F0 m (pc + 3) ls st)) : W p l e (mO M) s m args below meth c0 H locs kc ks Q (F0 m pc ls (v :: .ref a :: st)) := by
  obtain ⟨hx, hb, hr, hml, hown, hts, hlk, hl0, hG, hH, hnm⟩ := C
  obtain ⟨r, hrr, hkN, hlink⟩ := hf
  obtain ⟨hbs, cell, q1, q2, q3, q4⟩ := (hR.2.2 a).1 c r hk hrr
  obtain ⟨hin, hty, hnmm⟩ := cl_all hrr
  have hap := va_apart (own := (mY M).cls) hts hin (tyF c) hty hnmm hG.1 hrr
  obtain ⟨hS', hfc, kC, hkC, hkind⟩ := hG.1.1 c _ hrr
  obtain ⟨cf, kf, fi, f, hi, hsl⟩ := hS' k hkN
  have hst := (u_facts hfc hkC (u_lays hts hin hkN) hi).1
  have key : ∀ H' : Heap, H'[a]? = some (cell.setSlot f.slot v) → H'.size = H.size → (∀ q, q ≠ a → H'[q]? = H[q]?) → W p l e (mO M) s m args below meth c0 H' (locs ++ [⟨a, f.slot⟩]) kc ks Q (F0 m (pc + 3) ls st) := by
    intro H' e3 e4 e5
    refine kk H' _ (hS.put e4 e5 hbs) (hR.upd e4 e5 e0.1 e0.2.1 e0.2.2 e1.1 e1.2.1 e1.2.2 (Ra.ofObj (by rw [e0.1]; exact hk) hrr hbs ?_))
    rw [hsl] at e3
    exact t_OB.to (V := updV (aV h c a) k v) ⟨_, e3, q2, q3, t_set q4 hap hkN v⟩ (fun j _ => (e2 j).symm)
  have hlay := hts _ (hin _ (u_in_lay hkN))
  unfold u_lay at hlay
  have hfe : ∀ b, finF c k = b → (r.2.1 k).2.2.2 = b := fun b hq => by
    unfold finF at hq
    rw [hrr] at hq
    exact hq
  rcases hfin with hfin | ⟨hfin, hi1, hi2⟩
  · rw [if_neg (by rw [hfe _ hfin]; decide)] at hlay
    have h6 := u_store hfc hkC hkind hlay hi (hty k hkN) hn hfit
    exact W.putK hx hb (f := f) ⟨hown, hts _ hlink, ⟨_, _, _, hi⟩, hst⟩ (by rw [q2]; exact h6) q1 q3 (by rw [hsl]; exact k2_hasslot (q4 k hkN)) rfl rfl d key
  · rw [if_pos (hfe _ hfin)] at hlay
    have hcf : m.cls = cf := by
      obtain ⟨_, _, c', _, _, _, -, -, hf', -, -, -, hown2, -⟩ := Cond.laysFinal_spec hlay
      have e1 : c' = cf := by have := hi.symm.trans hf'; simp at this; exact this.1.symm
      rw [hi2 r hrr] at hown2
      rw [← e1]; exact Option.some.inj (hown.symm.trans hown2)
    exact W.putFinK hx hb hown (hts _ hlink) hi hst hcf (by rw [hnm]; exact hi1) (by rw [q2]; exact u_fits hfc hkC hkind (u_lays hts hin hkN) hi (hty k hkN) hn hfit) q1 q3 (by rw [hsl]; exact k2_hasslot (q4 k hkN)) rfl rfl d key
theorem S_gI {a c k idx : Nat} {F : Int32 → AH → Option (ρ × AH)} (hf : FL (mY M).cls idx c k) (ht : isI (tyF c k) = true) (d : decode (mC M) pc = .ok (.getfield idx, 3)) (kk : ∀ x, Sm M inj kc ks (pc + 3) lv (.int x :: st) (F x)) : Sm M inj kc ks pc lv (.ref a :: st) (fun h => (gI c a k h).bind fun x => F x h) := by
  intro l G base p e s m args below meth c0 C H locs ls h r h' hl hS hR hF
  obtain ⟨x, hx, hF⟩ := ob_eq hF
  obtain ⟨hk, rfl⟩ := if_eq hx
  refine ff_get C hR hf hk d ?_
  rw [show aV h c a k = .int (aI h a k) from vf_I ht]
  exact kk _ l G base p e s m args below meth c0 C H locs ls h r h' hl hS hR hF
theorem S_gP {a c k idx : Nat} {F : Nat → AH → Option (ρ × AH)} (hf : FL (mY M).cls idx c k) (ht : isR (tyF c k) = true) (d : decode (mC M) pc = .ok (.getfield idx, 3)) (kk : ∀ x, Sm M inj kc ks (pc + 3) lv (.ref x :: st) (F x)) : Sm M inj kc ks pc lv (.ref a :: st) (fun h => (gP c a k h).bind fun x => F x h) := by
  intro l G base p e s m args below meth c0 C H locs ls h r h' hl hS hR hF
  obtain ⟨x, hx, hF⟩ := ob_eq hF
  obtain ⟨hk, hx⟩ := if_eq' hx
  refine ff_get C hR hf hk d ?_
  rw [show aV h c a k = .ref x from (vf_R ht).trans (by rw [hx]; rfl)]
  exact kk _ l G base p e s m args below meth c0 C H locs ls h r h' hl hS hR hF
theorem S_gJ {a c k idx : Nat} {F : Int64 → AH → Option (ρ × AH)} (hf : FL (mY M).cls idx c k) (ht : tyF c k = .long) (d : decode (mC M) pc = .ok (.getfield idx, 3)) (kk : ∀ x, Sm M inj kc ks (pc + 3) lv (.long x :: st) (F x)) : Sm M inj kc ks pc lv (.ref a :: st) (fun h => (gJ c a k h).bind fun x => F x h) := by
  intro l G base p e s m args below meth c0 C H locs ls h r h' hl hS hR hF
  obtain ⟨x, hx, hF⟩ := ob_eq hF
  obtain ⟨hk, rfl⟩ := if_eq hx
  refine ff_get C hR hf hk d ?_
  rw [show aV h c a k = .long (aJ h a k) by unfold aV; rw [ht]; rfl]
  exact kk _ l G base p e s m args below meth c0 C H locs ls h r h' hl hS hR hF
theorem nar_Z {x : Int32} (h : x = 0 ∨ x = 1) : narrow .boolean (.int x) = .int x ∧ fits .boolean (.int x) = true := by
  rcases h with rfl | rfl <;> exact ⟨by decide +kernel, by decide +kernel⟩
theorem sI_V {h : AH} {c a k : Nat} {x : Int32} (ht : isI (tyF c k) = true) (j : Nat) : aV (sI h a k x) c a j = updV (aV h c a) k (.int x) j := by
  unfold updV
  by_cases hj : j = k
  · subst hj
    rw [if_pos rfl]
    show vf (tyF c j) (up2 (aI h) a j x a j) (aJ h a j) (aP h a j) = _
    rw [up2_at, if_pos rfl, vf_I ht]
  · rw [if_neg hj]
    show vf (tyF c j) (up2 (aI h) a k x a j) (aJ h a j) (aP h a j) = _
    rw [up2_at, if_neg hj]
    rfl
theorem S_pI {a c k idx : Nat} {x : Int32} {F : AH → Option (ρ × AH)} (hf : FL (mY M).cls idx c k) (ht : tyF c k = .int) (hfin : finF c k = false) (d : decode (mC M) pc = .ok (.putfield idx, 3)) (kk : Sm M inj kc ks (pc + 3) lv st F) : Sm M inj kc ks pc lv (.int x :: .ref a :: st) (fun h => (pI c a k x h).bind fun h => F h) := by
  intro l G base p e s m args below meth c0 C H locs ls h r h' hl hS hR hF
  obtain ⟨h1, hx, hF⟩ := ob_eq hF
  obtain ⟨hk, rfl⟩ := if_eq hx
  exact ff_put (h1 := sI h a k x) C hR hS hf hk (Or.inl hfin) (by rw [ht]; rfl) (by rw [ht]; rfl) ⟨rfl, rfl, rfl⟩ ⟨fun b hb => up2_ne hb, fun _ _ => rfl, fun _ _ => rfl⟩ (sI_V (by rw [ht]; rfl)) d (fun H1 locs1 hS hR => kk l G base p e s m args below meth c0 C H1 locs1 ls _ r h' hl hS hR hF)
theorem S_pZ {a c k idx : Nat} {x : Int32} {F : AH → Option (ρ × AH)} (hf : FL (mY M).cls idx c k) (ht : tyF c k = .boolean) (hfin : finF c k = false) (d : decode (mC M) pc = .ok (.putfield idx, 3)) (kk : Sm M inj kc ks (pc + 3) lv st F) : Sm M inj kc ks pc lv (.int x :: .ref a :: st) (fun h => (pZ c a k x h).bind fun h => F h) := by
  intro l G base p e s m args below meth c0 C H locs ls h r h' hl hS hR hF
  obtain ⟨h1, hx, hF⟩ := ob_eq hF
  obtain ⟨⟨hk, hz⟩, rfl⟩ := if_eq hx
  exact ff_put (h1 := sI h a k x) C hR hS hf hk (Or.inl hfin) (by rw [ht]; exact (nar_Z hz).1) (by rw [ht]; exact (nar_Z hz).2) ⟨rfl, rfl, rfl⟩ ⟨fun b hb => up2_ne hb, fun _ _ => rfl, fun _ _ => rfl⟩ (sI_V (by rw [ht]; rfl)) d (fun H1 locs1 hS hR => kk l G base p e s m args below meth c0 C H1 locs1 ls _ r h' hl hS hR hF)
theorem sJ_V {h : AH} {c a k : Nat} {x : Int64} (ht : tyF c k = .long) (j : Nat) : aV (sJ h a k x) c a j = updV (aV h c a) k (.long x) j := by
  unfold updV
  by_cases hj : j = k
  · subst hj
    rw [if_pos rfl]
    show vf (tyF c j) (aI h a j) (up2 (aJ h) a j x a j) (aP h a j) = _
    rw [up2_at, if_pos rfl, ht]
    rfl
  · rw [if_neg hj]
    show vf (tyF c j) (aI h a j) (up2 (aJ h) a k x a j) (aP h a j) = _
    rw [up2_at, if_neg hj]
    rfl
theorem S_pJ {a c k idx : Nat} {x : Int64} {F : AH → Option (ρ × AH)} (hf : FL (mY M).cls idx c k) (ht : tyF c k = .long) (hfin : finF c k = false) (d : decode (mC M) pc = .ok (.putfield idx, 3)) (kk : Sm M inj kc ks (pc + 3) lv st F) : Sm M inj kc ks pc lv (.long x :: .ref a :: st) (fun h => (pJ c a k x h).bind fun h => F h) := by
  intro l G base p e s m args below meth c0 C H locs ls h r h' hl hS hR hF
  obtain ⟨h1, hx, hF⟩ := ob_eq hF
  obtain ⟨hk, rfl⟩ := if_eq hx
  exact ff_put (h1 := sJ h a k x) C hR hS hf hk (Or.inl hfin) (by rw [ht]; rfl) (by rw [ht]; rfl) ⟨rfl, rfl, rfl⟩ ⟨fun _ _ => rfl, fun b hb => up2_ne hb, fun _ _ => rfl⟩ (sJ_V ht) d (fun H1 locs1 hS hR => kk l G base p e s m args below meth c0 C H1 locs1 ls _ r h' hl hS hR hF)
theorem sP_V {h : AH} {c a k v : Nat} (ht : isR (tyF c k) = true) (j : Nat) : aV (sP h a k (some v)) c a j = updV (aV h c a) k (.ref v) j := by
  unfold updV
  by_cases hj : j = k
  · subst hj
    rw [if_pos rfl]
    show vf (tyF c j) (aI h a j) (aJ h a j) (up2 (aP h) a j (some v) a j) = _
    rw [up2_at, if_pos rfl, vf_R ht]
    rfl
  · rw [if_neg hj]
    show vf (tyF c j) (aI h a j) (aJ h a j) (up2 (aP h) a k (some v) a j) = _
    rw [up2_at, if_neg hj]
    rfl
theorem nar_R {t : FieldType} {v : Nat} (h : isR t = true) : narrow t (.ref v) = .ref v ∧ fits t (.ref v) = true := by
  cases t <;> first | exact ⟨rfl, rfl⟩ | cases h
/-- a final field in a constructor -/
theorem S_pF {a c k idx v : Nat} {F : AH → Option (ρ × AH)} (hf : FL (mY M).cls idx c k) (ht : isR (tyF c k) = true) (hfin : finF c k = true) (hi : (mY M).name = "<init>") (hd : ∀ r, vwCl[c]? = some r → (r.2.1 k).1 = (mY M).cls) (d : decode (mC M) pc = .ok (.putfield idx, 3)) (kk : Sm M inj kc ks (pc + 3) lv st F) : Sm M inj kc ks pc lv (.ref v :: .ref a :: st) (fun h => (pP c a k v h).bind fun h => F h) := by
  intro l G base p e s m args below meth c0 C H locs ls h r h' hl hS hR hF
  obtain ⟨h1, hx, hF⟩ := ob_eq hF
  obtain ⟨hk, rfl⟩ := if_eq hx
  exact ff_put (h1 := sP h a k (some v)) C hR hS hf hk (Or.inr ⟨hfin, hi, hd⟩) (nar_R ht).1 (nar_R ht).2 ⟨rfl, rfl, rfl⟩ ⟨fun _ _ => rfl, fun _ _ => rfl, fun b hb => up2_ne hb⟩ (sP_V ht) d (fun H1 locs1 hS hR => kk l G base p e s m args below meth c0 C H1 locs1 ls _ r h' hl hS hR hF)
end R3
