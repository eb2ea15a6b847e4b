/-! ===== rows: arrays ===== -/
section R4
variable {ρ : Type} {M : MI} {inj : ρ → Rs} {kc ks pc : Nat} {lv lv' : List (Option Value)} {st : List Value}
theorem ar_in {n : Nat} {i : Int32} {cA : ClassId} {f : Nat → Value} (h1 : ¬ i < 0) (h2 : i.toNatClampNeg < n) : ¬ (i < 0 ∨ (arrV cA n f).slots.size ≤ i.toNatClampNeg) := by
  rw [arrV_size]
  exact fun q => q.elim h1 (fun q => Nat.not_le.mpr h2 q)
theorem S_ldI {a : Nat} {i : Int32} {F : Int32 → AH → Option (ρ × AH)} (d : decode (mC M) pc = .ok (.iaload, 1)) (kk : ∀ x, Sm M inj kc ks (pc + 1) lv (.int x :: st) (F x)) : Sm M inj kc ks pc lv (.int i :: .ref a :: st) (fun h => (ldI a i h).bind fun x => F x h) := by
  intro l G base p e s m args below meth c0 C H locs ls h r h' hl hS hR hF
  obtain ⟨x, hx, hF⟩ := ob_eq hF
  obtain ⟨⟨hk, h1, h2⟩, rfl⟩ := if_eq hx
  obtain ⟨-, hc⟩ := (hR.2.2 a).2.1 hk
  exact W.iald C.1 C.2.1 hc ((C.2.2.2.2.2.2.2.2.1.1.2 0 _ rfl).1 _ _) (fun q => by cases q) (ar_in h1 h2) (arrV_read _ _ h2) rfl rfl d (kk _ l G base p e s m args below meth c0 C H locs ls h r h' hl hS hR hF)
theorem S_ldZ {a : Nat} {i : Int32} {F : Int32 → AH → Option (ρ × AH)} (d : decode (mC M) pc = .ok (.baload, 1)) (kk : ∀ x, Sm M inj kc ks (pc + 1) lv (.int x :: st) (F x)) : Sm M inj kc ks pc lv (.int i :: .ref a :: st) (fun h => (ldZ a i h).bind fun x => F x h) := by
  intro l G base p e s m args below meth c0 C H locs ls h r h' hl hS hR hF
  obtain ⟨x, hx, hF⟩ := ob_eq hF
  obtain ⟨⟨hk, h1, h2⟩, rfl⟩ := if_eq hx
  obtain ⟨-, hc⟩ := (hR.2.2 a).2.2.1 hk
  exact W.zald C.1 C.2.1 hc ((C.2.2.2.2.2.2.2.2.1.1.2 1 _ rfl).1 _ _) (fun q => by cases q) (ar_in h1 h2) (arrV_read _ _ h2) rfl rfl d (kk _ l G base p e s m args below meth c0 C H locs ls h r h' hl hS hR hF)
theorem S_ldJ {a : Nat} {i : Int32} {F : Int64 → AH → Option (ρ × AH)} (d : decode (mC M) pc = .ok (.laload, 1)) (kk : ∀ x, Sm M inj kc ks (pc + 1) lv (.long x :: st) (F x)) : Sm M inj kc ks pc lv (.int i :: .ref a :: st) (fun h => (ldJ a i h).bind fun x => F x h) := by
  intro l G base p e s m args below meth c0 C H locs ls h r h' hl hS hR hF
  obtain ⟨x, hx, hF⟩ := ob_eq hF
  obtain ⟨⟨hk, h1, h2⟩, rfl⟩ := if_eq hx
  obtain ⟨-, hc⟩ := (hR.2.2 a).2.2.2.1 hk
  exact W.lald C.1 C.2.1 hc ((C.2.2.2.2.2.2.2.2.1.1.2 2 _ rfl).1 _ _) (fun q => by cases q) (ar_in h1 h2) (arrV_read _ _ h2) rfl rfl d (kk _ l G base p e s m args below meth c0 C H locs ls h r h' hl hS hR hF)
theorem S_ldS {a : Nat} {i : Int32} {F : Int32 → AH → Option (ρ × AH)} (d : decode (mC M) pc = .ok (.iaload, 1)) (kk : ∀ x, Sm M inj kc ks (pc + 1) lv (.int x :: st) (F x)) : Sm M inj kc ks pc lv (.int i :: .ref a :: st) (fun h => (ldS a i h).bind fun x => F x h) := by
  intro l G base p e s m args below meth c0 C H locs ls h r h' hl hS hR hF
  obtain ⟨x, hx, hF⟩ := ob_eq hF
  obtain ⟨⟨hk, h1, h2⟩, rfl⟩ := if_eq hx
  obtain ⟨scr, q1, q2, q3, q4, q5⟩ := (hR.2.2 a).2.2.2.2.1 hk
  exact W.iald C.1 C.2.1 q1 q2 q3 (by rw [q4]; exact fun q => q.elim h1 (fun q => Nat.not_le.mpr h2 q)) (q5 _ h2) rfl rfl d (kk _ l G base p e s m args below meth c0 C H locs ls h r h' hl hS hR hF)
theorem S_lnS {a : Nat} {F : Int32 → AH → Option (ρ × AH)} (d : decode (mC M) pc = .ok (.arraylength, 1)) (kk : ∀ x, Sm M inj kc ks (pc + 1) lv (.int x :: st) (F x)) : Sm M inj kc ks pc lv (.ref a :: st) (fun h => (lnS a h).bind fun x => F x h) := by
  intro l G base p e s m args below meth c0 C H locs ls h r h' hl hS hR hF
  obtain ⟨x, hx, hF⟩ := ob_eq hF
  obtain ⟨hk, rfl⟩ := if_eq hx
  obtain ⟨scr, q1, q2, q3, q4, q5⟩ := (hR.2.2 a).2.2.2.2.1 hk
  exact W.alen C.1 C.2.1 q1 q2 (by rw [q4]) rfl rfl d (kk _ l G base p e s m args below meth c0 C H locs ls h r h' hl hS hR hF)
theorem gT_at {G : GC} {c : Nat} (h : c = 0 ∨ c = 1 ∨ c = 2 ∨ c = 3 ∨ c = 6) : ∃ (t : Nat) (r : vw_C), vwCl[c]? = some r ∧ (gT G)[t]? = some (G.2.2.2.2 c, FieldType.object r.1) := by
  rcases h with rfl | rfl | rfl | rfl | rfl
  · exact ⟨3, _, rfl, rfl⟩
  · exact ⟨4, _, rfl, rfl⟩
  · exact ⟨5, _, rfl, rfl⟩
  · exact ⟨6, _, rfl, rfl⟩
  · exact ⟨7, _, rfl, rfl⟩
theorem S_ldP {a c : Nat} {i : Int32} {F : Nat → AH → Option (ρ × AH)} (hcc : c = 0 ∨ c = 1 ∨ c = 2 ∨ c = 3 ∨ c = 6) (d : decode (mC M) pc = .ok (.aaload, 1)) (kk : ∀ x, Sm M inj kc ks (pc + 1) lv (.ref x :: st) (F x)) : Sm M inj kc ks pc lv (.int i :: .ref a :: st) (fun h => (ldP c a i h).bind fun x => F x h) := by
  intro l G base p e s m args below meth c0 C H locs ls h r h' hl hS hR hF
  obtain ⟨x, hx, hF⟩ := ob_eq hF
  obtain ⟨⟨hk, h1, h2⟩, hx⟩ := if_eq' hx
  obtain ⟨-, hc⟩ := (hR.2.2 a).2.2.2.2.2 c hk
  obtain ⟨t, r9, -, ht⟩ := gT_at (G := G) hcc
  exact W.aald (v := .ref x) C.1 C.2.1 hc ((C.2.2.2.2.2.2.2.2.1.1.2 t _ ht).1 _ _) rfl (fun q => by cases q) (ar_in h1 h2) ((arrV_read _ _ h2).trans (by rw [hx]; rfl)) rfl rfl d (kk _ l G base p e s m args below meth c0 C H locs ls h r h' hl hS hR hF)
theorem Ra.ofK {G : GC} {base : Nat} {U : State} {H : Heap} {h : AH} {a : Nat} (hb : base ≤ a) (hk : (aK h a = 20 ∧ H[a]? = some (arrV G.2.1 (aL h a) (fun j => .int (aI h a j)))) ∨ (aK h a = 21 ∧ H[a]? = some (arrV G.2.2.1 (aL h a) (fun j => .int (aI h a j)))) ∨ (aK h a = 22 ∧ H[a]? = some (arrV G.2.2.2.1 (aL h a) (fun j => .long (aJ h a j)))) ∨ ∃ c, aK h a = 30 + c ∧ H[a]? = some (arrV (G.2.2.2.2 c) (aL h a) (fun j => va_rf (aP h a j)))) : Ra G base U H h a := by
  rcases hk with ⟨hk, hc⟩ | ⟨hk, hc⟩ | ⟨hk, hc⟩ | ⟨c, hk, hc⟩
  · exact ⟨fun c r q hr => absurd (vwCl_lt hr) (by omega), fun _ => ⟨hb, hc⟩, fun q => by omega, fun q => by omega, fun q => by omega, fun c q => by omega⟩
  · exact ⟨fun c r q hr => absurd (vwCl_lt hr) (by omega), fun q => by omega, fun _ => ⟨hb, hc⟩, fun q => by omega, fun q => by omega, fun c q => by omega⟩
  · exact ⟨fun c r q hr => absurd (vwCl_lt hr) (by omega), fun q => by omega, fun q => by omega, fun _ => ⟨hb, hc⟩, fun q => by omega, fun c q => by omega⟩
  · exact ⟨fun c r q hr => absurd (vwCl_lt hr) (by omega), fun q => by omega, fun q => by omega, fun q => by omega, fun q => by omega, fun c' q => by
      have : c' = c := by omega
      subst this
      exact ⟨hb, hc⟩⟩
theorem ar_set {cA : ClassId} {n k a : Nat} {f : Nat → Value} {g : Nat → Value} {x : Value} {H : Heap} (h : H[a]? = some ((arrV cA n f).setSlot k x)) (hg : ∀ j, g j = if j = k then x else f j) : H[a]? = some (arrV cA n g) := by
  rw [h, arrV_store]
  congr 2
  funext j
  rw [hg j]
  rfl
theorem S_stI {a : Nat} {i x : Int32} {F : AH → Option (ρ × AH)} (d : decode (mC M) pc = .ok (.iastore, 1)) (kk : Sm M inj kc ks (pc + 1) lv st F) : Sm M inj kc ks pc lv (.int x :: .int i :: .ref a :: st) (fun h => (stI a i x h).bind fun h => F h) := by
  intro l G base p e s m args below meth c0 C H locs ls h r h' hl hS hR hF
  obtain ⟨h1, hx, hF⟩ := ob_eq hF
  obtain ⟨⟨hk, h2, h3⟩, rfl⟩ := if_eq hx
  obtain ⟨hb, hc⟩ := (hR.2.2 a).2.1 hk
  refine W.iast C.1 C.2.1 hc ((C.2.2.2.2.2.2.2.2.1.1.2 0 _ rfl).1 _ _) (fun q => by cases q) (ar_in h2 h3) rfl rfl d (fun H1 e1 e2 e3 => ?_)
  refine kk l G base p e s m args below meth c0 C H1 _ ls (sI h a i.toNatClampNeg x) r h' hl (hS.put e2 e3 hb) (hR.upd (h' := sI h a i.toNatClampNeg x) e2 e3 rfl rfl rfl (fun b hb => up2_ne hb) (fun _ _ => rfl) (fun _ _ => rfl) (Ra.ofK hb (Or.inl ⟨hk, ?_⟩))) hF
  exact ar_set e1 (fun j => by show Value.int (up2 _ _ _ _ _ _) = _; rw [up2_at]; split <;> rfl)
theorem S_stZ {a : Nat} {i x : Int32} {F : AH → Option (ρ × AH)} (d : decode (mC M) pc = .ok (.bastore, 1)) (kk : Sm M inj kc ks (pc + 1) lv st F) : Sm M inj kc ks pc lv (.int x :: .int i :: .ref a :: st) (fun h => (stZ a i x h).bind fun h => F h) := by
  intro l G base p e s m args below meth c0 C H locs ls h r h' hl hS hR hF
  obtain ⟨h1, hx, hF⟩ := ob_eq hF
  obtain ⟨⟨hk, h2, h3, hz⟩, rfl⟩ := if_eq hx
  obtain ⟨hb, hc⟩ := (hR.2.2 a).2.2.1 hk
  refine W.zast C.1 C.2.1 hc ((C.2.2.2.2.2.2.2.2.1.1.2 1 _ rfl).1 _ _) (fun q => by cases q) (ar_in h2 h3) rfl rfl d (fun H1 e1 e2 e3 => ?_)
  rw [(nar_Z hz).1] at e1
  refine kk l G base p e s m args below meth c0 C H1 _ ls (sI h a i.toNatClampNeg x) r h' hl (hS.put e2 e3 hb) (hR.upd (h' := sI h a i.toNatClampNeg x) e2 e3 rfl rfl rfl (fun b hb => up2_ne hb) (fun _ _ => rfl) (fun _ _ => rfl) (Ra.ofK hb (Or.inr (Or.inl ⟨hk, ?_⟩)))) hF
  exact ar_set e1 (fun j => by show Value.int (up2 _ _ _ _ _ _) = _; rw [up2_at]; split <;> rfl)
theorem S_stJ {a : Nat} {i : Int32} {x : Int64} {F : AH → Option (ρ × AH)} (d : decode (mC M) pc = .ok (.lastore, 1)) (kk : Sm M inj kc ks (pc + 1) lv st F) : Sm M inj kc ks pc lv (.long x :: .int i :: .ref a :: st) (fun h => (stJ a i x h).bind fun h => F h) := by
  intro l G base p e s m args below meth c0 C H locs ls h r h' hl hS hR hF
  obtain ⟨h1, hx, hF⟩ := ob_eq hF
  obtain ⟨⟨hk, h2, h3⟩, rfl⟩ := if_eq hx
  obtain ⟨hb, hc⟩ := (hR.2.2 a).2.2.2.1 hk
  refine W.last C.1 C.2.1 hc ((C.2.2.2.2.2.2.2.2.1.1.2 2 _ rfl).1 _ _) (fun q => by cases q) (ar_in h2 h3) rfl rfl d (fun H1 e1 e2 e3 => ?_)
  refine kk l G base p e s m args below meth c0 C H1 _ ls (sJ h a i.toNatClampNeg x) r h' hl (hS.put e2 e3 hb) (hR.upd (h' := sJ h a i.toNatClampNeg x) e2 e3 rfl rfl rfl (fun _ _ => rfl) (fun b hb => up2_ne hb) (fun _ _ => rfl) (Ra.ofK hb (Or.inr (Or.inr (Or.inl ⟨hk, ?_⟩))))) hF
  exact ar_set e1 (fun j => by show Value.long (up2 _ _ _ _ _ _) = _; rw [up2_at]; split <;> rfl)
theorem S_stP {a c v : Nat} {i : Int32} {F : AH → Option (ρ × AH)} (hcc : c = 0 ∨ c = 1 ∨ c = 2 ∨ c = 3 ∨ c = 6) (d : decode (mC M) pc = .ok (.aastore, 1)) (kk : Sm M inj kc ks (pc + 1) lv st F) : Sm M inj kc ks pc lv (.ref v :: .int i :: .ref a :: st) (fun h => (stP c a i v h).bind fun h => F h) := by
  intro l G base p e s m args below meth c0 C H locs ls h r h' hl hS hR hF
  obtain ⟨h1, hx, hF⟩ := ob_eq hF
  obtain ⟨⟨hk, h2, h3, hkv⟩, rfl⟩ := if_eq hx
  obtain ⟨hb, hc⟩ := (hR.2.2 a).2.2.2.2.2 c hk
  obtain ⟨t, r9, hr9, ht⟩ := gT_at (G := G) hcc
  have hK := C.2.2.2.2.2.2.2.2.1.1
  obtain ⟨-, cellV, g1, g2, g3, -⟩ := (hR.2.2 v).1 c r9 hkv hr9
  have hcls := (hK.1 c r9 hr9).2
  obtain ⟨kA, comp, k1, k2, k3, -⟩ := (hK.2 t _ ht).2
  have hcomp : comp = G.1.1 c := Option.some.inj (k3.symm.trans hcls.1)
  subst hcomp
  obtain ⟨kC, hkC, -⟩ := hcls.2
  refine W.aast C.1 C.2.1 hc (fun q h => by cases h) (fun h => by cases h) k1 k2 rfl hkC ⟨h2, by rw [arrV_size]; exact h3⟩ g1 (fun q h => by rw [g3] at h; cases h) (by rw [g2]; exact hkC) (by rw [g2]; exact va_assign hcls) rfl rfl d (fun H1 e1 e2 e3 => ?_)
  refine kk l G base p e s m args below meth c0 C H1 _ ls (sP h a i.toNatClampNeg (some v)) r h' hl (hS.put e2 e3 hb) (hR.upd (h' := sP h a i.toNatClampNeg (some v)) e2 e3 rfl rfl rfl (fun _ _ => rfl) (fun _ _ => rfl) (fun b hb => up2_ne hb) (Ra.ofK hb (Or.inr (Or.inr (Or.inr ⟨c, hk, ?_⟩))))) hF
  exact ar_set e1 (fun j => by show va_rf (up2 _ _ _ _ _ _) = _; rw [up2_at]; split <;> rfl)
/-! ===== rows: new cells ===== -/
theorem Rp.new {G : GC} {base : Nat} {U : State} {H H1 : Heap} {h : AH} {k z : Nat} (hR : Rp G base U H h) (z1 : H1.size = H.size + 1) (o1 : ∀ q, q < H.size → H1[q]? = H[q]?) (ha : Ra G base U H1 (sN h H.size k z) H.size) : Rp G base U H1 (sN h H.size k z) := by
  refine ⟨Nat.le_trans hR.1 (by omega), fun n hn => by cases hn; exact z1, fun b => ?_⟩
  by_cases hb : b = H.size
  · rw [hb]; exact ha
  · by_cases hlt : b < H.size
    · exact (hR.2.2 b).cong (o1 b hlt) (up1_ne hb) (up1_ne hb) (up1_ne hb) (up1_ne hb) (up1_ne hb)
    · have hK : aK (sN h H.size k z) b = aK h b := up1_ne hb
      have hN : H[b]? = none := by simp; omega
      obtain ⟨g1, g2, g3, g4, g5, g6⟩ := hR.2.2 b
      refine ⟨fun c r hk hr => ?_, fun hk => ?_, fun hk => ?_, fun hk => ?_, fun hk => ?_, fun c hk => ?_⟩
      · rw [hK] at hk
        obtain ⟨-, cell, q, -⟩ := g1 c r hk hr
        rw [hN] at q; cases q
      · rw [hK] at hk
        have := (g2 hk).2
        rw [hN] at this; cases this
      · rw [hK] at hk
        have := (g3 hk).2
        rw [hN] at this; cases this
      · rw [hK] at hk
        have := (g4 hk).2
        rw [hN] at this; cases this
      · rw [hK] at hk
        obtain ⟨scr, q, -⟩ := g5 hk
        rw [hN] at q; cases q
      · rw [hK] at hk
        have := (g6 c hk).2
        rw [hN] at this; cases this
theorem va_S.newS {A : Nat → Prop} {H0 H H1 : Heap} {locs : List Loc} (hS : va_S A H0 H locs) (z1 : H1.size = H.size + 1) (o1 : ∀ q, q < H.size → H1[q]? = H[q]?) : va_S A H0 H1 locs := ⟨Nat.le_trans hS.1 (by omega), fun x h1 h2 => (o1 x (Nat.lt_of_lt_of_le h1 hS.1)).trans (hS.2.1 x h1 h2), hS.2.2⟩
theorem nwK_eq {k z : Nat} {h : AH} {q : Nat × AH} (hq : nwK k z h = some q) : ∃ n, aZ h = some n ∧ q = (n, sN h n k z) := by
  unfold nwK at hq
  split at hq
  · cases hq
  · rename_i n hn
    cases hq
    exact ⟨n, hn, rfl⟩
theorem dfl_V {t : FieldType} : defaultValue t = vf t 0 0 none ∨ t = .float ∨ t = .double ∨ t = .byte ∨ t = .short ∨ t = .char := by
  cases t <;> simp [defaultValue, vf, va_rf]
def dflT (t : FieldType) : Bool := match t with
  | .int => true
  | .boolean => true
  | .long => true
  | .object _ => true
  | .array _ => true
  | _ => false
theorem dfl_ok {t : FieldType} (h : dflT t = true) : defaultValue t = vf t 0 0 none := by
  cases t <;> first | rfl | cases h
theorem tyF_dfl : ∀ c, c < 10 → ∀ k, k < 20 → dflT (tyF c k) = true := by decide +kernel
theorem vwCl_n {c : Nat} {r : vw_C} (h : vwCl[c]? = some r) : r.2.2 ≤ 20 := by
  match c, h with
  | 0, h => cases h; decide
  | 1, h => cases h; decide
  | 2, h => cases h; decide
  | 3, h => cases h; decide
  | 4, h => cases h; decide
  | 5, h => cases h; decide
  | 6, h => cases h; decide
  | 7, h => cases h; decide
  | 8, h => cases h; decide
  | 9, h => cases h; decide
  | c + 10, h => exact absurd (vwCl_lt h) (by omega)
theorem S_new {c idx n : Nat} {C0 : String} {F : Nat → AH → Option (ρ × AH)} (hc : (vwCl[c]?).map (fun r => (r.1, r.2.2)) = some (C0, n)) (w1 : Cond.classLink (mY M).cls idx C0 ∈ TW) (w2 : Cond.instantiable C0 n ∈ TW) (w3 : Cond.initialized C0 ∈ TW) (hm : Nat.ble (kc + 1) (mO M).cells = true ∧ Nat.ble (ks + n) (mO M).slots = true) (d : decode (mC M) pc = .ok (.new idx, 3)) (kk : ∀ x, Sm M inj (kc + 1) (ks + n) (pc + 3) lv (.ref x :: st) (F x)) : Sm M inj kc ks pc lv st (fun h => bd (nwO c h) F) := by
  intro l G base p e s m args below meth c0 C H locs ls h r h' hl hS hR hF
  obtain ⟨x, h1, hx, hF⟩ := bd_eq hF
  obtain ⟨n9, hz, hq⟩ := nwK_eq hx
  have hH := hR.2.1 n9 hz
  subst hH
  cases hq
  cases hr : vwCl[c]? with
  | none => rw [hr] at hc; cases hc
  | some r9 =>
    rw [hr] at hc
    cases hc
    obtain ⟨hin, hty, hnmm⟩ := cl_all hr
    have hKn := C.2.2.2.2.2.2.2.2.1.1.1 c _ hr
    refine W.newcK C.1 C.2.1 C.2.2.2.2.1 (C.2.2.2.2.2.1 _ w1) (C.2.2.2.2.2.1 _ w2) (C.2.2.2.2.2.1 _ w3) rfl d (Nat.le_of_ble_eq_true hm.1) (Nat.le_of_ble_eq_true hm.2) hKn.2.1 rfl fun H1 kC hkC e1 z1 o1 => ?_
    refine kk _ l G base p e s m args below meth c0 C H1 locs ls _ r h' hl (hS.newS z1 o1) (hR.new z1 o1 (Ra.ofObj (c := c) up1_self hr hR.1 ?_)) hF
    refine (u_born (tyF c) C.2.2.2.2.2.1 hin hKn hkC e1 hty).to (fun k hk => ?_)
    rw [dfl_ok (tyF_dfl c (vwCl_lt hr) k (Nat.lt_of_lt_of_le hk (vwCl_n hr)))]
    show _ = vf (tyF c k) ((up1 (aI h) H.size (fun _ => 0)) H.size k) ((up1 (aJ h) H.size (fun _ => 0)) H.size k) ((up1 (aP h) H.size (fun _ => none)) H.size k)
    rw [up1_self, up1_self, up1_self]
theorem ff_newa {l : Launch} {p : Program} {e : Env} {s : State} {m : MethodId} {args : Array Value} {below : List Frame} {meth : Method} {c : Code} {R : Room} {H : Heap} {locs : List Loc} {ls : Array Slot} {Q : State → Prop} {cc : ByteArray} {atype : ArrayType} {cG : ClassId} (hx : p.tables.exec = Jvm.exec) (hb : c.code = cc) (harr : (Cond.arrayClass (newarray.typeOf atype)).before args s = true) (hG : s.vm.findClass ("[" ++ (newarray.typeOf atype).toString) = some cG) (d : decode cc pc = .ok (.newarray atype, 2)) {n : Int32} (hn : ¬ n < 0) (hbytes : n.toNatClampNeg * componentBytes (newarray.typeOf atype) ≤ 536870912) (hc : kc + 1 ≤ R.cells) (hs : ks + n.toNatClampNeg ≤ R.slots)
    (kk : ∀ H1 : Heap, H1[H.size]? = some (arrV cG n.toNatClampNeg (fun _ => defaultValue (newarray.typeOf atype))) → H1.size = H.size + 1 → (∀ q, q < H.size → H1[q]? = H[q]?) → W p l e R s m args below meth c H1 locs (kc + 1) (ks + n.toNatClampNeg) Q (F0 m (pc + 2) ls (.ref H.size :: st))) : W p l e R s m args below meth c H locs kc ks Q (F0 m pc ls (.int n :: st)) := by
  refine W.newa hx hb harr rfl d rfl hn hbytes hc hs fun cA kA comp h1 h2 h3 => ?_
  cases Option.some.inj (h1.symm.trans hG)
  refine kk _ ?_ ?_ ?_
  · rw [← arrV_new]; simp
  · simp
  · intro q hq
    rw [Array.getElem?_push, if_neg (Nat.ne_of_lt hq)]
theorem S_nwI {z : Int32} {N : Nat} {F : Nat → AH → Option (ρ × AH)} (hw : Cond.arrayClass .int ∈ TW) (hz : z.toNatClampNeg = N) (hm : Nat.ble (kc + 1) (mO M).cells = true ∧ Nat.ble (ks + N) (mO M).slots = true ∧ Nat.ble (N * 4) 536870912 = true) (d : decode (mC M) pc = .ok (.newarray .int, 2)) (kk : ∀ x, Sm M inj (kc + 1) (ks + N) (pc + 2) lv (.ref x :: st) (F x)) : Sm M inj kc ks pc lv (.int z :: st) (fun h => bd (nwI z h) F) := by
  intro l G base p e s m args below meth c0 C H locs ls h r h' hl hS hR hF
  obtain ⟨x, h1, hx, hF⟩ := bd_eq hF
  obtain ⟨hneg, hx⟩ := if_eq' hx
  obtain ⟨n9, hz9, hq⟩ := nwK_eq hx
  have hH := hR.2.1 n9 hz9
  subst hH
  cases hq
  subst hz
  refine ff_newa (atype := .int) C.1 C.2.1 (C.2.2.2.2.2.1 _ hw) (C.2.2.2.2.2.2.2.2.1.1.2 0 _ rfl).2 d hneg (Nat.le_of_ble_eq_true hm.2.2) (Nat.le_of_ble_eq_true hm.1) (Nat.le_of_ble_eq_true hm.2.1) fun H1 e1 z1 o1 => ?_
  refine kk _ l G base p e s m args below meth c0 C H1 locs ls _ r h' hl (hS.newS z1 o1) (hR.new z1 o1 (Ra.ofK hR.1 (Or.inl ⟨up1_self, ?_⟩))) hF
  rw [e1]
  show some (arrV _ _ _) = some (arrV _ (up1 _ _ _ _) (fun j => .int ((up1 (aI h) H.size (fun _ => 0)) H.size j)))
  rw [up1_self, up1_self]
  rfl
theorem S_nwZ {z : Int32} {N : Nat} {F : Nat → AH → Option (ρ × AH)} (hw : Cond.arrayClass .boolean ∈ TW) (hz : z.toNatClampNeg = N) (hm : Nat.ble (kc + 1) (mO M).cells = true ∧ Nat.ble (ks + N) (mO M).slots = true ∧ Nat.ble (N * 1) 536870912 = true) (d : decode (mC M) pc = .ok (.newarray .boolean, 2)) (kk : ∀ x, Sm M inj (kc + 1) (ks + N) (pc + 2) lv (.ref x :: st) (F x)) : Sm M inj kc ks pc lv (.int z :: st) (fun h => bd (nwZ z h) F) := by
  intro l G base p e s m args below meth c0 C H locs ls h r h' hl hS hR hF
  obtain ⟨x, h1, hx, hF⟩ := bd_eq hF
  obtain ⟨hneg, hx⟩ := if_eq' hx
  obtain ⟨n9, hz9, hq⟩ := nwK_eq hx
  have hH := hR.2.1 n9 hz9
  subst hH
  cases hq
  subst hz
  refine ff_newa (atype := .boolean) C.1 C.2.1 (C.2.2.2.2.2.1 _ hw) (C.2.2.2.2.2.2.2.2.1.1.2 1 _ rfl).2 d hneg (Nat.le_of_ble_eq_true hm.2.2) (Nat.le_of_ble_eq_true hm.1) (Nat.le_of_ble_eq_true hm.2.1) fun H1 e1 z1 o1 => ?_
  refine kk _ l G base p e s m args below meth c0 C H1 locs ls _ r h' hl (hS.newS z1 o1) (hR.new z1 o1 (Ra.ofK hR.1 (Or.inr (Or.inl ⟨up1_self, ?_⟩)))) hF
  rw [e1]
  show some (arrV _ _ _) = some (arrV _ (up1 _ _ _ _) (fun j => .int ((up1 (aI h) H.size (fun _ => 0)) H.size j)))
  rw [up1_self, up1_self]
  rfl
theorem S_nwJ {z : Int32} {N : Nat} {F : Nat → AH → Option (ρ × AH)} (hw : Cond.arrayClass .long ∈ TW) (hz : z.toNatClampNeg = N) (hm : Nat.ble (kc + 1) (mO M).cells = true ∧ Nat.ble (ks + N) (mO M).slots = true ∧ Nat.ble (N * 8) 536870912 = true) (d : decode (mC M) pc = .ok (.newarray .long, 2)) (kk : ∀ x, Sm M inj (kc + 1) (ks + N) (pc + 2) lv (.ref x :: st) (F x)) : Sm M inj kc ks pc lv (.int z :: st) (fun h => bd (nwJ z h) F) := by
  intro l G base p e s m args below meth c0 C H locs ls h r h' hl hS hR hF
  obtain ⟨x, h1, hx, hF⟩ := bd_eq hF
  obtain ⟨hneg, hx⟩ := if_eq' hx
  obtain ⟨n9, hz9, hq⟩ := nwK_eq hx
  have hH := hR.2.1 n9 hz9
  subst hH
  cases hq
  subst hz
  refine ff_newa (atype := .long) C.1 C.2.1 (C.2.2.2.2.2.1 _ hw) (C.2.2.2.2.2.2.2.2.1.1.2 2 _ rfl).2 d hneg (Nat.le_of_ble_eq_true hm.2.2) (Nat.le_of_ble_eq_true hm.1) (Nat.le_of_ble_eq_true hm.2.1) fun H1 e1 z1 o1 => ?_
  refine kk _ l G base p e s m args below meth c0 C H1 locs ls _ r h' hl (hS.newS z1 o1) (hR.new z1 o1 (Ra.ofK hR.1 (Or.inr (Or.inr (Or.inl ⟨up1_self, ?_⟩))))) hF
  rw [e1]
  show some (arrV _ _ _) = some (arrV _ (up1 _ _ _ _) (fun j => .long ((up1 (aJ h) H.size (fun _ => 0)) H.size j)))
  rw [up1_self, up1_self]
  rfl
theorem S_nwP {z : Int32} {N c idx : Nat} {C0 : String} {F : Nat → AH → Option (ρ × AH)} (hcc : c = 0 ∨ c = 1 ∨ c = 2 ∨ c = 3 ∨ c = 6) (hC0 : (vwCl[c]?).map (fun r => r.1) = some C0) (hin : C0 ∈ [RX0, RX1, RX2, RX3, RX6]) (w1 : Cond.classLink (mY M).cls idx C0 ∈ TW) (hz : z.toNatClampNeg = N) (hm : Nat.ble (kc + 1) (mO M).cells = true ∧ Nat.ble (ks + N) (mO M).slots = true ∧ Nat.ble (N * 4) 536870912 = true) (d : decode (mC M) pc = .ok (.anewarray idx, 3)) (kk : ∀ x, Sm M inj (kc + 1) (ks + N) (pc + 3) lv (.ref x :: st) (F x)) : Sm M inj kc ks pc lv (.int z :: st) (fun h => bd (nwP c z h) F) := by
  intro l G base p e s m args below meth c0 C H locs ls h r h' hl hS hR hF
  obtain ⟨x, h1, hx, hF⟩ := bd_eq hF
  obtain ⟨hneg, hx⟩ := if_eq' hx
  obtain ⟨n9, hz9, hq⟩ := nwK_eq hx
  have hH := hR.2.1 n9 hz9
  subst hH
  cases hq
  subst hz
  obtain ⟨t, r9, hr9, ht⟩ := gT_at (G := G) hcc
  rw [hr9] at hC0
  cases hC0
  have hG := C.2.2.2.2.2.2.2.2.1
  obtain ⟨kA, comp, k1, k2, k3, k4⟩ := (hG.1.2 t _ ht).2
  refine W.anew C.1 C.2.1 C.2.2.2.2.1 (C.2.2.2.2.2.1 _ w1) (va_AO.use (hG.2.2.2.2.2.1 _ hin)) rfl d rfl hneg (Nat.le_of_ble_eq_true hm.2.2) (Nat.le_of_ble_eq_true hm.1) (Nat.le_of_ble_eq_true hm.2.1) fun cA kA' comp' f1 f2 f3 f4 => ?_
  cases Option.some.inj (f1.symm.trans k4)
  generalize hH1 : H.push ({ cls := G.2.2.2.2 c, slots := Array.replicate z.toNatClampNeg .null, vm := .none } : Cell) = H1
  have z1 : H1.size = H.size + 1 := by rw [← hH1, Array.size_push]
  have e1 : H1[H.size]? = some (arrV (G.2.2.2.2 c) z.toNatClampNeg (fun _ => .null)) := by rw [← hH1, Array.getElem?_push_size, ← arrV_new]
  have o1 : ∀ q : Nat, q < H.size → H1[q]? = H[q]? := fun q hq => by rw [← hH1, Array.getElem?_push, if_neg (Nat.ne_of_lt hq)]
  refine kk _ l G base p e s m args below meth c0 C H1 locs ls _ r h' hl (hS.newS z1 o1) (hR.new z1 o1 (Ra.ofK hR.1 (Or.inr (Or.inr (Or.inr ⟨c, up1_self, ?_⟩))))) hF
  rw [e1]
  show some (arrV _ _ _) = some (arrV _ (up1 _ _ _ _) (fun j => va_rf ((up1 (aP h) H.size (fun _ => none)) H.size j)))
  rw [up1_self, up1_self]
  rfl
/-! ===== rows: the ends ===== -/
theorem ff_end {l : Launch} {G : GC} {base : Nat} {p : Program} {e : Env} {s : State} {m : MethodId} {args : Array Value} {below : List Frame} {meth : Method} {c0 : Code} {H : Heap} {locs : List Loc} {o : Rs} {v : Option Value} {h : AH} {g : JFrame} (hS : va_S (fun q => base ≤ q) s.heap H locs) (hR : Rp G base s H h) (ho : o = .inl v) (hm : Nat.ble kc (mO M).cells = true ∧ Nat.ble ks (mO M).slots = true)
    (k : (∀ t : State, t.heap = H → s.WarmedH t.vm → Qr G base o h args s (.returned v) t) → (∀ q ∈ locs, base ≤ q.base) → W p l e (mO M) s m args below meth c0 H locs (mO M).cells (mO M).slots (MQ below (Qr G base o h) args s (mO M).cells (mO M).slots (fun q => base ≤ q)) g) :
    W p l e (mO M) s m args below meth c0 H locs kc ks (vx_MQ below (Qr G base o h) (Xr G base o h) args s (mO M).cells (mO M).slots (fun q => base ≤ q)) g := by
  refine vx_ret (W.widen (Nat.le_of_ble_eq_true hm.1) (Nat.le_of_ble_eq_true hm.2) (k (fun t ht hW => ?_) hS.2.2))
  exact ⟨⟨v, ho, rfl, by rw [ht]; exact Rp.moved hW.alike hR⟩, hS.F ht⟩
theorem S_iret {x : Int32} {r0 : ρ} (hm : Nat.ble kc (mO M).cells = true ∧ Nat.ble ks (mO M).slots = true) (hr : mR M = some .int) (hi : inj r0 = .inl (some (.int x))) (d : decode (mC M) pc = .ok (.ireturn, 1)) : Sm M inj kc ks pc lv [.int x] (fun h => some (r0, h)) := by
  intro l G base p e s m args below meth c0 C H locs ls h r h' hl hS hR hF
  cases hF
  exact ff_end hS hR hi hm (fun h1 h2 => W.iret C.1 C.2.1 (C.2.2.1.trans hr) h1 h2 d C.2.2.2.2.2.2.1)
theorem S_zret {x : Int32} {r0 : ρ} (hm : Nat.ble kc (mO M).cells = true ∧ Nat.ble ks (mO M).slots = true) (hr : mR M = some .boolean) (hi : inj r0 = .inl (some (.int x))) (d : decode (mC M) pc = .ok (.ireturn, 1)) : Sm M inj kc ks pc lv [.int x] (fun h => rz x r0 h) := by
  intro l G base p e s m args below meth c0 C H locs ls h r h' hl hS hR hF
  obtain ⟨hz, hF⟩ := if_eq hF
  cases hF
  exact ff_end hS hR hi hm (fun h1 h2 => W.zret C.1 C.2.1 (C.2.2.1.trans hr) (nar_Z hz).1 h1 h2 d C.2.2.2.2.2.2.1)
theorem S_vret {r0 : ρ} (hm : Nat.ble kc (mO M).cells = true ∧ Nat.ble ks (mO M).slots = true) (hr : mR M = none) (hi : inj r0 = .inl none) (d : decode (mC M) pc = .ok (.return_, 1)) : Sm M inj kc ks pc lv [] (fun h => some (r0, h)) := by
  intro l G base p e s m args below meth c0 C H locs ls h r h' hl hS hR hF
  cases hF
  exact ff_end hS hR hi hm (fun h1 h2 => W.vret C.1 C.2.1 (C.2.2.1.trans hr) h1 h2 d C.2.2.2.2.2.2.1)
theorem S_lret {x : Int64} {r0 : ρ} (hm : Nat.ble kc (mO M).cells = true ∧ Nat.ble ks (mO M).slots = true) (hr : mR M = some .long) (hi : inj r0 = .inl (some (.long x))) (d : decode (mC M) pc = .ok (.lreturn, 1)) : Sm M inj kc ks pc lv [.long x] (fun h => some (r0, h)) := by
  intro l G base p e s m args below meth c0 C H locs ls h r h' hl hS hR hF
  cases hF
  exact ff_end hS hR hi hm (fun h1 h2 => W.lret C.1 C.2.1 (C.2.2.1.trans hr) h1 h2 d C.2.2.2.2.2.2.1)
theorem S_aret {x : Nat} {r0 : ρ} {n : String} (hm : Nat.ble kc (mO M).cells = true ∧ Nat.ble ks (mO M).slots = true) (hr : mR M = some (.object n)) (hi : inj r0 = .inl (some (.ref x))) (d : decode (mC M) pc = .ok (.areturn, 1)) : Sm M inj kc ks pc lv [.ref x] (fun h => some (r0, h)) := by
  intro l G base p e s m args below meth c0 C H locs ls h r h' hl hS hR hF
  cases hF
  exact ff_end hS hR hi hm (fun h1 h2 => W.aret C.1 C.2.1 (C.2.2.1.trans hr) (Or.inl ⟨n, rfl⟩) (Or.inr ⟨x, rfl⟩) h1 h2 d C.2.2.2.2.2.2.1)
end R4
