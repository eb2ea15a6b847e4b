/-! ===== removeClass ===== -/
def kpM (w : Nat → Int32) (v c m : Nat) : Bool := !decide (ow w v m = c)
def ixM : Nat → Int32
  | 0 => -1
  | m + 1 => nI m
/-- row r of the reference, when the members from m on have been looked at -/
def RcI (w : Nat → Int32) (v c : Nat) (r : Nat → Int32) (m : Nat) : Prop :=
  mn r v = nI (m + (ct (kpM w v c) (nmb w v) - ct (kpM w v c) m)) ∧
  (∀ i p, i < m → p < 10 → mb r v i p = mb w v i p) ∧
  (∀ i p, m ≤ i → i < nmb w v → kpM w v c i = true → p < 10 → mb r v (m + (ct (kpM w v c) i - ct (kpM w v c) m)) p = mb w v i p) ∧
  (∀ i, (i < 481 * v + 80 ∨ 481 * v + 481 ≤ i) → r i = sW w (481 * v + 8 * c + 0) (nI 0) i)
def rcF (v c : Nat) : Nat → (Nat → Int32) → Nat → Int32
  | 0, r => r
  | m + 1, r => rcF v c m (if mb r v m 1 = nI c then dropW r v m (nmb r v) else r)
section Rc
variable {g : Gr} {A R a b : Nat} {I I' : Mem} {J : Nat → Nat → Int64} {Z : Option Nat} {w w' : Nat → Int32} {n k v c m q p : Nat} {P : Nat → Nat → Int32} {d : Nat → Int32} {x y z u : Int32} {T : Nat → Bool}
theorem ct_add : ∀ {m : Nat} (e : Nat), ct T (m + e) ≤ ct T m + e
  | m, 0 => Nat.le_refl _
  | m, e + 1 => by
    show (if T (m + e) then ct T (m + e) + 1 else ct T (m + e)) ≤ _
    have := ct_add (m := m) e
    split <;> omega
theorem ct_up (h : m ≤ n) : ct T n ≤ ct T m + (n - m) := by
  have := ct_add (T := T) (m := m) (n - m)
  rw [show m + (n - m) = n from by omega] at this
  exact this
theorem ct_T (h : T m = true) : ct T (m + 1) = ct T m + 1 := by rw [ct, if_pos h]
theorem ct_F (h : T m = false) : ct T (m + 1) = ct T m := by rw [ct, if_neg (by rw [h]; decide)]
theorem ct_lt (h : T m = true) (hm : m < n) : ct T m < ct T n := by
  have := ct_mono (P := T) (n := m + 1) (m := n) (by omega)
  rw [ct_T h] at this
  omega
theorem ct_inv : ∀ {n i : Nat}, i < ct T n → ∃ m, m < n ∧ T m = true ∧ ct T m = i
  | 0, i, h => absurd h (by simp [ct])
  | n + 1, i, h => by
    rw [ct] at h
    by_cases q : T n = true
    · rw [if_pos q] at h
      by_cases e : i = ct T n
      · exact ⟨n, by omega, q, e.symm⟩
      · obtain ⟨m, a, b, c⟩ := ct_inv (n := n) (i := i) (by omega)
        exact ⟨m, by omega, b, c⟩
    · rw [if_neg q] at h
      obtain ⟨m, a, b, c⟩ := ct_inv (n := n) (i := i) h
      exact ⟨m, by omega, b, c⟩
/-- members kept: each new place tells whose it is -/
theorem WM.mapR (hM : WM w v) {n : Nat} (hn : n ≤ 40) (hmn : mn w' v = nI n) (φ : Nat → Nat) (hs : ∀ k, k < n → ∃ m, m < nmb w v ∧ φ m = k ∧ (∀ p, p < 10 → mb w' v k p = mb w v m p) ∧ exC w' v (ow w v m) = true ∧ (itB w' v (ow w v m) = true → itB w v (ow w v m) = true) ∧ (cl w v (ow w v m) 7 = nI 1 → bt (mb w v m 4) 2 = true → cl w' v (ow w v m) 7 = nI 1)) : WM w' v := by
  refine WM.of hn hmn (fun k hk => ?_) (fun j k hj hk e => ?_)
  · obtain ⟨m, m1, m2, m3, m4, m5, m6⟩ := hs k hk
    exact (hM.w1 m1).cg m3 m4 m5 m6
  · obtain ⟨m, m1, m2, m3, m4, m5, m6⟩ := hs j hj
    obtain ⟨m', n1, n2, n3, n4, n5, n6⟩ := hs k hk
    have : m = m' := hM.ky m1 n1 (e.cg m3 n3)
    rw [← m2, ← n2, this]
theorem dropW_o2 (hn : n ≤ 40) {i : Nat} (h : i < 481 * v + 80 ∨ 481 * v + 481 ≤ i) : dropW w v m n i = w i := by
  unfold dropW
  rw [if_neg (by omega), if_neg (by omega)]
theorem ixM_s (m : Nat) : ixM (m + 1) + (-1) = ixM m := by
  cases m with
  | zero => decide
  | succ m => exact pk_m1 m
theorem ixM_n (m : Nat) : nI m - nI 1 = ixM m := by
  cases m with
  | zero => decide
  | succ m => exact nI_pred m
theorem M_rcL (hG : ModG g R) (hv : v < 2) (hM : WM w v) (hc : c < 10) : ∀ (m f : Nat) (I : Mem), m ≤ nmb w v → m < f → RcI w v c (I (R + 1)) m → ∃ I', lX9_removeClass_68 f R (nI v) (nI c) (nI (nmb w v)) (ixM m) (mm g I J Z) = some (nI (nmb w v) - nI (ct (kpM w v c) (nmb w v)), mm g I' J Z) ∧ (∀ y, y ≠ R + 1 → I' y = I y) ∧ RcI w v c (I' (R + 1)) 0 ∧ I' (R + 1) = rcF v c m (I (R + 1)) := by
  have hn := hM.n40
  intro m
  induction m with
  | zero =>
    intro f I hm hf h
    obtain ⟨f, rfl⟩ : ∃ z, f = z + 1 := ⟨f - 1, by omega⟩
    refine ⟨I, ?_, fun _ _ => rfl, h, rfl⟩
    show bX9_removeClass_68 (lX9_removeClass_68 f) _ _ _ _ _ _ = _
    unfold bX9_removeClass_68
    rw [show ixM 0 = -1 from rfl, if_pos (by decide), M_cv hG, M_many hG hv, bd_some, h.1, show 0 + (ct (kpM w v c) (nmb w v) - ct (kpM w v c) 0) = ct (kpM w v c) (nmb w v) from by rw [ct]; omega]
  | succ m ih =>
    intro f I hm hf h
    obtain ⟨f, rfl⟩ : ∃ z, f = z + 1 := ⟨f - 1, by omega⟩
    obtain ⟨h1, h2, h3, h4⟩ := h
    obtain ⟨o1, o2, o3, o4⟩ := hM.own m (by omega)
    have hup := ct_up (T := kpM w v c) (m := m + 1) (n := nmb w v) hm
    have hmo := ct_mono (P := kpM w v c) (n := m + 1) (m := nmb w v) hm
    have its : fX9_its R (nI v) (nI m) (nI 1) (mm g I J Z) = some (nI (ow w v m), mm g I J Z) := by rw [M_its hG hv (by omega) (by decide), h2 m 1 (by omega) (by decide), o3]
    show ∃ I', bX9_removeClass_68 (lX9_removeClass_68 f) _ _ _ _ _ _ = _ ∧ _
    unfold bX9_removeClass_68 fX9_removeClass_92
    rw [ixM_s, show ixM (m + 1) = nI m from rfl, if_neg (nI_pos (by omega)), M_cv hG, its, bd_some]
    by_cases e : ow w v m = c
    · have hk : kpM w v c m = false := by unfold kpM; rw [decide_eq_true e]; rfl
      have hf' := ct_F hk
      obtain ⟨I1, a1, a2, a3⟩ := M_drops (I := I) (J := J) (Z := Z) hG hv (m := m) (n := m + 1 + (ct (kpM w v c) (nmb w v) - ct (kpM w v c) (m + 1))) (by omega) (by omega) h1
      have own1 : mb (I (R + 1)) v m 1 = nI c := by rw [h2 m 1 (by omega) (by decide), o3, e]
      have cnt : nmb (I (R + 1)) v = m + 1 + (ct (kpM w v c) (nmb w v) - ct (kpM w v c) (m + 1)) := nmb_of (by omega) h1
      obtain ⟨I3, t1, t2, t3, t4⟩ := ih f I1 (by omega) (by omega) (by
        rw [a3]
        refine ⟨?_, fun i p hi hp => ?_, fun i p hi hi2 hki hp => ?_, fun i hi => ?_⟩
        · rw [dropW_mn, hf']; congr 1; omega
        · rw [dropW_mb (by omega) (by omega) (by omega) hp, skp_lo hi]; exact h2 i p (by omega) hp
        · have hne : i ≠ m := fun q => by rw [q, hk] at hki; cases hki
          have hlt := ct_lt hki hi2
          have hmo2 := ct_mono (P := kpM w v c) (n := m + 1) (m := i) (by omega)
          rw [dropW_mb (by omega) (by omega) (by omega) hp, skp_hi (by omega), ← h3 i p (by omega) hi2 hki hp, hf']
          congr 1
          omega
        · rw [dropW_o2 (by omega) hi]; exact h4 i hi)
      refine ⟨I3, ?_, fun y hy => (t2 y hy).trans (a2 y hy), t3, by rw [t4, a3, rcF, if_pos own1, cnt]⟩
      rw [if_pos (by rw [e]), M_cv hG, a1, bd_some]
      exact t1
    · have hk : kpM w v c m = true := by unfold kpM; rw [decide_eq_false e]; rfl
      have hT := ct_T hk
      have own1 : ¬ mb (I (R + 1)) v m 1 = nI c := by rw [h2 m 1 (by omega) (by decide), o3]; exact fun q => e (nI_inj (by omega) (by omega) q)
      obtain ⟨I3, t1, t2, t3, t4⟩ := ih f I (by omega) (by omega) (by
        refine ⟨?_, fun i p hi hp => h2 i p (by omega) hp, fun i p hi hi2 hki hp => ?_, h4⟩
        · rw [h1]; congr 1; omega
        · by_cases q : i = m
          · subst q
            rw [Nat.sub_self, Nat.add_zero]
            exact h2 i p (by omega) hp
          · have hmo2 := ct_mono (P := kpM w v c) (n := m + 1) (m := i) (by omega)
            rw [← h3 i p (by omega) hi2 hki hp]
            congr 1
            omega)
      refine ⟨I3, ?_, t2, t3, by rw [t4, rcF, if_neg own1]⟩
      rw [if_neg (fun q => e (nI_inj (by omega) (by omega) q))]
      exact t1
/-- the class's way -/
theorem C_daL (hMG : MemG g b) (hn : n ≤ 40) {O : Nat → Nat} (hO : ∀ m, m < n → O m < 10) (hc : c < 10) {I0 : Mem} (h5 : ∀ m, m < n → I0 (b + 5) m = nI (O m)) : ∀ (e m f : Nat) (I : Mem), m + e = n → e < f → I b 0 = nI n → (∀ j i, 1 ≤ j → j ≤ 12 → m ≤ i → i < n → I (b + j) i = I0 (b + j) i) → (∀ j i, 1 ≤ j → j ≤ 12 → i < m → (!decide (O i = c)) = true → I (b + j) (ct (fun m => !decide (O m = c)) i) = I0 (b + j) i) →
    ∃ I', lX4_dropAllOf_4 f b (nI c) (nI (ct (fun m => !decide (O m = c)) m)) (nI m) (mm g I J Z) = some (nI n - nI (ct (fun m => !decide (O m = c)) n), mm g I' J Z) ∧ (∀ y, y < b ∨ b + 13 ≤ y → I' y = I y) ∧ I' b 0 = nI (ct (fun m => !decide (O m = c)) n) ∧ ∀ j i, 1 ≤ j → j ≤ 12 → i < n → (!decide (O i = c)) = true → I' (b + j) (ct (fun m => !decide (O m = c)) i) = I0 (b + j) i := by
  intro e
  induction e with
  | zero =>
    intro m f I hi hf h0 hr hk
    obtain ⟨f, rfl⟩ : ∃ z, f = z + 1 := ⟨f - 1, by omega⟩
    have em : m = n := by omega
    subst em
    refine ⟨up2 I b 0 (nI (ct (fun m => !decide (O m = c)) m)), ?_, fun y hy => up2_ne (by omega), by rw [up2_at, if_pos rfl], fun j i h1 h2 h3 h4 => by rw [up2_ne (by omega)]; exact hk j i h1 h2 h3 h4⟩
    show bX4_dropAllOf_4 (lX4_dropAllOf_4 f) _ _ _ _ _ = _
    unfold bX4_dropAllOf_4
    rw [mem_gI hMG, Option.bind_some, h0, if_pos (nI_le (by omega) (by omega)), Option.bind_some, mem_pI hMG, Option.bind_some]
  | succ e ih =>
    intro m f I hi hf h0 hr hk
    obtain ⟨f, rfl⟩ : ∃ z, f = z + 1 := ⟨f - 1, by omega⟩
    have hom := hO m (by omega)
    have hle := ct_le (P := fun m => !decide (O m = c)) m
    show ∃ I', bX4_dropAllOf_4 (lX4_dropAllOf_4 f) _ _ _ _ _ = _ ∧ _
    unfold bX4_dropAllOf_4 fX4_dropAllOf_31
    rw [mem_gI hMG, Option.bind_some, h0, if_neg (nI_ge (by omega) (by omega)), mem_p5 hMG, Option.bind_some, mem_l5 hMG (by omega), Option.bind_some, hr 5 m (by decide) (by decide) (Nat.le_refl _) (by omega), h5 m (by omega), nI_add, nI_add]
    by_cases q : O m = c
    · have hF : (!decide (O m = c)) = false := by rw [decide_eq_true q]; rfl
      have ec := ct_F (T := fun m => !decide (O m = c)) (m := m) hF
      rw [if_pos (by rw [q])]
      obtain ⟨I3, t1, t2, t3, t4⟩ := ih (m + 1) f I (by omega) (by omega) h0 (fun j i a1 a2 a3 a4 => hr j i a1 a2 (by omega) a4) (fun j i a1 a2 a3 a4 => by
        by_cases z : i = m
        · rw [z, hF] at a4; cases a4
        · exact hk j i a1 a2 (by omega) a4)
      rw [ec] at t1
      exact ⟨I3, t1, t2, t3, t4⟩
    · have hT : (!decide (O m = c)) = true := by rw [decide_eq_false q]; rfl
      have ec := ct_T (T := fun m => !decide (O m = c)) (m := m) hT
      rw [if_neg (fun z => q (nI_inj (by omega) (by omega) z)), mem_cv hMG, C_move hMG (by omega) (by omega), bd_some]
      obtain ⟨I3, t1, t2, t3, t4⟩ := ih (m + 1) f (mvI I b m (ct (fun m => !decide (O m = c)) m) 12) (by omega) (by omega) (by rw [mvI_out (by omega)]; exact h0) (fun j i a1 a2 a3 a4 => by rw [mvI_in a1 a2, if_neg (by omega)]; exact hr j i a1 a2 (by omega) a4) (fun j i a1 a2 a3 a4 => by
        rw [mvI_in a1 a2]
        by_cases z : i = m
        · rw [z, if_pos rfl]; exact hr j m a1 a2 (Nat.le_refl _) (by omega)
        · have := ct_lt (T := fun m => !decide (O m = c)) (m := i) (n := m) a4 (by omega)
          rw [if_neg (by omega)]
          exact hk j i a1 a2 (by omega) a4)
      rw [ec] at t1
      exact ⟨I3, t1, fun y hy => (t2 y hy).trans (mvI_out (by omega)), t3, t4⟩
/-- the sets of a library from which a class is taken -/
theorem RLc.take (hr : RLc I a w v) (hc : c < 10) (hcl : ∀ k p, k < 10 → (k ≠ c ∨ p ≠ 0) → p < 8 → cl w' v k p = cl w v k p) (h0 : cl w' v c 0 = nI 0) (hb : ∀ k, k < 5 → ∀ i, i < 32 → bt (I' a k) i = (bt (I a k) i && !decide (i = c))) (h1 : I' (a + 1) = I (a + 1)) (h2 : I' (a + 2) = I (a + 2)) (h3 : I' (a + 3) = I (a + 3)) : RLc I' a w' v := by
  have ex : ∀ i, exC w' v i = (exC w v i && !decide (i = c)) := fun i => by
    by_cases e : i = c
    · rw [e, exC_in hc, h0, decide_eq_true rfl, Bool.not_true, Bool.and_false]; decide
    · rw [decide_eq_false e, Bool.not_false, Bool.and_true]
      by_cases q : i < 10
      · rw [exC_in q, exC_in q, hcl i 0 q (Or.inl e) (by decide)]
      · rw [exC_ge q, exC_ge q]
  have gen : ∀ (i k p : Nat), k < 5 → p < 8 → i < 32 → bt (I a k) i = (exC w v i && decide (cl w v i p = nI 1)) → bt (I' a k) i = (exC w' v i && decide (cl w' v i p = nI 1)) := by
    intro i k p hk hp hi q
    rw [hb k hk i hi, q, ex i]
    cases he : exC w v i
    · rfl
    · by_cases e : i = c
      · rw [decide_eq_true e, Bool.not_true, Bool.and_false, Bool.and_false]; rfl
      · rw [decide_eq_false e, hcl i p (exC_lt he) (Or.inl e) hp, Bool.not_false, Bool.and_true, Bool.and_true]
  have off : ∀ i, exC w' v i = true → exC w v i = true ∧ i ≠ c := fun i q => by
    rw [ex i] at q
    obtain ⟨q1, q2⟩ := Bool.and_eq_true_iff.mp q
    exact ⟨q1, fun e => by rw [decide_eq_true e] at q2; cases q2⟩
  refine ⟨fun i hi => ?_, fun i hi => gen i 1 1 (by decide) (by decide) hi (hr.2.1 i hi), fun i hi => gen i 2 5 (by decide) (by decide) hi (hr.2.2.1 i hi), fun i hi => gen i 3 6 (by decide) (by decide) hi (hr.2.2.2.1 i hi), fun i hi => gen i 4 7 (by decide) (by decide) hi (hr.2.2.2.2.1 i hi), fun i he => ?_, fun i he => ?_, fun i he => ?_⟩
  · rw [hb 0 (by decide) i hi, ex i, hr.1 i hi]
  · obtain ⟨e1, e2⟩ := off i he
    rw [h1, hcl i 4 (exC_lt e1) (Or.inl e2) (by decide)]; exact hr.2.2.2.2.2.1 i e1
  · obtain ⟨e1, e2⟩ := off i he
    rw [h2, hcl i 2 (exC_lt e1) (Or.inl e2) (by decide)]; exact hr.2.2.2.2.2.2.1 i e1
  · obtain ⟨e1, e2⟩ := off i he
    rw [h3, hcl i 3 (exC_lt e1) (Or.inl e2) (by decide)]; exact hr.2.2.2.2.2.2.2 i e1
theorem rmW_WC (hW : WC w v) (hc1 : 1 ≤ c) (hc : c < 10) (hs : spB w v c = false) (hi : siB w v c = false) (hcl : ∀ k p, k < 10 → (k ≠ c ∨ p ≠ 0) → p < 8 → cl w' v k p = cl w v k p) (h0 : cl w' v c 0 = nI 0) : WC w' v := by
  have hh := hW.1
  have o := hcl
  refine ⟨⟨by rw [o 0 0 (by decide) (Or.inl (by omega)) (by decide)]; exact hh.1, by rw [o 0 1 (by decide) (Or.inl (by omega)) (by decide)]; exact hh.2.1, by rw [o 0 2 (by decide) (Or.inl (by omega)) (by decide)]; exact hh.2.2.1, by rw [o 0 3 (by decide) (Or.inl (by omega)) (by decide)]; exact hh.2.2.2.1, by rw [o 0 4 (by decide) (Or.inl (by omega)) (by decide)]; exact hh.2.2.2.2.1, by rw [o 0 5 (by decide) (Or.inl (by omega)) (by decide)]; exact hh.2.2.2.2.2.1, by rw [o 0 6 (by decide) (Or.inl (by omega)) (by decide)]; exact hh.2.2.2.2.2.2.1, by rw [o 0 7 (by decide) (Or.inl (by omega)) (by decide)]; exact hh.2.2.2.2.2.2.2⟩, fun k hk => ?_, fun k hk1 hk he => ?_⟩
  · by_cases e : k = c
    · rw [e, h0]; exact Or.inl rfl
    · rw [o k 0 hk (Or.inl e) (by decide)]; exact hW.2.1 k hk
  · have e : k ≠ c := fun q => by rw [q, h0] at he; exact absurd he (by decide)
    rw [o k 0 hk (Or.inl e) (by decide)] at he
    obtain ⟨a1, ⟨t, s1, s2, s3, s4, s5⟩, a3, a4, a5, a6, a7, a8⟩ := hW.2.2 k hk1 hk he
    have hek := exC_of hk he
    have tc : t ≠ c := fun q => by
      have : spB w v c = true := anyF_iff.mpr ⟨k, hk1, by omega, by unfold sup1; rw [hek, s2, q, decide_eq_true rfl]; rfl⟩
      rw [this] at hs; cases hs
    rw [o k 1 hk (Or.inl e) (by decide), o k 4 hk (Or.inl e) (by decide), o k 5 hk (Or.inl e) (by decide), o k 6 hk (Or.inl e) (by decide), o k 7 hk (Or.inl e) (by decide)]
    refine ⟨a1, ⟨t, s1, by rw [o k 2 hk (Or.inl e) (by decide)]; exact s2, by rw [o t 0 (by omega) (Or.inl tc) (by decide)]; exact s3, by rw [o t 1 (by omega) (Or.inl tc) (by decide)]; exact s4, s5⟩, fun i hi2 hb => ?_, a4, a5, a6, a7, a8⟩
    rw [o k 3 hk (Or.inl e) (by decide)] at hb
    obtain ⟨i1, i2, i3⟩ := a3 i hi2 hb
    have ic : i ≠ c := fun q => by
      have : siB w v c = true := anyF_iff.mpr ⟨k, hk1, by omega, by unfold sup2; rw [hek, ← q, hb]; rfl⟩
      rw [this] at hi; cases hi
    exact ⟨i1, by rw [o i 0 (by omega) (Or.inl ic) (by decide)]; exact i2, by rw [o i 1 (by omega) (Or.inl ic) (by decide)]; exact i3⟩
/-- the row that the reference comes to, told by what it holds -/
theorem rc_facts (hM : WM w v) (hc1 : 1 ≤ c) (hc : c < 10) (h : RcI w v c w' 0) : (∀ k p, k < 10 → (k ≠ c ∨ p ≠ 0) → p < 8 → cl w' v k p = cl w v k p) ∧ cl w' v c 0 = nI 0 ∧ mn w' v = nI (ct (kpM w v c) (nmb w v)) ∧ (∀ i, i < ct (kpM w v c) (nmb w v) → ∃ m, m < nmb w v ∧ kpM w v c m = true ∧ ct (kpM w v c) m = i ∧ ∀ p, p < 10 → mb w' v i p = mb w v m p) ∧ ∀ i, (i < 481 * v ∨ 481 * v + 481 ≤ i) → w' i = w i := by
  obtain ⟨h1, h2, h3, h4⟩ := h
  have z0 : ct (kpM w v c) 0 = 0 := rfl
  refine ⟨fun k p hk hk2 hp => ?_, ?_, by rw [h1, z0]; congr 1; omega, fun i hi => ?_, fun i hi => ?_⟩
  · show w' _ = _
    rw [h4 _ (by omega), sW_ne (by omega)]; rfl
  · show w' _ = _
    rw [h4 _ (by omega), sW_at]
  · obtain ⟨m, m1, m2, m3⟩ := ct_inv hi
    refine ⟨m, m1, m2, m3, fun p hp => ?_⟩
    rw [← h3 m p (by omega) m1 m2 hp, m3, z0]
    congr 1
    omega
  · rw [h4 i (by omega), sW_ne (by omega)]
theorem rmW_WM (hM : WM w v) (hc1 : 1 ≤ c) (hc : c < 10) (h : RcI w v c w' 0) : WM w' v := by
  obtain ⟨f1, f2, f3, f4, f5⟩ := rc_facts hM hc1 hc h
  have hn := hM.n40
  have hle := ct_le (P := kpM w v c) (nmb w v)
  refine hM.mapR (n := ct (kpM w v c) (nmb w v)) (by omega) f3 (ct (kpM w v c)) (fun k hk => ?_)
  obtain ⟨m, m1, m2, m3, m4⟩ := f4 k hk
  obtain ⟨o1, o2, o3, o4⟩ := hM.own m m1
  have oc : ow w v m ≠ c := fun e => by unfold kpM at m2; rw [decide_eq_true e] at m2; cases m2
  exact ⟨m, m1, m3, m4, exC_of o2 (by rw [f1 _ 0 o2 (Or.inl oc) (by decide)]; exact exC_ex o4), by unfold itB; rw [f1 _ 1 o2 (Or.inl oc) (by decide)]; exact id, fun e _ => by rw [f1 _ 7 o2 (Or.inl oc) (by decide)]; exact e⟩
theorem Q_removeClass (h : Rel g A I w n P d) : Agr g A I (fX8_removeClass A x y) (fX9_removeClass (A + 418) x y) [1, 3] := by
  have ref : ∀ {i : Nat}, i < 3 → ∀ I1 J Z, MRel g A I1 w n P d → fX9_removeClass_32 (A + 418) x y (A + 418) (nI (i + 1)) (mm g I1 J Z) = some (nI 0, mm g (up2 I1 (A + 418) 3 (nI (i + 1))) J Z) := by
    intro i hi I1 J Z h1
    unfold fX9_removeClass_32
    rw [M_cv h1.G, M_refS h1.G hi, bd_some, bIf, if_tt]
  rcases lib_cases h x y with ⟨v, c, hv, he, rfl, rfl⟩ | ⟨q1, q2⟩
  · have hb := h.cb hv
    have hL := h.jg.lib hv
    have hc := exC_lt he
    have hM := hb.M
    have hn := hM.n40
    by_cases hbad : c = 0 ∨ spB w v c = true ∨ siB w v c = true
    · refine Agr.rfs h (i := 1) (e := 3) ⟨by decide, rfl⟩ (fun J Z => ⟨I, none, ?_, FvC.refl⟩) (fun I1 J Z h1 => ⟨nI 0, up2 I1 (A + 418) 3 (nI 2), ?_, fvm_3, up3⟩)
      · unfold fX8_removeClass
        rw [h.jg.cv, C_libWith h hv he, bd_some, xp_r]
        by_cases c0 : c = 0
        · rw [if_pos (show nI c = 0 by rw [c0]; rfl), thr_m]
        · rw [if_neg (nI_ne0 (by omega) (by omega)), lib_cv hL, C_isSup hb hc, bd_some, bIf]
          cases hs : spB w v c
          · rw [if_ff, lib_cv hL, C_isSupI hb hc, bd_some, bIf, (hbad.resolve_left c0).resolve_left (by rw [hs]; decide), if_tt, thr_m]
          · rw [if_tt, thr_m]
      · unfold fX9_removeClass
        rw [M_cv h1.G, (h1.mb hv).isC hc, bd_some, he, bIf, if_tt]
        by_cases c0 : c = 0
        · rw [if_pos (show nI c = 0 by rw [c0]; rfl)]
          exact ref (i := 1) (by decide) I1 J Z h1
        · have : (spB w v c || siB w v c) = true := by
            rcases hbad.resolve_left c0 with q | q
            · rw [q]; rfl
            · rw [q, Bool.or_true]
          rw [if_neg (nI_ne0 (by omega) (by omega)), M_cv h1.G, M_isAb1 (h1.mb hv) hc, bd_some, this, bIf, if_tt]
          exact ref (i := 1) (by decide) I1 J Z h1
    · have c0 : c ≠ 0 := fun e => hbad (Or.inl e)
      have c1 : 1 ≤ c := by omega
      have hs : spB w v c = false := by
        cases e : spB w v c
        · rfl
        · exact absurd (Or.inr (Or.inl e)) hbad
      have hi : siB w v c = false := by
        cases e : siB w v c
        · rfl
        · exact absurd (Or.inr (Or.inr e)) hbad
      -- the reference's row, once for all: run it on a memory of its own
      have run : ∀ (I1 : Mem) (J : Nat → Nat → Int64) (Z : Option Nat), I1 (A + 418 + 1) = w → ∃ I3, (cv 9 (A + 418) (fX9_memberMany (A + 418) (nI v)) (mm g (up1 I1 (A + 418 + 1) (sW w (481 * v + 8 * c + 0) (nI 0))) J Z) fun x_22 h => lX9_removeClass_68 fuel (A + 418) (nI v) (nI c) x_22 (x_22 - nI 1) h) = some (nI (nmb w v) - nI (ct (kpM w v c) (nmb w v)), mm g I3 J Z) ∧ (∀ y, y ≠ A + 418 + 1 → I3 y = I1 y) ∧ RcI w v c (I3 (A + 418 + 1)) 0 ∧ I3 (A + 418 + 1) = rcF v c (nmb w v) (sW w (481 * v + 8 * c + 0) (nI 0)) := by
        intro I1 J Z hr
        have e1 : up1 I1 (A + 418 + 1) (sW w (481 * v + 8 * c + 0) (nI 0)) (A + 418 + 1) = sW w (481 * v + 8 * c + 0) (nI 0) := up1_at
        have mnE : mn (sW w (481 * v + 8 * c + 0) (nI 0)) v = nI (nmb w v) := (sW_ne (by omega)).trans hM.n
        obtain ⟨I3, t1, t2, t3, t4⟩ := M_rcL (J := J) (Z := Z) h.G hv hM hc (nmb w v) fuel (up1 I1 (A + 418 + 1) (sW w (481 * v + 8 * c + 0) (nI 0))) (Nat.le_refl _) (by unfold fuel; omega) (by
          rw [e1]
          exact ⟨by rw [mnE, Nat.sub_self, Nat.add_zero], fun i p hi hp => sW_ne (by omega), fun i p a1 a2 => absurd a2 (by omega), fun i _ => rfl⟩)
        refine ⟨I3, ?_, fun y hy => (t2 y hy).trans (up1_ne hy), t3, by rw [t4, e1]⟩
        rw [M_cv h.G, M_many h.G hv, bd_some, e1, mnE, ixM_n]
        exact t1
      obtain ⟨I0, z1, z2, z3, z4⟩ := run I (fun _ _ => 0) none h.row
      rw [z4] at z3
      obtain ⟨f1, f2, f3, f4, f5⟩ := rc_facts hM c1 hc z3
      have hW' := rmW_WC hb.C c1 hc hs hi f1 f2
      have hM' := rmW_WM hM c1 hc z3
      have hle := ct_le (P := kpM w v c) (nmb w v)
      refine Agr.lib h (v := v) (w' := rcF v c (nmb w v) (sW w (481 * v + 8 * c + 0) (nI 0))) (b := nI (nmb w v) - nI (ct (kpM w v c) (nmb w v))) hv f5 hW' hM'
        (fun h => cv 2 (A + 1 + 3 + 20 * v) (fX2_takeClass (A + 1 + 3 + 20 * v) (nI c)) h fun _ h => (gP 2 (A + 1 + 3 + 20 * v) 10 h).bind fun a_9 => cv 4 a_9 (fX4_dropAllOf a_9 (nI c)) h fun x_10 h => some (.inr x_10, h))
        (fun h => (gP 9 (A + 418) 0 h).bind fun a_20 => bd (fX9_at (nI v) (nI c) h) fun x_21 h => (stI a_20 (x_21 + nI 0) (nI 0) h).bind fun h => cv 9 (A + 418) (fX9_memberMany (A + 418) (nI v)) h fun x_22 h => lX9_removeClass_68 fuel (A + 418) (nI v) (nI c) x_22 (x_22 - nI 1) h) (fun J Z => ?_) (fun I1 J Z hb1 hd => ?_) (fun I1 J Z h1 => ?_) (fun I1 J Z h1 => ?_)
      · unfold fX8_removeClass
        rw [h.jg.cv, C_libWith h hv he, bd_some, xp_r, if_neg (nI_ne0 (by omega) (by omega)), lib_cv hL, C_isSup hb hc, bd_some, hs, bIf, if_ff, lib_cv hL, C_isSupI hb hc, bd_some, hi, bIf, if_ff, h.jg.cv]
      · have hb1 := hb1 v hv
        obtain ⟨I2, t1, t2, t3, t4⟩ := L_take (I := I1) (J := J) (Z := Z) hL hc
        have fr2 : ∀ y, A + 1 + 3 + 20 * v + 6 ≤ y → I2 y = I1 y := fun y hy => t2 y (by omega) (by omega) (by omega)
        obtain ⟨I3, s1, s2, s3, s4⟩ := C_daL (J := J) (Z := Z) (b := A + 1 + 3 + 20 * v + 6) hL.mem hn (O := ow w v) (fun m hm => (hM.own m hm).2.1) hc (I0 := I2) (fun m hm => by rw [fr2 _ (by omega), hb1.R.own m hm]; exact (hM.own m hm).2.2.1) (nmb w v) 0 fuel I2 (by omega) (by unfold fuel; omega) (by rw [fr2 _ (by omega)]; exact hb1.R.size.trans hM.n) (fun _ _ _ _ _ _ => rfl) (fun j i _ _ q => absurd q (by omega))
        have hcr : RLc I3 (A + 1 + 3 + 20 * v) (rcF v c (nmb w v) (sW w (481 * v + 8 * c + 0) (nI 0))) v := (hb1.R.c.take hc f1 f2 t3 (t2 _ (by omega) (by omega) (by omega)) (t2 _ (by omega) (by omega) (by omega)) (t2 _ (by omega) (by omega) (by omega))).fr (s2 _ (by omega)) (s2 _ (by omega)) (s2 _ (by omega)) (s2 _ (by omega))
        have hcs : RLs I3 (A + 1 + 3 + 20 * v) (rcF v c (nmb w v) (sW w (481 * v + 8 * c + 0) (nI 0))) v := (t4 _ _ (hb1.R.c.take hc f1 f2 t3 (t2 _ (by omega) (by omega) (by omega)) (t2 _ (by omega) (by omega) (by omega)) (t2 _ (by omega) (by omega) (by omega))) hW').fr (s2 _ (by omega)) (s2 _ (by omega))
        refine ⟨I3, ?_, fun y hy => by rw [s2 y (by omega), t2 y (by omega) (by omega) (by omega)], RLib.of hcr hcs ⟨s3.trans f3.symm, fun j j1 j2 i hi2 => ?_⟩⟩
        · rw [lib_cv hL, t1, bd_some, lib_p10 hL, Option.bind_some, mem_cv hL.mem]
          unfold fX4_dropAllOf
          rw [show lX4_dropAllOf_4 fuel (A + 1 + 3 + 20 * v + 6) (nI c) (nI 0) (nI 0) (mm g I2 J Z) = _ from s1, bd_some]
          rfl
        · rw [nmb_of (by omega) f3] at hi2
          obtain ⟨m, m1, m2, m3, m4⟩ := f4 i hi2
          have := s4 j m j1 j2 m1 m2
          rw [show ct (fun m => !decide (ow w v m = c)) m = i from m3, fr2 _ (by omega), hb1.R.m.2 j j1 j2 m m1] at this
          rw [this]
          exact (mV_cg m4 j).symm
      · unfold fX9_removeClass fX9_removeClass_32
        rw [M_cv h1.G, (h1.mb hv).isC hc, bd_some, he, bIf, if_tt, if_neg (nI_ne0 (by omega) (by omega)), M_cv h1.G, M_isAb1 (h1.mb hv) hc, bd_some, hs, hi, bIf, Bool.or_false, if_ff, M_cv h1.G, M_ref0 h1.G, bd_some, bIf, if_ff, M_cv h1.G]
      · obtain ⟨I3, t1, t2, t3, t4⟩ := run I1 J Z h1.row
        refine ⟨I3, ?_, t2, t4⟩
        show (gP 9 (A + 418) 0 (mm g I1 J Z)).bind _ = _
        unfold fX9_at
        rw [h1.G.p0, Option.bind_some, pk_mul, pk_mul, nI_add, bd_some, nI_add, h1.G.st1 (by omega), Option.bind_some, up2_1, h1.row]
        exact t1
  · refine Agr.rfs h (i := 0) (e := 1) ⟨by decide, rfl⟩ (fun J Z => ⟨I, none, ?_, FvC.refl⟩) (fun I1 J Z h1 => ⟨nI 0, up2 I1 (A + 418) 3 (nI 1), ?_, fvm_3, up3⟩)
    · unfold fX8_removeClass
      rw [h.jg.cv, q1, bd_some, xp_l]
    · unfold fX9_removeClass
      rw [M_cv h1.G, q2 I1 J Z h1, bd_some, bIf, if_ff]
      exact ref (i := 0) (by decide) I1 J Z h1
end Rc
