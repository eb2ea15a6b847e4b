/-! ===== the class: verdictOf ===== -/
section Ve
variable {w : Nat → Int32} {v u c b : Nat} {k : Nat → Int32}
theorem com_4 (hu : u ≠ 2) : (comS w v k u c b).2 4 = -2 := by
  unfold comS
  split
  · rfl
  · split
    · rfl
    · split
      · unfold cfE
        cases fdS w v (k 2) true (nI 0) c with
        | none => rfl
        | some m =>
          show (cfM w v k u b m).2 4 = -2
          unfold cfM
          split
          · split
            · rfl
            · split
              · rfl
              · rfl
          · rfl
      · split
        · rfl
        · split
          · rfl
          · rfl
theorem com_ca (h : (comS w v k 2 c b).1 = nI 0) : ∃ m, m < nmb w v ∧ (comS w v k 2 c b).2 = caM w v c m := by
  unfold comS at h ⊢
  split
  · rename_i e
    rw [if_pos e] at h
    exact absurd h (by show ¬ (nI 1 = nI 0); decide)
  · rename_i e
    rw [if_neg e] at h
    split
    · rename_i e2
      rw [if_pos e2] at h
      exact absurd h (by show ¬ (nI 2 = nI 0); decide)
    · rename_i e2
      rw [if_neg e2, if_neg (by omega), if_pos rfl] at h
      rw [if_neg (by omega), if_pos rfl]
      unfold caE at h ⊢
      split
      · rename_i e3
        rw [if_pos e3] at h
        exact absurd h (by show ¬ (nI 3 = nI 0); decide)
      · rename_i e3
        rw [if_neg e3] at h
        cases hs : caS w v (apB w v k c b) with
        | none =>
          rw [hs] at h
          exact absurd h (by show ¬ (nI 4 = nI 0); decide)
        | some m => exact ⟨m, (caS_A hs).1, rfl⟩
theorem com_many (hM : WM w v) (hS : SK k u) (h : (comS w v k u c b).1 = nI 0) (h5 : (comS w v k u c b).2 5 = k 13) (h6 : (comS w v k u c b).2 6 = k 14) : (comS w v k u c b).2 4 = k 12 := by
  by_cases hu : u = 2
  · subst hu
    obtain ⟨m, hm, e⟩ := com_ca h
    rw [e] at h5 h6 ⊢
    have p1 := hM.par m hm
    have p2 := (hS.2.2.1 rfl).1
    rw [show mb w v m 7 = k 13 from h5, show mb w v m 8 = k 14 from h6] at p1
    exact p1.many p2
  · rw [com_4 hu, hS.2.2.2 hu]
theorem ot_eq {f : Nat → Int32} (h4 : f 5 = k 13 → f 6 = k 14 → f 4 = k 12) : (decide (f 0 = k 8) && decide (f 1 = k 9) && decide (f 2 = k 10) && decide (f 3 = k 11) && decide (f 5 = k 13) && decide (f 6 = k 14) && decide (f 7 = k 15)) = !otB f k := by
  unfold otB
  rw [Bool.eq_iff_iff]
  simp only [Bool.and_eq_true, decide_eq_true_eq, Bool.not_eq_true']
  constructor
  · rintro ⟨⟨⟨⟨⟨⟨e0, e1⟩, e2⟩, e3⟩, e5⟩, e6⟩, e7⟩
    have e4 := h4 e5 e6
    simp [anyF, e0, e1, e2, e3, e4, e5, e6, e7]
  · intro h
    have hj : ∀ j, j < 8 → f j = k (8 + j) := by
      intro j hj
      cases hd : decide (f j = k (8 + j))
      · have : anyF (fun j => !decide (f j = k (8 + j))) 0 8 = true := anyF_iff.mpr ⟨j, by omega, by omega, by rw [hd]; rfl⟩
        rw [h] at this; cases this
      · exact of_decide_eq_true hd
    exact ⟨⟨⟨⟨⟨⟨hj 0 (by omega), hj 1 (by omega)⟩, hj 2 (by omega)⟩, hj 3 (by omega)⟩, hj 5 (by omega)⟩, hj 6 (by omega)⟩, hj 7 (by omega)⟩
end Ve
/-- the judge's compilers and linkers -/
def JV (g : Gr) (A : Nat) : Prop := g.1 A = 9 ∧ (g.2.2 A 6 = some (A + 407) ∧ g.1 (A + 407) = 31 ∧ g.2.1 (A + 407) = 2 ∧ g.2.2 (A + 407) 0 = some (A + 409) ∧ g.2.2 (A + 407) 1 = some (A + 413)) ∧ (g.2.2 A 7 = some (A + 408) ∧ g.1 (A + 408) = 33 ∧ g.2.1 (A + 408) = 2 ∧ g.2.2 (A + 408) 0 = some (A + 412) ∧ g.2.2 (A + 408) 1 = some (A + 416)) ∧ CoG g (A + 409) (A + 4) ∧ LkG g (A + 412) (A + 4) ∧ CoG g (A + 413) (A + 24) ∧ LkG g (A + 416) (A + 24)
/-- a client that the judge may hold -/
def PC (g : Gr) (A p : Nat) : Prop := ClG g p ∧ A + 44 ≤ p ∧ p + 2 ≤ A + 407
/-- only the judge's compilers, linkers and scratch rows may change -/
def Fvd (A : Nat) (I I' : Mem) : Prop := ∀ x, (x < A + 409 ∨ A + 417 ≤ x) → x ≠ A + 23 → x ≠ A + 43 → I' x = I x
section Vd
variable {g : Gr} {A p : Nat} {I I' I'' : Mem} {J : Nat → Nat → Int64} {Z : Option Nat} {w : Nat → Int32} {u c b v : Nat} {k : Nat → Int32}
theorem Fvd.refl : Fvd A I I := fun _ _ _ _ => rfl
theorem Fvd.trans (h : Fvd A I I') (h' : Fvd A I' I'') : Fvd A I I'' := fun x a b c => (h' x a b c).trans (h x a b c)
theorem CQ.of0 (h : JV g A) (hp : PC g A p) : CQ g (A + 409) (A + 4) p := ⟨h.2.2.2.1, by omega, by have := hp.2.2; omega, hp.1.1, Or.inr (by have := hp.2.1; omega)⟩
theorem CQ.of1 (h : JV g A) (hp : PC g A p) : CQ g (A + 413) (A + 24) p := ⟨h.2.2.2.2.2.1, by omega, by have := hp.2.2; omega, hp.1.1, Or.inr (by have := hp.2.1; omega)⟩
theorem CL.of0 (h : JV g A) (hp : PC g A p) : CL g (A + 412) (A + 4) p := ⟨h.2.2.2.2.1, by omega, by have := hp.2.2; omega, hp.1, Or.inr (by have := hp.2.1; omega)⟩
theorem CL.of1 (h : JV g A) (hp : PC g A p) : CL g (A + 416) (A + 24) p := ⟨h.2.2.2.2.2.2, by omega, by have := hp.2.2; omega, hp.1, Or.inr (by have := hp.2.1; omega)⟩
theorem Fn.v0 (h : Fn (A + 412) (A + 4) I I') : Fvd A I I' := fun x a b c => h x (by omega) (by omega)
theorem Fn.v1 (h : Fn (A + 416) (A + 24) I I') : Fvd A I I' := fun x a b c => h x (by omega) (by omega)
theorem Fq.v0 (h : Fq (A + 409) (A + 4) I I') : Fvd A I I' := fun x a b c => h x (by omega) (by omega) (by omega) (by omega)
theorem Fq.v1 (h : Fq (A + 413) (A + 24) I I') : Fvd A I I' := fun x a b c => h x (by omega) (by omega) (by omega) (by omega)
theorem CB.v0 (h : CB g I (A + 4) w v) (hf : Fvd A I I') : CB g I' (A + 4) w v := h.fr (fun y y1 y2 => hf y (by omega) (by omega) (by omega))
theorem CB.v1 (h : CB g I (A + 24) w v) (hf : Fvd A I I') : CB g I' (A + 24) w v := h.fr (fun y y1 y2 => hf y (by omega) (by omega) (by omega))
theorem RK.vd (h : RK I p k) (hp : PC g A p) (hf : Fvd A I I') : RK I' p k := by
  obtain ⟨_, h1, h2⟩ := hp
  exact ⟨fun j hj => by rw [hf p (by omega) (by omega) (by omega)]; exact h.1 j hj, h.2.fr (hf (p + 1) (by omega) (by omega) (by omega))⟩
theorem JV.p6 (h : JV g A) : gP 8 A 6 (mm g I J Z) = some (A + 407) := gP_m h.1 h.2.1.1
theorem JV.p7 (h : JV g A) : gP 8 A 7 (mm g I J Z) = some (A + 408) := gP_m h.1 h.2.2.1.1
theorem JV.c0 (h : JV g A) : ldP 1 (A + 407) (nI 0) (mm g I J Z) = some (A + 409) := ldP_m h.2.1.2.1 (by rw [h.2.1.2.2.1]; omega) (by omega) h.2.1.2.2.2.1
theorem JV.c1 (h : JV g A) : ldP 1 (A + 407) (nI 1) (mm g I J Z) = some (A + 413) := ldP_m h.2.1.2.1 (by rw [h.2.1.2.2.1]; omega) (by omega) h.2.1.2.2.2.2
theorem JV.l0 (h : JV g A) : ldP 3 (A + 408) (nI 0) (mm g I J Z) = some (A + 412) := ldP_m h.2.2.1.2.1 (by rw [h.2.2.1.2.2.1]; omega) (by omega) h.2.2.1.2.2.2.1
theorem JV.l1 (h : JV g A) : ldP 3 (A + 408) (nI 1) (mm g I J Z) = some (A + 416) := ldP_m h.2.2.1.2.1 (by rw [h.2.2.1.2.2.1]; omega) (by omega) h.2.2.1.2.2.2.2
theorem C_same {s t : Nat} (hs : g.1 s = 8) (ht : g.1 t = 8) : fX7_isSameAs s t (mm g I J Z) = some (bI (decide (I s 0 = I t 0) && decide (I s 1 = I t 1) && decide (I s 2 = I t 2) && decide (I s 3 = I t 3) && decide (I s 4 = I t 4) && decide (I s 5 = I t 5) && decide (I s 6 = I t 6)), mm g I J Z) := by
  unfold fX7_isSameAs
  rw [gI_m hs, Option.bind_some, gI_m ht, Option.bind_some]
  by_cases e0 : I s 0 = I t 0
  · rw [if_pos e0, gI_m hs, Option.bind_some, gI_m ht, Option.bind_some, decide_eq_true e0]
    by_cases e1 : I s 1 = I t 1
    · rw [if_pos e1, gI_m hs, Option.bind_some, gI_m ht, Option.bind_some, decide_eq_true e1]
      by_cases e2 : I s 2 = I t 2
      · rw [if_pos e2, gI_m hs, Option.bind_some, gI_m ht, Option.bind_some, decide_eq_true e2]
        by_cases e3 : I s 3 = I t 3
        · rw [if_pos e3, gI_m hs, Option.bind_some, gI_m ht, Option.bind_some, decide_eq_true e3]
          by_cases e4 : I s 4 = I t 4
          · rw [if_pos e4, gI_m hs, Option.bind_some, gI_m ht, Option.bind_some, decide_eq_true e4]
            by_cases e5 : I s 5 = I t 5
            · rw [if_pos e5, gI_m hs, Option.bind_some, gI_m ht, Option.bind_some, decide_eq_true e5]
              by_cases e6 : I s 6 = I t 6
              · rw [if_pos e6, rz_n1, decide_eq_true e6]; rfl
              · rw [if_neg e6, rz_n0, decide_eq_false e6]; rfl
            · rw [if_neg e5, rz_n0, decide_eq_false e5]; rfl
          · rw [if_neg e4, rz_n0, decide_eq_false e4]; rfl
        · rw [if_neg e3, rz_n0, decide_eq_false e3]; rfl
      · rw [if_neg e2, rz_n0, decide_eq_false e2]; rfl
    · rw [if_neg e1, rz_n0, decide_eq_false e1]; rfl
  · rw [if_neg e0, rz_n0, decide_eq_false e0]; rfl
theorem C_verd (hV : JV g A) (hp : PC g A p) (h0 : CB g I (A + 4) w 0) (h1 : CB g I (A + 24) w 1) (hk : RK I p k) (hK : CK k u c b) (hS : SK k u) : ∃ I', fX8_verdictOf A p (mm g I J Z) = some (juS w k u c b, mm g I' J Z) ∧ Fvd A I I' := by
  obtain ⟨I1, a1, a2, a3⟩ := C_link (J := J) (Z := Z) (CL.of1 hV hp) h1 hk hK hS
  have f1 := a2.v1
  unfold fX8_verdictOf juS
  rw [hV.p7, Option.bind_some, hV.l1, Option.bind_some, (CL.of1 hV hp).cv, a1, bd_some]
  by_cases q1 : (lkS w 1 k u c b).1 = nI 0
  · rw [if_pos (by rw [q1]; rfl), if_pos q1, hV.p6, Option.bind_some, hV.c1, Option.bind_some, (CQ.of1 hV hp).cv]
    have hk1 := hk.vd hp f1
    obtain ⟨I2, b1, b2, b3, b4⟩ := C_comp (J := J) (Z := Z) (CQ.of1 hV hp) (h1.v1 f1) hk1.1 hK
    have f2 := f1.trans b2.v1
    rw [b1, bd_some]
    by_cases q2 : (comS w 1 k u c b).1 = nI 0
    · rw [if_pos (by rw [q2]; rfl), if_pos q2, hV.p6, Option.bind_some, hV.c1, Option.bind_some, (CQ.of1 hV hp).g1, Option.bind_some, (CL.of1 hV hp).g8, Option.bind_some, sym_cv (CQ.of1 hV hp).k1, C_same (CQ.of1 hV hp).k1 hp.1.2.2, bd_some]
      have hk2 := hk.vd hp f2
      obtain ⟨s0, s1, s2, s3, s4, s5, s6⟩ := b3
      obtain ⟨t0, t1, t2, t3, t4, t5, t6⟩ := hk2.2
      rw [s0, s1, s2, s3, s4, s5, s6, t0, t1, t2, t3, t4, t5, t6]
      have hot := ot_eq (f := (comS w 1 k u c b).2) (k := k) (com_many h1.M hS q2)
      rw [show (decide ((comS w 1 k u c b).2 0 = k (8 + 0)) && decide ((comS w 1 k u c b).2 1 = k (8 + 1)) && decide ((comS w 1 k u c b).2 2 = k (8 + 2)) && decide ((comS w 1 k u c b).2 3 = k (8 + 3)) && decide ((comS w 1 k u c b).2 5 = k (8 + 5)) && decide ((comS w 1 k u c b).2 6 = k (8 + 6)) && decide ((comS w 1 k u c b).2 7 = k (8 + 7))) = !otB (comS w 1 k u c b).2 k from hot, bIf]
      cases otB (comS w 1 k u c b).2 k
      · obtain ⟨I3, c1, c2, c3⟩ := C_link (J := J) (Z := Z) (CL.of0 hV hp) (h0.v0 f2) hk2 hK hS
        rw [Bool.not_false, if_tt, if_ff, hV.p7, Option.bind_some, hV.l0, Option.bind_some, (CL.of0 hV hp).cv, c1, bd_some]
        refine ⟨I3, ?_, f2.trans c2.v0⟩
        by_cases q3 : (lkS w 0 k u c b).1 = nI 0
        · have hl1 : I3 (A + 416) 1 = (lkS w 1 k u c b).2 := by rw [c2 _ (by omega) (by omega), b2 _ (by omega) (by omega) (by omega) (by omega)]; exact a3
          rw [if_pos (by rw [q3]; rfl), if_pos q3, hV.p7, Option.bind_some, hV.l0, Option.bind_some, gI_m (CL.of0 hV hp).1.1, Option.bind_some, Option.bind_some, hV.l1, Option.bind_some, gI_m (CL.of1 hV hp).1.1, Option.bind_some, c3, hl1]
          by_cases q4 : (lkS w 0 k u c b).2 = (lkS w 1 k u c b).2
          · rw [if_pos q4, if_pos q4]
          · rw [if_neg q4, if_neg q4]
        · rw [if_neg (show ¬ (lkS w 0 k u c b).1 = 0 from q3), if_neg q3]
      · rw [Bool.not_true, if_ff, if_tt]
        exact ⟨I2, rfl, f2⟩
    · rw [if_neg (show ¬ (comS w 1 k u c b).1 = 0 from q2), if_neg q2]
      exact ⟨I2, rfl, f2⟩
  · rw [if_neg (show ¬ (lkS w 1 k u c b).1 = 0 from q1), if_neg q1]
    refine ⟨I1, ?_, f1⟩
    by_cases q : (lkS w 1 k u c b).1 = nI 6
    · rw [if_pos q, if_pos q]
    · rw [if_neg q, if_neg q]
end Vd
