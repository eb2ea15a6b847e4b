/-! ===== questions: classInfo ===== -/
def infS (w : Nat → Int32) (v c : Nat) : Nat → Int32
  | 0 => cl w v c 5
  | 1 => cl w v c 6
  | 2 => cl w v c 7
  | 3 => cl w v c 4
  | 4 => cl w v c 2
  | 5 => cl w v c 3
  | 6 => cl w v c 1
  | 7 => nI (ct (fun m => decide (ow w v m = c)) (nmb w v))
  | 8 => spm w v c
  | _ => bI (incS w v (stB w v c) (lnB w v c) (upS w v c))
section Qb
variable {g : Gr} {A R a : Nat} {I I' : Mem} {J : Nat → Nat → Int64} {Z : Option Nat} {w w' : Nat → Int32} {n k v c m : Nat} {P : Nat → Nat → Int32} {d : Nat → Int32} {x y z : Int32}
theorem bit_01 {y : Int32} (h : y = nI 0 ∨ y = nI 1) : bI (decide (y = nI 1)) = y := by
  rcases h with rfl | rfl
  · decide
  · decide
theorem WC.b1 (h : WC w v) (he : exC w v c = true) : cl w v c 1 = nI 0 ∨ cl w v c 1 = nI 1 := by
  rcases Nat.eq_zero_or_pos c with e | e
  · subst e; exact Or.inl h.1.2.1
  · exact (h.2.2 c e (exC_lt he) (exC_ex he)).1
theorem WC.b5 (h : WC w v) (he : exC w v c = true) : cl w v c 5 = nI 0 ∨ cl w v c 5 = nI 1 := by
  rcases Nat.eq_zero_or_pos c with e | e
  · subst e; exact Or.inr h.1.2.2.2.2.2.1
  · exact (h.2.2 c e (exC_lt he) (exC_ex he)).2.2.2.2.1
theorem C_cntL (h : CB g I a w v) : ∀ (d m f : Nat), m + d = nmb w v → d < f → c < 10 → lX4_countOf_4 f (a + 6) (nI c) (nI (ct (fun m => decide (ow w v m = c)) m)) (nI m) (mm g I J Z) = some (nI (ct (fun m => decide (ow w v m = c)) (nmb w v)), mm g I J Z) := by
  have hn := h.M.n40
  intro d
  induction d with
  | zero =>
    intro m f hi hf hc
    obtain ⟨f, rfl⟩ : ∃ z, f = z + 1 := ⟨f - 1, by omega⟩
    show bX4_countOf_4 (lX4_countOf_4 f) _ _ _ _ _ = _
    unfold bX4_countOf_4
    rw [C_size h.L h.R h.M, Option.bind_some, if_pos (nI_le (by omega) (by omega)), show m = nmb w v from by omega]
  | succ d ih =>
    intro m f hi hf hc
    obtain ⟨f, rfl⟩ : ∃ z, f = z + 1 := ⟨f - 1, by omega⟩
    have hm : m < nmb w v := by omega
    obtain ⟨o1, o2, o3, o4⟩ := h.M.own m hm
    show bX4_countOf_4 (lX4_countOf_4 f) _ _ _ _ _ = _
    unfold bX4_countOf_4 fX4_countOf_25
    rw [C_size h.L h.R h.M, Option.bind_some, if_neg (nI_ge (by omega) (by omega)), mem_p5 h.L.mem, Option.bind_some, mem_l5 h.L.mem (h.M.m40 hm), Option.bind_some, h.R.own m hm, o3, nI_add, nI_add]
    have := ih (m + 1) f (by omega) (by omega) hc
    by_cases e : ow w v m = c
    · rw [if_pos (by rw [e]), ← this, ct, if_pos (decide_eq_true e)]
    · rw [if_neg (fun q => e (nI_inj (by omega) (by omega) q)), ← this, ct, if_neg (by rw [decide_eq_false e]; decide)]
theorem M_cntL (h : Mb g R I w v) : ∀ (d m f : Nat), m + d = nmb w v → d < f → c < 10 → lX9_infoOf_63 f R (nI v) (nI c) (nI (ct (fun m => decide (ow w v m = c)) m)) (nI m) (mm g I J Z) = some (nI (ct (fun m => decide (ow w v m = c)) (nmb w v)), mm g I J Z) := by
  have hn := h.M.n40
  intro d
  induction d with
  | zero =>
    intro m f hi hf hc
    obtain ⟨f, rfl⟩ : ∃ z, f = z + 1 := ⟨f - 1, by omega⟩
    show bX9_infoOf_63 (lX9_infoOf_63 f) _ _ _ _ _ _ = _
    unfold bX9_infoOf_63
    rw [h.cv, h.many, bd_some, if_pos (nI_le (by omega) (by omega)), show m = nmb w v from by omega]
  | succ d ih =>
    intro m f hi hf hc
    obtain ⟨f, rfl⟩ : ∃ z, f = z + 1 := ⟨f - 1, by omega⟩
    have hm : m < nmb w v := by omega
    obtain ⟨o1, o2, o3, o4⟩ := h.M.own m hm
    show bX9_infoOf_63 (lX9_infoOf_63 f) _ _ _ _ _ _ = _
    unfold bX9_infoOf_63 fX9_infoOf_92
    rw [h.cv, h.many, bd_some, if_neg (nI_ge (by omega) (by omega)), h.cv, h.its hm (by decide), bd_some, o3, nI_add, nI_add, nI_add]
    have := ih (m + 1) f (by omega) (by omega) hc
    by_cases e : ow w v m = c
    · rw [if_pos (by rw [e]), ← this, ct, if_pos (decide_eq_true e)]
    · rw [if_neg (fun q => e (nI_inj (by omega) (by omega) q)), ← this, ct, if_neg (by rw [decide_eq_false e]; decide), Nat.add_zero]
theorem bt_bI (hc : c < 32) (x : Int32) : ((x >>> (nI c &&& 31)) &&& nI 1) = bI (bt x c) := bt_tst c hc x
theorem sty_spm (h : CB g I a w v) (he : exC w v c = true) : I (a + 4) c = spm w v c := by
  refine b_ext (fun t ht => ?_)
  rw [h.R.sty c t (exC_lt he) ht, he, Bool.true_and, spm_bits h.C (exC_lt he) (exC_ex he) t ht]

theorem C_val2 (h : CB g I a w v) (he : exC w v c = true) (hk : k < 10) : fX2_valueOf a (nI c) (nI k) (mm g I J Z) = some (infS w v c k, mm g I J Z) := by
  have hc := exC_lt he
  unfold fX2_valueOf
  rcases (by omega : k = 0 ∨ k = 1 ∨ k = 2 ∨ k = 3 ∨ k = 4 ∨ k = 5 ∨ k = 6 ∨ k = 7 ∨ k = 8 ∨ k = 9) with rfl | rfl | rfl | rfl | rfl | rfl | rfl | rfl | rfl | rfl
  · rw [if_pos rfl, lib_g2 h.L, Option.bind_some, bt_bI (by omega), h.R.pub c (by omega), he, Bool.true_and, bit_01 (h.C.b5 he)]; rfl
  · rw [if_neg (by decide), if_pos rfl, lib_g3 h.L, Option.bind_some, bt_bI (by omega), h.R.fin c (by omega), he, Bool.true_and, bit_01 ((h.C.f67 he).1)]; rfl
  · rw [if_neg (by decide), if_neg (by decide), if_pos rfl, lib_g4 h.L, Option.bind_some, bt_bI (by omega), h.R.abs c (by omega), he, Bool.true_and, bit_01 ((h.C.f67 he).2)]; rfl
  · rw [if_neg (by decide), if_neg (by decide), if_neg (by decide), if_pos rfl, lib_p5 h.L, Option.bind_some, lib_l1 h.L hc, Option.bind_some, h.R.home c he]; rfl
  · rw [if_neg (by decide), if_neg (by decide), if_neg (by decide), if_neg (by decide), if_pos rfl, lib_p6 h.L, Option.bind_some, lib_l2 h.L hc, Option.bind_some, h.R.sup c he]; rfl
  · rw [if_neg (by decide), if_neg (by decide), if_neg (by decide), if_neg (by decide), if_neg (by decide), if_pos rfl, lib_p7 h.L, Option.bind_some, lib_l3 h.L hc, Option.bind_some, h.R.itf c he]; rfl
  · rw [if_neg (by decide), if_neg (by decide), if_neg (by decide), if_neg (by decide), if_neg (by decide), if_neg (by decide), if_pos rfl, lib_g1 h.L, Option.bind_some, bt_bI (by omega), h.R.ifc c (by omega), he, Bool.true_and]; show some (bI (decide (cl w v c 1 = nI 1)), _) = some (cl w v c 1, _); rw [bit_01 (h.C.b1 he)]
  · rw [if_neg (by decide), if_neg (by decide), if_neg (by decide), if_neg (by decide), if_neg (by decide), if_neg (by decide), if_neg (by decide), if_pos rfl, lib_p10 h.L, Option.bind_some, mem_cv h.L.mem]
    unfold fX4_countOf
    have := h.M.n40
    have q := C_cntL (J := J) (Z := Z) (c := c) h (nmb w v) 0 fuel (by omega) (by unfold fuel; omega) hc
    rw [show nI (ct (fun m => decide (ow w v m = c)) 0) = nI 0 from rfl] at q
    rw [q, bd_some]
    rfl
  · rw [if_neg (by decide), if_neg (by decide), if_neg (by decide), if_neg (by decide), if_neg (by decide), if_neg (by decide), if_neg (by decide), if_neg (by decide), if_pos rfl, lib_p8 h.L, Option.bind_some, lib_l4 h.L hc, Option.bind_some, sty_spm h he]; rfl
  · rw [if_neg (by decide), if_neg (by decide), if_neg (by decide), if_neg (by decide), if_neg (by decide), if_neg (by decide), if_neg (by decide), if_neg (by decide), if_neg (by decide), lib_p9 h.L, Option.bind_some, lib_l5 h.L hc, Option.bind_some, lib_p8 h.L, Option.bind_some, lib_l4 h.L hc, Option.bind_some, lib_cv h.L, C_inc h he, bd_some, bIf]
    show _ = some (bI (incS w v (stB w v c) (lnB w v c) (upS w v c)), _)
    cases incS w v (stB w v c) (lnB w v c) (upS w v c)
    · rfl
    · rfl

theorem M_info (h : Mb g R I w v) (he : exC w v c = true) (hk : k < 10) : ∃ I', fX9_infoOf R (nI v) (nI c) (nI k) (mm g I J Z) = some (infS w v c k, mm g I' J Z) ∧ Fw R I I' := by
  have hc := exC_lt he
  have hv := h.v2
  unfold fX9_infoOf
  rcases (by omega : k = 0 ∨ k = 1 ∨ k = 2 ∨ k = 3 ∨ k = 4 ∨ k = 5 ∨ k = 6 ∨ k = 7 ∨ k = 8 ∨ k = 9) with rfl | rfl | rfl | rfl | rfl | rfl | rfl | rfl | rfl | rfl
  · refine ⟨I, ?_, Fw.refl⟩
    rw [if_neg (by decide), h.G.p0, Option.bind_some]
    unfold fX9_at fX9_placeOf
    rw [bd_some, if_pos rfl, bd_some, ix_481, h.G.ld1 (by omega), Option.bind_some, h.row]
    rfl
  · refine ⟨I, ?_, Fw.refl⟩
    rw [if_neg (by decide), h.G.p0, Option.bind_some]
    unfold fX9_at fX9_placeOf
    rw [bd_some, if_neg (by decide), if_pos rfl, bd_some, ix_481, h.G.ld1 (by omega), Option.bind_some, h.row]
    rfl
  · refine ⟨I, ?_, Fw.refl⟩
    rw [if_neg (by decide), h.G.p0, Option.bind_some]
    unfold fX9_at fX9_placeOf
    rw [bd_some, if_neg (by decide), if_neg (by decide), if_pos rfl, bd_some, ix_481, h.G.ld1 (by omega), Option.bind_some, h.row]
    rfl
  · refine ⟨I, ?_, Fw.refl⟩
    rw [if_neg (by decide), h.G.p0, Option.bind_some]
    unfold fX9_at fX9_placeOf
    rw [bd_some, if_neg (by decide), if_neg (by decide), if_neg (by decide), if_pos rfl, bd_some, ix_481, h.G.ld1 (by omega), Option.bind_some, h.row]
    rfl
  · refine ⟨I, ?_, Fw.refl⟩
    rw [if_neg (by decide), h.G.p0, Option.bind_some]
    unfold fX9_at fX9_placeOf
    rw [bd_some, if_neg (by decide), if_neg (by decide), if_neg (by decide), if_neg (by decide), if_pos rfl, bd_some, ix_481, h.G.ld1 (by omega), Option.bind_some, h.row]
    rfl
  · refine ⟨I, ?_, Fw.refl⟩
    rw [if_neg (by decide), h.G.p0, Option.bind_some]
    unfold fX9_at fX9_placeOf
    rw [bd_some, if_neg (by decide), if_neg (by decide), if_neg (by decide), if_neg (by decide), if_neg (by decide), bd_some, ix_481, h.G.ld1 (by omega), Option.bind_some, h.row]
    rfl
  · exact ⟨I, by rw [if_pos (by decide), if_pos rfl, h.cv, h.of hc (by decide), bd_some]; rfl, Fw.refl⟩
  · refine ⟨I, ?_, Fw.refl⟩
    have := h.M.n40
    have q := M_cntL (J := J) (Z := Z) (c := c) h (nmb w v) 0 fuel (by omega) (by unfold fuel; omega) hc
    rw [show nI (ct (fun m => decide (ow w v m = c)) 0) = nI 0 from rfl] at q
    rw [if_pos (by decide), if_neg (by decide), if_pos rfl, q]
    rfl
  · exact ⟨I, by rw [if_pos (by decide), if_neg (by decide), if_neg (by decide), if_pos rfl, h.cv, h.sup hc, bd_some]; rfl, Fw.refl⟩
  · obtain ⟨I3, t1, t2⟩ := M_inc (J := J) (Z := Z) h he
    refine ⟨I3, ?_, t2⟩
    rw [if_pos (by decide), if_neg (by decide), if_neg (by decide), if_neg (by decide), h.cv, t1, bd_some, bIf]
    show _ = some (bI (incS w v (stB w v c) (lnB w v c) (upS w v c)), _)
    cases incS w v (stB w v c) (lnB w v c) (upS w v c)
    · rfl
    · rfl

theorem Q_classInfo (h : Rel g A I w n P d) : Agr g A I (fX8_classInfo A x y z) (fX9_classInfo (A + 418) x y z) [1, 2] := by
  rcases lib_cases h x y with ⟨v, c, hv, he, rfl, rfl⟩ | ⟨q1, q2⟩
  · rcases inf_cases z with ⟨k, hk, rfl⟩ | ⟨z1, z2⟩
    · refine Agr.val h (b := infS w v c k) (fun J Z => ⟨I, Z, ?_, FvC.refl⟩) (fun I1 J Z h1 => ?_)
      · unfold fX8_classInfo
        rw [h.jg.cv, C_libWith h hv he, bd_some, xp_r, C_reqI hk, bd_some, xp_r, lib_cv (h.jg.lib hv), C_val2 (h.cb hv) he hk, bd_some]
      · obtain ⟨I3, t1, t2⟩ := M_info (J := J) (Z := Z) ((h1.up3 (x := nI 0)).mb hv) he hk
        refine ⟨I3, ?_, fvm_3.trans t2.fvm, by rw [t2.2 3 (by omega), up3]⟩
        unfold fX9_classInfo fX9_classInfo_29
        rw [M_cv h1.G, (h1.mb hv).isC (exC_lt he), bd_some, he, bIf, if_tt, wi_yes (by omega) (by omega), bd_some, bIf, if_tt, M_cv h1.G, M_ref0 h1.G, bd_some, bIf, if_ff, M_cv h1.G, t1, bd_some]
    · refine Agr.rfs h (i := 1) (e := 2) ⟨by decide, rfl⟩ (fun J Z => ⟨I, none, ?_, FvC.refl⟩) (fun I1 J Z h1 => ⟨nI 0, up2 I1 (A + 418) 3 (nI 2), ?_, fvm_3, up3⟩)
      · unfold fX8_classInfo
        rw [h.jg.cv, C_libWith h hv he, bd_some, xp_r, z1, bd_some, xp_l, thr_m]
      · unfold fX9_classInfo fX9_classInfo_29
        rw [M_cv h1.G, (h1.mb hv).isC (exC_lt he), bd_some, he, bIf, if_tt, z2, bd_some, bIf, if_ff, M_cv h1.G, rf2 h1.G, bd_some, bIf, if_tt]
  · refine Agr.rfs h (i := 0) (e := 1) ⟨by decide, rfl⟩ (fun J Z => ⟨I, none, ?_, FvC.refl⟩) (fun I1 J Z h1 => ⟨nI 0, up2 I1 (A + 418) 3 (nI 1), ?_, fvm_3, up3⟩)
    · unfold fX8_classInfo
      rw [h.jg.cv, q1, bd_some, xp_l]
    · unfold fX9_classInfo fX9_classInfo_29
      rw [M_cv h1.G, q2 I1 J Z h1, bd_some, bIf, if_ff, M_cv h1.G, rf1 h1.G, bd_some, bIf, if_tt]
end Qb
