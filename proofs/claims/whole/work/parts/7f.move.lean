/-! ===== moveMember ===== -/
def moB (w : Nat → Int32) (v m c : Nat) : Bool := if mb w v m 0 = nI 1 then alM w v c (mb w v m 3) (mb w v m 4) else alF w v c (mb w v m 3) (mb w v m 4)
def tkB (w : Nat → Int32) (v m c : Nat) : Bool := if mb w v m 0 = nI 1 then exM w v c (mb w v m 2) (mb w v m 7) (mb w v m 8) else exF w v c (mb w v m 2)
section Mv
variable {g : Gr} {A R a b : Nat} {I I' : Mem} {J : Nat → Nat → Int64} {Z : Option Nat} {w w' : Nat → Int32} {n k v c m q p : Nat} {P : Nat → Nat → Int32} {d : Nat → Int32} {x y z u : Int32}
theorem C_allow (hb : CB g I a w v) (hm : m < nmb w v) (he : exC w v c = true) : fX2_allowsMember a (nI c) (nI m) (mm g I J Z) = some (bI (moB w v m c), mm g I J Z) := by
  have hM := hb.M
  have hL := hb.L
  have m4 := hM.m40 hm
  unfold fX2_allowsMember moB
  rw [lib_p10 hL, Option.bind_some, mem_p4 hL.mem, Option.bind_some, mem_l4 hL.mem m4, Option.bind_some, hb.R.knd m hm]
  rcases hM.knd m hm with e0 | e0
  · rw [if_pos (show mb w v m 0 = 0 from e0), if_neg (show ¬ mb w v m 0 = nI 1 by rw [e0]; decide), Option.bind_some, mem_p1 hL.mem, Option.bind_some, mem_l1 hL.mem m4, Option.bind_some, Option.bind_some, mem_p2 hL.mem, Option.bind_some, mem_l2 hL.mem m4, Option.bind_some, hb.R.acc m hm, hb.R.flg m hm, lib_cv hL, C_alF hb he, bd_some, rz_bI]
  · rw [if_neg (show ¬ mb w v m 0 = 0 by rw [e0]; decide), if_pos e0, Option.bind_some, mem_p1 hL.mem, Option.bind_some, mem_l1 hL.mem m4, Option.bind_some, Option.bind_some, mem_p2 hL.mem, Option.bind_some, mem_l2 hL.mem m4, Option.bind_some, hb.R.acc m hm, hb.R.flg m hm, lib_cv hL, C_alM hb he, bd_some, rz_bI]
/-- as the reference asks it -/
theorem moB_eq (hM : WM w v) (hm : m < nmb w v) : moB w v m c = ((!abB w v m || decide (cl w v c 7 = nI 1)) && (!itB w v c || (decide (mb w v m 3 = nI 3) && (if mb w v m 0 = nI 1 then !bt (mb w v m 4) 1 else decide (mb w v m 4 = nI 3))))) := by
  unfold moB
  rcases hM.knd m hm with e0 | e0
  · have n1 : ¬ mb w v m 0 = nI 1 := by rw [e0]; decide
    rw [if_neg n1, if_neg n1]
    obtain ⟨kf, hkf, ef⟩ := fld_4 hM hm e0
    have b2 : abB w v m = false := (hM.fld m hm e0).1
    unfold alF
    rw [b2, ef, decide_eq_false (nI_pos (by omega)), decide_eq_true (nI_le (a := kf) (b := 3) (by omega) (by omega))]
    rfl
  · rw [if_pos e0, if_pos e0]
    obtain ⟨kf, hkf, ef⟩ := hM.flg m hm
    unfold alM
    have r1 : (!decide (mb w v m 4 < 0) && decide (mb w v m 4 ≤ nI 7)) = true := by rw [ef, decide_eq_false (nI_pos (by omega)), decide_eq_true (nI_le (by omega) (by omega))]; rfl
    rw [r1, Bool.true_and, show bt (mb w v m 4) 2 = abB w v m from rfl]
    congr 1
    cases hb : abB w v m
    · rfl
    · obtain ⟨q1, q2, q3⟩ := hM.abs m hm hb
      rw [decide_eq_true q1, decide_eq_false (show ¬ mb w v m 3 = 0 from q2)]
      rfl
theorem bt1 : bI true = nI 1 := rfl
theorem bf0 : bI false = nI 0 := rfl
theorem M_mv185 (h : AH) (s : Bool) : fX9_moveMember_185 R (nI v) (nI m) (nI c) (nI 1) (nI 1) (bI s) h = fX9_moveMember_216 R (nI v) (nI m) (nI c) R (nI (if s = true then 0 else 3)) h := by
  unfold fX9_moveMember_185
  rw [if_neg (by decide), if_neg (by decide), bIf]
  cases s
  · rw [if_ff, if_ff]
  · rw [if_tt, if_tt]
theorem M_mv120 (h : MRel g A I w n P d) (hv : v < 2) (hm : m < nmb w v) (hc : c < 10) (s : Bool) : fX9_moveMember_120 (A + 418) (nI v) (nI m) (nI c) (nI 1) (bI s) (mm g I J Z) = fX9_moveMember_216 (A + 418) (nI v) (nI m) (nI c) (A + 418) (nI (if s = false then 2 else if c = 0 ∨ tkB w v m c = true then 3 else 0)) (mm g I J Z) := by
  have hb := h.mb hv
  have hM := hb.M
  have hn := hM.n40
  have e0 := M_mv185 (R := A + 418) (v := v) (m := m) (c := c) (mm g I J Z) false
  have e1 := M_mv185 (R := A + 418) (v := v) (m := m) (c := c) (mm g I J Z) true
  rw [bf0, if_ff] at e0
  rw [bt1, if_tt] at e1
  unfold fX9_moveMember_120 fX9_moveMember_184
  cases s
  · rw [bf0, if_pos (by decide), if_pos rfl]
    unfold fX9_moveMember_185
    rw [if_neg (by decide), if_pos (by decide)]
  · rw [bt1, if_neg (show ¬ nI 1 = 0 by decide), if_neg (show ¬ (true = false) by decide)]
    by_cases c0 : c = 0
    · rw [if_pos (show nI c = 0 by rw [c0]; rfl), if_pos (Or.inl c0), e0]
    · have fd : fX9_found (A + 418) (nI v) (nI c) (mb w v m 0) (mb w v m 2) (mb w v m 6) (mb w v m 7) (mb w v m 8) (mm g I J Z) = some (oI (fst (isF w v (nI c) (mb w v m 0) (mb w v m 2) (mb w v m 6) (mb w v m 7) (mb w v m 8)) 0 (nmb w v)), mm g I J Z) := by
        have := M_found (J := J) (Z := Z) (I := I) h.G hv (n := nmb w v) hn (by rw [h.row]; exact hM.n) (x := nI c) (y := mb w v m 0) (nm := mb w v m 2) (a := mb w v m 6) (b := mb w v m 7) (c := mb w v m 8)
        rw [h.row] at this
        exact this
      have hk : anyF (isF w v (nI c) (mb w v m 0) (mb w v m 2) (mb w v m 6) (mb w v m 7) (mb w v m 8)) 0 (nmb w v) = tkB w v m c := by
        unfold tkB
        rcases hM.knd m hm with e0 | e0
        · rw [if_neg (by rw [e0]; decide), e0]; exact fnF hM hc
        · rw [if_pos e0, e0]; exact fnM hM hc (hM.par m hm) (Or.inl rfl) (Or.inl rfl)
      rw [if_neg (nI_ne0 (by omega) (by omega)), M_cv h.G, hb.its hm (by decide), bd_some, M_cv h.G, hb.its hm (by decide), bd_some, M_cv h.G, hb.its hm (by decide), bd_some, M_cv h.G, hb.its hm (by decide), bd_some, M_cv h.G, hb.its hm (by decide), bd_some, M_cv h.G, fd, bd_some, oI_m2 hn (fun m e => fst_lt e), fst_isSome, hk]
      cases ht : tkB w v m c
      · rw [if_ff, if_neg (by rintro (e | e); exact c0 e; cases e), e1]
      · rw [if_tt, if_pos (Or.inr rfl), e0]
theorem M_mv56 (h : MRel g A I w n P d) (hv : v < 2) (hm : m < nmb w v) (hc : c < 10) (s : Bool) : fX9_moveMember_56 (A + 418) (nI v) (nI m) (nI c) (nI 1) (bI s) (mm g I J Z) = fX9_moveMember_120 (A + 418) (nI v) (nI m) (nI c) (nI 1) (bI (s && (!itB w v c || (decide (mb w v m 3 = nI 3) && (if mb w v m 0 = nI 1 then !bt (mb w v m 4) 1 else decide (mb w v m 4 = nI 3)))))) (mm g I J Z) := by
  have hb := h.mb hv
  unfold fX9_moveMember_56 fX9_moveMember_119
  cases s
  · rw [Bool.false_and, bf0, if_pos (by decide)]
  · rw [Bool.true_and, bt1, if_neg (by decide), M_cv h.G, hb.itf hc, bd_some, bIf]
    cases hi : itB w v c
    · rw [if_ff, Bool.not_false, Bool.true_or, bt1]
    · rw [if_tt, Bool.not_true, Bool.false_or, M_cv h.G, hb.its hm (by decide), bd_some]
      by_cases a3 : mb w v m 3 = nI 3
      · rw [if_pos a3, decide_eq_true a3, Bool.true_and, M_cv h.G, hb.met hm, bd_some, bIf]
        by_cases e0 : mb w v m 0 = nI 1
        · rw [decide_eq_true e0, if_tt, if_pos e0, M_cv h.G, hb.fin hm, bd_some, bIf]
          cases bt (mb w v m 4) 1
          · rw [if_ff, Bool.not_false, bt1]
          · rw [if_tt, Bool.not_true, bf0]
        · rw [decide_eq_false e0, if_ff, if_neg e0, M_cv h.G, hb.its hm (by decide), bd_some]
          by_cases f3 : mb w v m 4 = nI 3
          · rw [if_pos f3, decide_eq_true f3, bt1]
          · rw [if_neg f3, decide_eq_false f3, bf0]
      · rw [if_neg a3, decide_eq_false a3, Bool.false_and, bf0]
theorem M_mv23 (h : MRel g A I w n P d) (hv : v < 2) (hm : m < nmb w v) (hc : c < 10) : fX9_moveMember_23 (A + 418) (nI v) (nI m) (nI c) (nI 1) (mm g I J Z) = fX9_moveMember_56 (A + 418) (nI v) (nI m) (nI c) (nI 1) (bI (!abB w v m || decide (cl w v c 7 = nI 1))) (mm g I J Z) := by
  have hb := h.mb hv
  unfold fX9_moveMember_23 fX9_moveMember_55
  rw [if_neg (by decide), M_cv h.G, hb.abs hm, bd_some, bIf]
  cases abB w v m
  · rw [if_ff, Bool.not_false, Bool.true_or, bt1]
  · rw [if_tt, Bool.not_true, Bool.false_or, M_cv h.G, hb.of hc (by decide), bd_some]
    by_cases c7 : cl w v c 7 = nI 1
    · rw [if_pos c7, decide_eq_true c7, bt1]
    · rw [if_neg c7, decide_eq_false c7, bf0]
theorem M_moveC (h : MRel g A I w n P d) (hv : v < 2) (hm : m < nmb w v) (he : exC w v c = true) : fX9_moveMember (A + 418) (nI v) (nI m) (nI c) (mm g I J Z) = fX9_moveMember_216 (A + 418) (nI v) (nI m) (nI c) (A + 418) (nI (if moB w v m c = false then 2 else if c = 0 ∨ tkB w v m c = true then 3 else 0)) (mm g I J Z) := by
  have hc := exC_lt he
  unfold fX9_moveMember
  rw [M_cv h.G, M_isMem h hv hm, bd_some, bIf, if_tt, M_cv h.G, (h.mb hv).isC hc, bd_some, he, bIf, if_tt, M_mv23 h hv hm hc, M_mv56 h hv hm hc, ← moB_eq (h.mb hv).M hm, M_mv120 h hv hm hc]
theorem moW_WM (hM : WM w v) (hm : m < nmb w v) (he : exC w v c = true) (c0 : c ≠ 0) (hmo : moB w v m c = true) (htk : tkB w v m c = false) : WM (sW w (481 * v + 81 + 10 * m + 1) (nI c)) v := by
  have hn := hM.n40
  have hc := exC_lt he
  have f1 : mb (sW w (481 * v + 81 + 10 * m + 1) (nI c)) v m 1 = nI c := by rw [sW_mb (by decide) (by decide), if_pos ⟨rfl, rfl⟩]
  have same : ∀ r, r < 10 → r ≠ 1 → mb (sW w (481 * v + 81 + 10 * m + 1) (nI c)) v m r = mb w v m r := fun r h1 h2 => by rw [sW_mb (by decide) h1, if_neg (by omega)]
  have fo : ow (sW w (481 * v + 81 + 10 * m + 1) (nI c)) v m = c := by unfold ow; rw [f1, nI_clamp (by omega)]
  refine hM.put (n := nmb w v) (m := m) hn (sW_mn.trans hM.n) (fun k hk _ => hk) (fun k r hk hne hr => by rw [sW_mb (by decide) hr, if_neg (by omega)]) (fun c p hc hr => sW_cl hc hr) ?_ (fun k hk hne e => ?_)
  · obtain ⟨a1, a2, a3, a4, a5, a6, a7, a8, a9, a10, a11⟩ := hM.w1 hm
    unfold W1
    rw [fo, f1, same 0 (by decide) (by decide), same 2 (by decide) (by decide), same 3 (by decide) (by decide), same 4 (by decide) (by decide), same 5 (by decide) (by decide), same 6 (by decide) (by decide), same 7 (by decide) (by decide), same 8 (by decide) (by decide), same 9 (by decide) (by decide), exC_cg (fun c hc => sW_cl hc (by decide)), sW_cl hc (by decide), show itB (sW w (481 * v + 81 + 10 * m + 1) (nI c)) v c = itB w v c from by unfold itB; rw [sW_cl hc (by decide)]]
    unfold moB at hmo
    refine ⟨a1, ⟨by omega, hc, rfl, he⟩, a3, a4, a5, a6, a7, a8, fun e => ?_, fun e => ?_, a11⟩
    · rcases a1 with e0 | e0
      · rw [(a8 e0).1] at e; cases e
      · rw [if_pos e0] at hmo
        exact (alM_p hmo).2.1 e
    · rcases a1 with e0 | e0
      · rw [if_neg (by rw [e0]; decide)] at hmo
        exact ⟨((alF_p hmo).2 e).1, fun q => (by rw [e0] at q; exact absurd q (by decide)), fun _ => ((alF_p hmo).2 e).2⟩
      · rw [if_pos e0] at hmo
        exact ⟨((alM_p hmo).2.2 e).1, fun _ => ((alM_p hmo).2.2 e).2, fun q => (by rw [e0] at q; exact absurd q (by decide))⟩
  · obtain ⟨g1, g2, g3, g4⟩ := e
    obtain ⟨o1, o2, o3, o4⟩ := hM.own k hk
    rw [same 0 (by decide) (by decide)] at g1 g4
    rw [f1, o3] at g2
    rw [same 2 (by decide) (by decide)] at g3
    rw [same 6 (by decide) (by decide), same 7 (by decide) (by decide), same 8 (by decide) (by decide)] at g4
    have eo : ow w v k = c := (nI_inj (by omega) (by omega) g2).symm
    unfold tkB at htk
    rcases hM.knd m hm with e0 | e0
    · rw [if_neg (by rw [e0]; decide)] at htk
      have : exF w v c (mb w v m 2) = true := anyF_iff.mpr ⟨k, by omega, by omega, by rw [decide_eq_true eo, decide_eq_true (g1.symm.trans e0), decide_eq_true g3.symm]; rfl⟩
      rw [this] at htk
      cases htk
    · rw [if_pos e0] at htk
      have g4 := g4.resolve_left (by rw [e0]; decide)
      have : exM w v c (mb w v m 2) (mb w v m 7) (mb w v m 8) = true := anyF_iff.mpr ⟨k, by omega, by omega, by rw [decide_eq_true eo, isG_iff.mpr ⟨g1.symm.trans e0, g3.symm, g4.2.1.symm, g4.2.2.symm⟩]; rfl⟩
      rw [this] at htk
      cases htk
/-- the owner of one member changes -/
theorem RLm.own1 (h : RLm I a w v) (hM : WM w v) (hm : m < nmb w v) : RLm (up2 I (a + 6 + 5) m (nI c)) a (sW w (481 * v + 81 + 10 * m + 1) (nI c)) v := by
  have hn := hM.n40
  refine ⟨by rw [up2_ne (by omega)]; exact h.1.trans sW_mn.symm, fun j j1 j2 i hi => ?_⟩
  rw [nmb_cg sW_mn] at hi
  by_cases e : i = m
  · subst e
    have o : ∀ r, r < 10 → r ≠ 1 → mb (sW w (481 * v + 81 + 10 * i + 1) (nI c)) v i r = mb w v i r := fun r h1 h2 => by rw [sW_mb (by decide) h1, if_neg (by omega)]
    rcases (by omega : j = 5 ∨ j = 1 ∨ j = 2 ∨ j = 3 ∨ j = 4 ∨ j = 6 ∨ j = 7 ∨ j = 8 ∨ j = 9 ∨ j = 10 ∨ j = 11 ∨ j = 12) with rfl | rfl | rfl | rfl | rfl | rfl | rfl | rfl | rfl | rfl | rfl | rfl
    · rw [up2_at, if_pos rfl, mV_5, sW_mb (by decide) (by decide), if_pos ⟨rfl, rfl⟩]
    · rw [up2_ne (by omega), h.2 1 (by decide) (by decide) i hi, mV_1, mV_1, o 3 (by decide) (by decide)]
    · rw [up2_ne (by omega), h.2 2 (by decide) (by decide) i hi, mV_2, mV_2, o 4 (by decide) (by decide)]
    · rw [up2_ne (by omega), h.2 3 (by decide) (by decide) i hi, mV_3, mV_3, o 9 (by decide) (by decide)]
    · rw [up2_ne (by omega), h.2 4 (by decide) (by decide) i hi, mV_4, mV_4, o 0 (by decide) (by decide)]
    · rw [up2_ne (by omega), h.2 6 (by decide) (by decide) i hi, mV_6, mV_6, o 2 (by decide) (by decide)]
    · rw [up2_ne (by omega), h.2 7 (by decide) (by decide) i hi, mV_7, mV_7, o 5 (by decide) (by decide)]
    · rw [up2_ne (by omega), h.2 8 (by decide) (by decide) i hi, mV_8, mV_8, o 0 (by decide) (by decide), o 6 (by decide) (by decide)]
    · rw [up2_ne (by omega), h.2 9 (by decide) (by decide) i hi, mV_9, mV_9, o 7 (by decide) (by decide)]
    · rw [up2_ne (by omega), h.2 10 (by decide) (by decide) i hi, mV_10, mV_10, o 8 (by decide) (by decide)]
    · rw [up2_ne (by omega), h.2 11 (by decide) (by decide) i hi, mV_11, mV_11, o 0 (by decide) (by decide), o 2 (by decide) (by decide), o 7 (by decide) (by decide), o 8 (by decide) (by decide)]
    · rw [up2_ne (by omega), h.2 12 (by decide) (by decide) i hi, mV_12, mV_12, o 0 (by decide) (by decide), o 2 (by decide) (by decide), o 7 (by decide) (by decide), o 8 (by decide) (by decide), o 5 (by decide) (by decide)]
  · have : up2 I (a + 6 + 5) m (nI c) (a + 6 + j) i = I (a + 6 + j) i := by
      by_cases q : j = 5
      · rw [q, up2_at, if_neg e]
      · rw [up2_ne (by omega)]
    rw [this, h.2 j j1 j2 i hi]
    exact (mV_cg (fun r hr => by rw [sW_mb (by decide) hr, if_neg (by omega)]) j).symm
theorem C_moveQ (h : Rel g A I w n P d) (hv : v < 2) (hm : m < nmb w v) (he : exC w v c = true) : fX8_moveMember A (nI v) (nI m) (nI c) (mm g I J Z) = if moB w v m c = false then some (.inl 2, mm g I J none) else fX8_moveMember_95 A (nI m) (nI c) (A + 1 + 3 + 20 * v + 6) (bI (tkB w v m c)) (mm g I J Z) := by
  have hb := h.cb hv
  have hM := hb.M
  have hL := hb.L
  have m4 := hM.m40 hm
  have hc := exC_lt he
  unfold fX8_moveMember
  rw [h.jg.cv, C_libMem h hv hm, bd_some, xp_r, lib_cv hL, C_isThere hL hb.R hc, bd_some, he, bIf, if_tt, lib_cv hL, C_allow hb hm he, bd_some, bIf]
  cases hmo : moB w v m c
  · rw [if_ff, if_pos rfl, thr_m]
  · rw [if_tt, if_neg (by decide), lib_p10 hL, Option.bind_some, mem_p4 hL.mem, Option.bind_some, mem_l4 hL.mem m4, Option.bind_some, hb.R.knd m hm]
    unfold tkB
    rcases hM.knd m hm with e0 | e0
    · rw [if_pos (show mb w v m 0 = 0 from e0), if_neg (show ¬ mb w v m 0 = nI 1 by rw [e0]; decide), mem_p6 hL.mem, Option.bind_some, mem_l6 hL.mem m4, Option.bind_some, hb.R.nam m hm, mem_cv hL.mem, C_hasF hb hc, bd_some]
    · have hsg := hb.R.sig m hm
      rw [if_pos e0] at hsg
      obtain ⟨q, hq, eq⟩ := hM.nam m hm
      have hPt := hM.par m hm
      rw [if_neg (show ¬ mb w v m 0 = 0 by rw [e0]; decide), if_pos e0, mem_p11 hL.mem, Option.bind_some, mem_l11 hL.mem m4, Option.bind_some, hsg, mem_cv hL.mem, eq, C_hasM hb hc hq hPt.t1 hPt.t2, bd_some]
theorem Q_moveMember (h : Rel g A I w n P d) : Agr g A I (fX8_moveMember A x y z) (fX9_moveMember (A + 418) x y z) [1, 2, 3] := by
  have ref : ∀ {i : Nat}, i < 3 → ∀ I1 J Z, MRel g A I1 w n P d → fX9_moveMember_216 (A + 418) x y z (A + 418) (nI (i + 1)) (mm g I1 J Z) = some (nI 0, mm g (up2 I1 (A + 418) 3 (nI (i + 1))) J Z) := by
    intro i hi I1 J Z h1
    unfold fX9_moveMember_216
    rw [M_cv h1.G, M_refS h1.G hi, bd_some, bIf, if_tt]
  have e22 : ∀ I1 J Z, MRel g A I1 w n P d → fX9_moveMember_22 (A + 418) x y z (mm g I1 J Z) = some (nI 0, mm g (up2 I1 (A + 418) 3 (nI 1)) J Z) := by
    intro I1 J Z h1
    unfold fX9_moveMember_22 fX9_moveMember_23 fX9_moveMember_55 fX9_moveMember_56 fX9_moveMember_119 fX9_moveMember_120 fX9_moveMember_184 fX9_moveMember_185
    rw [if_pos (by decide), if_pos (by decide), if_pos (by decide), if_pos (by decide)]
    exact ref (i := 0) (by decide) I1 J Z h1
  rcases mem_cases h x y with ⟨v, m, hv, hm, rfl, rfl⟩ | ⟨q1, q2⟩
  · have hb := h.cb hv
    have hM := hb.M
    have m4 := hM.m40 hm
    have bad : (∀ J Z, fX8_moveMember A (nI v) (nI m) z (mm g I J Z) = some (.inl 1, mm g I J none)) → (∀ I1 J Z, MRel g A I1 w n P d → fX9_isClass (A + 418) (nI v) z (mm g I1 J Z) = some (bI false, mm g I1 J Z)) → Agr g A I (fX8_moveMember A (nI v) (nI m) z) (fX9_moveMember (A + 418) (nI v) (nI m) z) [1, 2, 3] := by
      intro b1 b2
      refine Agr.rfs h (i := 0) (e := 1) ⟨by decide, rfl⟩ (fun J Z => ⟨I, none, b1 J Z, FvC.refl⟩) (fun I1 J Z h1 => ⟨nI 0, up2 I1 (A + 418) 3 (nI 1), ?_, fvm_3, up3⟩)
      unfold fX9_moveMember
      rw [M_cv h1.G, M_isMem h1 hv hm, bd_some, bIf, if_tt, M_cv h1.G, b2 I1 J Z h1, bd_some, bIf, if_ff]
      exact e22 I1 J Z h1
    rcases int_x z 10 (by omega) with hz | ⟨c, hc, rfl⟩
    · refine bad (fun J Z => ?_) (fun I1 J Z h1 => M_isClassC h1.G hv hz)
      unfold fX8_moveMember
      rw [h.jg.cv, C_libMem h hv hm, bd_some, xp_r, lib_cv (h.jg.lib hv), C_isThereX hz, bd_some, bIf, if_ff, thr_m]
    · cases he : exC w v c
      · refine bad (fun J Z => ?_) (fun I1 J Z h1 => by rw [(h1.mb hv).isC hc, he])
        unfold fX8_moveMember
        rw [h.jg.cv, C_libMem h hv hm, bd_some, xp_r, lib_cv (h.jg.lib hv), C_isThere (h.jg.lib hv) hb.R hc, bd_some, he, bIf, if_ff, thr_m]
      · cases hmo : moB w v m c
        · refine Agr.rfs h (i := 1) (e := 2) ⟨by decide, rfl⟩ (fun J Z => ⟨I, none, by rw [C_moveQ h hv hm he, hmo, if_pos rfl], FvC.refl⟩) (fun I1 J Z h1 => ⟨nI 0, up2 I1 (A + 418) 3 (nI 2), ?_, fvm_3, up3⟩)
          rw [M_moveC h1 hv hm he, hmo, if_pos rfl]
          exact ref (i := 1) (by decide) I1 J Z h1
        · by_cases hcan : c = 0 ∨ tkB w v m c = true
          · refine Agr.rfs h (i := 2) (e := 3) ⟨by decide, rfl⟩ (fun J Z => ⟨I, none, ?_, FvC.refl⟩) (fun I1 J Z h1 => ⟨nI 0, up2 I1 (A + 418) 3 (nI 3), ?_, fvm_3, up3⟩)
            · rw [C_moveQ h hv hm he, hmo, if_neg (by decide)]
              unfold fX8_moveMember_95
              by_cases c0 : c = 0
              · rw [if_pos (show nI c = 0 by rw [c0]; rfl), thr_m]
              · rw [if_neg (nI_ne0 (by omega) (by omega)), hcan.resolve_left c0, bIf, if_tt, thr_m]
            · rw [M_moveC h1 hv hm he, hmo, if_neg (by decide), if_pos hcan]
              exact ref (i := 2) (by decide) I1 J Z h1
          · have c0 : c ≠ 0 := fun e => hcan (Or.inl e)
            have htk : tkB w v m c = false := by
              cases e : tkB w v m c
              · rfl
              · exact absurd (Or.inr e) hcan
            refine Agr.lib h (v := v) (w' := sW w (481 * v + 81 + 10 * m + 1) (nI c)) (b := mb w v m 1) hv (fun i hi => sW_out m4 (by decide) hi) (hb.C.cg (fun c p hc hr => sW_cl hc hr)) (moW_WM hM hm he c0 hmo htk)
              (fun h => (gP 4 (A + 1 + 3 + 20 * v + 6) 5 h).bind fun a_31 => (ldI a_31 (nI m) h).bind fun x_32 => (gP 4 (A + 1 + 3 + 20 * v + 6) 5 h).bind fun a_33 => (stI a_33 (nI m) (nI c) h).bind fun h => some (.inr x_32, h))
              (fun h => (gP 9 (A + 418) 0 h).bind fun a_41 => bd (fX9_member (nI v) (nI m) h) fun x_42 h => (stI a_41 (x_42 + nI 1) (nI c) h).bind fun h => some (mb w v m 1, h)) (fun J Z => ?_) (fun I1 J Z hb1 hd => ?_) (fun I1 J Z h1 => ?_) (fun I1 J Z h1 => ?_)
            · rw [C_moveQ h hv hm he, hmo, if_neg (by decide)]
              unfold fX8_moveMember_95
              rw [if_neg (nI_ne0 (by omega) (by omega)), htk, bIf, if_ff, h.jg.cv]
            · have hb1 := hb1 v hv
              have hL := hb1.L
              have cl' : ∀ c' p', c' < 10 → p' < 8 → cl (sW w (481 * v + 81 + 10 * m + 1) (nI c)) v c' p' = cl w v c' p' := fun c p hc hr => sW_cl hc hr
              refine ⟨up2 I1 (A + 1 + 3 + 20 * v + 6 + 5) m (nI c), ?_, fun y hy => up2_ne (by omega), RLib.of ((hb1.R.c.cg cl').fr (up2_ne (by omega)) (up2_ne (by omega)) (up2_ne (by omega)) (up2_ne (by omega))) ((hb1.R.s.cg hb1.C (hb1.C.cg cl') (fun c p hc hr => cl' c p hc (by omega))).fr (up2_ne (by omega)) (up2_ne (by omega))) (hb1.R.m.own1 hM hm)⟩
              show (gP 4 (A + 1 + 3 + 20 * v + 6) 5 (mm g I1 J Z)).bind _ = _
              rw [mem_p5 hL.mem, Option.bind_some, mem_l5 hL.mem m4, Option.bind_some, Option.bind_some, mem_s5 hL.mem m4, Option.bind_some, hb1.R.own m hm]
            · rw [M_moveC h1 hv hm he, hmo, if_neg (by decide), if_neg hcan]
              unfold fX9_moveMember_216
              rw [M_cv h1.G, M_ref0 h1.G, bd_some, bIf, if_ff, M_cv h1.G, ((h1.up3 (x := nI 0)).mb hv).its hm (by decide), bd_some, M_cv h1.G]
            · show ∃ I2, (gP 9 (A + 418) 0 (mm g I1 J Z)).bind _ = _ ∧ _
              unfold fX9_member
              rw [h1.G.p0, Option.bind_some, pk_mul, pk_mul, nI_add, nI_add, bd_some, nI_add, h1.G.st1 (by omega), Option.bind_some, up2_1, h1.row]
              exact ⟨_, rfl, fun y hy => up1_ne hy, up1_at⟩
  · refine Agr.rfs h (i := 0) (e := 1) ⟨by decide, rfl⟩ (fun J Z => ⟨I, none, ?_, FvC.refl⟩) (fun I1 J Z h1 => ⟨nI 0, up2 I1 (A + 418) 3 (nI 1), ?_, fvm_3, up3⟩)
    · unfold fX8_moveMember
      rw [h.jg.cv, q1, bd_some, xp_l]
    · unfold fX9_moveMember
      rw [M_cv h1.G, q2 I1 J Z h1, bd_some, bIf, if_ff]
      exact e22 I1 J Z h1
end Mv
