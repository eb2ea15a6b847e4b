/-! ===== setMember, moveMember ===== -/
section Sm2
variable {g : Gr} {A R a b : Nat} {I I' : Mem} {J : Nat → Nat → Int64} {Z : Option Nat} {w w' : Nat → Int32} {n k v c m q p : Nat} {P : Nat → Nat → Int32} {d : Nat → Int32} {x y z u : Int32}
/-- a cell of a member is set -/
theorem sW_mb (hp : p < 10) {k r : Nat} (hr : r < 10) : mb (sW w (481 * v + 81 + 10 * m + p) x) v k r = if k = m ∧ r = p then x else mb w v k r := by
  unfold mb
  by_cases e : k = m ∧ r = p
  · rw [if_pos e, e.1, e.2, sW_at]
  · rw [if_neg e, sW_ne (by omega)]
theorem sW_cl {c r : Nat} (hc : c < 10) (hr : r < 8) : cl (sW w (481 * v + 81 + 10 * m + p) x) v c r = cl w v c r := sW_ne (by omega)
theorem sW_mn : mn (sW w (481 * v + 81 + 10 * m + p) x) v = mn w v := sW_ne (by omega)
theorem sW_out (hm : m < 40) (hp : p < 10) {i : Nat} (h : i < 481 * v ∨ 481 * v + 481 ≤ i) : sW w (481 * v + 81 + 10 * m + p) x i = w i := sW_ne (by omega)
def seW (w : Nat → Int32) (v m p : Nat) (x : Int32) : Nat → Int32 := if mb (sW w (481 * v + 81 + 10 * m + p) x) v m 4 = nI 3 then sW w (481 * v + 81 + 10 * m + p) x else sW (sW w (481 * v + 81 + 10 * m + p) x) (481 * v + 81 + 10 * m + 9) (-2)
theorem seW_cl {c r : Nat} (hc : c < 10) (hr : r < 8) : cl (seW w v m p x) v c r = cl w v c r := by
  unfold seW
  split
  · exact sW_cl hc hr
  · rw [sW_cl hc hr, sW_cl hc hr]
theorem seW_mn : mn (seW w v m p x) v = mn w v := by
  unfold seW
  split
  · exact sW_mn
  · rw [sW_mn, sW_mn]
theorem seW_out (hm : m < 40) (hp : p < 10) {i : Nat} (h : i < 481 * v ∨ 481 * v + 481 ≤ i) : seW w v m p x i = w i := by
  unfold seW
  split
  · exact sW_out hm hp h
  · rw [sW_out hm (by decide) h, sW_out hm hp h]
theorem seW_old (hp : p < 10) {k r : Nat} (hr : r < 10) (hk : k ≠ m ∨ (r ≠ p ∧ r ≠ 9)) : mb (seW w v m p x) v k r = mb w v k r := by
  unfold seW
  split
  · rw [sW_mb hp hr, if_neg (by omega)]
  · rw [sW_mb (by decide) hr, if_neg (by omega), sW_mb hp hr, if_neg (by omega)]
theorem seW_p (hp : p < 9) : mb (seW w v m p x) v m p = x := by
  unfold seW
  split
  · rw [sW_mb (by omega) (by omega), if_pos ⟨rfl, rfl⟩]
  · rw [sW_mb (by decide) (by omega), if_neg (by omega), sW_mb (by omega) (by omega), if_pos ⟨rfl, rfl⟩]
theorem seW_9 (hp : p < 9) : mb (seW w v m p x) v m 9 = if mb (seW w v m p x) v m 4 = nI 3 then mb w v m 9 else -2 := by
  by_cases e : mb (sW w (481 * v + 81 + 10 * m + p) x) v m 4 = nI 3
  · have q : seW w v m p x = sW w (481 * v + 81 + 10 * m + p) x := if_pos e
    rw [q, if_pos e, sW_mb (by omega) (by decide), if_neg (by omega)]
  · have q : seW w v m p x = sW (sW w (481 * v + 81 + 10 * m + p) x) (481 * v + 81 + 10 * m + 9) (-2) := if_neg e
    have e4 : mb (sW (sW w (481 * v + 81 + 10 * m + p) x) (481 * v + 81 + 10 * m + 9) (-2)) v m 4 = mb (sW w (481 * v + 81 + 10 * m + p) x) v m 4 := by rw [sW_mb (p := 9) (by decide) (by decide), if_neg (by omega)]
    rw [q, e4, if_neg e, sW_mb (p := 9) (by decide) (by decide), if_pos ⟨rfl, rfl⟩]
theorem seW_99 : mb (seW w v m 9 x) v m 9 = if mb w v m 4 = nI 3 then x else -2 := by
  have e4 : mb (sW w (481 * v + 81 + 10 * m + 9) x) v m 4 = mb w v m 4 := by rw [sW_mb (by decide) (by decide), if_neg (by omega)]
  unfold seW
  rw [e4]
  split
  · rw [sW_mb (by decide) (by decide), if_pos ⟨rfl, rfl⟩]
  · rw [sW_mb (by decide) (by decide), if_pos ⟨rfl, rfl⟩]
/-- what may be set -/
def maS (w : Nat → Int32) (v m : Nat) (u x : Int32) : Bool :=
  if u = nI 0 then accB x && (if mb w v m 0 = nI 1 then alM w v (ow w v m) x (mb w v m 4) else alF w v (ow w v m) x (mb w v m 4))
  else if u = nI 1 then (if mb w v m 0 = nI 1 then alM w v (ow w v m) (mb w v m 3) x else alF w v (ow w v m) (mb w v m 3) x)
  else if u = nI 2 then (!decide (mb w v m 0 = nI 1) && (decide (x = -2) || (decide (mb w v m 4 = nI 3) && decide (mb w v m 5 = -1) && decide (-99 ≤ x ∧ x ≤ nI 99))))
  else false
theorem acc_C (x : Int32) (hh : AH) : fX8_isAccess x hh = some (bI (accB x), hh) := by
  unfold fX8_isAccess accB
  by_cases q1 : x < 0
  · rw [if_pos q1, decide_eq_false (fun q => (Int32.not_lt.mpr q.1) q1)]; exact rz_n0 _
  · rw [if_neg q1]
    by_cases q2 : nI 3 < x
    · rw [if_pos q2, decide_eq_false (fun q => (Int32.not_lt.mpr q.2) q2)]; exact rz_n0 _
    · rw [if_neg q2, decide_eq_true ⟨Int32.not_lt.mp q1, Int32.not_lt.mp q2⟩]; exact rz_n1 _
theorem con_C (x : Int32) (hh : AH) : fX8_isConstantValue x hh = some (bI (decide (-99 ≤ x ∧ x ≤ nI 99)), hh) := by
  unfold fX8_isConstantValue
  by_cases q1 : x < -99
  · rw [if_pos q1, decide_eq_false (fun q => (Int32.not_lt.mpr q.1) q1)]; exact rz_n0 _
  · rw [if_neg q1]
    by_cases q2 : nI 99 < x
    · rw [if_pos q2, decide_eq_false (fun q => (Int32.not_lt.mpr q.2) q2)]; exact rz_n0 _
    · rw [if_neg q2, decide_eq_true ⟨Int32.not_lt.mp q1, Int32.not_lt.mp q2⟩]; exact rz_n1 _
theorem sf_bits : ∀ k, k < 4 → ((nI k &&& nI 1 ≠ 0 ∧ nI k &&& nI 2 ≠ 0) ↔ nI k = nI 3) := by decide +kernel
theorem rzb {b : Bool} {h : AH} : (if b = true then rz (nI 1) (nI 1) h else rz (nI 0) (nI 0) h) = some (bI b, h) := by
  cases b
  · exact rz_n0 h
  · exact rz_n1 h
/-- static and final, as the class asks it, where the flags are some k below 4 *)  -/
theorem C_sf (hL : LibG g a) (hm : m < 40) {kf : Nat} (hkf : kf < 4 ∨ kf = 4) (e : I (a + 6 + 2) m = nI kf) : fX4_isStaticFinal (a + 6) (nI m) (mm g I J Z) = some (bI (decide (nI kf = nI 3)), mm g I J Z) := by
  have key : (nI kf &&& nI 1 ≠ 0 ∧ nI kf &&& nI 2 ≠ 0) ↔ nI kf = nI 3 := by
    rcases hkf with h | rfl
    · exact sf_bits kf h
    · decide +kernel
  unfold fX4_isStaticFinal
  rw [mem_p2 hL.mem, Option.bind_some, mem_l2 hL.mem hm, Option.bind_some, e]
  by_cases q1 : nI kf &&& nI 1 = 0
  · rw [if_pos q1, decide_eq_false (fun q => (key.mpr q).1 q1)]; exact rz_n0 _
  · rw [if_neg q1, Option.bind_some, mem_l2 hL.mem hm, Option.bind_some, e]
    by_cases q2 : nI kf &&& nI 2 = 0
    · rw [if_pos q2, decide_eq_false (fun q => (key.mpr q).2 q2)]; exact rz_n0 _
    · rw [if_neg q2, decide_eq_true (key.mp ⟨q1, q2⟩)]; exact rz_n1 _
theorem fld_4 (hM : WM w v) (hm : m < nmb w v) (h0 : mb w v m 0 = nI 0) : ∃ k, k < 4 ∧ mb w v m 4 = nI k := by
  obtain ⟨k, hk, e⟩ := hM.flg m hm
  refine ⟨k, ?_, e⟩
  have b2 := (hM.fld m hm h0).1
  rw [e] at b2
  exact (by decide +kernel : ∀ k, k < 8 → bt (nI k) 2 = false → k < 4) k hk b2
theorem C_isMV (hb : CB g I a w v) (hm : m < nmb w v) : fX8_isMemberValue a (nI m) u x (mm g I J Z) = some (bI (maS w v m u x), mm g I J Z) := by
  have hM := hb.M
  have hL := hb.L
  have m4 := hM.m40 hm
  obtain ⟨o1, o2, o3, o4⟩ := hM.own m hm
  unfold fX8_isMemberValue
  rw [lib_p10 hL, Option.bind_some, mem_p5 hL.mem, Option.bind_some, mem_l5 hL.mem m4, Option.bind_some, hb.R.own m hm, o3, mem_p4 hL.mem, Option.bind_some, mem_l4 hL.mem m4, Option.bind_some, hb.R.knd m hm]
  unfold maS
  rcases hM.knd m hm with e0 | e0
  · have n1 : ¬ mb w v m 0 = nI 1 := by rw [e0]; decide
    rw [if_pos (show mb w v m 0 = 0 from e0), if_neg n1, if_neg n1, decide_eq_false n1, Bool.not_false, Bool.true_and]
    unfold fX8_isMemberValue_30
    rw [mem_p1 hL.mem, Option.bind_some, mem_l1 hL.mem m4, Option.bind_some, mem_p2 hL.mem, Option.bind_some, mem_l2 hL.mem m4, Option.bind_some, hb.R.acc m hm, hb.R.flg m hm]
    by_cases u0 : u = nI 0
    · rw [if_pos u0, if_pos u0, acc_C, bd_some, bIf]
      cases accB x
      · rw [if_ff, Bool.false_and]; exact rz_n0 _
      · rw [if_tt, Bool.true_and, if_neg (by decide), lib_cv hL, C_alF hb o4, bd_some, bIf]; exact rzb
    · rw [if_neg u0, if_neg u0]
      by_cases u1 : u = nI 1
      · rw [if_pos u1, if_pos u1, if_neg (by decide), lib_cv hL, C_alF hb o4, bd_some, rz_bI]
      · rw [if_neg u1, if_neg u1]
        by_cases u2 : u = nI 2
        · rw [if_pos u2, if_pos u2, if_neg (by decide)]
          by_cases x2 : x = -2
          · rw [if_pos x2, decide_eq_true x2, Bool.true_or]; exact rz_n1 _
          · obtain ⟨kf, hkf, ef⟩ := fld_4 hM hm e0
            rw [if_neg x2, decide_eq_false x2, Bool.false_or, con_C, bd_some, bIf, Bool.and_comm]
            cases decide (-99 ≤ x ∧ x ≤ nI 99)
            · rw [if_ff, Bool.false_and]; exact rz_n0 _
            · rw [if_tt, Bool.true_and, mem_cv hL.mem, C_sf hL m4 (Or.inl hkf) ((hb.R.flg m hm).trans ef), bd_some, bIf, ef]
              cases decide (nI kf = nI 3)
              · rw [if_ff, Bool.false_and]; exact rz_n0 _
              · rw [if_tt, Bool.true_and, mem_p7 hL.mem, Option.bind_some, mem_l7 hL.mem m4, Option.bind_some, hb.R.typ m hm]
                by_cases t1 : mb w v m 5 = -1
                · rw [if_pos t1, decide_eq_true t1]; exact rz_n1 _
                · rw [if_neg t1, decide_eq_false t1]; exact rz_n0 _
        · rw [if_neg u2, if_neg u2]; exact rz_n0 _
  · have n0 : ¬ mb w v m 0 = 0 := by rw [e0]; decide
    rw [if_neg n0, if_pos e0, if_pos e0, decide_eq_true e0, Bool.not_true, Bool.false_and]
    unfold fX8_isMemberValue_30
    rw [mem_p1 hL.mem, Option.bind_some, mem_l1 hL.mem m4, Option.bind_some, mem_p2 hL.mem, Option.bind_some, mem_l2 hL.mem m4, Option.bind_some, hb.R.acc m hm, hb.R.flg m hm]
    by_cases u0 : u = nI 0
    · rw [if_pos u0, if_pos u0, acc_C, bd_some, bIf]
      cases accB x
      · rw [if_ff, Bool.false_and]; exact rz_n0 _
      · rw [if_tt, Bool.true_and, if_pos (by decide), lib_cv hL, C_alM hb o4, bd_some, bIf]; exact rzb
    · rw [if_neg u0, if_neg u0]
      by_cases u1 : u = nI 1
      · rw [if_pos u1, if_pos u1, if_pos (by decide), lib_cv hL, C_alM hb o4, bd_some, rz_bI]
      · rw [if_neg u1, if_neg u1]
        by_cases u2 : u = nI 2
        · rw [if_pos u2, if_pos u2, if_pos (by decide)]; exact rz_n0 _
        · rw [if_neg u2, if_neg u2]; exact rz_n0 _
theorem accB_k : ∀ k, k < 4 → accB (nI k) = true := by decide +kernel
theorem acc_pos : ∀ k, k < 4 → (0 < nI k ↔ nI k ≠ 0) := by decide +kernel
theorem M_maySet (h : Mb g R I w v) (hm : m < nmb w v) : fX9_maySet R (nI v) (nI m) u x (mm g I J Z) = some (bI (maS w v m u x), mm g I J Z) := by
  have hM := h.M
  obtain ⟨o1, o2, o3, o4⟩ := hM.own m hm
  have hacc : accB (mb w v m 3) = true := by obtain ⟨k, hk, e⟩ := hM.acc m hm; rw [e]; exact accB_k k hk
  unfold fX9_maySet maS
  rw [h.cv, h.its hm (by decide), bd_some, o3]
  by_cases u0 : u = nI 0
  · rw [if_pos u0, if_pos u0, M_within, bd_some, show decide (nI 0 ≤ x ∧ x ≤ nI 3) = accB x from rfl, bIf]
    cases ha : accB x
    · rw [if_ff, Bool.false_and]; exact rz_n0 _
    · obtain ⟨kx, hkx, rfl⟩ := accB_4 ha
      rw [if_tt, Bool.true_and, h.cv, h.itf o2, bd_some, bIf]
      have e62 : fX9_maySet_62 R (nI v) (nI m) (nI kx) (mm g I J Z) = some (bI (decide (nI kx ≠ 0) || !abB w v m), mm g I J Z) := by
        unfold fX9_maySet_62
        by_cases p0 : 0 < nI kx
        · rw [if_pos p0, decide_eq_true ((acc_pos kx hkx).mp p0), Bool.true_or]; exact rz_n1 _
        · rw [if_neg p0, decide_eq_false (fun q => p0 ((acc_pos kx hkx).mpr q)), Bool.false_or, h.cv, h.abs hm, bd_some, bIf]
          cases abB w v m
          · exact rz_n1 _
          · exact rz_n0 _
      have main : (if mb w v m 0 = nI 1 then alM w v (ow w v m) (nI kx) (mb w v m 4) else alF w v (ow w v m) (nI kx) (mb w v m 4)) = ((!itB w v (ow w v m) || decide (nI kx = nI 3)) && (decide (nI kx ≠ 0) || !abB w v m)) := by
        have hitf := hM.itf m hm
        have habs := hM.abs m hm
        rcases hM.knd m hm with e0 | e0
        · rw [if_neg (by rw [e0]; decide)]
          obtain ⟨kf, hkf, ef⟩ := fld_4 hM hm e0
          have b2 : abB w v m = false := (hM.fld m hm e0).1
          unfold alF
          rw [b2, ef, decide_eq_false (nI_pos (by omega)), decide_eq_true (nI_le (a := kf) (b := 3) (by omega) (by omega)), Bool.not_false, Bool.or_true, Bool.and_true, Bool.true_and]
          cases hi : itB w v (ow w v m)
          · rfl
          · have := (hitf hi).2.2 e0
            rw [ef] at this
            rw [decide_eq_true this, Bool.and_true, Bool.and_true]
        · rw [if_pos e0]
          obtain ⟨kf, hkf, ef⟩ := hM.flg m hm
          unfold alM
          rw [show bt (mb w v m 4) 2 = abB w v m from rfl, show decide (nI kx ≠ 0) = !decide (nI kx = 0) from by simp]
          have r1 : (!decide (mb w v m 4 < 0) && decide (mb w v m 4 ≤ nI 7)) = true := by rw [ef, decide_eq_false (nI_pos (by omega)), decide_eq_true (nI_le (by omega) (by omega))]; rfl
          rw [r1, Bool.true_and, Bool.and_comm]
          congr 1
          · cases hi : itB w v (ow w v m)
            · rfl
            · rw [(hitf hi).2.1 e0, Bool.not_false, Bool.and_true]
          · cases hb : abB w v m
            · rw [Bool.not_false, Bool.true_or, Bool.or_true]
            · obtain ⟨q1, q2, q3⟩ := habs hb
              rw [decide_eq_true q1, decide_eq_true q3, Bool.true_and, Bool.and_true, Bool.not_true, Bool.false_or, Bool.or_false]
      rw [main]
      cases hi : itB w v (ow w v m)
      · rw [if_ff, e62, Bool.not_false, Bool.true_or, Bool.true_and]
      · rw [if_tt, Bool.not_true, Bool.false_or]
        by_cases x3 : nI kx = nI 3
        · rw [if_pos x3, e62, decide_eq_true x3, Bool.true_and]
        · rw [if_neg x3, decide_eq_false x3, Bool.false_and]; exact rz_n0 _
  · rw [if_neg u0, if_neg u0]
    by_cases u1 : u = nI 1
    · rw [if_pos u1, if_pos u1, h.cv, h.met hm, bd_some, bIf]
      by_cases e0 : mb w v m 0 = nI 1
      · rw [decide_eq_true e0, if_tt, if_pos e0, h.cv, h.its hm (by decide), bd_some, h.cv, M_mayM h o2, bd_some, hacc, Bool.true_and, rz_bI]
      · rw [decide_eq_false e0, if_ff, if_neg e0, h.cv, h.its hm (by decide), bd_some, h.cv, M_mayF h o2, bd_some, hacc, Bool.true_and, rz_bI]
    · rw [if_neg u1, if_neg u1]
      by_cases u2 : u = nI 2
      · rw [if_pos u2, if_pos u2, h.cv, h.met hm, bd_some, bIf]
        cases decide (mb w v m 0 = nI 1)
        · rw [if_ff, Bool.not_false, Bool.true_and]
          by_cases x2 : x = -2
          · rw [if_pos x2, decide_eq_true x2, Bool.true_or]; exact rz_n1 _
          · rw [if_neg x2, decide_eq_false x2, Bool.false_or, h.cv, h.its hm (by decide), bd_some]
            by_cases f3 : mb w v m 4 = nI 3
            · rw [if_pos f3, decide_eq_true f3, Bool.true_and, h.cv, h.its hm (by decide), bd_some]
              by_cases t1 : mb w v m 5 = -1
              · rw [if_pos t1, decide_eq_true t1, Bool.true_and, M_within, bd_some, bIf]; exact rzb
              · rw [if_neg t1, decide_eq_false t1, Bool.false_and]; exact rz_n0 _
            · rw [if_neg f3, decide_eq_false f3, Bool.false_and, Bool.false_and]; exact rz_n0 _
        · rw [if_tt, Bool.not_true, Bool.false_and]; exact rz_n0 _
      · rw [if_neg u2, if_neg u2]; exact rz_n0 _
/-- only the places of access, flags and constant of one member change -/
theorem RLm.set3 (h : RLm I a w v) (hM : WM w v) (hm : m < nmb w v) (hmn : mn w' v = mn w v) (ho : ∀ k r, k < 40 → r < 10 → (k ≠ m ∨ (r ≠ 3 ∧ r ≠ 4 ∧ r ≠ 9)) → mb w' v k r = mb w v k r) (h0 : I' (a + 6) 0 = I (a + 6) 0) (hI : ∀ j i, 1 ≤ j → j ≤ 12 → (i ≠ m ∨ 3 < j) → I' (a + 6 + j) i = I (a + 6 + j) i) (h1 : I' (a + 6 + 1) m = mb w' v m 3) (h2 : I' (a + 6 + 2) m = mb w' v m 4) (h3 : I' (a + 6 + 3) m = mb w' v m 9) : RLm I' a w' v := by
  have hn := hM.n40
  refine ⟨by rw [h0, hmn]; exact h.1, fun j j1 j2 i hi => ?_⟩
  rw [nmb_cg hmn] at hi
  by_cases e : i = m
  · subst e
    rcases (by omega : j = 1 ∨ j = 2 ∨ j = 3 ∨ j = 4 ∨ j = 5 ∨ j = 6 ∨ j = 7 ∨ j = 8 ∨ j = 9 ∨ j = 10 ∨ j = 11 ∨ j = 12) with rfl | rfl | rfl | rfl | rfl | rfl | rfl | rfl | rfl | rfl | rfl | rfl
    · exact h1
    · exact h2
    · exact h3
    · rw [hI 4 i (by decide) (by decide) (Or.inr (by decide)), h.2 4 (by decide) (by decide) i hi]
      have o := fun r hr q => ho i r (by omega) hr (Or.inr q)
      rw [mV_4, mV_4, o 0 (by decide) (by decide)]
    · rw [hI 5 i (by decide) (by decide) (Or.inr (by decide)), h.2 5 (by decide) (by decide) i hi]
      have o := fun r hr q => ho i r (by omega) hr (Or.inr q)
      rw [mV_5, mV_5, o 1 (by decide) (by decide)]
    · rw [hI 6 i (by decide) (by decide) (Or.inr (by decide)), h.2 6 (by decide) (by decide) i hi]
      have o := fun r hr q => ho i r (by omega) hr (Or.inr q)
      rw [mV_6, mV_6, o 2 (by decide) (by decide)]
    · rw [hI 7 i (by decide) (by decide) (Or.inr (by decide)), h.2 7 (by decide) (by decide) i hi]
      have o := fun r hr q => ho i r (by omega) hr (Or.inr q)
      rw [mV_7, mV_7, o 5 (by decide) (by decide)]
    · rw [hI 8 i (by decide) (by decide) (Or.inr (by decide)), h.2 8 (by decide) (by decide) i hi]
      have o := fun r hr q => ho i r (by omega) hr (Or.inr q)
      rw [mV_8, mV_8, o 0 (by decide) (by decide), o 6 (by decide) (by decide)]
    · rw [hI 9 i (by decide) (by decide) (Or.inr (by decide)), h.2 9 (by decide) (by decide) i hi]
      have o := fun r hr q => ho i r (by omega) hr (Or.inr q)
      rw [mV_9, mV_9, o 7 (by decide) (by decide)]
    · rw [hI 10 i (by decide) (by decide) (Or.inr (by decide)), h.2 10 (by decide) (by decide) i hi]
      have o := fun r hr q => ho i r (by omega) hr (Or.inr q)
      rw [mV_10, mV_10, o 8 (by decide) (by decide)]
    · rw [hI 11 i (by decide) (by decide) (Or.inr (by decide)), h.2 11 (by decide) (by decide) i hi]
      have o := fun r hr q => ho i r (by omega) hr (Or.inr q)
      rw [mV_11, mV_11, o 0 (by decide) (by decide), o 2 (by decide) (by decide), o 7 (by decide) (by decide), o 8 (by decide) (by decide)]
    · rw [hI 12 i (by decide) (by decide) (Or.inr (by decide)), h.2 12 (by decide) (by decide) i hi]
      have o := fun r hr q => ho i r (by omega) hr (Or.inr q)
      rw [mV_12, mV_12, o 0 (by decide) (by decide), o 2 (by decide) (by decide), o 7 (by decide) (by decide), o 8 (by decide) (by decide), o 5 (by decide) (by decide)]
  · rw [hI j i j1 j2 (Or.inl e), h.2 j j1 j2 i hi]
    exact (mV_cg (fun r hr => ho i r (by omega) hr (Or.inl e)) j).symm

def pSt (k : Nat) : Nat := if k = 0 then 3 else if k = 1 then 4 else 9
theorem maS_u (h : maS w v m u x = true) : ∃ k, k < 3 ∧ u = nI k := by
  unfold maS at h
  by_cases u0 : u = nI 0
  · exact ⟨0, by decide, u0⟩
  · rw [if_neg u0] at h
    by_cases u1 : u = nI 1
    · exact ⟨1, by decide, u1⟩
    · rw [if_neg u1] at h
      by_cases u2 : u = nI 2
      · exact ⟨2, by decide, u2⟩
      · rw [if_neg u2] at h; cases h
theorem flg3 (hM : WM w v) (hm : m < nmb w v) (h : mb w v m 4 ≠ nI 3) : mb w v m 9 = -2 := by
  by_cases e : mb w v m 9 = -2
  · exact e
  · exact absurd (hM.val m hm e).1 h
theorem seW_k0 (hM : WM w v) (hm : m < nmb w v) : mb (seW w v m 3 x) v m 9 = mb w v m 9 := by
  rw [seW_9 (by decide), seW_old (by decide) (by decide) (Or.inr (by decide))]
  by_cases e : mb w v m 4 = nI 3
  · rw [if_pos e]
  · rw [if_neg e, flg3 hM hm e]
theorem seW_WM (hM : WM w v) (hm : m < nmb w v) (hk : k < 3) (h : maS w v m (nI k) x = true) : WM (seW w v m (pSt k) x) v := by
  have hn := hM.n40
  obtain ⟨o1, o2, o3, o4⟩ := hM.own m hm
  have hp : pSt k < 10 := by unfold pSt; split; decide; split; decide; decide
  have hp2 : pSt k = 3 ∨ pSt k = 4 ∨ pSt k = 9 := by unfold pSt; split; exact Or.inl rfl; split; exact Or.inr (Or.inl rfl); exact Or.inr (Or.inr rfl)
  have same : ∀ r, r < 9 → r ≠ 3 → r ≠ 4 → mb (seW w v m (pSt k) x) v m r = mb w v m r := fun r h1 h2 h3 => seW_old hp (by omega) (Or.inr (by omega))
  have fo : ow (seW w v m (pSt k) x) v m = ow w v m := ow_cg (same 1 (by decide) (by decide) (by decide))
  refine hM.put (n := nmb w v) (m := m) hn (seW_mn.trans hM.n) (fun k hk _ => hk) (fun k r hk hne hr => seW_old hp hr (Or.inl hne)) (fun c p hc hr => seW_cl hc hr) ?_ (fun k hk hne e => ?_)
  · obtain ⟨a1, a2, a3, a4, a5, a6, a7, a8, a9, a10, a11⟩ := hM.w1 hm
    unfold W1
    rw [fo, same 0 (by decide) (by decide) (by decide), same 1 (by decide) (by decide) (by decide), same 2 (by decide) (by decide) (by decide), same 5 (by decide) (by decide) (by decide), same 6 (by decide) (by decide) (by decide), same 7 (by decide) (by decide) (by decide), same 8 (by decide) (by decide) (by decide), exC_cg (fun c hc => seW_cl hc (by decide)), seW_cl o2 (by decide), show itB (seW w v m (pSt k) x) v (ow w v m) = itB w v (ow w v m) from by unfold itB; rw [seW_cl o2 (by decide)]]
    unfold maS at h
    rcases (by omega : k = 0 ∨ k = 1 ∨ k = 2) with rfl | rfl | rfl
    · rw [if_pos rfl] at h
      obtain ⟨hacc, hal⟩ := Bool.and_eq_true_iff.mp h
      rw [show pSt 0 = 3 from rfl, seW_p (by decide), seW_k0 hM hm, seW_old (by decide) (by decide) (Or.inr (by decide))]
      refine ⟨a1, a2, a3, accB_4 hacc, a5, a6, a7, a8, fun e => ?_, fun e => ?_, a11⟩
      · rcases a1 with e0 | e0
        · rw [(a8 e0).1] at e; cases e
        · rw [if_pos e0] at hal
          exact (alM_p hal).2.1 e
      · rcases a1 with e0 | e0
        · rw [if_neg (by rw [e0]; decide)] at hal
          exact ⟨((alF_p hal).2 e).1, fun q => by rw [e0] at q; exact absurd q (by decide), fun _ => ((alF_p hal).2 e).2⟩
        · rw [if_pos e0] at hal
          exact ⟨((alM_p hal).2.2 e).1, fun _ => ((alM_p hal).2.2 e).2, fun q => by rw [e0] at q; exact absurd q (by decide)⟩
    · rw [if_neg (by decide), if_pos rfl] at h
      rw [show pSt 1 = 4 from rfl, seW_9 (by decide), seW_p (by decide), seW_old (by decide) (r := 3) (by decide) (Or.inr (by decide))]
      rcases a1 with e0 | e0
      · rw [if_neg (by rw [e0]; decide)] at h
        obtain ⟨⟨kf, hkf, rfl⟩, af⟩ := alF_p h
        refine ⟨Or.inl e0, a2, a3, a4, ⟨kf, by omega, rfl⟩, a6, a7, fun _ => ⟨bit2_4 kf hkf, (a8 e0).2⟩, fun e => (by rw [bit2_4 kf hkf] at e; cases e), fun e => ⟨(af e).1, fun q => (by rw [e0] at q; exact absurd q (by decide)), fun _ => (af e).2⟩, fun e => ?_⟩
        by_cases q : nI kf = nI 3
        · exact ⟨q, e0⟩
        · rw [if_neg q] at e; exact absurd rfl e
      · rw [if_pos e0] at h
        obtain ⟨⟨kf, hkf, rfl⟩, b2, b3⟩ := alM_p h
        refine ⟨Or.inr e0, a2, a3, a4, ⟨kf, hkf, rfl⟩, a6, a7, fun q => (by rw [e0] at q; exact absurd q (by decide)), b2, fun e => ⟨(b3 e).1, fun _ => (b3 e).2, fun q => (by rw [e0] at q; exact absurd q (by decide))⟩, fun e => ?_⟩
        by_cases q : nI kf = nI 3
        · rw [if_pos q] at e
          have := (a11 e).2
          rw [e0] at this
          exact absurd this (by decide)
        · rw [if_neg q] at e; exact absurd rfl e
    · rw [if_neg (by decide), if_neg (by decide), if_pos rfl] at h
      have hk0 : mb w v m 0 = nI 0 := by
        rcases a1 with e0 | e0
        · exact e0
        · rw [decide_eq_true e0] at h; cases h
      rw [show pSt 2 = 9 from rfl, seW_99, seW_old (by decide) (r := 3) (by decide) (Or.inr (by decide)), seW_old (by decide) (r := 4) (by decide) (Or.inr (by decide))]
      refine ⟨a1, a2, a3, a4, a5, a6, a7, a8, a9, a10, fun e => ?_⟩
      by_cases q : mb w v m 4 = nI 3
      · exact ⟨q, hk0⟩
      · rw [if_neg q] at e; exact absurd rfl e
  · have e2 : kyE w v m w v k := by
      unfold kyE at e ⊢
      rw [same 0 (by decide) (by decide) (by decide), same 1 (by decide) (by decide) (by decide), same 2 (by decide) (by decide) (by decide), same 6 (by decide) (by decide) (by decide), same 7 (by decide) (by decide) (by decide), same 8 (by decide) (by decide) (by decide)] at e
      exact e
    exact hne (hM.ky hm hk e2).symm
/-- the class's putValue -/
theorem C_put4 (hb : CB g I a w v) (hm : m < nmb w v) (hk : k < 3) (h : maS w v m (nI k) x = true) : ∃ I', fX4_putValue (a + 6) (nI m) (nI k) x (mm g I J Z) = some ((), mm g I' J Z) ∧ (∀ y, y < a + 7 ∨ a + 10 ≤ y → I' y = I y) ∧ RLm I' a (seW w v m (pSt k) x) v := by
  have hM := hb.M
  have hL := hb.L
  have m4 := hM.m40 hm
  have hR := hb.R
  have n12 : a + 6 + 2 ≠ a + 6 + 1 := by omega
  have ho : ∀ k' r, k' < 40 → r < 10 → (k' ≠ m ∨ (r ≠ 3 ∧ r ≠ 4 ∧ r ≠ 9)) → mb (seW w v m (pSt k) x) v k' r = mb w v k' r := fun k' r _ hr q => seW_old (by unfold pSt; split; decide; split; decide; decide) hr (q.imp id (fun q => ⟨by unfold pSt; split; exact q.1; split; exact q.2.1; exact q.2.2, q.2.2⟩))
  unfold fX4_putValue
  rcases (by omega : k = 0 ∨ k = 1 ∨ k = 2) with rfl | rfl | rfl
  · refine ⟨up2 I (a + 6 + 1) m x, ?_, fun y hy => up2_ne (by omega), hR.m.set3 hM hm seW_mn ho (by rw [up2_ne (by omega)]) (fun j i j1 j2 q => ?_) ?_ ?_ ?_⟩
    · rw [if_pos rfl, mem_p1 hL.mem, Option.bind_some, mem_s1 hL.mem m4, Option.bind_some]
    · by_cases e : j = 1
      · rw [e, up2_at, if_neg (by omega)]
      · rw [up2_ne (by omega)]
    · rw [up2_at, if_pos rfl]; exact (seW_p (by decide)).symm
    · rw [up2_ne (by omega), hR.flg m hm]; exact (seW_old (by decide) (by decide) (Or.inr (by decide))).symm
    · rw [up2_ne (by omega), hR.con m hm]; exact (seW_k0 hM hm).symm
  · unfold maS at h
    rw [if_neg (by decide), if_pos rfl] at h
    obtain ⟨kf, hkf, rfl⟩ : ∃ kf, (kf < 4 ∨ kf = 4) ∧ x = nI kf := by
      rcases hM.knd m hm with e0 | e0
      · rw [if_neg (by rw [e0]; decide)] at h
        obtain ⟨⟨kf, hkf, e⟩, -⟩ := alF_p h
        exact ⟨kf, Or.inl hkf, e⟩
      · rw [if_pos e0] at h
        obtain ⟨⟨kf, hkf, e⟩, b2, -⟩ := alM_p h
        by_cases q : kf < 4
        · exact ⟨kf, Or.inl q, e⟩
        · have : bt x 2 = true := by rw [e]; exact (by decide +kernel : ∀ k, k < 8 → ¬ k < 4 → bt (nI k) 2 = true) kf hkf q
          exact ⟨4, Or.inr rfl, (b2 this).1⟩
    have hsf := C_sf (I := up2 I (a + 6 + 2) m (nI kf)) (J := J) (Z := Z) hL m4 hkf (by rw [up2_at, if_pos rfl])
    rw [if_neg (by decide), if_pos rfl, mem_p2 hL.mem, Option.bind_some, mem_s2 hL.mem m4, Option.bind_some, mem_cv hL.mem, hsf, bd_some, bIf]
    by_cases q3 : nI kf = nI 3
    · rw [decide_eq_true q3, if_tt]
      refine ⟨_, rfl, fun y hy => up2_ne (by omega), hR.m.set3 hM hm seW_mn ho (by rw [up2_ne (by omega)]) (fun j i j1 j2 q => ?_) ?_ ?_ ?_⟩
      · by_cases e : j = 2
        · rw [e, up2_at, if_neg (by omega)]
        · rw [up2_ne (by omega)]
      · rw [up2_ne (by omega), hR.acc m hm]; exact (seW_old (by decide) (by decide) (Or.inr (by decide))).symm
      · rw [up2_at, if_pos rfl]; exact (seW_p (by decide)).symm
      · rw [up2_ne (by omega), hR.con m hm]
        show _ = mb (seW w v m 4 (nI kf)) v m 9
        rw [seW_9 (by decide), seW_p (by decide), if_pos q3]
    · rw [decide_eq_false q3, if_ff, mem_p3 hL.mem, Option.bind_some, mem_s3 hL.mem m4, Option.bind_some]
      refine ⟨_, rfl, fun y hy => by rw [up2_ne (by omega), up2_ne (by omega)], hR.m.set3 hM hm seW_mn ho (by rw [up2_ne (by omega), up2_ne (by omega)]) (fun j i j1 j2 q => ?_) ?_ ?_ ?_⟩
      · by_cases e : j = 2
        · rw [e, up2_ne (by omega), up2_at, if_neg (by omega)]
        · by_cases e3 : j = 3
          · rw [e3, up2_at, if_neg (by omega), up2_ne (by omega)]
          · rw [up2_ne (by omega), up2_ne (by omega)]
      · rw [up2_ne (by omega), up2_ne (by omega), hR.acc m hm]; exact (seW_old (by decide) (by decide) (Or.inr (by decide))).symm
      · rw [up2_ne (by omega), up2_at, if_pos rfl]; exact (seW_p (by decide)).symm
      · rw [up2_at, if_pos rfl]
        show _ = mb (seW w v m 4 (nI kf)) v m 9
        rw [seW_9 (by decide), seW_p (by decide), if_neg q3]
  · unfold maS at h
    rw [if_neg (by decide), if_neg (by decide), if_pos rfl] at h
    refine ⟨up2 I (a + 6 + 3) m x, ?_, fun y hy => up2_ne (by omega), hR.m.set3 hM hm seW_mn ho (by rw [up2_ne (by omega)]) (fun j i j1 j2 q => ?_) ?_ ?_ ?_⟩
    · rw [if_neg (by decide), if_neg (by decide), mem_p3 hL.mem, Option.bind_some, mem_s3 hL.mem m4, Option.bind_some]
    · by_cases e : j = 3
      · rw [e, up2_at, if_neg (by omega)]
      · rw [up2_ne (by omega)]
    · rw [up2_ne (by omega), hR.acc m hm]; exact (seW_old (by decide) (by decide) (Or.inr (by decide))).symm
    · rw [up2_ne (by omega), hR.flg m hm]; exact (seW_old (by decide) (by decide) (Or.inr (by decide))).symm
    · rw [up2_at, if_pos rfl]
      show _ = mb (seW w v m 9 x) v m 9
      rw [seW_99]
      by_cases q : mb w v m 4 = nI 3
      · rw [if_pos q]
      · rw [if_neg q]
        rw [decide_eq_false q, Bool.false_and, Bool.false_and, Bool.or_false] at h
        exact of_decide_eq_true (Bool.and_eq_true_iff.mp h).2

theorem Q_setMember (h : Rel g A I w n P d) {u x : Int32} : Agr g A I (fX8_setMember A y z u x) (fX9_setMember (A + 418) y z u x) [1, 2] := by
  rcases mem_cases h y z with ⟨v, m, hv, hm, rfl, rfl⟩ | ⟨q1, q2⟩
  · have hb := h.cb hv
    have hM := hb.M
    have m4 := hM.m40 hm
    cases hs : maS w v m u x
    · refine Agr.rfs h (i := 1) (e := 2) ⟨by decide, rfl⟩ (fun J Z => ⟨I, none, ?_, FvC.refl⟩) (fun I1 J Z h1 => ⟨nI 0, up2 I1 (A + 418) 3 (nI 2), ?_, fvm_3, up3⟩)
      · unfold fX8_setMember
        rw [h.jg.cv, C_libMem h hv hm, bd_some, xp_r, C_isMV hb hm, bd_some, hs, bIf, if_ff, thr_m]
      · unfold fX9_setMember fX9_setMember_35
        rw [M_cv h1.G, M_isMem h1 hv hm, bd_some, bIf, if_tt, M_cv h1.G, M_maySet (h1.mb hv) hm, bd_some, hs, bIf, if_ff, M_cv h1.G, rf2 h1.G, bd_some, bIf, if_tt]
    · obtain ⟨k, hk, rfl⟩ := maS_u hs
      have hp : pSt k < 10 := by unfold pSt; split; decide; split; decide; decide
      have ev : mV w v m (k + 1) = mb w v m (pSt k) := by
        rcases (by omega : k = 0 ∨ k = 1 ∨ k = 2) with rfl | rfl | rfl <;> rfl
      refine Agr.lib h (v := v) (w' := seW w v m (pSt k) x) (b := mb w v m (pSt k)) hv (fun i hi => seW_out m4 hp hi) (hb.C.cg (fun c p hc hr => seW_cl hc hr)) (seW_WM hM hm hk hs)
        (fun h => (gP 2 (A + 1 + 3 + 20 * v) 10 h).bind fun a_8 => cv 4 a_8 (fX4_valueOf a_8 (nI m) (nI k)) h fun x_9 h => (gP 2 (A + 1 + 3 + 20 * v) 10 h).bind fun a_10 => cv 4 a_10 (fX4_putValue a_10 (nI m) (nI k) x) h fun _ h => some (.inr x_9, h))
        (fun h => (gP 9 (A + 418) 0 h).bind fun a_23 => (stI a_23 (nI (481 * v + 81 + 10 * m + pSt k)) x h).bind fun h => cv 9 (A + 418) (fX9_its (A + 418) (nI v) (nI m) (nI 4)) h fun x_24 h => if x_24 = nI 3 then some (mb w v m (pSt k), h) else (gP 9 (A + 418) 0 h).bind fun a_25 => bd (fX9_member (nI v) (nI m) h) fun x_26 h => (stI a_25 (x_26 + nI 9) (-2) h).bind fun h => some (mb w v m (pSt k), h)) (fun J Z => ?_) (fun I1 J Z hb1 hd => ?_) (fun I1 J Z h1 => ?_) (fun I1 J Z h1 => ?_)
      · unfold fX8_setMember
        rw [h.jg.cv, C_libMem h hv hm, bd_some, xp_r, C_isMV hb hm, bd_some, hs, bIf, if_tt, h.jg.cv]
      · have hb1 := hb1 v hv
        have hL := hb1.L
        obtain ⟨I2, t1, t2, t3⟩ := C_put4 (J := J) (Z := Z) hb1 hm hk hs
        refine ⟨I2, ?_, fun y hy => t2 y (by omega), RLib.of ((hb1.R.c.cg (fun c p hc hr => seW_cl hc hr)).fr (t2 _ (by omega)) (t2 _ (by omega)) (t2 _ (by omega)) (t2 _ (by omega))) ((hb1.R.s.cg hb1.C (hb1.C.cg (fun c p hc hr => seW_cl hc hr)) (fun c p hc hr => seW_cl hc (by omega))).fr (t2 _ (by omega)) (t2 _ (by omega))) t3⟩
        show (gP 2 (A + 1 + 3 + 20 * v) 10 (mm g I1 J Z)).bind _ = _
        rw [lib_p10 hL, Option.bind_some, mem_cv hL.mem, C_val4 hL m4 (by omega), bd_some, lib_p10 hL, Option.bind_some, mem_cv hL.mem, t1, bd_some, hb1.R.m.2 (k + 1) (by omega) (by omega) m hm, ev]
      · have hr := h1.row
        unfold fX9_setMember fX9_setMember_35 fX9_setMember_67
        rw [M_cv h1.G, M_isMem h1 hv hm, bd_some, bIf, if_tt, M_cv h1.G, M_maySet (h1.mb hv) hm, bd_some, hs, bIf, if_tt, M_cv h1.G, M_ref0 h1.G, bd_some, bIf, if_ff]
        rw [show fX9_member (nI v) (nI m) (mm g (up2 I1 (A + 418) 3 (nI 0)) J Z) = some (nI (481 * v + 81 + 10 * m), mm g (up2 I1 (A + 418) 3 (nI 0)) J Z) from by unfold fX9_member; rw [pk_mul, pk_mul, nI_add, nI_add], bd_some]
        have rd : up2 I1 (A + 418) 3 (nI 0) (A + 418 + 1) (481 * v + 81 + 10 * m + pSt k) = mb w v m (pSt k) := by rw [up2_ne (by omega), hr]; rfl
        rcases (by omega : k = 0 ∨ k = 1 ∨ k = 2) with rfl | rfl | rfl
        · rw [if_pos (by decide), h1.G.p0, Option.bind_some, nI_add, h1.G.ld1 (by omega), Option.bind_some, show up2 I1 (A + 418) 3 (nI 0) (A + 418 + 1) (481 * v + 81 + 10 * m + 3) = mb w v m (pSt 0) from rd, M_cv h1.G]
          rfl
        · rw [if_neg (by decide), if_pos rfl, h1.G.p0, Option.bind_some, nI_add, h1.G.ld1 (by omega), Option.bind_some, show up2 I1 (A + 418) 3 (nI 0) (A + 418 + 1) (481 * v + 81 + 10 * m + 4) = mb w v m (pSt 1) from rd, M_cv h1.G]
          rfl
        · rw [if_neg (by decide), if_neg (by decide), h1.G.p0, Option.bind_some, nI_add, h1.G.ld1 (by omega), Option.bind_some, show up2 I1 (A + 418) 3 (nI 0) (A + 418 + 1) (481 * v + 81 + 10 * m + 9) = mb w v m (pSt 2) from rd, M_cv h1.G]
          rfl
      · have hr := h1.row
        have e4 : up1 I1 (A + 418 + 1) (sW w (481 * v + 81 + 10 * m + pSt k) x) (A + 418 + 1) = sW w (481 * v + 81 + 10 * m + pSt k) x := up1_at
        show ∃ I2, (gP 9 (A + 418) 0 (mm g I1 J Z)).bind _ = _ ∧ _
        rw [h1.G.p0, Option.bind_some, h1.G.st1 (by omega), Option.bind_some, up2_1, hr, M_cv h1.G, M_its h1.G hv m4 (by decide), bd_some, e4]
        by_cases q : mb (sW w (481 * v + 81 + 10 * m + pSt k) x) v m 4 = nI 3
        · rw [if_pos q]
          exact ⟨_, rfl, fun y hy => up1_ne hy, by rw [up1_at]; unfold seW; rw [if_pos q]⟩
        · rw [if_neg q, h1.G.p0, Option.bind_some]
          unfold fX9_member
          rw [pk_mul, pk_mul, nI_add, nI_add, bd_some, nI_add, h1.G.st1 (by omega), Option.bind_some, up2_11]
          exact ⟨_, rfl, fun y hy => up1_ne hy, by rw [up1_at]; unfold seW; rw [if_neg q]⟩
  · refine Agr.rfs h (i := 0) (e := 1) ⟨by decide, rfl⟩ (fun J Z => ⟨I, none, ?_, FvC.refl⟩) (fun I1 J Z h1 => ⟨nI 0, up2 I1 (A + 418) 3 (nI 1), ?_, fvm_3, up3⟩)
    · unfold fX8_setMember
      rw [h.jg.cv, q1, bd_some, xp_l]
    · unfold fX9_setMember fX9_setMember_35
      rw [M_cv h1.G, q2 I1 J Z h1, bd_some, bIf, if_ff, M_cv h1.G, rf1 h1.G, bd_some, bIf, if_tt]
end Sm2
