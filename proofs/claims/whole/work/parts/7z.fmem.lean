/-! ===== the first members ===== -/
def shD (x0 x1 x2 x3 : Int32) : Nat → Int32 := fun i => if i = 0 then x0 else if i = 1 then x1 else if i = 2 then x2 else x3
def d0 : Nat → Int32 := shD (-1) (nI 0) (-2) (-2)
/-- n members with these values -/
def Rm (I : Mem) (b n : Nat) (V : Nat → Nat → Int32) : Prop := I b 0 = nI n ∧ ∀ j, 1 ≤ j → j ≤ 12 → ∀ m, m < n → I (b + j) m = V m j
def apW (V : Nat → Nat → Int32) (n K : Nat) (cc nm ac fl : Int32) (d : Nat → Int32) : Nat → Nat → Int32 := fun m j => if m = n then apV K cc nm ac fl d j else V m j
def pvW (V : Nat → Nat → Int32) (m0 : Nat) (x : Int32) : Nat → Nat → Int32 := fun m j => if m = m0 ∧ j = 3 then x else V m j
def vF : Nat → Nat → Int32 := apW (apW (apW (apW (apW (apW (pvW (apW (apW (fun _ _ => 0) 0 0 (nI 1) (nI 0) (nI 3) (nI 0) d0) 1 0 (nI 1) (nI 1) (nI 3) (nI 3) d0) 1 (nI 7)) 2 1 (nI 1) (nI 0) (nI 3) (nI 0) d0) 3 1 (nI 1) (nI 1) (nI 2) (nI 0) (shD (-1) (nI 1) (nI 1) (-2))) 4 1 (nI 2) (nI 2) (nI 3) (nI 4) (shD (nI 1) (nI 0) (-2) (-2))) 5 1 (nI 3) (nI 2) (nI 3) (nI 0) (shD (nI 1) (nI 0) (-2) (-2))) 6 1 (nI 3) (nI 0) (nI 3) (nI 0) (shD (-1) (nI 0) (-2) (-2))) 7 1 (nI 4) (nI 1) (nI 3) (nI 0) (shD (-1) (nI 1) (nI 3) (-2))
theorem vF_ro1 : ∀ m, m < 8 → ∀ j, j < 13 → 1 ≤ j → vF m j = mV ro1 0 m j := by decide +kernel
section Fm
variable {g : Gr} {a b n p K : Nat} {I I' : Mem} {J : Nat → Nat → Int64} {Z : Option Nat} {V : Nat → Nat → Int32} {cc nm ac fl : Int32} {d : Nat → Int32} {x0 x1 x2 x3 x y : Int32}
theorem Rm.app (hM : MemG g b) (hr : Rm I b n V) (hn : n < 40) (hK : K < 2) (hp : g.1 p = 5 + 1) (hpb : b + 12 < p) (hd : ∀ i, i < 4 → I p i = d i) : ∃ I', fX4_append b (nI K) cc nm ac fl p (mm g I J Z) = some ((), mm g I' J Z) ∧ (∀ y, y < b ∨ b + 12 < y → I' y = I y) ∧ Rm I' b (n + 1) (apW V n K cc nm ac fl d) := by
  refine ⟨up2 (apI I b n (apV K cc nm ac fl d) [12, 11, 10, 9, 8, 7, 3, 2, 1, 6, 5, 4]) b 0 (nI (n + 1)), ?_, fun y hy => by rw [up2_ne (by omega), ap_out (by decide) (by omega)], by rw [up2_at, if_pos rfl], fun j h1 h2 m hm => ?_⟩
  · rcases (by omega : K = 0 ∨ K = 1) with rfl | rfl
    · exact C_app0 hM hn hr.1 hp (Or.inr hpb) hd
    · exact C_app1 hM hn hr.1 hp (Or.inr hpb) hd
  · have hj : j ∈ [12, 11, 10, 9, 8, 7, 3, 2, 1, 6, 5, 4] := by
      rcases (by omega : j = 1 ∨ j = 2 ∨ j = 3 ∨ j = 4 ∨ j = 5 ∨ j = 6 ∨ j = 7 ∨ j = 8 ∨ j = 9 ∨ j = 10 ∨ j = 11 ∨ j = 12) with rfl | rfl | rfl | rfl | rfl | rfl | rfl | rfl | rfl | rfl | rfl | rfl <;> decide
    rw [up2_ne (by omega), ap_in h1 hj]
    unfold apW
    by_cases q : m = n
    · rw [if_pos q, if_pos q]
    · rw [if_neg q, if_neg q, hr.2 j h1 h2 m (by omega)]
theorem Rm.pv (hM : MemG g b) (hr : Rm I b n V) {m0 : Nat} (hm0 : m0 < 40) : ∃ I', fX4_putValue b (nI m0) (nI 2) x (mm g I J Z) = some ((), mm g I' J Z) ∧ (∀ y, y < b ∨ b + 12 < y → I' y = I y) ∧ Rm I' b n (pvW V m0 x) := by
  refine ⟨up2 I (b + 3) m0 x, ?_, fun y hy => up2_ne (by omega), by rw [up2_ne (by omega)]; exact hr.1, fun j h1 h2 m hm => ?_⟩
  · unfold fX4_putValue
    rw [if_neg (by decide), if_neg (by decide), mem_p3 hM, Option.bind_some, mem_s3 hM hm0, Option.bind_some]
  · unfold pvW
    by_cases q : j = 3
    · subst q
      rw [up2_at]
      by_cases q2 : m = m0
      · rw [if_pos q2, if_pos ⟨q2, rfl⟩]
      · rw [if_neg q2, if_neg (fun z => q2 z.1)]; exact hr.2 3 h1 h2 m hm
    · rw [up2_ne (by omega), if_neg (fun z => q z.2)]; exact hr.2 j h1 h2 m hm
theorem Rm.fr (hr : Rm I b n V) (hb : b + 12 < p) (hf : ∀ y, y ≠ p → I' y = I y) : Rm I' b n V := ⟨by rw [hf b (by omega)]; exact hr.1, fun j h1 h2 m hm => by rw [hf _ (by omega)]; exact hr.2 j h1 h2 m hm⟩
theorem S_put (hp : g.1 p = 5 + 1) : ∃ I', fX5_put p x0 x1 x2 x3 (mm g I J Z) = some ((), mm g I' J Z) ∧ (∀ y, y ≠ p → I' y = I y) ∧ ∀ i, i < 4 → I' p i = shD x0 x1 (if x1 < nI 1 then -2 else x2) (if x1 < nI 2 then -2 else x3) i := by
  refine ⟨up2 (up2 (up2 (up2 I p 0 x0) p 1 x1) p 2 (if x1 < nI 1 then -2 else x2)) p 3 (if x1 < nI 2 then -2 else x3), ?_, fun y hy => by rw [up2_ne hy, up2_ne hy, up2_ne hy, up2_ne hy], fun i hi => ?_⟩
  · unfold fX5_put fX5_put_22 fX5_put_38
    rw [pI_m hp, Option.bind_some, pI_m hp, Option.bind_some]
    by_cases h1 : x1 < nI 1
    · rw [if_pos h1, if_pos h1, pI_m hp, Option.bind_some]
      by_cases h2 : x1 < nI 2
      · rw [if_pos h2, if_pos h2, pI_m hp, Option.bind_some]
      · rw [if_neg h2, if_neg h2, pI_m hp, Option.bind_some]
    · rw [if_neg h1, if_neg h1, pI_m hp, Option.bind_some]
      by_cases h2 : x1 < nI 2
      · rw [if_pos h2, if_pos h2, pI_m hp, Option.bind_some]
      · rw [if_neg h2, if_neg h2, pI_m hp, Option.bind_some]
  · rw [up2_at, up2_at, up2_at, up2_at]
    unfold shD
    rcases (by omega : i = 0 ∨ i = 1 ∨ i = 2 ∨ i = 3) with rfl | rfl | rfl | rfl <;> rfl
theorem shD_cg {y2 y3 : Int32} (h2 : x2 = y2) (h3 : x3 = y3) {i : Nat} {z : Int32} (h : z = shD x0 x1 x2 x3 i) : z = shD x0 x1 y2 y3 i := by rw [h, h2, h3]
theorem F_mem (hM : MemG g b) (hb : b + 12 < p) (h0 : I b 0 = nI 0) : ∃ (I' : Mem) (J' : Nat → Nat → Int64), fX8_buildFirstMembers b (mm g I J (some p)) = some ((), mm (gN g p 6 0) I' J' (some (p + 1))) ∧ (∀ y, y < b ∨ b + 12 < y → y ≠ p → I' y = I y) ∧ I' b 0 = nI 8 ∧ ∀ j, 1 ≤ j → j ≤ 12 → ∀ m, m < 8 → I' (b + j) m = mV ro1 0 m j := by
  have k5 : (gN g p (5 + 1) 0).1 p = 5 + 1 := gN_k
  have hM1 : MemG (gN g p (5 + 1) 0) b := hM.sm (fun a q1 q2 => gN_s (by omega))
  let I4 := up2 (up2 (up2 (up2 (up1 I p (fun _ => 0)) p 0 (-1)) p 1 (nI 0)) p 2 (-2)) p 3 (-2)
  have i4 : ∀ y, y ≠ p → I4 y = I y := fun y hy => by
    show up2 (up2 (up2 (up2 (up1 I p (fun _ => 0)) p 0 (-1)) p 1 (nI 0)) p 2 (-2)) p 3 (-2) y = _
    rw [up2_ne hy, up2_ne hy, up2_ne hy, up2_ne hy, up1_ne hy]
  have d4 : ∀ i, i < 4 → I4 p i = d0 i := fun i hi => by
    show up2 (up2 (up2 (up2 (up1 I p (fun _ => 0)) p 0 (-1)) p 1 (nI 0)) p 2 (-2)) p 3 (-2) p i = _
    rw [up2_at, up2_at, up2_at, up2_at]
    unfold d0 shD
    rcases (by omega : i = 0 ∨ i = 1 ∨ i = 2 ∨ i = 3) with rfl | rfl | rfl | rfl <;> rfl
  have r4 : Rm I4 b 0 (fun _ _ => 0) := ⟨by rw [i4 b (by omega)]; exact h0, fun j _ _ m hm => absurd hm (by omega)⟩
  let J1 := up1 J p (fun _ => 0)
  obtain ⟨Ia, ea, fa, ra⟩ := Rm.app (K := 0) (cc := nI 1) (nm := nI 0) (ac := nI 3) (fl := nI 0) (J := J1) (Z := some (p + 1)) hM1 r4 (by decide) (by decide) k5 hb d4
  have da : ∀ i, i < 4 → Ia p i = d0 i := fun i hi => by rw [fa p (by omega)]; exact d4 i hi
  obtain ⟨Ib, eb, fb, rb⟩ := Rm.app (K := 0) (cc := nI 1) (nm := nI 1) (ac := nI 3) (fl := nI 3) (J := J1) (Z := some (p + 1)) hM1 ra (by decide) (by decide) k5 hb da
  have db : ∀ i, i < 4 → Ib p i = d0 i := fun i hi => by rw [fb p (by omega)]; exact da i hi
  obtain ⟨Ic, ec, fc, rc⟩ := Rm.pv (x := nI 7) (J := J1) (Z := some (p + 1)) hM1 rb (m0 := 1) (by decide)
  have dc : ∀ i, i < 4 → Ic p i = d0 i := fun i hi => by rw [fc p (by omega)]; exact db i hi
  obtain ⟨Id, ed, fd, rd⟩ := Rm.app (K := 1) (cc := nI 1) (nm := nI 0) (ac := nI 3) (fl := nI 0) (J := J1) (Z := some (p + 1)) hM1 rc (by decide) (by decide) k5 hb dc
  obtain ⟨Ie, ee, fe, de⟩ := S_put (x0 := -1) (x1 := nI 1) (x2 := nI 1) (x3 := -2) (I := Id) (J := J1) (Z := some (p + 1)) k5
  have re := Rm.fr rd hb fe
  obtain ⟨If, ef, ff, rf⟩ := Rm.app (K := 1) (cc := nI 1) (nm := nI 1) (ac := nI 2) (fl := nI 0) (d := shD (-1) (nI 1) (nI 1) (-2)) (J := J1) (Z := some (p + 1)) hM1 re (by decide) (by decide) k5 hb (fun i hi => shD_cg (by decide) (by decide) (de i hi))
  obtain ⟨Ig, eg, fg, dg⟩ := S_put (x0 := nI 1) (x1 := nI 0) (x2 := -2) (x3 := -2) (I := If) (J := J1) (Z := some (p + 1)) k5
  have rg := Rm.fr rf hb fg
  have dg' : ∀ i, i < 4 → Ig p i = shD (nI 1) (nI 0) (-2) (-2) i := fun i hi => shD_cg (by decide) (by decide) (dg i hi)
  obtain ⟨Ih, eh, fh, rh⟩ := Rm.app (K := 1) (cc := nI 2) (nm := nI 2) (ac := nI 3) (fl := nI 4) (J := J1) (Z := some (p + 1)) hM1 rg (by decide) (by decide) k5 hb dg'
  have dh : ∀ i, i < 4 → Ih p i = shD (nI 1) (nI 0) (-2) (-2) i := fun i hi => by rw [fh p (by omega)]; exact dg' i hi
  obtain ⟨Ii, ei, fi, ri⟩ := Rm.app (K := 1) (cc := nI 3) (nm := nI 2) (ac := nI 3) (fl := nI 0) (J := J1) (Z := some (p + 1)) hM1 rh (by decide) (by decide) k5 hb dh
  obtain ⟨Ij, ej, fj, dj⟩ := S_put (x0 := -1) (x1 := nI 0) (x2 := -2) (x3 := -2) (I := Ii) (J := J1) (Z := some (p + 1)) k5
  have rj := Rm.fr ri hb fj
  obtain ⟨Ik, ek, fk, rk⟩ := Rm.app (K := 1) (cc := nI 3) (nm := nI 0) (ac := nI 3) (fl := nI 0) (d := shD (-1) (nI 0) (-2) (-2)) (J := J1) (Z := some (p + 1)) hM1 rj (by decide) (by decide) k5 hb (fun i hi => shD_cg (by decide) (by decide) (dj i hi))
  obtain ⟨Il, el, fl', dl⟩ := S_put (x0 := -1) (x1 := nI 1) (x2 := nI 3) (x3 := -2) (I := Ik) (J := J1) (Z := some (p + 1)) k5
  have rl := Rm.fr rk hb fl'
  obtain ⟨Im, em, fm, rm⟩ := Rm.app (K := 1) (cc := nI 4) (nm := nI 1) (ac := nI 3) (fl := nI 0) (d := shD (-1) (nI 1) (nI 3) (-2)) (J := J1) (Z := some (p + 1)) hM1 rl (by decide) (by decide) k5 hb (fun i hi => shD_cg (by decide) (by decide) (dl i hi))
  refine ⟨Im, J1, ?_, fun y hy hp => ?_, rm.1, fun j h1 h2 m hm => (rm.2 j h1 h2 m hm).trans (vF_ro1 m hm j (by omega) h1)⟩
  · unfold fX8_buildFirstMembers fX5_init
    rw [nwO_m, bd_some, pI_m k5, Option.bind_some, pI_m k5, Option.bind_some, pI_m k5, Option.bind_some, pI_m k5, Option.bind_some, bd_some]
    rw [mem_cv hM1, ea, bd_some, mem_cv hM1, eb, bd_some, mem_cv hM1, ec, bd_some, mem_cv hM1, ed, bd_some, cv_m k5, ee, bd_some, mem_cv hM1, ef, bd_some, cv_m k5, eg, bd_some, mem_cv hM1, eh, bd_some, mem_cv hM1, ei, bd_some, cv_m k5, ej, bd_some, mem_cv hM1, ek, bd_some, cv_m k5, el, bd_some, mem_cv hM1, em, bd_some]
  · rw [fm y hy, fl' y hp, fk y hy, fj y hp, fi y hy, fh y hy, fg y hp, ff y hy, fe y hp, fd y hy, fc y hy, fb y hy, fa y hy, i4 y hp]
end Fm
