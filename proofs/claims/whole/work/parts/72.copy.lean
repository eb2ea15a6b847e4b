/-! ===== the class: copies of members, libraries, states ===== -/
section Cw
variable {g : Gr} {I I' : Mem} {J : Nat → Nat → Int64} {Z : Option Nat} {s b a t n : Nat} {w : Nat → Int32} {v : Nat}
theorem up1_at {α : Type} {f : Nat → α} {a : Nat} {x : α} : up1 f a x a = x := by unfold up1; exact if_pos rfl
theorem cpI_m (ha : g.1 s = 20) (hb : g.1 b = 20) (h1 : n ≤ g.2.1 s) (h2 : n ≤ g.2.1 b) (hn : n < 2 ^ 31) : cpI s (nI 0) b (nI 0) (nI n) (mm g I J Z) = some (mm g (up1 I b (va_cpy (I s) (I b) 0 0 n)) J Z) := by
  unfold cpI
  rw [nI_clamp (by omega), nI_clamp hn, if_pos]
  · rfl
  · exact ⟨ha, hb, nI_pos (by omega), nI_pos (by omega), nI_pos hn, by show 0 + n ≤ g.2.1 s; omega, by show 0 + n ≤ g.2.1 b; omega⟩
/-- the first j rows behind b hold the first n places of those behind s -/
def cpJ (I : Mem) (b s n j : Nat) : Mem := fun x k => if b + 1 ≤ x ∧ x ≤ b + j ∧ k < n then I (s + (x - b)) k else I x k
theorem cpJ_in {j x k : Nat} (h1 : 1 ≤ x) (h2 : x ≤ j) (h3 : k < n) : cpJ I b s n j (b + x) k = I (s + x) k := by
  unfold cpJ
  rw [if_pos (by omega), show s + (b + x - b) = s + x from by omega]
theorem cpJ_out {j x : Nat} (h : x < b + 1 ∨ b + j < x) : cpJ I b s n j x = I x := by
  funext k
  unfold cpJ
  rw [if_neg (by omega)]
theorem cpJ_0 : cpJ I b s n 0 = I := by
  funext x
  exact cpJ_out (by omega)
theorem cp_step {i j : Nat} (hij : j = i + 1) (ha : g.1 (s + j) = 20) (hb : g.1 (b + j) = 20) (h1 : n ≤ g.2.1 (s + j)) (h2 : n ≤ g.2.1 (b + j)) (hn : n < 2 ^ 31) (hd : s + j < b + 1 ∨ b + i < s + j) : cpI (s + j) (nI 0) (b + j) (nI 0) (nI n) (mm g (cpJ I b s n i) J Z) = some (mm g (cpJ I b s n j) J Z) := by
  rw [cpI_m ha hb h1 h2 hn, cpJ_out hd, cpJ_out (x := b + j) (by omega)]
  congr 2
  have : up1 (cpJ I b s n i) (b + j) (va_cpy (I (s + j)) (I (b + j)) 0 0 n) = cpJ I b s n j := by
    funext x
    by_cases e : x = b + j
    · subst e
      rw [up1_at]
      funext k
      by_cases hk : k < n
      · rw [pk_cpy_in (Nat.zero_le k) (by omega), cpJ_in (by omega) (Nat.le_refl j) hk, show 0 + (k - 0) = k from by omega]
      · rw [pk_cpy_out (Or.inr (by omega))]
        unfold cpJ
        rw [if_neg (by omega)]
    · rw [up1_ne e]
      funext k
      unfold cpJ
      by_cases q : b + 1 ≤ x ∧ x ≤ b + i ∧ k < n
      · rw [if_pos q, if_pos (by omega)]
      · rw [if_neg q, if_neg (by omega)]
  rw [this]

theorem C_memCopy (hs : MemG g s) (hb : MemG g b) (hd : s + 13 ≤ b ∨ b + 13 ≤ s) (hn : n ≤ 40) (h0 : I s 0 = nI n) : fX4_copyFrom b s (mm g I J Z) = some ((), mm g (cpJ (up2 I b 0 (nI n)) b s n 12) J Z) := by
  have e0 : up2 I b 0 (nI n) b 0 = nI n := by rw [up2_at, if_pos rfl]
  have sz : ∀ j, cpJ (up2 I b 0 (nI n)) b s n j b 0 = nI n := fun j => by rw [cpJ_out (by omega)]; exact e0
  have st : ∀ i j, j = i + 1 → 1 ≤ j → j ≤ 12 → cpI (s + j) (nI 0) (b + j) (nI 0) (nI n) (mm g (cpJ (up2 I b 0 (nI n)) b s n i) J Z) = some (mm g (cpJ (up2 I b 0 (nI n)) b s n j) J Z) := fun i j e h1 h2 =>
    cp_step e (hs.2 j h1 h2).2.1 (hb.2 j h1 h2).2.1 (by rw [(hs.2 j h1 h2).2.2]; exact hn) (by rw [(hb.2 j h1 h2).2.2]; exact hn) (by omega) (by omega)
  have st1 : cpI (s + 1) (nI 0) (b + 1) (nI 0) (nI n) (mm g (up2 I b 0 (nI n)) J Z) = some (mm g (cpJ (up2 I b 0 (nI n)) b s n 1) J Z) := by
    have := st 0 1 rfl (by decide) (by decide)
    rw [cpJ_0] at this
    exact this
  unfold fX4_copyFrom
  rw [mem_gI hs, Option.bind_some, h0, mem_pI hb, Option.bind_some, mem_p1 hs, Option.bind_some, mem_p1 hb, Option.bind_some, mem_gI hb, Option.bind_some, e0, st1, Option.bind_some, mem_p2 hs, Option.bind_some, mem_p2 hb, Option.bind_some, mem_gI hb, Option.bind_some, sz 1, st 1 2 rfl (by decide) (by decide), Option.bind_some, mem_p3 hs, Option.bind_some, mem_p3 hb, Option.bind_some, mem_gI hb, Option.bind_some, sz 2, st 2 3 rfl (by decide) (by decide), Option.bind_some, mem_p4 hs, Option.bind_some, mem_p4 hb, Option.bind_some, mem_gI hb, Option.bind_some, sz 3, st 3 4 rfl (by decide) (by decide), Option.bind_some, mem_p5 hs, Option.bind_some, mem_p5 hb, Option.bind_some, mem_gI hb, Option.bind_some, sz 4, st 4 5 rfl (by decide) (by decide), Option.bind_some, mem_p6 hs, Option.bind_some, mem_p6 hb, Option.bind_some, mem_gI hb, Option.bind_some, sz 5, st 5 6 rfl (by decide) (by decide), Option.bind_some, mem_p7 hs, Option.bind_some, mem_p7 hb, Option.bind_some, mem_gI hb, Option.bind_some, sz 6, st 6 7 rfl (by decide) (by decide), Option.bind_some, mem_p8 hs, Option.bind_some, mem_p8 hb, Option.bind_some, mem_gI hb, Option.bind_some, sz 7, st 7 8 rfl (by decide) (by decide), Option.bind_some, mem_p9 hs, Option.bind_some, mem_p9 hb, Option.bind_some, mem_gI hb, Option.bind_some, sz 8, st 8 9 rfl (by decide) (by decide), Option.bind_some, mem_p10 hs, Option.bind_some, mem_p10 hb, Option.bind_some, mem_gI hb, Option.bind_some, sz 9, st 9 10 rfl (by decide) (by decide), Option.bind_some, mem_p11 hs, Option.bind_some, mem_p11 hb, Option.bind_some, mem_gI hb, Option.bind_some, sz 10, st 10 11 rfl (by decide) (by decide), Option.bind_some, mem_p12 hs, Option.bind_some, mem_p12 hb, Option.bind_some, mem_gI hb, Option.bind_some, sz 11, st 11 12 rfl (by decide) (by decide), Option.bind_some]

theorem C_libCopy (ha : LibG g a) (ht : LibG g t) (hd : t + 20 ≤ a ∨ a + 20 ≤ t) (hn : n ≤ 40) (h0 : I (t + 6) 0 = nI n) : ∃ I', fX2_copyFrom a t (mm g I J Z) = some ((), mm g I' J Z) ∧ (∀ x, x < a ∨ a + 19 ≤ x → I' x = I x) ∧ ∀ w v, WM w v → RLib I t w v → RLib I' a w v := by
  have hne : t ≠ a := by omega
  let I1 := up2 (up2 (up2 (up2 (up2 I a 0 (I t 0)) a 1 (I t 1)) a 2 (I t 2)) a 3 (I t 3)) a 4 (I t 4)
  have f1 : ∀ x, x ≠ a → I1 x = I x := fun x hx => by
    show up2 (up2 (up2 (up2 (up2 I a 0 (I t 0)) a 1 (I t 1)) a 2 (I t 2)) a 3 (I t 3)) a 4 (I t 4) x = I x
    rw [up2_ne hx, up2_ne hx, up2_ne hx, up2_ne hx, up2_ne hx]
  have g1 : ∀ k, k < 5 → I1 a k = I t k := fun k hk => by
    rcases (by omega : k = 0 ∨ k = 1 ∨ k = 2 ∨ k = 3 ∨ k = 4) with e | e | e | e | e <;> subst e <;> simp [I1, up2]
  have st : ∀ i j, j = i + 1 → 1 ≤ j → j ≤ 5 → cpI (t + j) (nI 0) (a + j) (nI 0) (nI 10) (mm g (cpJ I1 a t 10 i) J Z) = some (mm g (cpJ I1 a t 10 j) J Z) := fun i j e h1 h2 => by
    have q1 := ha.2.1 i (by omega)
    have q2 := ht.2.1 i (by omega)
    rw [← e] at q1 q2
    exact cp_step e q2.2.1 q1.2.1 (by rw [q2.2.2]; exact Nat.le_refl _) (by rw [q1.2.2]; exact Nat.le_refl _) (by omega) (by omega)
  have st1 : cpI (t + 1) (nI 0) (a + 1) (nI 0) (nI 10) (mm g I1 J Z) = some (mm g (cpJ I1 a t 10 1) J Z) := by
    have := st 0 1 rfl (by decide) (by decide)
    rw [cpJ_0] at this
    exact this
  have st2 := st 1 2 rfl (by decide) (by decide)
  have st3 := st 2 3 rfl (by decide) (by decide)
  have st4 := st 3 4 rfl (by decide) (by decide)
  have st5 := st 4 5 rfl (by decide) (by decide)
  have hm := C_memCopy (I := cpJ I1 a t 10 5) (J := J) (Z := Z) ht.mem ha.mem (by omega) hn (by rw [cpJ_out (by omega), f1 _ (by omega)]; exact h0)
  have fin : ∀ x, a ≤ x → x < a + 6 → cpJ (up2 (cpJ I1 a t 10 5) (a + 6) 0 (nI n)) (a + 6) (t + 6) n 12 x = cpJ I1 a t 10 5 x := fun x h1 h2 => by rw [cpJ_out (by omega), up2_ne (by omega)]
  have src : ∀ x, t ≤ x → x < t + 20 → cpJ I1 a t 10 5 x = I x := fun x h1 h2 => by rw [cpJ_out (by omega), f1 _ (by omega)]
  refine ⟨cpJ (up2 (cpJ I1 a t 10 5) (a + 6) 0 (nI n)) (a + 6) (t + 6) n 12, ?_, fun x hx => ?_, fun w v hM hr => ?_⟩
  · unfold fX2_copyFrom
    rw [lib_g0 ht, Option.bind_some, lib_s0 ha, Option.bind_some, lib_g1 ht, Option.bind_some, up2_ne hne, lib_s1 ha, Option.bind_some, lib_g2 ht, Option.bind_some, up2_ne hne, up2_ne hne, lib_s2 ha, Option.bind_some, lib_g3 ht, Option.bind_some, up2_ne hne, up2_ne hne, up2_ne hne, lib_s3 ha, Option.bind_some, lib_g4 ht, Option.bind_some, up2_ne hne, up2_ne hne, up2_ne hne, up2_ne hne, lib_s4 ha, Option.bind_some, lib_p5 ht, Option.bind_some, lib_p5 ha, Option.bind_some, st1, Option.bind_some, lib_p6 ht, Option.bind_some, lib_p6 ha, Option.bind_some, st2, Option.bind_some, lib_p7 ht, Option.bind_some, lib_p7 ha, Option.bind_some, st3, Option.bind_some, lib_p8 ht, Option.bind_some, lib_p8 ha, Option.bind_some, st4, Option.bind_some, lib_p9 ht, Option.bind_some, lib_p9 ha, Option.bind_some, st5, Option.bind_some, lib_p10 ha, Option.bind_some, lib_p10 ht, Option.bind_some, mem_cv ha.mem, hm, bd_some]
  · rw [cpJ_out (by omega), up2_ne (by omega), cpJ_out (by omega), f1 _ (by omega)]
  · have e0 : ∀ k, k < 5 → cpJ (up2 (cpJ I1 a t 10 5) (a + 6) 0 (nI n)) (a + 6) (t + 6) n 12 a k = I t k := fun k hk => by rw [fin a (by omega) (by omega), cpJ_out (by omega), g1 k hk]
    have ej : ∀ j c, 1 ≤ j → j ≤ 5 → c < 10 → cpJ (up2 (cpJ I1 a t 10 5) (a + 6) 0 (nI n)) (a + 6) (t + 6) n 12 (a + j) c = I (t + j) c := fun j c h1 h2 hc => by
      rw [fin (a + j) (by omega) (by omega), cpJ_in h1 h2 hc, f1 _ (by omega)]
    have hnm : nmb w v = n := nmb_of hn (hr.size.symm.trans h0)
    refine RLib.of ⟨fun c hc => by rw [e0 0 (by decide)]; exact hr.ex c hc, fun c hc => by rw [e0 1 (by decide)]; exact hr.ifc c hc, fun c hc => by rw [e0 2 (by decide)]; exact hr.pub c hc, fun c hc => by rw [e0 3 (by decide)]; exact hr.fin c hc, fun c hc => by rw [e0 4 (by decide)]; exact hr.abs c hc, fun c he => by rw [ej 1 c (by decide) (by decide) (exC_lt he)]; exact hr.home c he, fun c he => by rw [ej 2 c (by decide) (by decide) (exC_lt he)]; exact hr.sup c he, fun c he => by rw [ej 3 c (by decide) (by decide) (exC_lt he)]; exact hr.itf c he⟩
      ⟨fun c k hc hk => by rw [ej 4 c (by decide) (by decide) hc]; exact hr.sty c k hc hk, fun c k hc hk => by rw [ej 5 c (by decide) (by decide) hc]; exact hr.lin c k hc hk⟩ ⟨?_, fun j h1 h2 m hm => ?_⟩
    · rw [cpJ_out (by omega), up2_at, if_pos rfl, ← h0]; exact hr.size
    · rw [cpJ_in h1 h2 (by omega), up2_ne (by omega), src _ (by omega) (by omega)]
      exact hr.m.2 j h1 h2 m hm

/-- a client's row behind another -/
theorem RK.cp {p r : Nat} {k : Nat → Int32} (h : RK I r k) (h1 : ∀ j, j < 8 → I' p j = I r j) (h2 : ∀ j, j < 7 → I' (p + 1) j = I (r + 1) j) : RK I' p k :=
  ⟨fun j hj => (h1 j hj).trans (h.1 j hj), (h2 0 (by decide)).trans h.2.1, (h2 1 (by decide)).trans h.2.2.1, (h2 2 (by decide)).trans h.2.2.2.1, (h2 3 (by decide)).trans h.2.2.2.2.1, (h2 4 (by decide)).trans h.2.2.2.2.2.1, (h2 5 (by decide)).trans h.2.2.2.2.2.2.1, (h2 6 (by decide)).trans h.2.2.2.2.2.2.2⟩
theorem RK.fr {p : Nat} {k : Nat → Int32} (h : RK I p k) (h1 : I' p = I p) (h2 : I' (p + 1) = I (p + 1)) : RK I' p k := h.cp (fun j _ => by rw [h1]) (fun j _ => by rw [h2])
end Cw
/-! ===== a state of the class and a row ===== -/
def rowC (w : Nat → Int32) (k : Nat) : Nat → Int32 := fun j => w (963 + 16 * k + j)
def ncl (w : Nat → Int32) : Nat := (w 962).toNatClampNeg
def CKE (k : Nat → Int32) : Prop := ∃ u c b, CK k u c b ∧ SK k u
def WS (w : Nat → Int32) : Prop := (∀ v, v < 2 → WC w v ∧ WM w v) ∧ ncl w ≤ 12 ∧ w 962 = nI (ncl w) ∧ ∀ k, k < ncl w → CKE (rowC w k)
def RSt (I : Mem) (s : Nat) (w : Nat → Int32) : Prop := (∀ v, v < 2 → RLib I (s + 3 + 20 * v) w v) ∧ I s 2 = w 962 ∧ ∀ k, k < ncl w → RK I (s + 43 + 2 * k) (rowC w k)
section Sx
variable {g : Gr} {I I' : Mem} {J : Nat → Nat → Int64} {Z : Option Nat} {s t n : Nat} {w : Nat → Int32} {v k : Nat}
theorem CKE.b (h : CKE (rowC w k)) : rowC w k 8 = nI 0 ∨ rowC w k 8 = nI 1 := by obtain ⟨u, c, b, h1, h2⟩ := h; exact h2.1
theorem RK.s0 {p : Nat} {k : Nat → Int32} (h : RK I p k) : I (p + 1) 0 = k 8 := h.2.1
theorem RSt.fr (h : RSt I s w) (hf : ∀ x, s ≤ x → x < s + 67 → x ≠ s + 22 → x ≠ s + 42 → I' x = I x) (hn : ncl w ≤ 12) : RSt I' s w := by
  refine ⟨fun v hv => (h.1 v hv).fr (fun x h1 h2 => hf x (by omega) (by omega) (by omega) (by omega)), by rw [hf s (by omega) (by omega) (by omega) (by omega)]; exact h.2.1, fun k hk => (h.2.2 k hk).fr (hf _ (by omega) (by omega) (by omega) (by omega)) (hf _ (by omega) (by omega) (by omega) (by omega))⟩
theorem st_p0 (h : StG g s) : gP 6 s 0 (mm g I J Z) = some (s + 1) := gP_m h.1 h.2.1
theorem st_p1 (h : StG g s) : gP 6 s 1 (mm g I J Z) = some (s + 2) := gP_m h.1 h.2.2.1
theorem st_lib (h : StG g s) (hv : v < 2) : ldP 2 (s + 1) (nI v) (mm g I J Z) = some (s + 3 + 20 * v) := ldP_m h.2.2.2.1.1 (by rw [h.2.2.2.1.2.1]; exact hv) (by omega) (h.2.2.2.1.2.2 v hv)
theorem st_cli (h : StG g s) (hk : k < 12) : ldP 0 (s + 2) (nI k) (mm g I J Z) = some (s + 43 + 2 * k) := ldP_m h.2.2.2.2.1.1 (by rw [h.2.2.2.2.1.2.1]; exact hk) (by omega) (h.2.2.2.2.1.2.2 k hk)
theorem StG.lib (h : StG g s) (hv : v < 2) : LibG g (s + 3 + 20 * v) := h.2.2.2.2.2.1 v hv
theorem StG.cli (h : StG g s) (hk : k < 12) : ClG g (s + 43 + 2 * k) := h.2.2.2.2.2.2 k hk
/-- clients of t behind those of s -/
theorem C_stc30 (hs : StG g s) (ht : StG g t) (hd : s + 67 ≤ t ∨ t + 67 ≤ s) (hW : WS w) : ∀ (d k f : Nat) (I : Mem), k + d = ncl w → d < f → RSt I t w → (∀ v, v < 2 → RLib I (s + 3 + 20 * v) w v) → (∀ j, j < k → RK I (s + 43 + 2 * j) (rowC w j)) →
    ∃ I', lX6_copyFrom_30 f s t (nI k) (mm g I J Z) = some ((), mm g I' J Z) ∧ (∀ x, x < s ∨ s + 67 ≤ x → I' x = I x) ∧ RSt I' s w := by
  have hn := hW.2.1
  intro d
  induction d with
  | zero =>
    intro k f I hi hf hR hL hC
    obtain ⟨f, rfl⟩ : ∃ z, f = z + 1 := ⟨f - 1, by omega⟩
    refine ⟨up2 I s 2 (nI (ncl w)), ?_, fun x hx => up2_ne (by omega), fun v hv => (hL v hv).fr (fun x h1 h2 => up2_ne (by omega)), by rw [up2_at, if_pos rfl]; exact hW.2.2.1.symm, fun j hj => (hC j (by omega)).fr (up2_ne (by omega)) (up2_ne (by omega))⟩
    show bX6_copyFrom_30 (lX6_copyFrom_30 f) s t _ _ = _
    unfold bX6_copyFrom_30
    rw [gI_m ht.1, Option.bind_some, hR.2.1, hW.2.2.1, if_pos (nI_le (by omega) (by omega)), Option.bind_some, pI_m hs.1, Option.bind_some]
  | succ d ih =>
    intro k f I hi hf hR hL hC
    obtain ⟨f, rfl⟩ : ∃ z, f = z + 1 := ⟨f - 1, by omega⟩
    have hk : k < ncl w := by omega
    show ∃ I', bX6_copyFrom_30 (lX6_copyFrom_30 f) s t _ _ = _ ∧ _
    unfold bX6_copyFrom_30
    have hb : I (t + 43 + 2 * k + 1) 0 = 0 ∨ I (t + 43 + 2 * k + 1) 0 = 1 := by
      rw [(hR.2.2 k hk).s0]
      exact (hW.2.2.2 k hk).b
    obtain ⟨I1, a1, a2, a3, a4⟩ := C_clCopy (J := J) (Z := Z) (hs.cli (k := k) (by omega)) (ht.cli (k := k) (by omega)) (by omega) (by omega) (by omega) hb
    rw [gI_m ht.1, Option.bind_some, hR.2.1, hW.2.2.1, if_neg (nI_ge (by omega) (by omega)), st_p1 hs, Option.bind_some, st_cli hs (by omega), Option.bind_some, st_p1 ht, Option.bind_some, st_cli ht (by omega), Option.bind_some, cln_cv (hs.cli (by omega)), a1, bd_some, nI_add]
    obtain ⟨I3, t1, t2, t3⟩ := ih (k + 1) f I1 (by omega) (by omega) (hR.fr (fun x h1 h2 _ _ => a2 x (by omega) (by omega)) hn) (fun v hv => (hL v hv).fr (fun x h1 h2 => a2 x (by omega) (by omega))) (fun j hj => by
      by_cases e : j = k
      · subst e; exact (hR.2.2 j hk).cp a3 a4
      · exact (hC j (by omega)).fr (a2 _ (by omega) (by omega)) (a2 _ (by omega) (by omega)))
    exact ⟨I3, t1, fun x hx => (t2 x hx).trans (a2 x (by omega) (by omega)), t3⟩
theorem C_stCopy (hs : StG g s) (ht : StG g t) (hd : s + 67 ≤ t ∨ t + 67 ≤ s) (hW : WS w) (hR : RSt I t w) : ∃ I', fX6_copyFrom s t (mm g I J Z) = some ((), mm g I' J Z) ∧ (∀ x, x < s ∨ s + 67 ≤ x → I' x = I x) ∧ RSt I' s w := by
  have hn := hW.2.1
  have sz : ∀ (I : Mem), RSt I t w → ∀ v, v < 2 → I (t + 3 + 20 * v + 6) 0 = nI (nmb w v) := fun I hR v hv => (hR.1 v hv).size.trans (hW.1 v hv).2.n
  unfold fX6_copyFrom
  show ∃ I', bX6_copyFrom_2 (lX6_copyFrom_2 99999) s t _ _ = _ ∧ _
  unfold bX6_copyFrom_2
  obtain ⟨I1, a1, a2, a3⟩ := C_libCopy (J := J) (Z := Z) (hs.lib (v := 0) (by omega)) (ht.lib (v := 0) (by omega)) (by omega) (hW.1 0 (by omega)).2.n40 (sz I hR 0 (by omega))
  have hR1 : RSt I1 t w := hR.fr (fun x h1 h2 _ _ => a2 x (by omega)) hn
  rw [if_neg (by decide), st_p0 hs, Option.bind_some, st_lib hs (by omega), Option.bind_some, st_p0 ht, Option.bind_some, st_lib ht (by omega), Option.bind_some, lib_cv (hs.lib (by omega)), a1, bd_some, nI_add]
  show ∃ I', bX6_copyFrom_2 (lX6_copyFrom_2 99998) s t _ _ = _ ∧ _
  unfold bX6_copyFrom_2
  obtain ⟨I2, b1, b2, b3⟩ := C_libCopy (J := J) (Z := Z) (hs.lib (v := 1) (by omega)) (ht.lib (v := 1) (by omega)) (by omega) (hW.1 1 (by omega)).2.n40 (sz I1 hR1 1 (by omega))
  have hR2 : RSt I2 t w := hR1.fr (fun x h1 h2 _ _ => b2 x (by omega)) hn
  rw [if_neg (by decide), st_p0 hs, Option.bind_some, st_lib hs (by omega), Option.bind_some, st_p0 ht, Option.bind_some, st_lib ht (by omega), Option.bind_some, lib_cv (hs.lib (by omega)), b1, bd_some, nI_add]
  show ∃ I', bX6_copyFrom_2 (lX6_copyFrom_2 99997) s t _ _ = _ ∧ _
  unfold bX6_copyFrom_2
  rw [if_pos (by decide)]
  obtain ⟨I3, t1, t2, t3⟩ := C_stc30 (J := J) (Z := Z) hs ht hd hW (ncl w) 0 fuel I2 (by omega) (by unfold fuel; omega) hR2 (fun v hv => by
    rcases (by omega : v = 0 ∨ v = 1) with e | e
    · subst e; exact (a3 w 0 (hW.1 0 (by omega)).2 (hR.1 0 (by omega))).fr (fun x h1 h2 => b2 x (by omega))
    · subst e; exact b3 w 1 (hW.1 1 (by omega)).2 (hR1.1 1 (by omega))) (fun j hj => absurd hj (by omega))
  exact ⟨I3, t1, fun x hx => by rw [t2 x hx, b2 x (by omega), a2 x (by omega)], t3⟩
end Sx
