/-! ===== the class's objects: which cell lies where ===== -/
def MemG (g : Gr) (b : Nat) : Prop := g.1 b = 5 ∧ ∀ k, 1 ≤ k → k ≤ 12 → g.2.2 b k = some (b + k) ∧ g.1 (b + k) = 20 ∧ g.2.1 (b + k) = 40
def LibG (g : Gr) (a : Nat) : Prop := g.1 a = 3 ∧ (∀ k, k < 5 → g.2.2 a (k + 5) = some (a + (k + 1)) ∧ g.1 (a + (k + 1)) = 20 ∧ g.2.1 (a + (k + 1)) = 10) ∧ g.2.2 a 10 = some (a + 6) ∧ MemG g (a + 6) ∧ g.2.2 a 11 = some (a + 19) ∧ g.1 (a + 19) = 20 ∧ g.2.1 (a + 19) = 10
def ClG (g : Gr) (a : Nat) : Prop := g.1 a = 1 ∧ g.2.2 a 8 = some (a + 1) ∧ g.1 (a + 1) = 8
def StG (g : Gr) (s : Nat) : Prop := g.1 s = 7 ∧ g.2.2 s 0 = some (s + 1) ∧ g.2.2 s 1 = some (s + 2) ∧ (g.1 (s + 1) = 32 ∧ g.2.1 (s + 1) = 2 ∧ ∀ v, v < 2 → g.2.2 (s + 1) v = some (s + 3 + 20 * v)) ∧ (g.1 (s + 2) = 30 ∧ g.2.1 (s + 2) = 12 ∧ ∀ k, k < 12 → g.2.2 (s + 2) k = some (s + 43 + 2 * k)) ∧ (∀ v, v < 2 → LibG g (s + 3 + 20 * v)) ∧ ∀ k, k < 12 → ClG g (s + 43 + 2 * k)
/-- a compiler (its symbol, its row) of the library l -/
def CoG (g : Gr) (a l : Nat) : Prop := g.1 a = 2 ∧ g.2.2 a 0 = some l ∧ g.2.2 a 1 = some (a + 1) ∧ g.1 (a + 1) = 8 ∧ g.2.2 a 2 = some (a + 2) ∧ g.1 (a + 2) = 20 ∧ g.2.1 (a + 2) = 40
def LkG (g : Gr) (a l : Nat) : Prop := g.1 a = 4 ∧ g.2.2 a 0 = some l
section Lb
variable {g : Gr} {a b : Nat} {I : Mem} {J : Nat → Nat → Int64} {Z : Option Nat} {c m k : Nat} {x : Int32}
theorem mem_gI (h : MemG g b) : gI 4 b 0 (mm g I J Z) = some (I b 0) := gI_m h.1
theorem mem_pI (h : MemG g b) : pI 4 b 0 x (mm g I J Z) = some (mm g (up2 I b 0 x) J Z) := pI_m h.1
theorem mem_p1 (h : MemG g b) : gP 4 b 1 (mm g I J Z) = some (b + 1) := gP_m h.1 (h.2 1 (by decide) (by decide)).1
theorem mem_l1 (h : MemG g b) (hm : m < 40) : ldI (b + 1) (nI m) (mm g I J Z) = some (I (b + 1) m) := ldI_m (h.2 1 (by decide) (by decide)).2.1 (by rw [(h.2 1 (by decide) (by decide)).2.2]; exact hm) (by omega)
theorem mem_s1 (h : MemG g b) (hm : m < 40) : stI (b + 1) (nI m) x (mm g I J Z) = some (mm g (up2 I (b + 1) m x) J Z) := stI_m (h.2 1 (by decide) (by decide)).2.1 (by rw [(h.2 1 (by decide) (by decide)).2.2]; exact hm) (by omega)
theorem mem_p2 (h : MemG g b) : gP 4 b 2 (mm g I J Z) = some (b + 2) := gP_m h.1 (h.2 2 (by decide) (by decide)).1
theorem mem_l2 (h : MemG g b) (hm : m < 40) : ldI (b + 2) (nI m) (mm g I J Z) = some (I (b + 2) m) := ldI_m (h.2 2 (by decide) (by decide)).2.1 (by rw [(h.2 2 (by decide) (by decide)).2.2]; exact hm) (by omega)
theorem mem_s2 (h : MemG g b) (hm : m < 40) : stI (b + 2) (nI m) x (mm g I J Z) = some (mm g (up2 I (b + 2) m x) J Z) := stI_m (h.2 2 (by decide) (by decide)).2.1 (by rw [(h.2 2 (by decide) (by decide)).2.2]; exact hm) (by omega)
theorem mem_p3 (h : MemG g b) : gP 4 b 3 (mm g I J Z) = some (b + 3) := gP_m h.1 (h.2 3 (by decide) (by decide)).1
theorem mem_l3 (h : MemG g b) (hm : m < 40) : ldI (b + 3) (nI m) (mm g I J Z) = some (I (b + 3) m) := ldI_m (h.2 3 (by decide) (by decide)).2.1 (by rw [(h.2 3 (by decide) (by decide)).2.2]; exact hm) (by omega)
theorem mem_s3 (h : MemG g b) (hm : m < 40) : stI (b + 3) (nI m) x (mm g I J Z) = some (mm g (up2 I (b + 3) m x) J Z) := stI_m (h.2 3 (by decide) (by decide)).2.1 (by rw [(h.2 3 (by decide) (by decide)).2.2]; exact hm) (by omega)
theorem mem_p4 (h : MemG g b) : gP 4 b 4 (mm g I J Z) = some (b + 4) := gP_m h.1 (h.2 4 (by decide) (by decide)).1
theorem mem_l4 (h : MemG g b) (hm : m < 40) : ldI (b + 4) (nI m) (mm g I J Z) = some (I (b + 4) m) := ldI_m (h.2 4 (by decide) (by decide)).2.1 (by rw [(h.2 4 (by decide) (by decide)).2.2]; exact hm) (by omega)
theorem mem_s4 (h : MemG g b) (hm : m < 40) : stI (b + 4) (nI m) x (mm g I J Z) = some (mm g (up2 I (b + 4) m x) J Z) := stI_m (h.2 4 (by decide) (by decide)).2.1 (by rw [(h.2 4 (by decide) (by decide)).2.2]; exact hm) (by omega)
theorem mem_p5 (h : MemG g b) : gP 4 b 5 (mm g I J Z) = some (b + 5) := gP_m h.1 (h.2 5 (by decide) (by decide)).1
theorem mem_l5 (h : MemG g b) (hm : m < 40) : ldI (b + 5) (nI m) (mm g I J Z) = some (I (b + 5) m) := ldI_m (h.2 5 (by decide) (by decide)).2.1 (by rw [(h.2 5 (by decide) (by decide)).2.2]; exact hm) (by omega)
theorem mem_s5 (h : MemG g b) (hm : m < 40) : stI (b + 5) (nI m) x (mm g I J Z) = some (mm g (up2 I (b + 5) m x) J Z) := stI_m (h.2 5 (by decide) (by decide)).2.1 (by rw [(h.2 5 (by decide) (by decide)).2.2]; exact hm) (by omega)
theorem mem_p6 (h : MemG g b) : gP 4 b 6 (mm g I J Z) = some (b + 6) := gP_m h.1 (h.2 6 (by decide) (by decide)).1
theorem mem_l6 (h : MemG g b) (hm : m < 40) : ldI (b + 6) (nI m) (mm g I J Z) = some (I (b + 6) m) := ldI_m (h.2 6 (by decide) (by decide)).2.1 (by rw [(h.2 6 (by decide) (by decide)).2.2]; exact hm) (by omega)
theorem mem_s6 (h : MemG g b) (hm : m < 40) : stI (b + 6) (nI m) x (mm g I J Z) = some (mm g (up2 I (b + 6) m x) J Z) := stI_m (h.2 6 (by decide) (by decide)).2.1 (by rw [(h.2 6 (by decide) (by decide)).2.2]; exact hm) (by omega)
theorem mem_p7 (h : MemG g b) : gP 4 b 7 (mm g I J Z) = some (b + 7) := gP_m h.1 (h.2 7 (by decide) (by decide)).1
theorem mem_l7 (h : MemG g b) (hm : m < 40) : ldI (b + 7) (nI m) (mm g I J Z) = some (I (b + 7) m) := ldI_m (h.2 7 (by decide) (by decide)).2.1 (by rw [(h.2 7 (by decide) (by decide)).2.2]; exact hm) (by omega)
theorem mem_s7 (h : MemG g b) (hm : m < 40) : stI (b + 7) (nI m) x (mm g I J Z) = some (mm g (up2 I (b + 7) m x) J Z) := stI_m (h.2 7 (by decide) (by decide)).2.1 (by rw [(h.2 7 (by decide) (by decide)).2.2]; exact hm) (by omega)
theorem mem_p8 (h : MemG g b) : gP 4 b 8 (mm g I J Z) = some (b + 8) := gP_m h.1 (h.2 8 (by decide) (by decide)).1
theorem mem_l8 (h : MemG g b) (hm : m < 40) : ldI (b + 8) (nI m) (mm g I J Z) = some (I (b + 8) m) := ldI_m (h.2 8 (by decide) (by decide)).2.1 (by rw [(h.2 8 (by decide) (by decide)).2.2]; exact hm) (by omega)
theorem mem_s8 (h : MemG g b) (hm : m < 40) : stI (b + 8) (nI m) x (mm g I J Z) = some (mm g (up2 I (b + 8) m x) J Z) := stI_m (h.2 8 (by decide) (by decide)).2.1 (by rw [(h.2 8 (by decide) (by decide)).2.2]; exact hm) (by omega)
theorem mem_p9 (h : MemG g b) : gP 4 b 9 (mm g I J Z) = some (b + 9) := gP_m h.1 (h.2 9 (by decide) (by decide)).1
theorem mem_l9 (h : MemG g b) (hm : m < 40) : ldI (b + 9) (nI m) (mm g I J Z) = some (I (b + 9) m) := ldI_m (h.2 9 (by decide) (by decide)).2.1 (by rw [(h.2 9 (by decide) (by decide)).2.2]; exact hm) (by omega)
theorem mem_s9 (h : MemG g b) (hm : m < 40) : stI (b + 9) (nI m) x (mm g I J Z) = some (mm g (up2 I (b + 9) m x) J Z) := stI_m (h.2 9 (by decide) (by decide)).2.1 (by rw [(h.2 9 (by decide) (by decide)).2.2]; exact hm) (by omega)
theorem mem_p10 (h : MemG g b) : gP 4 b 10 (mm g I J Z) = some (b + 10) := gP_m h.1 (h.2 10 (by decide) (by decide)).1
theorem mem_l10 (h : MemG g b) (hm : m < 40) : ldI (b + 10) (nI m) (mm g I J Z) = some (I (b + 10) m) := ldI_m (h.2 10 (by decide) (by decide)).2.1 (by rw [(h.2 10 (by decide) (by decide)).2.2]; exact hm) (by omega)
theorem mem_s10 (h : MemG g b) (hm : m < 40) : stI (b + 10) (nI m) x (mm g I J Z) = some (mm g (up2 I (b + 10) m x) J Z) := stI_m (h.2 10 (by decide) (by decide)).2.1 (by rw [(h.2 10 (by decide) (by decide)).2.2]; exact hm) (by omega)
theorem mem_p11 (h : MemG g b) : gP 4 b 11 (mm g I J Z) = some (b + 11) := gP_m h.1 (h.2 11 (by decide) (by decide)).1
theorem mem_l11 (h : MemG g b) (hm : m < 40) : ldI (b + 11) (nI m) (mm g I J Z) = some (I (b + 11) m) := ldI_m (h.2 11 (by decide) (by decide)).2.1 (by rw [(h.2 11 (by decide) (by decide)).2.2]; exact hm) (by omega)
theorem mem_s11 (h : MemG g b) (hm : m < 40) : stI (b + 11) (nI m) x (mm g I J Z) = some (mm g (up2 I (b + 11) m x) J Z) := stI_m (h.2 11 (by decide) (by decide)).2.1 (by rw [(h.2 11 (by decide) (by decide)).2.2]; exact hm) (by omega)
theorem mem_p12 (h : MemG g b) : gP 4 b 12 (mm g I J Z) = some (b + 12) := gP_m h.1 (h.2 12 (by decide) (by decide)).1
theorem mem_l12 (h : MemG g b) (hm : m < 40) : ldI (b + 12) (nI m) (mm g I J Z) = some (I (b + 12) m) := ldI_m (h.2 12 (by decide) (by decide)).2.1 (by rw [(h.2 12 (by decide) (by decide)).2.2]; exact hm) (by omega)
theorem mem_s12 (h : MemG g b) (hm : m < 40) : stI (b + 12) (nI m) x (mm g I J Z) = some (mm g (up2 I (b + 12) m x) J Z) := stI_m (h.2 12 (by decide) (by decide)).2.1 (by rw [(h.2 12 (by decide) (by decide)).2.2]; exact hm) (by omega)
theorem lib_g0 (h : LibG g a) : gI 2 a 0 (mm g I J Z) = some (I a 0) := gI_m h.1
theorem lib_s0 (h : LibG g a) : pI 2 a 0 x (mm g I J Z) = some (mm g (up2 I a 0 x) J Z) := pI_m h.1
theorem lib_g1 (h : LibG g a) : gI 2 a 1 (mm g I J Z) = some (I a 1) := gI_m h.1
theorem lib_s1 (h : LibG g a) : pI 2 a 1 x (mm g I J Z) = some (mm g (up2 I a 1 x) J Z) := pI_m h.1
theorem lib_g2 (h : LibG g a) : gI 2 a 2 (mm g I J Z) = some (I a 2) := gI_m h.1
theorem lib_s2 (h : LibG g a) : pI 2 a 2 x (mm g I J Z) = some (mm g (up2 I a 2 x) J Z) := pI_m h.1
theorem lib_g3 (h : LibG g a) : gI 2 a 3 (mm g I J Z) = some (I a 3) := gI_m h.1
theorem lib_s3 (h : LibG g a) : pI 2 a 3 x (mm g I J Z) = some (mm g (up2 I a 3 x) J Z) := pI_m h.1
theorem lib_g4 (h : LibG g a) : gI 2 a 4 (mm g I J Z) = some (I a 4) := gI_m h.1
theorem lib_s4 (h : LibG g a) : pI 2 a 4 x (mm g I J Z) = some (mm g (up2 I a 4 x) J Z) := pI_m h.1
theorem lib_p5 (h : LibG g a) : gP 2 a 5 (mm g I J Z) = some (a + 1) := gP_m h.1 (h.2.1 0 (by decide)).1
theorem lib_l1 (h : LibG g a) (hc : c < 10) : ldI (a + 1) (nI c) (mm g I J Z) = some (I (a + 1) c) := ldI_m (h.2.1 0 (by decide)).2.1 (by rw [(h.2.1 0 (by decide)).2.2]; exact hc) (by omega)
theorem lib_t1 (h : LibG g a) (hc : c < 10) : stI (a + 1) (nI c) x (mm g I J Z) = some (mm g (up2 I (a + 1) c x) J Z) := stI_m (h.2.1 0 (by decide)).2.1 (by rw [(h.2.1 0 (by decide)).2.2]; exact hc) (by omega)
theorem lib_p6 (h : LibG g a) : gP 2 a 6 (mm g I J Z) = some (a + 2) := gP_m h.1 (h.2.1 1 (by decide)).1
theorem lib_l2 (h : LibG g a) (hc : c < 10) : ldI (a + 2) (nI c) (mm g I J Z) = some (I (a + 2) c) := ldI_m (h.2.1 1 (by decide)).2.1 (by rw [(h.2.1 1 (by decide)).2.2]; exact hc) (by omega)
theorem lib_t2 (h : LibG g a) (hc : c < 10) : stI (a + 2) (nI c) x (mm g I J Z) = some (mm g (up2 I (a + 2) c x) J Z) := stI_m (h.2.1 1 (by decide)).2.1 (by rw [(h.2.1 1 (by decide)).2.2]; exact hc) (by omega)
theorem lib_p7 (h : LibG g a) : gP 2 a 7 (mm g I J Z) = some (a + 3) := gP_m h.1 (h.2.1 2 (by decide)).1
theorem lib_l3 (h : LibG g a) (hc : c < 10) : ldI (a + 3) (nI c) (mm g I J Z) = some (I (a + 3) c) := ldI_m (h.2.1 2 (by decide)).2.1 (by rw [(h.2.1 2 (by decide)).2.2]; exact hc) (by omega)
theorem lib_t3 (h : LibG g a) (hc : c < 10) : stI (a + 3) (nI c) x (mm g I J Z) = some (mm g (up2 I (a + 3) c x) J Z) := stI_m (h.2.1 2 (by decide)).2.1 (by rw [(h.2.1 2 (by decide)).2.2]; exact hc) (by omega)
theorem lib_p8 (h : LibG g a) : gP 2 a 8 (mm g I J Z) = some (a + 4) := gP_m h.1 (h.2.1 3 (by decide)).1
theorem lib_l4 (h : LibG g a) (hc : c < 10) : ldI (a + 4) (nI c) (mm g I J Z) = some (I (a + 4) c) := ldI_m (h.2.1 3 (by decide)).2.1 (by rw [(h.2.1 3 (by decide)).2.2]; exact hc) (by omega)
theorem lib_t4 (h : LibG g a) (hc : c < 10) : stI (a + 4) (nI c) x (mm g I J Z) = some (mm g (up2 I (a + 4) c x) J Z) := stI_m (h.2.1 3 (by decide)).2.1 (by rw [(h.2.1 3 (by decide)).2.2]; exact hc) (by omega)
theorem lib_p9 (h : LibG g a) : gP 2 a 9 (mm g I J Z) = some (a + 5) := gP_m h.1 (h.2.1 4 (by decide)).1
theorem lib_l5 (h : LibG g a) (hc : c < 10) : ldI (a + 5) (nI c) (mm g I J Z) = some (I (a + 5) c) := ldI_m (h.2.1 4 (by decide)).2.1 (by rw [(h.2.1 4 (by decide)).2.2]; exact hc) (by omega)
theorem lib_t5 (h : LibG g a) (hc : c < 10) : stI (a + 5) (nI c) x (mm g I J Z) = some (mm g (up2 I (a + 5) c x) J Z) := stI_m (h.2.1 4 (by decide)).2.1 (by rw [(h.2.1 4 (by decide)).2.2]; exact hc) (by omega)
theorem lib_p10 (h : LibG g a) : gP 2 a 10 (mm g I J Z) = some (a + 6) := gP_m h.1 h.2.2.1
theorem lib_p11 (h : LibG g a) : gP 2 a 11 (mm g I J Z) = some (a + 19) := gP_m h.1 h.2.2.2.2.1
theorem lib_l19 (h : LibG g a) (hc : c < 10) : ldI (a + 19) (nI c) (mm g I J Z) = some (I (a + 19) c) := ldI_m h.2.2.2.2.2.1 (by rw [h.2.2.2.2.2.2]; exact hc) (by omega)
theorem lib_t19 (h : LibG g a) (hc : c < 10) : stI (a + 19) (nI c) x (mm g I J Z) = some (mm g (up2 I (a + 19) c x) J Z) := stI_m h.2.2.2.2.2.1 (by rw [h.2.2.2.2.2.2]; exact hc) (by omega)
theorem LibG.mem (h : LibG g a) : MemG g (a + 6) := h.2.2.2.1
theorem lib_cv {ρ γ : Type} {f : AH → Option (ρ × AH)} {K : ρ → AH → Option γ} (h : LibG g a) : cv 2 a f (mm g I J Z) K = bd (f (mm g I J Z)) K := cv_m h.1
theorem mem_cv {ρ γ : Type} {f : AH → Option (ρ × AH)} {K : ρ → AH → Option γ} (h : MemG g b) : cv 4 b f (mm g I J Z) K = bd (f (mm g I J Z)) K := cv_m h.1
theorem cln_g0 (h : ClG g a) : gI 0 a 0 (mm g I J Z) = some (I a 0) := gI_m h.1
theorem cln_s0 (h : ClG g a) : pI 0 a 0 x (mm g I J Z) = some (mm g (up2 I a 0 x) J Z) := pI_m h.1
theorem cln_g1 (h : ClG g a) : gI 0 a 1 (mm g I J Z) = some (I a 1) := gI_m h.1
theorem cln_s1 (h : ClG g a) : pI 0 a 1 x (mm g I J Z) = some (mm g (up2 I a 1 x) J Z) := pI_m h.1
theorem cln_g2 (h : ClG g a) : gI 0 a 2 (mm g I J Z) = some (I a 2) := gI_m h.1
theorem cln_s2 (h : ClG g a) : pI 0 a 2 x (mm g I J Z) = some (mm g (up2 I a 2 x) J Z) := pI_m h.1
theorem cln_g3 (h : ClG g a) : gI 0 a 3 (mm g I J Z) = some (I a 3) := gI_m h.1
theorem cln_s3 (h : ClG g a) : pI 0 a 3 x (mm g I J Z) = some (mm g (up2 I a 3 x) J Z) := pI_m h.1
theorem cln_g4 (h : ClG g a) : gI 0 a 4 (mm g I J Z) = some (I a 4) := gI_m h.1
theorem cln_s4 (h : ClG g a) : pI 0 a 4 x (mm g I J Z) = some (mm g (up2 I a 4 x) J Z) := pI_m h.1
theorem cln_g5 (h : ClG g a) : gI 0 a 5 (mm g I J Z) = some (I a 5) := gI_m h.1
theorem cln_s5 (h : ClG g a) : pI 0 a 5 x (mm g I J Z) = some (mm g (up2 I a 5 x) J Z) := pI_m h.1
theorem cln_g6 (h : ClG g a) : gI 0 a 6 (mm g I J Z) = some (I a 6) := gI_m h.1
theorem cln_s6 (h : ClG g a) : pI 0 a 6 x (mm g I J Z) = some (mm g (up2 I a 6 x) J Z) := pI_m h.1
theorem cln_g7 (h : ClG g a) : gI 0 a 7 (mm g I J Z) = some (I a 7) := gI_m h.1
theorem cln_s7 (h : ClG g a) : pI 0 a 7 x (mm g I J Z) = some (mm g (up2 I a 7 x) J Z) := pI_m h.1
theorem cln_p8 (h : ClG g a) : gP 0 a 8 (mm g I J Z) = some (a + 1) := gP_m h.1 h.2.1
theorem cln_cv {ρ γ : Type} {f : AH → Option (ρ × AH)} {K : ρ → AH → Option γ} (h : ClG g a) : cv 0 a f (mm g I J Z) K = bd (f (mm g I J Z)) K := cv_m h.1
theorem sym_g0 (h : g.1 a = 8) : gI 7 a 0 (mm g I J Z) = some (I a 0) := gI_m h
theorem sym_s0 (h : g.1 a = 8) (hx : x = 0 ∨ x = 1) : pZ 7 a 0 x (mm g I J Z) = some (mm g (up2 I a 0 x) J Z) := pZ_m h hx
theorem sym_g1 (h : g.1 a = 8) : gI 7 a 1 (mm g I J Z) = some (I a 1) := gI_m h
theorem sym_s1 (h : g.1 a = 8) : pI 7 a 1 x (mm g I J Z) = some (mm g (up2 I a 1 x) J Z) := pI_m h
theorem sym_g2 (h : g.1 a = 8) : gI 7 a 2 (mm g I J Z) = some (I a 2) := gI_m h
theorem sym_s2 (h : g.1 a = 8) : pI 7 a 2 x (mm g I J Z) = some (mm g (up2 I a 2 x) J Z) := pI_m h
theorem sym_g3 (h : g.1 a = 8) : gI 7 a 3 (mm g I J Z) = some (I a 3) := gI_m h
theorem sym_s3 (h : g.1 a = 8) : pI 7 a 3 x (mm g I J Z) = some (mm g (up2 I a 3 x) J Z) := pI_m h
theorem sym_g4 (h : g.1 a = 8) : gI 7 a 4 (mm g I J Z) = some (I a 4) := gI_m h
theorem sym_s4 (h : g.1 a = 8) : pI 7 a 4 x (mm g I J Z) = some (mm g (up2 I a 4 x) J Z) := pI_m h
theorem sym_g5 (h : g.1 a = 8) : gI 7 a 5 (mm g I J Z) = some (I a 5) := gI_m h
theorem sym_s5 (h : g.1 a = 8) : pI 7 a 5 x (mm g I J Z) = some (mm g (up2 I a 5 x) J Z) := pI_m h
theorem sym_g6 (h : g.1 a = 8) : gI 7 a 6 (mm g I J Z) = some (I a 6) := gI_m h
theorem sym_s6 (h : g.1 a = 8) : pI 7 a 6 x (mm g I J Z) = some (mm g (up2 I a 6 x) J Z) := pI_m h
theorem sym_cv {ρ γ : Type} {f : AH → Option (ρ × AH)} {K : ρ → AH → Option γ} (h : g.1 a = 8) : cv 7 a f (mm g I J Z) K = bd (f (mm g I J Z)) K := cv_m h
end Lb
