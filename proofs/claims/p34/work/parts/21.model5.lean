/-! THE REFERENCE's decisions -/
theorem rw1_self (M : xm_M) (r j : Nat) (x : Int32) : xm_setI M r j x = rw1 M r (upd (M.2.1 r) j x) := rfl
def rup (x y : Int32) : Int32 := if 0 < x then (x + y - 1) / y else 0
def clk (p a : Nat → Int32) (i m w : Nat) : Nat :=
  if a (81 + 76 * i + 5) = 1 ∨ nI m < p 11 ∨ p 10 < spr (fun j => a (81 + 76 * i + (16 + j))) (m - min m w) (min m w) then 3 else if a (81 + 76 * i + 14) < a 4 then 0 else if a 5 < a (81 + 76 * i + 14) then 2 else 1
theorem clk_b {p a : Nat → Int32} {i m w : Nat} : clk p a i m w < 4 := by
  unfold clk
  split
  · decide
  · split
    · decide
    · split <;> decide
/-- how many samples an item has -/
def mny (a : Nat → Int32) (i : Nat) : Nat := (a (81 + 76 * i + 4)).toNatClampNeg
theorem mny_of {a : Nat → Int32} {i m : Nat} (h : a (81 + 76 * i + 4) = nI m) (hm : m ≤ 60) : mny a i = m := by
  unfold mny
  rw [h, cl_n (by omega)]
def men (a : Nat → Int32) (i m w : Nat) : Int32 := sm (fun j => a (81 + 76 * i + (16 + j))) (m - min m w) (min m w) / nI (min m w) - a 1
/-- the row with an item's measured value -/
def dc1 (a : Nat → Int32) (i w : Nat) : Nat → Int32 := if 0 < a (81 + 76 * i + 4) then upd a (81 + 76 * i + 14) (men a i (mny a i) w) else a
/-- .. with its class, its state, its time -/
def dc2 (p a : Nat → Int32) (i w : Nat) : Nat → Int32 := upd (upd (upd (dc1 a i w) (81 + 76 * i + 6) (nI (clk p (dc1 a i w) i (mny a i) w))) (81 + 76 * i + 3) 1) (81 + 76 * i + 8) (a 0)
def dcg (p a : Nat → Int32) (i w : Nat) : Int32 := p (37 + clk p (dc1 a i w) i (mny a i) w)
/-- .. with its gate -/
def dc3 (p a : Nat → Int32) (i w : Nat) : Nat → Int32 := upd (dc2 p a i w) (81 + 76 * i + 7) (dcg p a i w)
def arr (p a : Nat → Int32) (i g : Nat) : Int32 := a 0 + rup (p (28 + 3 * g + 1) - a (81 + 76 * i + 2)) (p 0)
def dcd (p a : Nat → Int32) (i w : Nat) : Nat → Int32 :=
  if dcg p a i w = -1 then dc3 p a i w
  else upd (upd (dc3 p a i w) (81 + 76 * i + 10) (igt (arr p a i (dcg p a i w).toNatClampNeg) (a 0 + p (28 + 3 * (dcg p a i w).toNatClampNeg + 2)))) (81 + 76 * i + 11) (arr p a i (dcg p a i w).toNatClampNeg + rup (a (81 + 76 * i + 1)) (p 0))
theorem up_n {a : Nat → Int32} {j k : Nat} {x : Int32} (h : k ≠ j) : upd a j x k = a k := if_neg h
theorem up_s {a : Nat → Int32} {j : Nat} {x : Int32} : upd a j x j = x := if_pos rfl
/-- cells that a decision keeps -/
theorem dc3_n {p a : Nat → Int32} {i w k : Nat} (h : k ≠ 81 + 76 * i + 14 ∧ k ≠ 81 + 76 * i + 6 ∧ k ≠ 81 + 76 * i + 3 ∧ k ≠ 81 + 76 * i + 8 ∧ k ≠ 81 + 76 * i + 7) : dc3 p a i w k = a k := by
  unfold dc3 dc2 dc1
  rw [up_n h.2.2.2.2, up_n h.2.2.2.1, up_n h.2.2.1, up_n h.2.1]
  split
  · rw [up_n h.1]
  · rfl
/-- the setup row that a run needs -/
def wp (p : Nat → Int32) (V G W Q : Nat) : Prop :=
  (p 4 = nI V) ∧
  (V ≤ 4) ∧
  (p 5 = nI G) ∧
  (G ≤ 3) ∧
  (p 8 = nI W) ∧
  (1 ≤ W) ∧
  (W ≤ 60) ∧
  (p 14 = nI Q) ∧
  (Q ≤ 60) ∧
  (1 ≤ (p 0).toInt ∧ (p 0).toInt ≤ 100) ∧
  (1 ≤ (p 1).toInt ∧ (p 1).toInt < (p 2).toInt) ∧
  ((p 2).toInt < (p 3).toInt ∧ (p 2).toInt ≤ 4000) ∧
  ((p 3).toInt ≤ 9000) ∧
  (p 9 = 0 ∨ p 9 = 1) ∧
  (0 ≤ (p 10).toInt ∧ (p 10).toInt ≤ 9999) ∧
  (1 ≤ (p 11).toInt ∧ (p 11).toInt ≤ 60) ∧
  (0 ≤ (p 12).toInt ∧ (p 12).toInt ≤ 99) ∧
  (1 ≤ (p 13).toInt ∧ (p 13).toInt ≤ 999) ∧
  (1 ≤ (p 15).toInt ∧ (p 15).toInt ≤ 99) ∧
  (0 ≤ (p 6).toInt ∧ (p 6).toInt ≤ (p 7).toInt ∧ (p 7).toInt ≤ 9999) ∧
  (∀ k, k < V → 1 ≤ (p (16 + 3 * k)).toInt ∧ (p (16 + 3 * k)).toInt ≤ 999 ∧ 2 ≤ (p (16 + 3 * k + 1)).toInt ∧ (p (16 + 3 * k + 1)).toInt ≤ 40 ∧ 0 ≤ (p (16 + 3 * k + 2)).toInt ∧ (p (16 + 3 * k + 2)).toInt < (p (16 + 3 * k + 1)).toInt) ∧
  (∀ g, g < G → (p 2).toInt < (p (28 + 3 * g + 1)).toInt ∧ (p (28 + 3 * g + 1)).toInt < (p 3).toInt ∧ 0 ≤ (p (28 + 3 * g + 2)).toInt ∧ (p (28 + 3 * g + 2)).toInt ≤ 50) ∧
  (∀ g, g + 1 < G → (p (28 + 3 * g + 1)).toInt < (p (28 + 3 * g + 4)).toInt) ∧
  (∀ g, g < G → ∃ k, k < 4 ∧ p (28 + 3 * g) = nI k ∧ p (37 + k) = nI g) ∧
  (∀ k, k < 4 → (p (37 + k) = -1 ∧ ∀ g, g < G → p (28 + 3 * g) ≠ nI k) ∨ ∃ g, g < G ∧ p (37 + k) = nI g ∧ p (28 + 3 * g) = nI k)
theorem wp.v4 {p : Nat → Int32} {V G W Q : Nat} (h : wp p V G W Q) : p 4 = nI V := h.1
theorem wp.v4b {p : Nat → Int32} {V G W Q : Nat} (h : wp p V G W Q) : V ≤ 4 := h.2.1
theorem wp.g5 {p : Nat → Int32} {V G W Q : Nat} (h : wp p V G W Q) : p 5 = nI G := h.2.2.1
theorem wp.g5b {p : Nat → Int32} {V G W Q : Nat} (h : wp p V G W Q) : G ≤ 3 := h.2.2.2.1
theorem wp.w8 {p : Nat → Int32} {V G W Q : Nat} (h : wp p V G W Q) : p 8 = nI W := h.2.2.2.2.1
theorem wp.w8a {p : Nat → Int32} {V G W Q : Nat} (h : wp p V G W Q) : 1 ≤ W := h.2.2.2.2.2.1
theorem wp.w8b {p : Nat → Int32} {V G W Q : Nat} (h : wp p V G W Q) : W ≤ 60 := h.2.2.2.2.2.2.1
theorem wp.z14 {p : Nat → Int32} {V G W Q : Nat} (h : wp p V G W Q) : p 14 = nI Q := h.2.2.2.2.2.2.2.1
theorem wp.z14b {p : Nat → Int32} {V G W Q : Nat} (h : wp p V G W Q) : Q ≤ 60 := h.2.2.2.2.2.2.2.2.1
theorem wp.s0 {p : Nat → Int32} {V G W Q : Nat} (h : wp p V G W Q) : 1 ≤ (p 0).toInt ∧ (p 0).toInt ≤ 100 := h.2.2.2.2.2.2.2.2.2.1
theorem wp.b1 {p : Nat → Int32} {V G W Q : Nat} (h : wp p V G W Q) : 1 ≤ (p 1).toInt ∧ (p 1).toInt < (p 2).toInt := h.2.2.2.2.2.2.2.2.2.2.1
theorem wp.e2 {p : Nat → Int32} {V G W Q : Nat} (h : wp p V G W Q) : (p 2).toInt < (p 3).toInt ∧ (p 2).toInt ≤ 4000 := h.2.2.2.2.2.2.2.2.2.2.2.1
theorem wp.e3 {p : Nat → Int32} {V G W Q : Nat} (h : wp p V G W Q) : (p 3).toInt ≤ 9000 := h.2.2.2.2.2.2.2.2.2.2.2.2.1
theorem wp.n9 {p : Nat → Int32} {V G W Q : Nat} (h : wp p V G W Q) : p 9 = 0 ∨ p 9 = 1 := h.2.2.2.2.2.2.2.2.2.2.2.2.2.1
theorem wp.st10 {p : Nat → Int32} {V G W Q : Nat} (h : wp p V G W Q) : 0 ≤ (p 10).toInt ∧ (p 10).toInt ≤ 9999 := h.2.2.2.2.2.2.2.2.2.2.2.2.2.2.1
theorem wp.ls11 {p : Nat → Int32} {V G W Q : Nat} (h : wp p V G W Q) : 1 ≤ (p 11).toInt ∧ (p 11).toInt ≤ 60 := h.2.2.2.2.2.2.2.2.2.2.2.2.2.2.2.1
theorem wp.dr12 {p : Nat → Int32} {V G W Q : Nat} (h : wp p V G W Q) : 0 ≤ (p 12).toInt ∧ (p 12).toInt ≤ 99 := h.2.2.2.2.2.2.2.2.2.2.2.2.2.2.2.2.1
theorem wp.dt13 {p : Nat → Int32} {V G W Q : Nat} (h : wp p V G W Q) : 1 ≤ (p 13).toInt ∧ (p 13).toInt ≤ 999 := h.2.2.2.2.2.2.2.2.2.2.2.2.2.2.2.2.2.1
theorem wp.co15 {p : Nat → Int32} {V G W Q : Nat} (h : wp p V G W Q) : 1 ≤ (p 15).toInt ∧ (p 15).toInt ≤ 99 := h.2.2.2.2.2.2.2.2.2.2.2.2.2.2.2.2.2.2.1
theorem wp.lw6 {p : Nat → Int32} {V G W Q : Nat} (h : wp p V G W Q) : 0 ≤ (p 6).toInt ∧ (p 6).toInt ≤ (p 7).toInt ∧ (p 7).toInt ≤ 9999 := h.2.2.2.2.2.2.2.2.2.2.2.2.2.2.2.2.2.2.2.1
theorem wp.vib {p : Nat → Int32} {V G W Q : Nat} (h : wp p V G W Q) : ∀ k, k < V → 1 ≤ (p (16 + 3 * k)).toInt ∧ (p (16 + 3 * k)).toInt ≤ 999 ∧ 2 ≤ (p (16 + 3 * k + 1)).toInt ∧ (p (16 + 3 * k + 1)).toInt ≤ 40 ∧ 0 ≤ (p (16 + 3 * k + 2)).toInt ∧ (p (16 + 3 * k + 2)).toInt < (p (16 + 3 * k + 1)).toInt := h.2.2.2.2.2.2.2.2.2.2.2.2.2.2.2.2.2.2.2.2.1
theorem wp.gat {p : Nat → Int32} {V G W Q : Nat} (h : wp p V G W Q) : ∀ g, g < G → (p 2).toInt < (p (28 + 3 * g + 1)).toInt ∧ (p (28 + 3 * g + 1)).toInt < (p 3).toInt ∧ 0 ≤ (p (28 + 3 * g + 2)).toInt ∧ (p (28 + 3 * g + 2)).toInt ≤ 50 := h.2.2.2.2.2.2.2.2.2.2.2.2.2.2.2.2.2.2.2.2.2.1
theorem wp.gas {p : Nat → Int32} {V G W Q : Nat} (h : wp p V G W Q) : ∀ g, g + 1 < G → (p (28 + 3 * g + 1)).toInt < (p (28 + 3 * g + 4)).toInt := h.2.2.2.2.2.2.2.2.2.2.2.2.2.2.2.2.2.2.2.2.2.2.1
theorem wp.gkd {p : Nat → Int32} {V G W Q : Nat} (h : wp p V G W Q) : ∀ g, g < G → ∃ k, k < 4 ∧ p (28 + 3 * g) = nI k ∧ p (37 + k) = nI g := h.2.2.2.2.2.2.2.2.2.2.2.2.2.2.2.2.2.2.2.2.2.2.2.1
theorem wp.gof {p : Nat → Int32} {V G W Q : Nat} (h : wp p V G W Q) : ∀ k, k < 4 → (p (37 + k) = -1 ∧ ∀ g, g < G → p (28 + 3 * g) ≠ nI k) ∨ ∃ g, g < G ∧ p (37 + k) = nI g ∧ p (28 + 3 * g) = nI k := h.2.2.2.2.2.2.2.2.2.2.2.2.2.2.2.2.2.2.2.2.2.2.2.2
theorem wp.s0n {p : Nat → Int32} {V G W Q : Nat} (h : wp p V G W Q) : p 0 ≠ 0 := fun q => by
  have := h.s0.1
  rw [q] at this
  exact absurd this (by decide)
theorem wp.d13 {p : Nat → Int32} {V G W Q : Nat} (h : wp p V G W Q) : p 13 ≠ 0 := fun q => by
  have := h.dt13.1
  rw [q] at this
  exact absurd this (by decide)
theorem wp.l11 {p : Nat → Int32} {V G W Q : Nat} (h : wp p V G W Q) : 0 < p 11 := by
  rw [tl]
  have := h.ls11.1
  show (0 : Int) < _
  omega
theorem wp.vp {p : Nat → Int32} {V G W Q : Nat} (h : wp p V G W Q) : ∀ i, i < V → p (16 + 3 * i + 1) ≠ 0 := fun i hi q => by
  have := (h.vib i hi).2.2.1
  rw [q] at this
  exact absurd this (by decide)
theorem wp.go {p : Nat → Int32} {V G W Q : Nat} (h : wp p V G W Q) {k : Nat} (hk : k < 4) : p (37 + k) = -1 ∨ ∃ g, g < G ∧ p (37 + k) = nI g := by
  rcases h.gof k hk with q | ⟨g, q1, q2, -⟩
  · exact Or.inl q.1
  · exact Or.inr ⟨g, q1, q2⟩
/-- the state row that a run needs: N items, G gates -/
def wa (a : Nat → Int32) (N G : Nat) : Prop :=
  (a 2 = nI N) ∧
  (N ≤ 60) ∧
  (∀ i, i < N → ∃ m, m ≤ 60 ∧ a (81 + 76 * i + 4) = nI m) ∧
  (∀ i, i < N → 1 ≤ (a (81 + 76 * i + 1)).toInt ∧ (a (81 + 76 * i + 1)).toInt ≤ 2000) ∧
  (∀ i, i < N → ∃ b, b < 3 ∧ a (81 + 76 * i + 13) = nI b)
theorem wa.n2 {a : Nat → Int32} {N G : Nat} (h : wa a N G) : a 2 = nI N := h.1
theorem wa.n2b {a : Nat → Int32} {N G : Nat} (h : wa a N G) : N ≤ 60 := h.2.1
theorem wa.mn {a : Nat → Int32} {N G : Nat} (h : wa a N G) : ∀ i, i < N → ∃ m, m ≤ 60 ∧ a (81 + 76 * i + 4) = nI m := h.2.2.1
theorem wa.ln {a : Nat → Int32} {N G : Nat} (h : wa a N G) : ∀ i, i < N → 1 ≤ (a (81 + 76 * i + 1)).toInt ∧ (a (81 + 76 * i + 1)).toInt ≤ 2000 := h.2.2.2.1
theorem wa.by' {a : Nat → Int32} {N G : Nat} (h : wa a N G) : ∀ i, i < N → ∃ b, b < 3 ∧ a (81 + 76 * i + 13) = nI b := h.2.2.2.2
theorem wa.u {a : Nat → Int32} {N G : Nat} (h : wa a N G) {i w : Nat} {x : Int32} (hw : w < 76) (h4 : w = 4 → ∃ m, m ≤ 60 ∧ x = nI m) (h13 : w = 13 → ∃ b, b < 3 ∧ x = nI b) (h1 : w ≠ 1) : wa (upd a (81 + 76 * i + w) x) N G :=
  ⟨(by rw [up_n (by omega)]; exact h.n2),
  h.n2b,
  (fun j hj => by
      by_cases e : 81 + 76 * j + 4 = 81 + 76 * i + w
      · rw [e, up_s]; exact h4 (by omega)
      · rw [up_n e]; exact h.mn j hj),
  (fun j hj => by rw [up_n (by omega)]; exact h.ln j hj),
  (fun j hj => by
      by_cases e : 81 + 76 * j + 13 = 81 + 76 * i + w
      · rw [e, up_s]; exact h13 (by omega)
      · rw [up_n e]; exact h.by' j hj)⟩
theorem wa.g {a : Nat → Int32} {N G : Nat} (h : wa a N G) {j : Nat} {x : Int32} (hj : j < 81) (h2 : j ≠ 2) : wa (upd a j x) N G :=
  ⟨(by rw [up_n (by omega)]; exact h.n2),
  h.n2b,
  (fun j hj => by rw [up_n (by omega)]; exact h.mn j hj),
  (fun j hj => by rw [up_n (by omega)]; exact h.ln j hj),
  (fun j hj => by rw [up_n (by omega)]; exact h.by' j hj)⟩
theorem wa.cong {a b : Nat → Int32} {N G : Nat} (h : wa a N G) (h2 : b 2 = a 2) (hc : ∀ i, i < N → b (81 + 76 * i + 4) = a (81 + 76 * i + 4) ∧ b (81 + 76 * i + 1) = a (81 + 76 * i + 1) ∧ b (81 + 76 * i + 13) = a (81 + 76 * i + 13)) : wa b N G :=
  ⟨(by rw [h2]; exact h.n2),
  h.n2b,
  (fun j hj => by rw [(hc j hj).1]; exact h.mn j hj),
  (fun j hj => by rw [(hc j hj).2.1]; exact h.ln j hj),
  (fun j hj => by rw [(hc j hj).2.2]; exact h.by' j hj)⟩
theorem wa.dcd {p a : Nat → Int32} {N G i w : Nat} (h : wa a N G) : wa (dcd p a i w) N G := by
  have h3 : wa (dc3 p a i w) N G := h.cong (dc3_n (by omega)) (fun j _ => ⟨dc3_n (by omega), dc3_n (by omega), dc3_n (by omega)⟩)
  unfold _root_.Jvm.Pilot.CCheckWeigherLaw_law_r2128_7c0bd7.dcd
  split
  · exact h3
  · exact (h3.u (by decide) (fun h => absurd h (by decide)) (fun h => absurd h (by decide)) (by decide)).u (by decide) (fun h => absurd h (by decide)) (fun h => absurd h (by decide)) (by decide)
