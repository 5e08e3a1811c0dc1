/-! THE ROW's invariants at rest; a tick keeps them -/
/-- an item's numbers x: time T; an item without a decision has its front at f0 at most, one on the belt at fb at most -/
def ivx (p x : Nat → Int32) (G T : Nat) (f0 fb : Int) : Prop :=
  (0 ≤ (x 3).toInt ∧ (x 3).toInt ≤ 5) ∧ (0 ≤ (x 2).toInt ∧ (x 2).toInt ≤ 9200) ∧ (x 3 < 2 → (x 2).toInt ≤ fb ∧ x 12 = 0) ∧ (x 3 = 0 → (x 2).toInt ≤ f0 ∧ x 6 = -1 ∧ x 7 = -1 ∧ x 10 = 0 ∧ x 11 = 0) ∧ (x 3 = 1 → (p 2).toInt < (x 2).toInt) ∧ (x 7 = -1 ∨ ∃ g, g < G ∧ x 7 = nI g) ∧ (x 12 = 0 ∨ ((x 12).toInt = (x 9).toInt + (p 15).toInt ∧ 0 ≤ (x 9).toInt ∧ (x 9).toInt ≤ (T : Int) ∧ ∃ g, g < G ∧ x 13 = nI g)) ∧ (0 ≤ (x 10).toInt ∧ (x 10).toInt ≤ 60000 ∧ 0 ≤ (x 11).toInt ∧ (x 11).toInt ≤ 60000)
abbrev wds (a : Nat → Int32) (i : Nat) : Nat → Int32 := fun w => a (81 + 76 * i + w)
theorem ivx.cong {p x y : Nat → Int32} {G T : Nat} {f0 fb : Int} (h : ivx p x G T f0 fb) (h2 : y 2 = x 2) (h3 : y 3 = x 3) (h6 : y 6 = x 6) (h7 : y 7 = x 7) (h9 : y 9 = x 9) (h10 : y 10 = x 10) (h11 : y 11 = x 11) (h12 : y 12 = x 12) (h13 : y 13 = x 13) : ivx p y G T f0 fb := by
  unfold ivx
  rw [h2, h3, h6, h7, h9, h10, h11, h12, h13]
  exact h
/-- what an item's own number becomes -/
theorem itf_it {f : Nat → (Nat → Int32) → Nat → Int32} (hf : ∀ i a j, 81 ≤ j → ¬ (81 + 76 * i ≤ j ∧ j < 81 + 76 * i + 76) → f i a j = a j) {a : Nat → Int32} {i : Nat} : (∀ v, v < 76 → itf f i a (81 + 76 * i + v) = a (81 + 76 * i + v)) ∧ ∀ N w, i < N → w < 76 → itf f N a (81 + 76 * i + w) = f i (itf f i a) (81 + 76 * i + w) := by
  have lo : ∀ n j, 81 + 76 * n ≤ j → itf f n a j = a j := by
    intro n
    induction n with
    | zero => intro j _; rfl
    | succ n ih =>
      intro j hj
      rw [itf_s, hf n _ j (by omega) (by omega)]
      exact ih j (by omega)
  refine ⟨fun v _ => lo i _ (by omega), fun N w hi hw => ?_⟩
  have : ∀ d, itf f (i + 1 + d) a (81 + 76 * i + w) = f i (itf f i a) (81 + 76 * i + w) := by
    intro d
    induction d with
    | zero => rfl
    | succ d ih =>
      rw [← Nat.add_assoc, itf_s, hf _ _ _ (by omega) (by omega)]
      exact ih
  have e := this (N - (i + 1))
  rw [show i + 1 + (N - (i + 1)) = N by omega] at e
  exact e
theorem mv1_l {p : Nat → Int32} : ∀ i a j, 81 ≤ j → ¬ (81 + 76 * i ≤ j ∧ j < 81 + 76 * i + 76) → mv1 p i a j = a j := by
  intro i a j _ h
  unfold mv1
  split
  · exact up_n (by omega)
  · rfl
theorem i0 : (0 : Int32).toInt = 0 := rfl
theorem i1 : (1 : Int32).toInt = 1 := rfl
theorem i2 : (2 : Int32).toInt = 2 := rfl
theorem im1 : (-1 : Int32).toInt = -1 := rfl
/-- the words of an item behind the moves -/
theorem mv_w {p a : Nat → Int32} {N i : Nat} (hi : i < N) : (∀ w, w < 76 → w ≠ 2 → itf (mv1 p) N a (81 + 76 * i + w) = a (81 + 76 * i + w)) ∧ itf (mv1 p) N a (81 + 76 * i + 2) = if onB a i then a (81 + 76 * i + 2) + p 0 else a (81 + 76 * i + 2) := by
  obtain ⟨h1, h2⟩ := itf_it (f := mv1 p) mv1_l (a := a) (i := i)
  have e3 : onB (itf (mv1 p) i a) i ↔ onB a i := by unfold onB; rw [h1 3 (by decide)]
  refine ⟨fun w hw hw2 => ?_, ?_⟩
  · rw [h2 N w hi hw]
    generalize itf (mv1 p) i a = b at h1
    unfold mv1
    split
    · rw [up_n (by omega)]; exact h1 w hw
    · exact h1 w hw
  · rw [h2 N 2 hi (by decide)]
    clear h2
    generalize itf (mv1 p) i a = b at h1 e3
    unfold mv1
    by_cases h : onB a i
    · rw [if_pos h, if_pos (e3.mpr h), up_s, h1 2 (by decide)]
    · rw [if_neg h, if_neg (fun t => h (e3.mp t)), h1 2 (by decide)]
theorem mv_lo {p a : Nat → Int32} {N j : Nat} (h : j < 81) : itf (mv1 p) N a j = a j := by
  induction N with
  | zero => rfl
  | succ n ih =>
    rw [itf_s]
    generalize itf (mv1 p) n a = b at ih
    unfold mv1
    split
    · rw [up_n (by omega)]; exact ih
    · exact ih
/-- the words behind the samples -/
theorem cl_w {p a : Nat → Int32} {N G C i w : Nat} (ha : wa a N G) (hi : i < N) (hw : w < 16) (h4 : w ≠ 4) (h5 : w ≠ 5) : itf (cl1 p C) N a (81 + 76 * i + w) = a (81 + 76 * i + w) := by
  have key : ∀ n, n ≤ N → ∀ i w, i < N → w < 16 → w ≠ 4 → w ≠ 5 → itf (cl1 p C) n a (81 + 76 * i + w) = a (81 + 76 * i + w) := by
    intro n
    induction n with
    | zero => intro _ i w _ _ _ _; rfl
    | succ n ih =>
      intro hn i w hi hw h4 h5
      have hb : wa (itf (cl1 p C) n a) N G := ha.itf (fun k a hk h => h.cl1 (by omega))
      obtain ⟨m1, m2⟩ := hb.my (i := n) (by omega)
      have ih := ih (by omega) i w hi hw h4 h5
      rw [itf_s]
      generalize itf (cl1 p C) n a = b at *
      unfold cl1
      split
      · split
        · rw [gvs_n m1 (by omega) (by omega)]; exact ih
        · rw [up_n (by omega)]; exact ih
      · exact ih
  exact key N (Nat.le_refl _) i w hi hw h4 h5
theorem cl_lo {p a : Nat → Int32} {N G C j : Nat} (ha : wa a N G) (h : j < 81) : itf (cl1 p C) N a j = a j := by
  have key : ∀ n, n ≤ N → itf (cl1 p C) n a j = a j := by
    intro n
    induction n with
    | zero => intro _; rfl
    | succ n ih =>
      intro hn
      have hb : wa (itf (cl1 p C) n a) N G := ha.itf (fun k a hk h => h.cl1 (by omega))
      obtain ⟨m1, m2⟩ := hb.my (i := n) (by omega)
      rw [itf_s]
      generalize itf (cl1 p C) n a = b at *
      unfold cl1
      split
      · split
        · rw [gvs_n m1 (by omega) (by omega)]; exact ih (by omega)
        · rw [up_n (by omega)]; exact ih (by omega)
      · exact ih (by omega)
  exact key N (Nat.le_refl _)
theorem dc4_l {p : Nat → Int32} {w : Nat} : ∀ i a j, 81 ≤ j → ¬ (81 + 76 * i ≤ j ∧ j < 81 + 76 * i + 76) → dc4 p w i a j = a j := fun _ _ _ _ h => dc4_n h
theorem dc_lo {p a : Nat → Int32} {N w j : Nat} (h : j < 81) : itf (dc4 p w) N a j = a j := itf_hi (fun i a j h => dc4_n h) (Or.inl h)
/-- the words behind the decisions -/
theorem dc_w {p a : Nat → Int32} {N w i : Nat} (hi : i < N) : (¬ dcq p a i → ∀ v, v < 76 → itf (dc4 p w) N a (81 + 76 * i + v) = a (81 + 76 * i + v)) ∧ (dcq p a i → ∃ b : Nat → Int32, (∀ v, v < 76 → b (81 + 76 * i + v) = a (81 + 76 * i + v)) ∧ b 0 = a 0 ∧ ∀ v, v < 76 → itf (dc4 p w) N a (81 + 76 * i + v) = dcd p b i w (81 + 76 * i + v)) := by
  obtain ⟨h1, h2⟩ := itf_it (f := dc4 p w) dc4_l (a := a) (i := i)
  have e : dcq p (itf (dc4 p w) i a) i ↔ dcq p a i := by unfold dcq; rw [h1 3 (by decide), h1 2 (by decide)]
  refine ⟨fun h v hv => ?_, fun h => ⟨itf (dc4 p w) i a, h1, dc_lo (by omega), fun v hv => ?_⟩⟩
  · rw [h2 N v hi hv, dc4, if_neg (fun t => h (e.mp t))]
    exact h1 v hv
  · rw [h2 N v hi hv, dc4, if_pos (e.mpr h)]
theorem rup_b {x y : Int32} (hx : x.toInt ≤ 100000) (hy : 1 ≤ y.toInt ∧ y.toInt ≤ 100) : (0 < x.toInt → (rup x y).toInt = (x.toInt + y.toInt - 1) / y.toInt) ∧ (x.toInt ≤ 0 → rup x y = 0) ∧ 0 ≤ (rup x y).toInt ∧ (rup x y).toInt ≤ max 0 x.toInt := by
  have hpos : 0 < x.toInt → (rup x y).toInt = (x.toInt + y.toInt - 1) / y.toInt := fun h => by
    unfold rup
    rw [if_pos (by rw [tl, i0]; exact h)]
    have t1 : (x + y).toInt = x.toInt + y.toInt := ti_add (by omega) (by omega)
    have t2 : (x + y - 1).toInt = x.toInt + y.toInt - 1 := by rw [ti_sub (by rw [t1, i1]; omega) (by rw [t1, i1]; omega), t1, i1]
    obtain ⟨j, hj, hj2⟩ := nI_of (x := x + y - 1) (fun q => by rw [tl, t2, i0] at q; omega)
    obtain ⟨s, hs3, hs4⟩ := nI_of (x := y) (fun q => by rw [tl, i0] at q; omega)
    have q1 : (j : Int) = x.toInt + y.toInt - 1 := by rw [← t2, hj2, tn hj]
    have q2 : (s : Int) = y.toInt := by rw [hs4, tn hs3]
    have q3 : j / s ≤ j := Nat.div_le_self j s
    have q4 : x.toInt + (s : Int) - 1 = (j : Int) := by omega
    rw [hj2, hs4, pk_div hj (by omega) hs3, tn (by omega), tn hs3, q4]
    exact Int.natCast_ediv j s
  have hneg : x.toInt ≤ 0 → rup x y = 0 := fun h => by
    unfold rup
    rw [if_neg (by rw [tl, i0]; omega)]
  refine ⟨hpos, hneg, ?_⟩
  by_cases h : 0 < x.toInt
  · rw [hpos h]
    have h1 : 0 ≤ (x.toInt + y.toInt - 1) / y.toInt := Int.ediv_nonneg (by omega) (by omega)
    have h2 : (x.toInt + y.toInt - 1) / y.toInt ≤ x.toInt := by
      have : (x.toInt + y.toInt - 1) / y.toInt < x.toInt + 1 := by
        refine Int.ediv_lt_of_lt_mul (by omega) ?_
        have : (x.toInt + 1) * y.toInt = x.toInt * y.toInt + y.toInt := by rw [Int.add_mul, Int.one_mul]
        have h3 : x.toInt * 1 ≤ x.toInt * y.toInt := Int.mul_le_mul_of_nonneg_left (by omega) (by omega)
        omega
      omega
    omega
  · rw [hneg (by omega), i0]
    omega
theorem igt_t (x y : Int32) : (igt x y).toInt = max x.toInt y.toInt := by
  unfold igt
  by_cases h : y < x
  · rw [if_pos h]; rw [tl] at h; omega
  · rw [if_neg h]; rw [tl] at h; omega
/-- the commanded ticks of a decision -/
theorem dcd_cm {p a : Nat → Int32} {V G W Q i w T : Nat} (hp : wp p V G W Q) (ha0 : a 0 = nI T) (hT : T ≤ 45000) (hf : 0 ≤ (a (81 + 76 * i + 2)).toInt ∧ (a (81 + 76 * i + 2)).toInt ≤ 9200) (hn : 1 ≤ (a (81 + 76 * i + 1)).toInt ∧ (a (81 + 76 * i + 1)).toInt ≤ 2000) (hc : a (81 + 76 * i + 10) = 0 ∧ a (81 + 76 * i + 11) = 0) : (dcd p a i w (81 + 76 * i + 7) = -1 ∧ dcd p a i w (81 + 76 * i + 10) = 0 ∧ dcd p a i w (81 + 76 * i + 11) = 0) ∨ ∃ g, g < G ∧ dcd p a i w (81 + 76 * i + 7) = nI g ∧ (dcd p a i w (81 + 76 * i + 10)).toInt = max ((T : Int) + (rup (p (28 + 3 * g + 1) - a (81 + 76 * i + 2)) (p 0)).toInt) ((T : Int) + (p (28 + 3 * g + 2)).toInt) ∧ 0 ≤ (dcd p a i w (81 + 76 * i + 10)).toInt ∧ (dcd p a i w (81 + 76 * i + 10)).toInt ≤ 60000 ∧ 0 ≤ (dcd p a i w (81 + 76 * i + 11)).toInt ∧ (dcd p a i w (81 + 76 * i + 11)).toInt ≤ 60000 ∧ (p (28 + 3 * g + 1) - a (81 + 76 * i + 2)).toInt = (p (28 + 3 * g + 1)).toInt - (a (81 + 76 * i + 2)).toInt := by
  obtain ⟨d3, d6, d7, d8, d14⟩ := dcd_at (p := p) (a := a) (i := i) (w := w)
  have hgo := hp.go (clk_b (p := p) (a := dc1 a i w) (i := i) (m := mny a i) (w := w))
  have hdg : dcg p a i w = p (37 + clk p (dc1 a i w) i (mny a i) w) := rfl
  rw [← hdg] at hgo
  rcases hgo with hgo | ⟨g, hg, hg2⟩
  · refine Or.inl ⟨by rw [d7, hgo], ?_, ?_⟩
    · rw [dcd, if_pos hgo, dc3_n (by omega)]; exact hc.1
    · rw [dcd, if_pos hgo, dc3_n (by omega)]; exact hc.2
  · have hG3 := hp.g5b
    have hgn : ¬ dcg p a i w = -1 := fun t => by
      rw [hg2] at t
      have h5 := congrArg Int32.toInt t
      rw [tn (by omega), im1] at h5
      omega
    have hcl : (dcg p a i w).toNatClampNeg = g := by rw [hg2, cl_n (by omega)]
    have d10 : dcd p a i w (81 + 76 * i + 10) = igt (arr p a i g) (a 0 + p (28 + 3 * g + 2)) := by
      rw [dcd, if_neg hgn, hcl, up_n (by omega), up_s]
    have d11 : dcd p a i w (81 + 76 * i + 11) = arr p a i g + rup (a (81 + 76 * i + 1)) (p 0) := by
      rw [dcd, if_neg hgn, hcl, up_s]
    obtain ⟨p1, p2, p3, p4⟩ := hp.gat g hg
    have e3 := hp.e3
    have e2 := hp.e2
    have b1 := hp.b1
    have tsub : (p (28 + 3 * g + 1) - a (81 + 76 * i + 2)).toInt = (p (28 + 3 * g + 1)).toInt - (a (81 + 76 * i + 2)).toInt := ti_sub (by omega) (by omega)
    obtain ⟨-, -, r3, r4⟩ := rup_b (x := p (28 + 3 * g + 1) - a (81 + 76 * i + 2)) (y := p 0) (by omega) hp.s0
    obtain ⟨-, -, s3, s4⟩ := rup_b (x := a (81 + 76 * i + 1)) (y := p 0) (by omega) hp.s0
    have t0 : (a 0).toInt = (T : Int) := by rw [ha0, tn (by omega)]
    have tar : (arr p a i g).toInt = (T : Int) + (rup (p (28 + 3 * g + 1) - a (81 + 76 * i + 2)) (p 0)).toInt := by
      unfold arr
      rw [ti_add (by omega) (by omega), t0]
    have trc : (a 0 + p (28 + 3 * g + 2)).toInt = (T : Int) + (p (28 + 3 * g + 2)).toInt := by rw [ti_add (by omega) (by omega), t0]
    have t11 : (dcd p a i w (81 + 76 * i + 11)).toInt = (arr p a i g).toInt + (rup (a (81 + 76 * i + 1)) (p 0)).toInt := by rw [d11, ti_add (by omega) (by omega)]
    have t10 : (dcd p a i w (81 + 76 * i + 10)).toInt = max ((T : Int) + (rup (p (28 + 3 * g + 1) - a (81 + 76 * i + 2)) (p 0)).toInt) ((T : Int) + (p (28 + 3 * g + 2)).toInt) := by rw [d10, igt_t, tar, trc]
    exact Or.inr ⟨g, hg, by rw [d7, hg2], t10, by omega, by omega, by omega, by omega, tsub⟩
