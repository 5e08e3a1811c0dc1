/-! opensAt: the class's first tick is the reference's -/
theorem exb_ex {f : Nat → Bool} : ∀ {n : Nat}, exb f n = true ↔ ∃ i, i < n ∧ f i = true
  | 0 => ⟨fun h => Bool.noConfusion h, fun ⟨i, h, _⟩ => absurd h (Nat.not_lt_zero i)⟩
  | n + 1 => by
    rw [exb, Bool.or_eq_true, exb_ex (n := n)]
    constructor
    · rintro (⟨i, h1, h2⟩ | h)
      · exact ⟨i, by omega, h2⟩
      · exact ⟨n, by omega, h⟩
    · rintro ⟨i, h1, h2⟩
      by_cases e : i = n
      · subst e
        exact Or.inr h2
      · exact Or.inl ⟨i, by omega, h2⟩
theorem isC_ex {a : Nat → Int32} {n : Nat} {g t : Int32} : isC a n g t = true ↔ ∃ i, i < n ∧ cmd a g t i := by
  unfold isC
  rw [exb_ex]
  constructor
  · rintro ⟨i, h1, h2⟩
    exact ⟨i, h1, of_decide_eq_true h2⟩
  · rintro ⟨i, h1, h2⟩
    exact ⟨i, h1, decide_eq_true h2⟩
theorem isC_no {a : Nat → Int32} {n : Nat} {g t : Int32} (h : ∀ i, i < n → ¬ cmd a g t i) : isC a n g t = false := by
  cases e : isC a n g t with
  | false => rfl
  | true =>
    obtain ⟨i, h1, h2⟩ := isC_ex.mp e
    exact absurd h2 (h i h1)
theorem lcd_ge {a : Nat → Int32} : ∀ {n i : Nat}, i < n → (a (81 + 76 * i + 11)).toInt ≤ (lcd a n).toInt
  | n + 1, i, h => by
    rw [lcd, igt_t]
    by_cases e : i = n
    · subst e
      omega
    · have := lcd_ge (a := a) (n := n) (i := i) (by omega)
      omega
theorem imax_t (x y : Int32) : (imax x y).toInt = max x.toInt y.toInt := by
  unfold imax
  split
  · rename_i h
    rw [tl] at h
    omega
  · rename_i h
    rw [tl] at h
    omega
theorem fcI_spec {I : xI} {A N : Nat} {a : Nat → Int32} {u : Nat → Int} {g t1 : Int32} (hi : ∀ i, i < N → iR I (A + 8 + 2 * i) (81 + 76 * i) a (u i)) (ht : 0 ≤ t1.toInt) : ∀ k, k ≤ N → (fcI I A g t1 k = -1 ∧ ∀ t : Int32, t1.toInt ≤ t.toInt → ∀ i, i < k → ¬ cmd a g t i) ∨ (t1.toInt ≤ (fcI I A g t1 k).toInt ∧ (∃ i, i < k ∧ cmd a g (fcI I A g t1 k) i) ∧ ∀ t : Int32, t1.toInt ≤ t.toInt → t.toInt < (fcI I A g t1 k).toInt → ∀ i, i < k → ¬ cmd a g t i)
  | 0, _ => Or.inl ⟨rfl, fun t _ i h => absurd h (Nat.not_lt_zero i)⟩
  | k + 1, hk => by
    have ih := fcI_spec hi ht k (by omega) (g := g)
    have hcm : ∀ t, (I (A + 8 + 2 * k) 6 = g ∧ I (A + 8 + 2 * k) 9 ≤ t ∧ t < I (A + 8 + 2 * k) 10) ↔ cmd a g t k := fun t => cmd_iR (hi k (by omega))
    have hf := imax_t (I (A + 8 + 2 * k) 9) t1
    rw [fcI]
    generalize fcI I A g t1 k = y at ih ⊢
    generalize imax (I (A + 8 + 2 * k) 9) t1 = f at hf ⊢
    by_cases hC : I (A + 8 + 2 * k) 6 = g ∧ I (A + 8 + 2 * k) 9 ≤ f ∧ f < I (A + 8 + 2 * k) 10
    · have cf : cmd a g f k := (hcm f).mp hC
      have mn : ∀ t : Int32, t1.toInt ≤ t.toInt → t.toInt < f.toInt → ¬ cmd a g t k := fun t h1 h2 q => by
        have h3 := ((hcm t).mpr q).2.1
        rw [te] at h3
        omega
      rcases ih with ⟨e1, n1⟩ | ⟨l1, ⟨i, hi2, c1⟩, n1⟩
      · rw [if_pos ⟨hC, Or.inl e1⟩]
        refine Or.inr ⟨by omega, ⟨k, by omega, cf⟩, fun t h1 h2 i hi2 => ?_⟩
        by_cases e : i = k
        · subst e
          exact mn t h1 h2
        · exact n1 t h1 i (by omega)
      · by_cases hlt : f < y
        · rw [if_pos ⟨hC, Or.inr hlt⟩]
          rw [tl] at hlt
          refine Or.inr ⟨by omega, ⟨k, by omega, cf⟩, fun t h1 h2 i hi2 => ?_⟩
          by_cases e : i = k
          · subst e
            exact mn t h1 h2
          · exact n1 t h1 (by omega) i (by omega)
        · rw [if_neg (fun q => q.2.elim (fun z => by rw [z, im1] at l1; omega) hlt)]
          rw [tl] at hlt
          refine Or.inr ⟨l1, ⟨i, by omega, c1⟩, fun t h1 h2 j hj => ?_⟩
          by_cases e : j = k
          · subst e
            exact mn t h1 (by omega)
          · exact n1 t h1 h2 j (by omega)
    · have no : ∀ t : Int32, t1.toInt ≤ t.toInt → ¬ cmd a g t k := fun t h1 q => by
        obtain ⟨h2, h3, h4⟩ := (hcm t).mpr q
        refine hC ⟨h2, ?_, ?_⟩
        · rw [te]
          omega
        · rw [te] at h3
          rw [tl] at h4 ⊢
          omega
      rw [if_neg (fun q => hC q.1)]
      rcases ih with ⟨e1, n1⟩ | ⟨l1, ⟨i, hi2, c1⟩, n1⟩
      · refine Or.inl ⟨e1, fun t h1 j hj => ?_⟩
        by_cases e : j = k
        · subst e
          exact no t h1
        · exact n1 t h1 j (by omega)
      · refine Or.inr ⟨l1, ⟨i, by omega, c1⟩, fun t h1 h2 j hj => ?_⟩
        by_cases e : j = k
        · subst e
          exact no t h1
        · exact n1 t h1 h2 j (by omega)
/-- the class's answer in the reference's words: e ticks without a command -/
theorem opens_eq {I : xI} {A N T d : Nat} {a : Nat → Int32} {u : Nat → Int} {g : Int32} (hi : ∀ i, i < N → iR I (A + 8 + 2 * i) (81 + 76 * i) a (u i)) (hl : lcd a N = nI (T + d)) (hd : T + d < 1000000) : ∃ e, e ≤ d ∧ (∀ j, j < e → isC a N g (nI (T + 1 + j)) = false) ∧ (e < d → isC a N g (nI (T + 1 + e)) = true) ∧ ((¬ e < d ∧ fcI I A g (nI (T + 1)) N = -1) ∨ (e < d ∧ fcI I A g (nI (T + 1)) N = nI (T + 1 + e))) := by
  have ht1 : (nI (T + 1)).toInt = ((T + 1 : Nat) : Int) := tn (by omega)
  rcases fcI_spec (g := g) (t1 := nI (T + 1)) hi (by rw [ht1]; omega) N (Nat.le_refl _) with ⟨e1, n1⟩ | ⟨l1, ⟨i, hi2, c1⟩, n1⟩
  · refine ⟨d, Nat.le_refl _, fun j hj => isC_no (n1 _ (by rw [ht1, tn (by omega)]; omega)), fun h => absurd h (Nat.lt_irrefl _), Or.inl ⟨Nat.lt_irrefl _, e1⟩⟩
  · generalize fcI I A g (nI (T + 1)) N = f at l1 c1 n1 ⊢
    have h1 := lcd_ge (a := a) hi2
    have h2 := c1.2.2
    rw [hl, tn (by omega)] at h1
    rw [tl] at h2
    rw [ht1] at l1 n1
    have hf : f = nI (T + 1 + (f.toInt.toNat - (T + 1))) := by
      apply Int32.toInt_inj.mp
      rw [tn (by omega)]
      omega
    refine ⟨f.toInt.toNat - (T + 1), by omega, fun j hj => isC_no (n1 _ (by rw [tn (by omega)]; omega) (by rw [tn (by omega)]; omega)), fun h => ?_, Or.inr ⟨by omega, hf⟩⟩
    rw [← hf]
    exact isC_ex.mpr ⟨i, hi2, c1⟩
