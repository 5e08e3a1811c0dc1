/-! openTicks: the class's sum is the reference's count, where the items of a gate command in their order -/
theorem cnt_or {f g : Nat → Bool} : ∀ {n : Nat}, cnt (fun j => f j || g j) n = cnt f n + cnt (fun j => g j && !f j) n
  | 0 => rfl
  | n + 1 => by
    rw [cnt, cnt, cnt, cnt_or (n := n)]
    cases f n <;> cases g n <;> simp <;> omega
theorem cnt_iv {T L R : Nat} (h : T + 1 ≤ L) : ∀ d, cnt (fun j => decide (L ≤ T + 1 + j ∧ T + 1 + j < R)) d = min R (T + 1 + d) - L
  | 0 => by
    rw [cnt]
    omega
  | d + 1 => by
    rw [cnt, cnt_iv h d]
    by_cases q : L ≤ T + 1 + d ∧ T + 1 + d < R
    · rw [if_pos (decide_eq_true q)]
      omega
    · rw [if_neg (by rw [decide_eq_true_eq]; exact q)]
      omega
theorem imax_d {l f : Nat} (hl : l < 1000000) (hf : f < 1000000) : imax 0 (nI l - nI f) = nI (l - f) := by
  apply Int32.toInt_inj.mp
  rw [imax_t, pk_sub_toInt (by omega) (by omega), tn (by omega), i0]
  omega
theorem of_nat {x : Int32} (h : 0 ≤ x.toInt) : ∃ n : Nat, x = nI n ∧ (n : Int) = x.toInt := by
  have h2 : x.toInt < 2147483648 := Int32.toInt_lt x
  refine ⟨x.toInt.toNat, ?_, by omega⟩
  apply Int32.toInt_inj.mp
  rw [tn (by omega)]
  omega
theorem ctI_spec {I : xI} {A N T d : Nat} {a : Nat → Int32} {u : Nat → Int} {g : Int32} (hi : ∀ i, i < N → iR I (A + 8 + 2 * i) (81 + 76 * i) a (u i)) (hl : lcd a N = nI (T + d)) (hd : T + d < 900000) (hb : ∀ i, i < N → 0 ≤ (a (81 + 76 * i + 10)).toInt ∧ (a (81 + 76 * i + 10)).toInt ≤ 60000 ∧ 0 ≤ (a (81 + 76 * i + 11)).toInt ∧ (a (81 + 76 * i + 11)).toInt ≤ 60000) (hso : ∀ i k, i < k → k < N → a (81 + 76 * i + 7) = g → a (81 + 76 * k + 7) = g → a (81 + 76 * i + 10) < a (81 + 76 * i + 11) → a (81 + 76 * k + 10) < a (81 + 76 * k + 11) → (a (81 + 76 * i + 10)).toInt ≤ (a (81 + 76 * k + 10)).toInt) : ∀ k, k ≤ N → ∃ nx : Nat, ctI I A g (nI (T + 1)) k = (nI (cnt (fun j => isC a k g (nI (T + 1 + j))) d), nI nx) ∧ T + 1 ≤ nx ∧ nx ≤ T + 1 + d ∧ (∀ i, i < k → a (81 + 76 * i + 7) = g → a (81 + 76 * i + 10) < a (81 + 76 * i + 11) → (a (81 + 76 * i + 11)).toInt ≤ (nx : Int)) ∧ (nx = T + 1 ∨ ∃ i, i < k ∧ a (81 + 76 * i + 7) = g ∧ a (81 + 76 * i + 10) < a (81 + 76 * i + 11) ∧ (a (81 + 76 * i + 11)).toInt = (nx : Int))
  | 0, _ => by
    refine ⟨T + 1, ?_, Nat.le_refl _, by omega, fun i h => absurd h (Nat.not_lt_zero i), Or.inl rfl⟩
    have e : cnt (fun j => isC a 0 g (nI (T + 1 + j))) d = 0 := cnt_0 (fun j _ => rfl)
    rw [e]
    rfl
  | k + 1, hk => by
    obtain ⟨nx, e0, n1, n2, n3, n4⟩ := ctI_spec hi hl hd hb hso k (by omega)
    have hcm : ∀ t, (I (A + 8 + 2 * k) 6 = g ∧ I (A + 8 + 2 * k) 9 ≤ t ∧ t < I (A + 8 + 2 * k) 10) ↔ cmd a g t k := fun t => cmd_iR (hi k (by omega))
    have h7 : I (A + 8 + 2 * k) 6 = a (81 + 76 * k + 7) := (hi k (by omega)).1.2.2.2.2.2.2.1
    have hT := lcd_ge (a := a) (show k < N by omega)
    rw [hl, tn (by omega)] at hT
    obtain ⟨b1, b2, b3, b4⟩ := hb k (by omega)
    have hsp : ∀ j, isC a (k + 1) g (nI (T + 1 + j)) = (isC a k g (nI (T + 1 + j)) || decide (cmd a g (nI (T + 1 + j)) k)) := fun j => rfl
    rw [ctI, e0]
    by_cases hg : I (A + 8 + 2 * k) 6 = g
    · have hg7 : a (81 + 76 * k + 7) = g := h7.symm.trans hg
      rw [if_pos hg]
      have hFE : ∃ F E2 : Nat, I (A + 8 + 2 * k) 9 = nI F ∧ I (A + 8 + 2 * k) 10 = nI E2 ∧ F ≤ 60000 ∧ E2 ≤ T + d ∧ ((F < E2 ∧ a (81 + 76 * k + 10) < a (81 + 76 * k + 11) ∧ (F : Int) = (a (81 + 76 * k + 10)).toInt ∧ (E2 : Int) = (a (81 + 76 * k + 11)).toInt) ∨ (F = 0 ∧ E2 = 0 ∧ ¬ a (81 + 76 * k + 10) < a (81 + 76 * k + 11))) := by
        rcases (hi k (by omega)).2.1 with ⟨w1, w2, w3⟩ | ⟨w1, w2, w3⟩
        · obtain ⟨F, f1, f2⟩ := of_nat b1
          obtain ⟨E2, g1, g2⟩ := of_nat b3
          have w4 := w1
          rw [tl] at w4
          exact ⟨F, E2, w2.trans f1, w3.trans g1, by omega, by omega, Or.inl ⟨by omega, w1, f2, g2⟩⟩
        · exact ⟨0, 0, w2, w3, by omega, by omega, Or.inr ⟨rfl, rfl, w1⟩⟩
      obtain ⟨F, E2, hF, hE, f1, f2, hor⟩ := hFE
      rw [hF, hE]
      have hck : ∀ j, j < d → (cmd a g (nI (T + 1 + j)) k ↔ F ≤ T + 1 + j ∧ T + 1 + j < E2) := fun j hj => by
        rw [← hcm, hF, hE, te, tl, tn (by omega), tn (by omega), tn (by omega)]
        constructor
        · rintro ⟨-, h2, h3⟩
          omega
        · rintro ⟨h2, h3⟩
          exact ⟨hg, by omega, by omega⟩
      have hnew : ∀ j, j < d → (decide (cmd a g (nI (T + 1 + j)) k) && !isC a k g (nI (T + 1 + j))) = decide (max nx F ≤ T + 1 + j ∧ T + 1 + j < E2) := fun j hj => by
        by_cases q : max nx F ≤ T + 1 + j ∧ T + 1 + j < E2
        · have c1 := (hck j hj).mpr ⟨by omega, q.2⟩
          have c2 : isC a k g (nI (T + 1 + j)) = false := isC_no (fun i hik c => by
            have h3 := n3 i hik c.1 (by
              have := c.2.1
              have := c.2.2
              rw [te] at *
              rw [tl] at *
              omega)
            have h4 := c.2.2
            rw [tl, tn (by omega)] at h4
            omega)
          rw [c2, decide_eq_true c1, decide_eq_true q]
          rfl
        · rw [decide_eq_false q]
          by_cases c1 : cmd a g (nI (T + 1 + j)) k
          · have c3 := (hck j hj).mp c1
            have c2 : isC a k g (nI (T + 1 + j)) = true := by
              rcases n4 with z | ⟨i, z1, z2, z3, z4⟩
              · omega
              · refine isC_ex.mpr ⟨i, z1, z2, ?_, ?_⟩
                · rcases hor with ⟨o1, o2, o3, o4⟩ | ⟨o1, o2, o3⟩
                  · have := hso i k z1 (by omega) z2 hg7 z3 o2
                    rw [te, tn (by omega)]
                    omega
                  · omega
                · rw [tl, tn (by omega)]
                  omega
            rw [c2, Bool.not_true, Bool.and_false]
          · rw [decide_eq_false c1, Bool.false_and]
      have hcnt : cnt (fun j => isC a (k + 1) g (nI (T + 1 + j))) d = cnt (fun j => isC a k g (nI (T + 1 + j))) d + (E2 - max nx F) := by
        have s1 : cnt (fun j => isC a (k + 1) g (nI (T + 1 + j))) d = cnt (fun j => isC a k g (nI (T + 1 + j)) || decide (cmd a g (nI (T + 1 + j)) k)) d := rfl
        rw [s1, cnt_or, cnt_cong hnew, cnt_iv (by omega)]
        congr 1
        omega
      refine ⟨max (max nx F) E2, ?_, by omega, ?_, fun i hik z1 z2 => ?_, ?_⟩
      · rw [hcnt, imax_n (by omega) (by omega), imax_d (by omega) (by omega), imax_n (by omega) (by omega), nI_add]
      · rcases hor with o | o <;> omega
      · by_cases e : i = k
        · subst e
          rcases hor with ⟨o1, o2, o3, o4⟩ | ⟨o1, o2, o3⟩
          · omega
          · exact absurd z2 o3
        · have := n3 i (by omega) z1 z2
          omega
      · by_cases hx : nx < E2
        · rcases hor with ⟨o1, o2, o3, o4⟩ | ⟨o1, o2, o3⟩
          · exact Or.inr ⟨k, by omega, hg7, o2, by omega⟩
          · omega
        · have hm : max (max nx F) E2 = nx := by
            rcases hor with o | o <;> omega
          rw [hm]
          rcases n4 with z | ⟨i, z1, z2⟩
          · exact Or.inl z
          · exact Or.inr ⟨i, by omega, z2⟩
    · rw [if_neg hg]
      have hg7 : ¬ a (81 + 76 * k + 7) = g := fun q => hg (h7.trans q)
      have s1 : cnt (fun j => isC a (k + 1) g (nI (T + 1 + j))) d = cnt (fun j => isC a k g (nI (T + 1 + j))) d := cnt_cong (fun j hj => by
        rw [hsp, decide_eq_false (fun c => hg7 c.1), Bool.or_false])
      rw [s1]
      refine ⟨nx, rfl, n1, n2, fun i hik z1 z2 => ?_, ?_⟩
      · by_cases e : i = k
        · subst e
          exact absurd z1 hg7
        · exact n3 i (by omega) z1 z2
      · rcases n4 with z | ⟨i, z1, z2⟩
        · exact Or.inl z
        · exact Or.inr ⟨i, by omega, z2⟩
