/-! READING a text: what is told right is a setup (wp) -/
theorem ok_rng {x : Nat → Int32} {n : Nat} {u w : Int32} {s : xS} (h : isOk (spos (sfig x n u w s)) = true) : u.toInt ≤ (sval (sfig x n u w s)).toInt ∧ (sval (sfig x n u w s)).toInt ≤ w.toInt := by
  obtain ⟨-, h1, h2⟩ := ok_fig h
  rw [te] at h1 h2
  exact ⟨h1, h2⟩
/-- settings alone changed -/
theorem wp.set {t t' : Nat → Int32} {V G W Q W' Q' : Nat} (h : wp t V G W Q) (he : ∀ j, (j < 6 ∨ 15 < j) → t' j = t j) (h8 : t' 8 = nI W') (hw1 : 1 ≤ W') (hw2 : W' ≤ 60) (h14 : t' 14 = nI Q') (hq : Q' ≤ 60) (h9 : t' 9 = 0 ∨ t' 9 = 1) (h10 : 0 ≤ (t' 10).toInt ∧ (t' 10).toInt ≤ 9999) (h11 : 1 ≤ (t' 11).toInt ∧ (t' 11).toInt ≤ 60) (h12 : 0 ≤ (t' 12).toInt ∧ (t' 12).toInt ≤ 99) (h13 : 1 ≤ (t' 13).toInt ∧ (t' 13).toInt ≤ 999) (h15 : 1 ≤ (t' 15).toInt ∧ (t' 15).toInt ≤ 99) (h6 : 0 ≤ (t' 6).toInt ∧ (t' 6).toInt ≤ (t' 7).toInt ∧ (t' 7).toInt ≤ 9999) : wp t' V G W' Q' := by
  refine ⟨by rw [he 4 (by decide)]; exact h.v4, h.v4b, by rw [he 5 (by decide)]; exact h.g5, h.g5b, h8, hw1, hw2, h14, hq, by rw [he 0 (by decide)]; exact h.s0, by rw [he 1 (by decide), he 2 (by decide)]; exact h.b1, by rw [he 2 (by decide), he 3 (by decide)]; exact h.e2, by rw [he 3 (by decide)]; exact h.e3, h9, h10, h11, h12, h13, h15, h6, fun k hk => ?_, fun g hg => ?_, fun g hg => ?_, fun g hg => ?_, fun k hk => ?_⟩
  · rw [he _ (by omega), he _ (by omega), he _ (by omega)]
    exact h.vib k hk
  · rw [he 2 (by decide), he 3 (by decide), he (28 + 3 * g + 1) (by omega), he (28 + 3 * g + 2) (by omega)]
    exact h.gat g hg
  · rw [he _ (by omega), he _ (by omega)]
    exact h.gas g hg
  · obtain ⟨k, k1, k2, k3⟩ := h.gkd g hg
    exact ⟨k, k1, by rw [he _ (by omega)]; exact k2, by rw [he _ (by omega)]; exact k3⟩
  · rcases h.gof k hk with ⟨q1, q2⟩ | ⟨g, q1, q2, q3⟩
    · exact Or.inl ⟨by rw [he _ (by omega)]; exact q1, fun g hg => by rw [he _ (by omega)]; exact q2 g hg⟩
    · exact Or.inr ⟨g, q1, by rw [he _ (by omega)]; exact q2, by rw [he _ (by omega)]; exact q3⟩
/-- right behind the belt -/
theorem wp.belt {x : Nat → Int32} {n : Nat} {s : xS} {t : Nat → Int32} (ho : isOk (blS x n s) = true) : wp (blT x n s (plF t)) 0 0 20 0 := by
  have o4 : isOk (spos (bl4 x n s)) = true := ok_end ho
  have o3 : isOk (spos (bl3 x n s)) = true := (ok_fig o4).1
  have o2 : isOk (spos (bl2 x n s)) = true := (ok_fig o3).1
  have o1 : isOk (spos (bl1 x n s)) = true := (ok_fig o2).1
  have r1 := ok_rng (u := 1) (w := 100) (s := blW x n s) o1
  have r2 := ok_rng (u := 1) (w := 2000) (s := spos (bl1 x n s)) o2
  have r3 := ok_rng (u := sval (bl2 x n s) + 1) (w := 4000) (s := spos (bl2 x n s)) o3
  have r4 := ok_rng (u := sval (bl3 x n s) + 1) (w := 9000) (s := spos (bl3 x n s)) o4
  have c1 : (1 : Int32).toInt = 1 := rfl
  have c100 : (100 : Int32).toInt = 100 := rfl
  have c2000 : (2000 : Int32).toInt = 2000 := rfl
  have c4000 : (4000 : Int32).toInt = 4000 := rfl
  have c9000 : (9000 : Int32).toInt = 9000 := rfl
  have r1 : (1 : Int32).toInt ≤ (sval (bl1 x n s)).toInt ∧ (sval (bl1 x n s)).toInt ≤ (100 : Int32).toInt := r1
  have r2 : (1 : Int32).toInt ≤ (sval (bl2 x n s)).toInt ∧ (sval (bl2 x n s)).toInt ≤ (2000 : Int32).toInt := r2
  have r3 : (sval (bl2 x n s) + 1).toInt ≤ (sval (bl3 x n s)).toInt ∧ (sval (bl3 x n s)).toInt ≤ (4000 : Int32).toInt := r3
  have r4 : (sval (bl3 x n s) + 1).toInt ≤ (sval (bl4 x n s)).toInt ∧ (sval (bl4 x n s)).toInt ≤ (9000 : Int32).toInt := r4
  rw [c1, c100] at r1
  rw [c1, c2000] at r2
  rw [ti_add (by rw [c1]; omega) (by rw [c1]; omega), c1, c4000] at r3
  rw [ti_add (by rw [c1]; omega) (by rw [c1]; omega), c1, c9000] at r4
  have w0 : blT x n s (plF t) 0 = sval (bl1 x n s) := by unfold blT; rw [up_n (by decide), up_n (by decide), up_n (by decide), up_s]
  have w1 : blT x n s (plF t) 1 = sval (bl2 x n s) := by unfold blT; rw [up_n (by decide), up_n (by decide), up_s]
  have w2 : blT x n s (plF t) 2 = sval (bl3 x n s) := by unfold blT; rw [up_n (by decide), up_s]
  have w3 : blT x n s (plF t) 3 = sval (bl4 x n s) := by unfold blT; rw [up_s]
  have e : ∀ j, 4 ≤ j → blT x n s (plF t) j = plF t j := fun j hj => by
    unfold blT
    rw [up_n (by omega), up_n (by omega), up_n (by omega), up_n (by omega)]
  have p9999 : (9999 : Int32).toInt = 9999 := rfl
  have p10 : plF t 10 = 9999 := rfl
  have p6 : plF t 6 = 0 := rfl
  have p7 : plF t 7 = 9999 := rfl
  have p11 : plF t 11 = 1 := rfl
  have p12 : plF t 12 = 0 := rfl
  have p13 : plF t 13 = 1 := rfl
  have p15 : plF t 15 = 5 := rfl
  have p5 : (5 : Int32).toInt = 5 := rfl
  refine ⟨by rw [e 4 (by decide)]; rfl, by decide, by rw [e 5 (by decide)]; rfl, by decide, by rw [e 8 (by decide)]; rfl, by decide, by decide, by rw [e 14 (by decide)]; rfl, by decide, by rw [w0]; omega, by rw [w1, w2]; omega, by rw [w2, w3]; omega, by rw [w3]; omega, Or.inl (by rw [e 9 (by decide)]; rfl), by rw [e 10 (by decide), p10, p9999]; omega, by rw [e 11 (by decide), p11, c1]; omega, by rw [e 12 (by decide), p12, i0]; omega, by rw [e 13 (by decide), p13, c1]; omega, by rw [e 15 (by decide), p15, p5]; omega, by rw [e 6 (by decide), e 7 (by decide), p6, p7, i0, p9999]; omega, fun k hk => absurd hk (Nat.not_lt_zero k), fun g hg => absurd hg (Nat.not_lt_zero g), fun g hg => absurd hg (Nat.not_lt_zero _), fun g hg => absurd hg (Nat.not_lt_zero g), fun k hk => Or.inl ⟨?_, fun g hg => absurd hg (Nat.not_lt_zero g)⟩⟩
  rw [e _ (by omega)]
  rcases (by omega : k = 0 ∨ k = 1 ∨ k = 2 ∨ k = 3) with rfl | rfl | rfl | rfl <;> rfl
/-- a setting keeps it -/
theorem wp.stT {x : Nat → Int32} {n c : Nat} {s : xS} {t : Nat → Int32} {V G W Q : Nat} (h : wp t V G W Q) (hc : c < 8) (ho : isOk (stS x n c s) = true) : ∃ W' Q', wp (stT x n c s t) V G W' Q' := by
  have c0 : (0 : Int32).toInt = 0 := rfl
  have c1 : (1 : Int32).toInt = 1 := rfl
  have c60 : (60 : Int32).toInt = 60 := rfl
  have c99 : (99 : Int32).toInt = 99 := rfl
  have c999 : (999 : Int32).toInt = 999 := rfl
  have c9999 : (9999 : Int32).toInt = 9999 := rfl
  have h9 := h.n9
  have h10 := h.st10
  have h11 := h.ls11
  have h12 := h.dr12
  have h13 := h.dt13
  have h15 := h.co15
  have h6 := h.lw6
  rcases (by omega : c = 0 ∨ c = 1 ∨ c = 2 ∨ c = 3 ∨ c = 4 ∨ c = 5 ∨ c = 6 ∨ c = 7) with rfl | rfl | rfl | rfl | rfl | rfl | rfl | rfl
  · have o2 : isOk (spos (l2 x n s)) = true := ho
    have o1 : isOk (spos (l1 x n s)) = true := (ok_fig o2).1
    have r1 := ok_rng (u := 0) (w := 9999) (s := s) o1
    have r2 := ok_rng (u := sval (l1 x n s)) (w := 9999) (s := spos (l1 x n s)) o2
    have r1 : (0 : Int32).toInt ≤ (sval (l1 x n s)).toInt ∧ (sval (l1 x n s)).toInt ≤ (9999 : Int32).toInt := r1
    have r2 : (sval (l1 x n s)).toInt ≤ (sval (l2 x n s)).toInt ∧ (sval (l2 x n s)).toInt ≤ (9999 : Int32).toInt := r2
    rw [c0, c9999] at r1
    rw [c9999] at r2
    show ∃ W' Q', wp (upd (upd t 6 (sval (l1 x n s))) 7 (sval (l2 x n s))) V G W' Q'
    have e : ∀ j, j ≠ 6 → j ≠ 7 → upd (upd t 6 (sval (l1 x n s))) 7 (sval (l2 x n s)) j = t j := fun j q1 q2 => by rw [up_n q2, up_n q1]
    have e6 : upd (upd t 6 (sval (l1 x n s))) 7 (sval (l2 x n s)) 6 = sval (l1 x n s) := by rw [up_n (by decide), up_s]
    have e7 : upd (upd t 6 (sval (l1 x n s))) 7 (sval (l2 x n s)) 7 = sval (l2 x n s) := up_s
    exact ⟨W, Q, h.set (fun j hj => e j (by omega) (by omega)) (by rw [e 8 (by decide) (by decide)]; exact h.w8) h.w8a h.w8b (by rw [e 14 (by decide) (by decide)]; exact h.z14) h.z14b (by rw [e 9 (by decide) (by decide)]; exact h9) (by rw [e 10 (by decide) (by decide)]; exact h10) (by rw [e 11 (by decide) (by decide)]; exact h11) (by rw [e 12 (by decide) (by decide)]; exact h12) (by rw [e 13 (by decide) (by decide)]; exact h13) (by rw [e 15 (by decide) (by decide)]; exact h15) (by rw [e6, e7]; omega)⟩
  · have r := ok_rng (u := 1) (w := 60) (s := s) ho
    rw [c1, c60] at r
    show ∃ W' Q', wp (upd t 8 (sval (sfig x n 1 60 s))) V G W' Q'
    generalize sval (sfig x n 1 60 s) = y at r ⊢
    obtain ⟨m, m1, m2⟩ := of_nat (x := y) (by omega)
    have e : ∀ j, j ≠ 8 → upd t 8 y j = t j := fun j q => up_n q
    exact ⟨m, Q, h.set (fun j hj => e j (by omega)) (by rw [up_s, m1]) (by omega) (by omega) (by rw [e 14 (by decide)]; exact h.z14) h.z14b (by rw [e 9 (by decide)]; exact h9) (by rw [e 10 (by decide)]; exact h10) (by rw [e 11 (by decide)]; exact h11) (by rw [e 12 (by decide)]; exact h12) (by rw [e 13 (by decide)]; exact h13) (by rw [e 15 (by decide)]; exact h15) (by rw [e 6 (by decide), e 7 (by decide)]; exact h6)⟩
  · show ∃ W' Q', wp (if swd x n 14 s = true then upd t 9 1 else t) V G W' Q'
    split
    · have e : ∀ j, j ≠ 9 → upd t 9 1 j = t j := fun j q => up_n q
      exact ⟨W, Q, h.set (fun j hj => e j (by omega)) (by rw [e 8 (by decide)]; exact h.w8) h.w8a h.w8b (by rw [e 14 (by decide)]; exact h.z14) h.z14b (Or.inr up_s) (by rw [e 10 (by decide)]; exact h10) (by rw [e 11 (by decide)]; exact h11) (by rw [e 12 (by decide)]; exact h12) (by rw [e 13 (by decide)]; exact h13) (by rw [e 15 (by decide)]; exact h15) (by rw [e 6 (by decide), e 7 (by decide)]; exact h6)⟩
    · exact ⟨W, Q, h⟩
  · have r := ok_rng (u := 0) (w := 9999) (s := s) ho
    rw [c0, c9999] at r
    show ∃ W' Q', wp (upd t 10 (sval (sfig x n 0 9999 s))) V G W' Q'
    generalize sval (sfig x n 0 9999 s) = y at r ⊢
    have e : ∀ j, j ≠ 10 → upd t 10 y j = t j := fun j q => up_n q
    exact ⟨W, Q, h.set (fun j hj => e j (by omega)) (by rw [e 8 (by decide)]; exact h.w8) h.w8a h.w8b (by rw [e 14 (by decide)]; exact h.z14) h.z14b (by rw [e 9 (by decide)]; exact h9) (by rw [up_s]; exact r) (by rw [e 11 (by decide)]; exact h11) (by rw [e 12 (by decide)]; exact h12) (by rw [e 13 (by decide)]; exact h13) (by rw [e 15 (by decide)]; exact h15) (by rw [e 6 (by decide), e 7 (by decide)]; exact h6)⟩
  · have r := ok_rng (u := 1) (w := 60) (s := s) ho
    rw [c1, c60] at r
    show ∃ W' Q', wp (upd t 11 (sval (sfig x n 1 60 s))) V G W' Q'
    generalize sval (sfig x n 1 60 s) = y at r ⊢
    have e : ∀ j, j ≠ 11 → upd t 11 y j = t j := fun j q => up_n q
    exact ⟨W, Q, h.set (fun j hj => e j (by omega)) (by rw [e 8 (by decide)]; exact h.w8) h.w8a h.w8b (by rw [e 14 (by decide)]; exact h.z14) h.z14b (by rw [e 9 (by decide)]; exact h9) (by rw [e 10 (by decide)]; exact h10) (by rw [up_s]; exact r) (by rw [e 12 (by decide)]; exact h12) (by rw [e 13 (by decide)]; exact h13) (by rw [e 15 (by decide)]; exact h15) (by rw [e 6 (by decide), e 7 (by decide)]; exact h6)⟩
  · have o2 : isOk (spos (d2 x n s)) = true := ho
    have o1 : isOk (spos (d1 x n s)) = true := (ok_fig o2).1
    have r1 := ok_rng (u := 0) (w := 99) (s := s) o1
    have r2 := ok_rng (u := 1) (w := 999) (s := spos (d1 x n s)) o2
    rw [c0, c99] at r1
    rw [c1, c999] at r2
    have r1 : 0 ≤ (sval (d1 x n s)).toInt ∧ (sval (d1 x n s)).toInt ≤ 99 := r1
    have r2 : 1 ≤ (sval (d2 x n s)).toInt ∧ (sval (d2 x n s)).toInt ≤ 999 := r2
    show ∃ W' Q', wp (upd (upd t 12 (sval (d1 x n s))) 13 (sval (d2 x n s))) V G W' Q'
    have e : ∀ j, j ≠ 12 → j ≠ 13 → upd (upd t 12 (sval (d1 x n s))) 13 (sval (d2 x n s)) j = t j := fun j q1 q2 => by rw [up_n q2, up_n q1]
    have e12 : upd (upd t 12 (sval (d1 x n s))) 13 (sval (d2 x n s)) 12 = sval (d1 x n s) := by rw [up_n (by decide), up_s]
    have e13 : upd (upd t 12 (sval (d1 x n s))) 13 (sval (d2 x n s)) 13 = sval (d2 x n s) := up_s
    exact ⟨W, Q, h.set (fun j hj => e j (by omega) (by omega)) (by rw [e 8 (by decide) (by decide)]; exact h.w8) h.w8a h.w8b (by rw [e 14 (by decide) (by decide)]; exact h.z14) h.z14b (by rw [e 9 (by decide) (by decide)]; exact h9) (by rw [e 10 (by decide) (by decide)]; exact h10) (by rw [e 11 (by decide) (by decide)]; exact h11) (by rw [e12]; exact r1) (by rw [e13]; exact r2) (by rw [e 15 (by decide) (by decide)]; exact h15) (by rw [e 6 (by decide) (by decide), e 7 (by decide) (by decide)]; exact h6)⟩
  · have r := ok_rng (u := 0) (w := 60) (s := s) ho
    rw [c0, c60] at r
    show ∃ W' Q', wp (upd t 14 (sval (sfig x n 0 60 s))) V G W' Q'
    generalize sval (sfig x n 0 60 s) = y at r ⊢
    obtain ⟨m, m1, m2⟩ := of_nat (x := y) (by omega)
    have e : ∀ j, j ≠ 14 → upd t 14 y j = t j := fun j q => up_n q
    exact ⟨W, m, h.set (fun j hj => e j (by omega)) (by rw [e 8 (by decide)]; exact h.w8) h.w8a h.w8b (by rw [up_s, m1]) (by omega) (by rw [e 9 (by decide)]; exact h9) (by rw [e 10 (by decide)]; exact h10) (by rw [e 11 (by decide)]; exact h11) (by rw [e 12 (by decide)]; exact h12) (by rw [e 13 (by decide)]; exact h13) (by rw [e 15 (by decide)]; exact h15) (by rw [e 6 (by decide), e 7 (by decide)]; exact h6)⟩
  · have r := ok_rng (u := 1) (w := 99) (s := s) ho
    rw [c1, c99] at r
    show ∃ W' Q', wp (upd t 15 (sval (sfig x n 1 99 s))) V G W' Q'
    generalize sval (sfig x n 1 99 s) = y at r ⊢
    have e : ∀ j, j ≠ 15 → upd t 15 y j = t j := fun j q => up_n q
    exact ⟨W, Q, h.set (fun j hj => e j (by omega)) (by rw [e 8 (by decide)]; exact h.w8) h.w8a h.w8b (by rw [e 14 (by decide)]; exact h.z14) h.z14b (by rw [e 9 (by decide)]; exact h9) (by rw [e 10 (by decide)]; exact h10) (by rw [e 11 (by decide)]; exact h11) (by rw [e 12 (by decide)]; exact h12) (by rw [e 13 (by decide)]; exact h13) (by rw [up_s]; exact r) (by rw [e 6 (by decide), e 7 (by decide)]; exact h6)⟩
