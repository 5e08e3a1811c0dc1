/-! THE REFERENCE's tick: the cell, the samples of the items, the decisions -/
/-- the row with the cell's sample -/
def cel (p a : Nat → Int32) (V N : Nat) : Nat → Int32 := upd a 21 (smq p a (p 12 * a 0 / p 13 + shk p (a 0) V) N)
abbrev pts (p a : Nat → Int32) (N : Nat) : Nat := cnt (fun i => decide (inP p a i)) N
theorem i_ne0 {x : Int32} (h : 1 ≤ x.toInt) : x ≠ 0 := fun q => by
  rw [q] at h
  exact absurd h (by decide)
theorem shf_n {a : Nat → Int32} {i k j : Nat} (h : ¬ (97 + 76 * i ≤ j ∧ j < 97 + 76 * i + k)) : shf a i k j = a j := if_neg h
theorem gvs_n {a : Nat → Int32} {i m j : Nat} {x : Int32} (hm : m ≤ 60) (h : ¬ (97 + 76 * i ≤ j ∧ j ≤ 97 + 76 * i + 59)) (h4 : j ≠ 81 + 76 * i + 4) : gvs a i m x j = a j := by
  unfold gvs
  split
  · rw [up_n h4, up_n (by omega), shf_n (by omega)]
  · rw [up_n h4, up_n (by omega)]
theorem wa.gvs {a : Nat → Int32} {N G i m : Nat} {x : Int32} (h : wa a N G) (hm : m ≤ 60) : wa (gvs a i m x) N G := by
  have h1 : ∀ b : Nat → Int32, (∀ j, ¬ (97 + 76 * i ≤ j ∧ j ≤ 97 + 76 * i + 59) → b j = a j) → wa b N G := fun b hb => h.cong (hb _ (by omega)) (fun j _ => ⟨hb _ (by omega), hb _ (by omega), hb _ (by omega)⟩)
  unfold _root_.Jvm.Pilot.CCheckWeigherLaw_law_r2128_7c0bd7.gvs
  split
  · refine (h1 (upd (shf a i 59) (81 + 76 * i + (16 + 59)) x) (fun j hj => ?_)).u (by decide) (fun _ => ⟨60, by decide, rfl⟩) (fun h => absurd h (by decide)) (by decide)
    rw [up_n (by omega), shf_n (by omega)]
  · refine (h1 (upd a (81 + 76 * i + (16 + m)) x) (fun j hj => ?_)).u (by decide) (fun _ => ⟨m + 1, by omega, rfl⟩) (fun h => absurd h (by decide)) (by decide)
    rw [up_n (by omega)]
/-- an item on the table as a whole takes the sample, or is disturbed -/
def cl1 (p : Nat → Int32) (c : Nat) (i : Nat) (a : Nat → Int32) : Nat → Int32 := if isW p a i then (if c = 1 then gvs a i (mny a i) (a 21) else upd a (81 + 76 * i + 5) 1) else a
theorem wa.my {a : Nat → Int32} {N G i : Nat} (h : wa a N G) (hi : i < N) : mny a i ≤ 60 ∧ a (81 + 76 * i + 4) = nI (mny a i) := by
  obtain ⟨m, h1, h2⟩ := h.mn i hi
  rw [mny_of h2 h1]
  exact ⟨h1, h2⟩
theorem wa.cl1 {p a : Nat → Int32} {c N G i : Nat} (h : wa a N G) (hi : i < N) : wa (cl1 p c i a) N G := by
  unfold _root_.Jvm.Pilot.CCheckWeigherLaw_law_r2128_7c0bd7.cl1
  split
  · split
    · exact h.gvs (h.my hi).1
    · exact h.u (by decide) (fun h => absurd h (by decide)) (fun h => absurd h (by decide)) (by decide)
  · exact h
