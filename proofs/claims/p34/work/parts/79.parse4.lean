/-! READING a text: settings' values, the whole, pure; the reference's values -/
def l1 (x : Nat → Int32) (n : Nat) (s : xS) := sfig x n 0 9999 s
def l2 (x : Nat → Int32) (n : Nat) (s : xS) := sfig x n (sval (l1 x n s)) 9999 (spos (l1 x n s))
def d1 (x : Nat → Int32) (n : Nat) (s : xS) := sfig x n 0 99 s
def d2 (x : Nat → Int32) (n : Nat) (s : xS) := sfig x n 1 999 (spos (d1 x n s))
/-- setting c's value: the state behind it; what is told -/
def stS (x : Nat → Int32) (n c : Nat) (s : xS) : xS := match c with
  | 0 => spos (l2 x n s)
  | 1 => spos (sfig x n 1 60 s)
  | 2 => if swd x n 14 s = true then sadv x n s else if swd x n 15 s = true then sadv x n s else sfail 1 s
  | 3 => spos (sfig x n 0 9999 s)
  | 4 => spos (sfig x n 1 60 s)
  | 5 => spos (d2 x n s)
  | 6 => spos (sfig x n 0 60 s)
  | _ => spos (sfig x n 1 99 s)
def stT (x : Nat → Int32) (n c : Nat) (s : xS) (t : Nat → Int32) : Nat → Int32 := match c with
  | 0 => upd (upd t 6 (sval (l1 x n s))) 7 (sval (l2 x n s))
  | 1 => upd t 8 (sval (sfig x n 1 60 s))
  | 2 => if swd x n 14 s = true then upd t 9 1 else t
  | 3 => upd t 10 (sval (sfig x n 0 9999 s))
  | 4 => upd t 11 (sval (sfig x n 1 60 s))
  | 5 => upd (upd t 12 (sval (d1 x n s))) 13 (sval (d2 x n s))
  | 6 => upd t 14 (sval (sfig x n 0 60 s))
  | _ => upd t 15 (sval (sfig x n 1 99 s))
/-- a state behind another -/
def sle (n : Nat) (s s' : xS) : Prop := ∀ b', s' = .ok b' → ∃ b, s = .ok b ∧ (b ≤ n → b ≤ b' ∧ b' ≤ n)
theorem sle.t {n : Nat} {s s' s'' : xS} (h : sle n s s') (h2 : sle n s' s'') : sle n s s'' := fun b'' e => by
  obtain ⟨b', e1, q1⟩ := h2 b'' e
  obtain ⟨b, e2, q2⟩ := h b' e1
  exact ⟨b, e2, fun q => by have := q2 q; have := q1 this.2; omega⟩
theorem sle.r {n : Nat} {s : xS} : sle n s s := fun b e => ⟨b, e, fun q => ⟨Nat.le_refl _, q⟩⟩
theorem sle_adv {x : Nat → Int32} {n : Nat} {s : xS} : sle n s (sadv x n s) := fun b' e => by
  cases s with
  | error q => cases e
  | ok b =>
    cases e
    exact ⟨b, rfl, fun q => ⟨(nxt_b q).1, (nxt_b q).2.1⟩⟩
theorem sle_fail {n : Nat} {c : Int32} {s : xS} : sle n s (sfail c s) := fun b' e => by
  cases s with
  | error q => cases e
  | ok b => cases e
theorem sle_fig {x : Nat → Int32} {n : Nat} {u w : Int32} {s : xS} : sle n s (spos (sfig x n u w s)) := fun b' e => by
  cases s with
  | error q => cases e
  | ok b =>
    unfold sfig at e
    by_cases h2 : tS x n b = 2
    · by_cases h3 : u ≤ tN x n b ∧ tN x n b ≤ w
      · simp only [if_pos h2, if_pos h3] at e
        cases e
        exact ⟨b, rfl, fun q => ⟨(nxt_b q).1, (nxt_b q).2.1⟩⟩
      · simp only [if_pos h2, if_neg h3] at e
        cases e
    · simp only [if_neg h2] at e
      cases e
theorem sle_end {x : Nat → Int32} {n : Nat} {s : xS} : sle n s (send x n s) := fun b' e => by
  cases s with
  | error q => cases e
  | ok b =>
    unfold send at e
    by_cases h2 : tS x n b = 3
    · simp only [if_pos h2] at e
      cases e
      exact ⟨b, rfl, fun q => ⟨(nxt_b q).1, (nxt_b q).2.1⟩⟩
    · simp only [if_neg h2] at e
      cases e
theorem sle_evn {x : Nat → Int32} {n : Nat} {s : xS} : sle n s (sevn x n s) := fun b' e => by
  cases s with
  | error q => cases e
  | ok b =>
    unfold sevn at e
    by_cases h2 : tS x n b = 2 ∧ ¬ tN x n b % 2 = 0
    · simp only [if_pos h2] at e
      cases e
    · simp only [if_neg h2] at e
      have e2 : b = b' := by injection e
      subst e2
      exact ⟨b, rfl, fun q => ⟨Nat.le_refl _, q⟩⟩
theorem sle_st {x : Nat → Int32} {n c : Nat} {s : xS} : sle n s (stS x n c s) := by
  unfold stS
  split
  · exact sle_fig.t sle_fig
  · exact sle_fig
  · split
    · exact sle_adv
    · split
      · exact sle_adv
      · exact sle_fail
  · exact sle_fig
  · exact sle_fig
  · exact sle_fig.t sle_fig
  · exact sle_fig
  · exact sle_fig
theorem sle_vib {x : Nat → Int32} {n V b : Nat} : sle n (.ok (nxt x n b)) (vibS x n V b) := by
  unfold vibS
  split
  · exact fun b' e => by cases e
  · exact ((sle_fig.t sle_evn).t sle_fig).t (sle_fig.t sle_end)
theorem sle_gat {x : Nat → Int32} {n G b : Nat} {t : Nat → Int32} : sle n (.ok (nxt x n b)) (gatS x n G b t) := by
  unfold gatS
  split
  · exact fun b' e => by cases e
  · split
    · exact fun b' e => by cases e
    · have h : sle n (.ok (nxt x n b)) (.ok (nxt x n (nxt x n b))) := sle_adv (x := x) (s := .ok (nxt x n b))
      exact ((h.t sle_fig).t sle_fig).t sle_end
/-- a word stands at its begin -/
theorem swd_lt {x : Nat → Int32} {n i b : Nat} (h : swd x n i (.ok b) = true) : b < n := by
  have h1 := (of_decide_eq_true h).1
  exact (tS_b (x := x) (n := n) (b := b)).2.1 (by omega)
section RDR4
variable {E : xm_E} {l : Launch} {M M1 : xm_M} {x f0 t : Nat → Int32} {n : Nat} {s : xS}
end RDR4
