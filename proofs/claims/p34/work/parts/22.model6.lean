/-! THE REFERENCE's gates and zeroing -/
/-- an item that a gate diverts -/
def dvt (p a : Nat → Int32) (i g : Nat) : Nat → Int32 :=
  upd (upd (upd (upd (upd a (81 + 76 * i + 3) (if a (81 + 76 * i + 7) = nI g then 3 else 4)) (81 + 76 * i + 9) (a 0)) (6 + 5 * g + 2) (a (6 + 5 * g + 2) + 1)) (81 + 76 * i + 13) (nI g)) (81 + 76 * i + 12) (a 0 + p 15)
abbrev met1 (p a : Nat → Int32) (N i g : Nat) : Prop := onB a i ∧ p (28 + 3 * g + 1) ≤ a (81 + 76 * i + 2) ∧ a (81 + 76 * i + 2) - p 0 < p (28 + 3 * g + 1) ∧ isC a N (nI g) (a 0) = true ∧ a (6 + 5 * g) = 0
def mg1 (p : Nat → Int32) (N i g : Nat) (a : Nat → Int32) : Nat → Int32 := if met1 p a N i g then dvt p a i g else a
def mgf (p : Nat → Int32) (N G i : Nat) (a : Nat → Int32) : Nat → Int32 := itf (fun g a => mg1 p N i g a) G a
theorem wa.dvt {p a : Nat → Int32} {N G i g : Nat} (h : wa a N G) (hg : g < 3) : wa (dvt p a i g) N G := by
  unfold _root_.Jvm.Pilot.CCheckWeigherLaw_law_r2128_7c0bd7.dvt
  have h1 : wa (upd a (81 + 76 * i + 3) (if a (81 + 76 * i + 7) = nI g then 3 else 4)) N G := h.u (by decide) (fun h => absurd h (by decide)) (fun h => absurd h (by decide)) (by decide)
  have h2 := h1.u (i := i) (w := 9) (x := a 0) (by decide) (fun h => absurd h (by decide)) (fun h => absurd h (by decide)) (by decide)
  have h3 := h2.g (j := 6 + 5 * g + 2) (x := a (6 + 5 * g + 2) + 1) (by omega) (by omega)
  have h4 := h3.u (i := i) (w := 13) (x := nI g) (by decide) (fun h => absurd h (by decide)) (fun _ => ⟨g, hg, rfl⟩) (by decide)
  exact h4.u (i := i) (w := 12) (by decide) (fun h => absurd h (by decide)) (fun h => absurd h (by decide)) (by decide)
theorem wa.mg1 {p a : Nat → Int32} {N N' G i g : Nat} (h : wa a N G) (hg : g < 3) : wa (mg1 p N' i g a) N G := by
  unfold _root_.Jvm.Pilot.CCheckWeigherLaw_law_r2128_7c0bd7.mg1
  split
  · exact h.dvt hg
  · exact h
theorem wa.itf {f : Nat → (Nat → Int32) → Nat → Int32} {N G : Nat} : ∀ {n : Nat} {a : Nat → Int32}, wa a N G → (∀ k a, k < n → wa a N G → wa (f k a) N G) → wa (itf f n a) N G
  | 0, _, h, _ => h
  | n + 1, a, h, hf => hf n _ (Nat.lt_succ_self n) (wa.itf h (fun k a hk => hf k a (Nat.lt_succ_of_lt hk)))
theorem itf_s {α : Type} (f : Nat → α → α) (n : Nat) (a : α) : itf f (n + 1) a = f n (itf f n a) := rfl
theorem mgf_off {p a : Nat → Int32} {N i g : Nat} (h : ¬ onB (mgf p N g i a) i) : ∀ d, mgf p N (g + d) i a = mgf p N g i a
  | 0 => rfl
  | d + 1 => by
    show mg1 p N i (g + d) (mgf p N (g + d) i a) = _
    rw [mgf_off h d, mg1, if_neg (fun q => h q.1)]
theorem n10 : ((1 : Int32) = 0) = False := by decide
theorem wa.mgf {p a : Nat → Int32} {N N' G i : Nat} (h : wa a N G) (hG : G ≤ 3) : wa (mgf p N' G i a) N G := h.itf (fun k a hk h => h.mg1 (by omega))
/-- the row behind the count of quiet ticks -/
def zr1 (a : Nat → Int32) (b : Int32) : Nat → Int32 := upd a 3 (if b = 0 then 0 else a 3 + 1)
def zrf (p a : Nat → Int32) (Q : Nat) (b : Int32) : Nat → Int32 := if p 14 = 0 ∨ zr1 a b 3 < p 14 then zr1 a b else upd (zr1 a b) 1 (sm (fun k => zr1 a b (21 + k)) 0 Q / p 14)
theorem wa.zrf {p a : Nat → Int32} {N G Q : Nat} {b : Int32} (h : wa a N G) : wa (zrf p a Q b) N G := by
  unfold _root_.Jvm.Pilot.CCheckWeigherLaw_law_r2128_7c0bd7.zrf
  have h1 : wa (zr1 a b) N G := h.g (by decide) (by decide)
  split
  · exact h1
  · exact h1.g (by decide) (by decide)
