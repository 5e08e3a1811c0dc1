/-- an odd number where an even one is due -/
def sevn (x : Nat → Int32) (n : Nat) : xS → xS
  | .ok b => if tS x n b = 2 ∧ ¬ tN x n b % 2 = 0 then .error (2, b) else .ok b
  | .error e => .error e
theorem ok_evn {x : Nat → Int32} {n : Nat} {s : xS} (h : isOk (sevn x n s) = true) : isOk s = true := by
  cases s with
  | error e => exact Bool.noConfusion h
  | ok b => rfl
theorem sfig_c {x : Nat → Int32} {n : Nat} {u u' w w' : Int32} {s : xS} (h : isOk s = true → u = u' ∧ w = w') : sfig x n u w s = sfig x n u' w' s := by
  cases s with
  | error e => rfl
  | ok b => rw [(h rfl).1, (h rfl).2]
/-- a vibration's numbers behind its word -/
def v1a (x : Nat → Int32) (n b : Nat) := sfig x n 1 999 (.ok (nxt x n b))
def v1p (x : Nat → Int32) (n b : Nat) := sfig x n 2 40 (sevn x n (spos (v1a x n b)))
def v1s (x : Nat → Int32) (n b : Nat) := sfig x n 0 (sval (v1p x n b) - 1) (spos (v1p x n b))
def vibS (x : Nat → Int32) (n V b : Nat) : xS := if V = 4 then .error (4, b) else send x n (spos (v1s x n b))
def vibT (x : Nat → Int32) (n V b : Nat) (t : Nat → Int32) : Nat → Int32 := upd (upd (upd (upd t (16 + 3 * V) (sval (v1a x n b))) (16 + 3 * V + 1) (sval (v1p x n b))) (16 + 3 * V + 2) (sval (v1s x n b))) 4 (nI (V + 1))
/-- the kind of gate that stands next -/
def kdh (x : Nat → Int32) (n : Nat) (s : xS) : Int32 := if swd x n 3 s = true then 0 else if swd x n 4 s = true then 2 else if swd x n 5 s = true then 3 else -1
def g1p (x : Nat → Int32) (n G b : Nat) (t : Nat → Int32) := sfig x n ((if G = 0 then t 2 else t (28 + 3 * G - 2)) + 1) (t 3 - 1) (.ok (nxt x n (nxt x n b)))
def g1r (x : Nat → Int32) (n G b : Nat) (t : Nat → Int32) := sfig x n 0 50 (spos (g1p x n G b t))
def gatS (x : Nat → Int32) (n G b : Nat) (t : Nat → Int32) : xS :=
  if kdh x n (.ok (nxt x n b)) = -1 then .error (1, nxt x n b) else if ¬ t (37 + (kdh x n (.ok (nxt x n b))).toNatClampNeg) = -1 then .error (3, nxt x n b) else send x n (spos (g1r x n G b t))
def gatT (x : Nat → Int32) (n G b : Nat) (t : Nat → Int32) : Nat → Int32 := upd (upd (upd (upd (upd t (28 + 3 * G) (kdh x n (.ok (nxt x n b)))) (28 + 3 * G + 1) (sval (g1p x n G b t))) (28 + 3 * G + 2) (sval (g1r x n G b t))) (37 + (kdh x n (.ok (nxt x n b))).toNatClampNeg) (nI G)) 5 (nI (G + 1))
theorem kdh_v {x : Nat → Int32} {n : Nat} {s : xS} : kdh x n s = -1 ∨ ∃ k, (k = 0 ∨ k = 2 ∨ k = 3) ∧ kdh x n s = nI k := by
  unfold kdh
  split
  · exact Or.inr ⟨0, by decide, rfl⟩
  · split
    · exact Or.inr ⟨2, by decide, rfl⟩
    · split
      · exact Or.inr ⟨3, by decide, rfl⟩
      · exact Or.inl rfl
section RDR2
variable {E : xm_E} {l : Launch} {M M1 : xm_M} {x f0 t : Nat → Int32} {n : Nat} {s : xS}
theorem SR.put (hs : SR M x n f0 t s M1) {j : Nat} {v : Int32} : SR M x n f0 (upd t j v) s (xm_setI M1 280 j v) := by
  obtain ⟨f, rfl, h1, h2⟩ := hs
  exact ⟨f, RM_st, h1, h2⟩
theorem SR.r (hm : mR M) (hs : SR M x n f0 t s M1) : 278 < M1.1 ∧ 280 < M1.1 ∧ M1.2.2 278 2 = .ref 280 := by
  obtain ⟨f, rfl, h1, h2⟩ := hs
  obtain ⟨b278, b279, b280, -⟩ := hm.b
  exact ⟨b278, b280, hm.2.2.1⟩
end RDR2
