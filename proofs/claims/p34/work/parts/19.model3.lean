/-! CALLS by the number of arguments, of methods whose answer is a function -/
section CALLF
variable {E : xm_E} {Z : xm_Z} {own nL rt D mc ms ce sl pc : Nat} {ini : Bool} {cc : ByteArray} {r : Option Value → xm_M → Prop} {L S : List Value} {M M2 : xm_M} {v0 : Option Value}
theorem xm_vf0 (hY : xm_Y E own nL cc rt ini D mc ms Z) {mt : xm_T4} {ci n rt1 d mc1 ms1 cp b : Nat} (hd : decode cc pc = .ok (.invokevirtual cp, 3)) (hl : Cond.methodLink (xm_C own) cp mt.1 ∈ lw_tb) (hm : xm_mo mt ci n rt1 false false) (h8 : ci < 8) (hs : xm_Met E Z.2.1 mt d mc1 ms1 [.ref b] M (fun v M1 => v = v0 ∧ M1 = M2)) (hb : b < M.1) (hk : ly_k b = ci) (hn : 0 = n) (hD : d + 1 ≤ D) (hf : ce + mc1 ≤ mc ∧ sl + ms1 ≤ ms) (hS : (S.map fun v => v.category).sum ≤ 8) (k : xm_Go E Z nL mc ms r (ce + mc1) (sl + ms1) (pc + 3) L (v0.toList ++ S) M2) : xm_Go E Z nL mc ms r ce sl pc L (.ref b :: S) M := xm_callV hY (As := []) hd hl hm h8 hs hb hk hn hD hf hS (fun v M1 h => by obtain ⟨rfl, rfl⟩ := h; exact k)
theorem xm_vf1 (hY : xm_Y E own nL cc rt ini D mc ms Z) {mt : xm_T4} {ci n rt1 d mc1 ms1 cp b : Nat} {x1 : Value} (hd : decode cc pc = .ok (.invokevirtual cp, 3)) (hl : Cond.methodLink (xm_C own) cp mt.1 ∈ lw_tb) (hm : xm_mo mt ci n rt1 false false) (h8 : ci < 8) (hs : xm_Met E Z.2.1 mt d mc1 ms1 [.ref b, x1] M (fun v M1 => v = v0 ∧ M1 = M2)) (hb : b < M.1) (hk : ly_k b = ci) (hn : 1 = n) (hD : d + 1 ≤ D) (hf : ce + mc1 ≤ mc ∧ sl + ms1 ≤ ms) (hS : (S.map fun v => v.category).sum ≤ 8) (k : xm_Go E Z nL mc ms r (ce + mc1) (sl + ms1) (pc + 3) L (v0.toList ++ S) M2) : xm_Go E Z nL mc ms r ce sl pc L (x1 :: .ref b :: S) M := xm_callV hY (As := [x1]) hd hl hm h8 hs hb hk hn hD hf hS (fun v M1 h => by obtain ⟨rfl, rfl⟩ := h; exact k)
theorem xm_sf1 (hY : xm_Y E own nL cc rt ini D mc ms Z) {mt : xm_T4} {ci n rt1 d mc1 ms1 cp : Nat} {x1 : Value} (hd : decode cc pc = .ok (.invokestatic cp, 3)) (hl : Cond.methodLink (xm_C own) cp mt.1 ∈ lw_tb) (hm : xm_mo mt ci n rt1 false true) (hs : xm_Met E Z.2.1 mt d mc1 ms1 [x1] M (fun v M1 => v = v0 ∧ M1 = M2)) (hn : 1 = n) (hD : d + 1 ≤ D) (hf : ce + mc1 ≤ mc ∧ sl + ms1 ≤ ms) (hS : (S.map fun v => v.category).sum ≤ 8) (k : xm_Go E Z nL mc ms r (ce + mc1) (sl + ms1) (pc + 3) L (v0.toList ++ S) M2) : xm_Go E Z nL mc ms r ce sl pc L (x1 :: S) M := xm_callS hY (As := [x1]) hd hl hm hs hn hD hf hS (fun v M1 h => by obtain ⟨rfl, rfl⟩ := h; exact k)
theorem xm_vf2 (hY : xm_Y E own nL cc rt ini D mc ms Z) {mt : xm_T4} {ci n rt1 d mc1 ms1 cp b : Nat} {x1 x2 : Value} (hd : decode cc pc = .ok (.invokevirtual cp, 3)) (hl : Cond.methodLink (xm_C own) cp mt.1 ∈ lw_tb) (hm : xm_mo mt ci n rt1 false false) (h8 : ci < 8) (hs : xm_Met E Z.2.1 mt d mc1 ms1 [.ref b, x1, x2] M (fun v M1 => v = v0 ∧ M1 = M2)) (hb : b < M.1) (hk : ly_k b = ci) (hn : 2 = n) (hD : d + 1 ≤ D) (hf : ce + mc1 ≤ mc ∧ sl + ms1 ≤ ms) (hS : (S.map fun v => v.category).sum ≤ 8) (k : xm_Go E Z nL mc ms r (ce + mc1) (sl + ms1) (pc + 3) L (v0.toList ++ S) M2) : xm_Go E Z nL mc ms r ce sl pc L (x2 :: x1 :: .ref b :: S) M := xm_callV hY (As := [x1, x2]) hd hl hm h8 hs hb hk hn hD hf hS (fun v M1 h => by obtain ⟨rfl, rfl⟩ := h; exact k)
theorem xm_nf2 (hY : xm_Y E own nL cc rt ini D mc ms Z) {mt : xm_T4} {ci n rt1 d mc1 ms1 cp : Nat} {x1 x2 : Value} (hd : decode cc pc = .ok (.invokestatic cp, 3)) (hl : (own, cp, mt.1) ∈ nw_tab) (hm : xm_mo mt ci n rt1 false true) (hs : xm_Met E Z.2.1 mt d mc1 ms1 [x1, x2] M (fun v M1 => v = v0 ∧ M1 = M2)) (hn : 2 = n) (hD : d + 1 ≤ D) (hf : ce + mc1 ≤ mc ∧ sl + ms1 ≤ ms) (hS : (S.map fun v => v.category).sum ≤ 8) (k : xm_Go E Z nL mc ms r (ce + mc1) (sl + ms1) (pc + 3) L (v0.toList ++ S) M2) : xm_Go E Z nL mc ms r ce sl pc L (x2 :: x1 :: S) M := xm_callSN hY (As := [x1, x2]) hd hl hm hs hn hD hf hS (fun v M1 h => by obtain ⟨rfl, rfl⟩ := h; exact k)
end CALLF
/-! THE REFERENCE's samples -/
def rw1 (M : xm_M) (r : Nat) (f : Nat → Int32) : xm_M := (M.1, fun b => if b = r then f else M.2.1 b, M.2.2)
theorem rw1_s (M : xm_M) (r : Nat) (f : Nat → Int32) : (rw1 M r f).2.1 r = f := if_pos rfl
theorem rw1_n (M : xm_M) {r b : Nat} (f : Nat → Int32) (h : b ≠ r) : (rw1 M r f).2.1 b = M.2.1 b := if_neg h
theorem rw1_R (M : xm_M) (r : Nat) (f : Nat → Int32) : (rw1 M r f).2.2 = M.2.2 := rfl
theorem rw1_1 (M : xm_M) (r : Nat) (f : Nat → Int32) : (rw1 M r f).1 = M.1 := rfl
theorem rw1_of (M : xm_M) (r j : Nat) (x : Int32) : xm_setI M r j x = rw1 M r (upd (M.2.1 r) j x) := rfl
theorem rw1_2 (M : xm_M) (r : Nat) (f g : Nat → Int32) : rw1 (rw1 M r f) r g = rw1 M r g := by
  unfold rw1
  congr 2
  funext b
  by_cases h : b = r <;> simp [h]
theorem rw1_id (M : xm_M) (r : Nat) : rw1 M r (M.2.1 r) = M := by
  obtain ⟨n, I, R⟩ := M
  unfold rw1
  congr 2
  funext b
  by_cases h : b = r <;> simp [h]
theorem rw1_set (M : xm_M) (r j : Nat) (f : Nat → Int32) (x : Int32) : xm_setI (rw1 M r f) r j x = rw1 M r (upd f j x) := by
  rw [rw1_of, rw1_s, rw1_2]
/-- what the cell shows of n items, beside c -/
def smq (p a : Nat → Int32) (c : Int32) : Nat → Int32
  | 0 => c
  | n + 1 => if inP p a n then smq p a c n + a (81 + 76 * n) * (ilt (a (81 + 76 * n + 2)) (p 2) - igt (a (81 + 76 * n + 2) - a (81 + 76 * n + 1)) (p 1)) / a (81 + 76 * n + 1) else smq p a c n
/-- k samples of item i moved down by one -/
def shf (a : Nat → Int32) (i k : Nat) : Nat → Int32 := fun j => if 97 + 76 * i ≤ j ∧ j < 97 + 76 * i + k then a (j + 1) else a j
def gvs (a : Nat → Int32) (i m : Nat) (x : Int32) : Nat → Int32 :=
  if m = 60 then upd (upd (shf a i 59) (81 + 76 * i + (16 + 59)) x) (81 + 76 * i + 4) (nI (59 + 1)) else upd (upd a (81 + 76 * i + (16 + m)) x) (81 + 76 * i + 4) (nI (m + 1))
theorem nI_m1 (n : Nat) : (nI (n + 1) + -1 : Int32) = nI n := pk_m1 n
theorem imin_n {a b : Nat} (ha : a < 2 ^ 31) (hb : b < 2 ^ 31) : imin (nI a) (nI b) = nI (min a b) := by
  unfold imin
  by_cases h : b < a
  · rw [if_pos ((nI_ltI hb ha).mpr h), Nat.min_eq_right (by omega)]
  · rw [if_neg (fun q => h ((nI_ltI hb ha).mp q)), Nat.min_eq_left (by omega)]
def mnf (f : Nat → Int32) (c : Int32) (a : Nat) : Nat → Int32
  | 0 => c
  | n + 1 => ilt (mnf f c a n) (f (a + n))
def mxf (f : Nat → Int32) (c : Int32) (a : Nat) : Nat → Int32
  | 0 => c
  | n + 1 => igt (mxf f c a n) (f (a + n))
/-- the spread of n values from lo on -/
def spr (f : Nat → Int32) (lo n : Nat) : Int32 := mxf f (f lo) lo n - mnf f (f lo) lo n
