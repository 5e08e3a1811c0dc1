def cf1 (i : Nat) (a : Nat → Int32) : Nat → Int32 := if a (81 + 76 * i + 12) = a 0 then upd a (6 + 5 * (a (81 + 76 * i + 13)).toNatClampNeg + (if a (6 + 5 * (a (81 + 76 * i + 13)).toNatClampNeg + 1) = 1 then 4 else 3)) (a (6 + 5 * (a (81 + 76 * i + 13)).toNatClampNeg + (if a (6 + 5 * (a (81 + 76 * i + 13)).toNatClampNeg + 1) = 1 then 4 else 3)) + 1) else a
theorem wa.cf1 {a : Nat → Int32} {N G i : Nat} (h : wa a N G) (hi : i < N) : wa (cf1 i a) N G := by
  unfold _root_.Jvm.Pilot.CCheckWeigherLaw_law_r2128_7c0bd7.cf1
  obtain ⟨b, hb, hb2⟩ := h.by' i hi
  have e : (a (81 + 76 * i + 13)).toNatClampNeg = b := by rw [hb2, cl_n (by omega)]
  rw [e]
  split
  · split
    · exact h.g (by omega) (by omega)
    · exact h.g (by omega) (by omega)
  · exact h
/-- a tick, up to the cell's sample -/
def tk4 (p a : Nat → Int32) (V N : Nat) : Nat → Int32 := cel p (sh1 (itf (mv1 p) N (upd a 0 (a 0 + 1))) 0) V N
/-- .. and the items' samples -/
def tk5 (p a : Nat → Int32) (V N : Nat) : Nat → Int32 := itf (cl1 p (pts p (tk4 p a V N) N)) N (tk4 p a V N)
/-- .. and the decisions, the gates, the belt's end -/
def tk8 (p a : Nat → Int32) (V G W N : Nat) : Nat → Int32 := itf (lv1 p) N (itf (mg2 p N G) N (itf (dc4 p (wnw p V W)) N (tk5 p a V N)))
/-- a whole tick -/
def tk (p a : Nat → Int32) (V G W Q N : Nat) : Nat → Int32 := itf cf1 N (zrf p (tk8 p a V G W N) Q (xb (pts p (tk4 p a V N) N = 0)))
def tkn (p a : Nat → Int32) (V W N : Nat) : Nat := dcn p (tk5 p a V N) (wnw p V W) N
theorem wa.sh1 {a : Nat → Int32} {N G n : Nat} (h : wa a N G) : wa (sh1 a n) N G := by
  have e : ∀ j, (j ≤ 21 ∨ 80 < j) → _root_.Jvm.Pilot.CCheckWeigherLaw_law_r2128_7c0bd7.sh1 a n j = a j := fun j hj => if_neg (by omega)
  exact h.cong (e _ (by omega)) (fun j _ => ⟨e _ (by omega), e _ (by omega), e _ (by omega)⟩)
theorem wa.tk4 {p a : Nat → Int32} {V N G : Nat} (h : wa a N G) : wa (tk4 p a V N) N G := ((((h.g (by decide) (by decide)).itf (fun k a hk h => h.mv1)).sh1).g (by decide) (by decide) : wa (upd _ 21 _) N G)
theorem wa.tk5 {p a : Nat → Int32} {V N G : Nat} (h : wa a N G) : wa (tk5 p a V N) N G := h.tk4.itf (fun k a hk h => h.cl1 hk)
theorem wa.tk8 {p a : Nat → Int32} {V G W N : Nat} (h : wa a N G) (hG : G ≤ 3) : wa (tk8 p a V G W N) N G := ((h.tk5.itf (fun k a hk h => h.dc4)).itf (fun k a hk h => h.mg2 hG)).itf (fun k a hk h => h.lv1)
theorem wa.tk {p a : Nat → Int32} {V G W Q N : Nat} (h : wa a N G) (hG : G ≤ 3) : wa (tk p a V G W Q N) N G := ((h.tk8 hG).zrf).itf (fun k a hk h => h.cf1 hk)
