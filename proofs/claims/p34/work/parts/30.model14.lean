/-! THE REFERENCE's public questions: switches; reports, gates, samples, counts -/
section XMT
variable {E : xm_E} {Z : xm_Z} {own nL rt D mc ms ce sl pc : Nat} {ini : Bool} {cc : ByteArray} {r : Option Value → xm_M → Prop} {L S : List Value} {M : xm_M}
theorem xm_tabI (hY : xm_Y E own nL cc rt ini D mc ms Z) {x : Int32} {dflt lo hi off : Int} {offs : Array Int} {len t : Nat} (hd : decode cc pc = .ok (.tableswitch dflt lo hi offs, len)) (h1 : ¬ x.toInt < lo) (h2 : ¬ hi < x.toInt) (ho : offs[(x.toInt - lo).toNat]? = some off) (hto : (pc : Int) + off = (t : Int))
    (k : xm_Go E Z nL mc ms r ce sl t L S M) : xm_Go E Z nL mc ms r ce sl pc L (.int x :: S) M := by
  intro H locs ls hW hF hl0
  obtain ⟨hx, hbc, -⟩ := hY.1
  exact lv_tableIn hx hbc hd h1 h2 ho hto (k H locs ls hW hF hl0)
theorem xm_tabO (hY : xm_Y E own nL cc rt ini D mc ms Z) {x : Int32} {dflt lo hi : Int} {offs : Array Int} {len td : Nat} (hd : decode cc pc = .ok (.tableswitch dflt lo hi offs, len)) (h : x.toInt < lo ∨ hi < x.toInt) (htd : (pc : Int) + dflt = (td : Int))
    (k : xm_Go E Z nL mc ms r ce sl td L S M) : xm_Go E Z nL mc ms r ce sl pc L (.int x :: S) M := by
  intro H locs ls hW hF hl0
  obtain ⟨hx, hbc, -⟩ := hY.1
  exact lv_tableOut hx hbc hd h htd (k H locs ls hW hF hl0)
end XMT
/-- the row behind a change of a gate's number w -/
def chr (a : Nat → Int32) (g w : Nat) (y : Int32) : Nat → Int32 := upd a (6 + 5 * g + w) y
/-- what report answers -/
def rpt (p a : Nat → Int32) (V W N w : Nat) : Int32 := match w with
  | 0 => a 0
  | 1 => p 0
  | 2 => p 4
  | 3 => p 5
  | 4 => a 4
  | 5 => a 5
  | 6 => nI (wnw p V W)
  | 7 => a 1
  | 8 => a 2
  | 9 => nI (cnt (fun i => decide (a (81 + 76 * i + 3) = 0)) N) + nI (cnt (fun i => decide (a (81 + 76 * i + 3) = 1)) N)
  | 10 => nI (cnt (fun i => decide (a 0 < a (81 + 76 * i + 12))) N)
  | _ => a 10 + a 15 + a 20
/-- what gate answers -/
def gta (p a : Nat → Int32) (N g w : Nat) : Int32 := if w < 3 then p (28 + 3 * g + w) else if w = 6 then xb (isC a N (nI g) (a 0) = true ∧ a (6 + 5 * g) = 0) else if w = 7 then a (6 + 5 * g + 0) else if w = 8 then a (6 + 5 * g + 1) else a (6 + 5 * g + (w - 1))
