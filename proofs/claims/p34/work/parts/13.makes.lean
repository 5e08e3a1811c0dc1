/-! WHAT MAKES CELLS; switches -/
def xm_dv (kd : Nat) : Value := match kd with
  | 13 => .long 0
  | 14 => .double 0
  | _ => .null
/-- one cell more, whose row already holds what a new cell holds -/
abbrev xm_up (M : xm_M) : xm_M := (M.1 + 1, M.2)
theorem xm_push {E : xm_E} {M : xm_M} {H H1 : Heap} {cell : Cell} (hO : xm_O E) (hW : xm_W E M H) (hlt : M.1 < ly_m) (e1 : H1[H.size]? = some cell) (e2 : H1.size = H.size + 1) (e3 : ∀ q, q < H.size → H1[q]? = H[q]?) (hat : xm_at E M M.1 cell) : xm_W E (xm_up M) H1 := by
  obtain ⟨w1, w2, w3, w4⟩ := hW
  have hz := w2 hlt
  have hlm : ly_m = 278 := rfl
  refine ⟨by show E.2.2.1 + (M.1 + 1) ≤ _; omega, fun _ => by show _ = E.2.2.1 + (M.1 + 1); omega, by show M.1 + 1 ≤ _; omega, fun a ha => ?_⟩
  have ha' : a < M.1 + 1 := ha
  by_cases h : a = M.1
  · subst h
    refine ⟨cell, ?_, hat⟩
    rw [hO.1 _ (by omega), ← hz]
    exact e1
  · obtain ⟨c0, h1, h2⟩ := w4 a (by omega)
    refine ⟨c0, ?_, h2⟩
    rw [e3 _ (Array.getElem?_eq_some_iff.mp h1).1]
    exact h1
theorem xm_F.push {E : xm_E} {s : State} {H H1 : Heap} {locs : List Loc} (hF : xm_F E s H locs) (hb : E.2.2.1 ≤ H.size) (hb2 : H.size < E.2.2.1 + 278) (e2 : H1.size = H.size + 1) (e3 : ∀ q, q < H.size → H1[q]? = H[q]?) : xm_F E s H1 locs := by
  refine ⟨by rw [e2]; exact Nat.le_succ_of_le hF.1, fun q hq => ?_, hF.2.2⟩
  rw [← hF.2.1 q hq]
  by_cases h : q < H.size
  · exact e3 q h
  · unfold xm_o at hq
    rw [Array.getElem?_eq_none (by omega), Array.getElem?_eq_none (by omega)]
section XMN
variable {E : xm_E} {Z : xm_Z} {own nL rt D mc ms ce sl pc : Nat} {ini : Bool} {cc : ByteArray} {r r1 : Option Value → xm_M → Prop} {L S : List Value} {M : xm_M}
theorem xm_new (hY : xm_Y E own nL cc rt ini D mc ms Z) {ci cp : Nat} (hd : decode cc pc = .ok (.new cp, 3)) (h8 : ci < 8) (hcl : Cond.classLink (xm_C own) cp (xm_C ci) ∈ lw_tb) (hin : Cond.instantiable (xm_C ci) (xm_N ci) ∈ lw_tb) (hini : Cond.initialized (xm_C ci) ∈ lw_tb) (hk : ly_k M.1 = ci) (hm : M.1 < ly_m) (hI : ∀ j, M.2.1 M.1 j = 0) (hR : ∀ j, M.2.2 M.1 j = .null) (hf : ce + 1 ≤ mc ∧ sl + xm_N ci ≤ ms)
    (k : xm_Go E Z nL mc ms r (ce + 1) (sl + xm_N ci) (pc + 3) L (.ref M.1 :: S) (xm_up M)) : xm_Go E Z nL mc ms r ce sl pc L S M := by
  intro H locs ls hW hF hl0
  obtain ⟨X, -, -, hR1, hR2, hR3, hR4⟩ := hY
  obtain ⟨hx, hbc, hml, hown, hts, hK, hlocks, hO, hxt, hsz⟩ := id X
  obtain ⟨hS, hfc, kC0, hkC0, hkind⟩ := hK.1.1 ci _ (xm_cl h8)
  have hbH : E.2.2.1 ≤ H.size := by have := hW.1; omega
  have hz := hW.2.1 hm
  have hlm : ly_m = 278 := rfl
  have had : E.2.1 M.1 = H.size := by rw [hO.1 _ (by omega), hz]
  refine W.newcK hx hbc hown (hts _ hcl) (hts _ hin) (hts _ hini) rfl hd (by omega) (by omega) hfc rfl (fun H' kC hkC e1 e2 e3 => ?_)
  have hborn := u_born (xm_ty ci) hts (xm_in h8) (hK.1.1 ci _ (xm_cl h8)) hkC e1 (xm_tyok h8)
  obtain ⟨cell, q1, q2, q3, q4⟩ := hborn
  have h9 := k H' locs ls (xm_push hO hW hm q1 e2 e3 ⟨q3, by rw [q2, hk], fun j hj => ?_, fun h => by omega⟩) (hF.push hbH (by omega) e2 e3) hl0
  · show W _ _ _ _ _ _ _ _ _ _ H' locs _ _ _ (F0 _ (pc + 3) ls (.ref H.size :: S.map (xm_gv E.2.1)))
    rw [← had]
    exact h9
  · have hlt : ly_k M.1 < 8 := by omega
    have hj' : j < xm_N ci := by unfold xm_ns at hj; rw [if_pos hlt, hk] at hj; exact hj
    unfold xm_sm
    rw [if_pos hlt, hk, q4 j hj']
    congr 1
    have hv : xm_v M M.1 j = defaultValue (xm_ty ci j) := by
      rw [xi_rd_v hk h8]
      rcases xm_tyc h8 j hj' with ht | ht | ⟨t, ht | ⟨t, ht⟩⟩ <;> rw [ht] <;> simp only [xm_c, xi_rd, hI, hR] <;> rfl
    have hv2 : xm_gv E.2.1 (defaultValue (xm_ty ci j)) = defaultValue (xm_ty ci j) := by
      rcases xm_tyc h8 j hj' with ht | ht | ⟨t, ht | ⟨t, ht⟩⟩ <;> rw [ht] <;> rfl
    rw [hv, hv2]
theorem xm_newa (hY : xm_Y E own nL cc rt ini D mc ms Z) {kd : Nat} {at9 : ArrayType} {n : Int32} (hd : decode cc pc = .ok (.newarray at9, 2)) (hkd : kd = 10 ∨ kd = 11) (hty : newarray.typeOf at9 = xm_aty kd) (hw : Cond.arrayClass (newarray.typeOf at9) ∈ lw_tb) (hk : ly_k M.1 = kd) (hm : M.1 < ly_m) (hn : ¬ n < 0) (hN : n.toNatClampNeg = ly_n M.1) (hsm : ly_n M.1 ≤ 10000) (hI : ∀ j, M.2.1 M.1 j = 0) (hR : ∀ j, M.2.2 M.1 j = xm_dv kd) (hf : ce + 1 ≤ mc ∧ sl + ly_n M.1 ≤ ms)
    (k : xm_Go E Z nL mc ms r (ce + 1) (sl + ly_n M.1) (pc + 2) L (.ref M.1 :: S) (xm_up M)) : xm_Go E Z nL mc ms r ce sl pc L (.int n :: S) M := by
  intro H locs ls hW hF hl0
  obtain ⟨X, -, -, hR1, hR2, hR3, hR4⟩ := hY
  obtain ⟨hx, hbc, hml, hown, hts, hK, hlocks, hO, hxt, hsz⟩ := id X
  have hbH : E.2.2.1 ≤ H.size := by have := hW.1; omega
  have hz := hW.2.1 hm
  have hlm : ly_m = 278 := rfl
  have had : E.2.1 M.1 = H.size := by rw [hO.1 _ (by omega), hz]
  have hcb : componentBytes (newarray.typeOf at9) ≤ 8 := by rw [hty]; rcases hkd with rfl | rfl <;> decide
  refine W.newa hx hbc (hts _ hw) rfl hd rfl hn (by rw [hN]; calc _ ≤ 10000 * 8 := Nat.mul_le_mul hsm hcb
    _ ≤ _ := by decide) (by omega) (by rw [hN]; omega) (fun cA kA comp f1 f2 f3 => ?_)
  have hcA : cA = E.1.1 kd := by
    have f0 : Z.2.2.2.2.1.vm.findClass ("[" ++ (xm_aty kd).toString) = some (E.1.1 kd) := by
      rcases hkd with rfl | rfl
      · exact (hK.1.2 0 _ rfl).2
      · exact (hK.1.2 1 _ rfl).2
    rw [hty] at f1
    exact Option.some.inj (f1.symm.trans f0)
  generalize hH1 : H.push ({ cls := cA, slots := Array.replicate n.toNatClampNeg (defaultValue (newarray.typeOf at9)), vm := .none } : Cell) = H1
  have z1 : H1.size = H.size + 1 := by rw [← hH1, Array.size_push]
  have e1 : H1[H.size]? = some ({ cls := cA, slots := Array.replicate n.toNatClampNeg (defaultValue (newarray.typeOf at9)), vm := .none } : Cell) := by rw [← hH1, Array.getElem?_push_size]
  have o1 : ∀ q : Nat, q < H.size → H1[q]? = H[q]? := fun q hq => by rw [← hH1, Array.getElem?_push, if_neg (Nat.ne_of_lt hq)]
  have h9 := k H1 locs ls (xm_push hO hW hm e1 z1 o1 ⟨rfl, by rw [hk, hcA], fun j hj => ?_, fun _ => by rw [Array.size_replicate, hN]⟩) (hF.push hbH (by omega) z1 o1) hl0
  · show W _ _ _ _ _ _ _ _ _ _ H1 locs _ _ _ (F0 _ (pc + 2) ls (.ref H.size :: S.map (xm_gv E.2.1)))
    rw [← had, hN]
    exact h9
  · have hlt : ¬ ly_k M.1 < 8 := by omega
    have hj' : j < ly_n M.1 := by unfold xm_ns at hj; rw [if_neg hlt] at hj; exact hj
    unfold xm_sm
    rw [if_neg hlt]
    simp only [Array.getElem?_replicate, hN, hj', if_true]
    congr 1
    rw [hty]
    unfold xm_v
    rw [hk, hI, hR]
    rcases hkd with rfl | rfl <;> rfl
/-- new Item[n] -/
theorem xm_newq (hY : xm_Y E own nL cc rt ini D mc ms Z) {cp : Nat} {n : Int32} (hd : decode cc pc = .ok (.anewarray cp, 3)) (hcl : Cond.classLink (xm_C own) cp RX0 ∈ lw_tb) (hxo : ∀ U, E.2.2.2.1 U → va_AO RX0 U) (hk : ly_k M.1 = 12) (hm : M.1 < ly_m) (hn : ¬ n < 0) (hN : n.toNatClampNeg = ly_n M.1) (hsm : ly_n M.1 ≤ 10000) (hR : ∀ j, M.2.2 M.1 j = .null) (hf : ce + 1 ≤ mc ∧ sl + ly_n M.1 ≤ ms)
    (k : xm_Go E Z nL mc ms r (ce + 1) (sl + ly_n M.1) (pc + 3) L (.ref M.1 :: S) (xm_up M)) : xm_Go E Z nL mc ms r ce sl pc L (.int n :: S) M := by
  intro H locs ls hW hF hl0
  obtain ⟨X, -, -, hR1, hR2, hR3, hR4⟩ := hY
  obtain ⟨hx, hbc, hml, hown, hts, hK, hlocks, hO, hxt, hsz⟩ := id X
  have hbH : E.2.2.1 ≤ H.size := by have := hW.1; omega
  have hz := hW.2.1 hm
  have hlm : ly_m = 278 := rfl
  have had : E.2.1 M.1 = H.size := by rw [hO.1 _ (by omega), hz]
  refine W.anew hx hbc hown (hts _ hcl) (va_AO.use (hxo _ hxt)) rfl hd rfl hn (by rw [hN]; omega) (by omega) (by rw [hN]; omega) (fun cA kA comp f1 f2 f3 f4 => ?_)
  have hcA : cA = E.1.1 12 := by
    obtain ⟨kA0, comp0, g1, g2, g3, g4⟩ := (hK.1.2 2 _ rfl).2
    exact Option.some.inj (f1.symm.trans g4)
  generalize hH1 : H.push ({ cls := cA, slots := Array.replicate n.toNatClampNeg .null, vm := .none } : Cell) = H1
  have z1 : H1.size = H.size + 1 := by rw [← hH1, Array.size_push]
  have e1 : H1[H.size]? = some ({ cls := cA, slots := Array.replicate n.toNatClampNeg .null, vm := .none } : Cell) := by rw [← hH1, Array.getElem?_push_size]
  have o1 : ∀ q : Nat, q < H.size → H1[q]? = H[q]? := fun q hq => by rw [← hH1, Array.getElem?_push, if_neg (Nat.ne_of_lt hq)]
  have h9 := k H1 locs ls (xm_push hO hW hm e1 z1 o1 ⟨rfl, by rw [hk, hcA], fun j hj => ?_, fun _ => by rw [Array.size_replicate, hN]⟩) (hF.push hbH (by omega) z1 o1) hl0
  · show W _ _ _ _ _ _ _ _ _ _ H1 locs _ _ _ (F0 _ (pc + 3) ls (.ref H.size :: S.map (xm_gv E.2.1)))
    rw [← had, hN]
    exact h9
  · have hlt : ¬ ly_k M.1 < 8 := by omega
    have hj' : j < ly_n M.1 := by unfold xm_ns at hj; rw [if_neg hlt] at hj; exact hj
    unfold xm_sm
    rw [if_neg hlt]
    simp only [Array.getElem?_replicate, hN, hj', if_true]
    congr 1
    unfold xm_v
    rw [hk, hR]
    rfl
/-- an Item into an array of Items -/
theorem xm_aast (hY : xm_Y E own nL cc rt ini D mc ms Z) {i : Int32} {b v : Nat} (hd : decode cc pc = .ok (.aastore, 1)) (hb : b < M.1) (hk : ly_k b = 12) (hi : vp_in i (ly_n b)) (hv : v < M.1) (hkv : ly_k v = 0)
    (k : xm_Go E Z nL mc ms r ce sl (pc + 1) L S (xm_setR M b i.toNatClampNeg (.ref v))) : xm_Go E Z nL mc ms r ce sl pc L (.ref v :: .int i :: .ref b :: S) M := by
  intro H locs ls hW hF hl0
  obtain ⟨X, -, -, hR1, hR2, hR3, hR4⟩ := hY
  obtain ⟨hx, hbc, hml, hown, hts, hK, hlocks, hO, hxt, hsz⟩ := id X
  obtain ⟨cell, hc, hat⟩ := hW.2.2.2 b hb
  obtain ⟨cv, hcv, hatv⟩ := hW.2.2.2 v hv
  have hsz : cell.slots.size = ly_n b := hat.2.2.2 (by omega)
  have hlt : i.toNatClampNeg < ly_n b := Nat.not_le.mp fun q => hi (Or.inr q)
  have hlm : M.1 ≤ 278 := hW.2.2.1
  have hns : i.toNatClampNeg < xm_ns b := by unfold xm_ns; rw [if_neg (by omega)]; exact hlt
  have hsm : i.toNatClampNeg = xm_sm E (ly_k b) i.toNatClampNeg := by unfold xm_sm; rw [if_neg (by omega)]
  obtain ⟨kA, comp, g1, g2, g3, g4⟩ := (hK.1.2 2 _ rfl).2
  have hcls := (hK.1.1 0 _ (xm_cl (by decide))).2
  have hcomp : comp = E.1.1 0 := Option.some.inj (g3.symm.trans hcls.1)
  subst hcomp
  obtain ⟨kC, hkC, -⟩ := hcls.2
  refine W.aast hx hbc hc (fun q h => by rw [hat.1] at h; cases h) (by rw [hat.1]; exact fun h => by cases h) (by rw [hat.2.1, hk]; exact g1) g2 rfl hkC ⟨fun q => hi (Or.inl q), by rw [hsz]; exact hlt⟩ hcv (fun q h => by rw [hatv.1] at h; cases h) (by rw [hatv.2.1, hkv]; exact hkC) (by rw [hatv.2.1, hkv]; exact va_assign hcls) rfl rfl hd (fun H' e1 e2 e3 => ?_)
  exact k H' _ ls (hW.store (v := .ref v) hO hb hc hat (Or.inl ⟨by rw [hk]; rfl, fun _ q => by cases q⟩) hns hsm (xm_apart hK hts b) e1 e2 e3) (hF.store hO (by omega) e2 e3) hl0
/-- Object's constructor -/
theorem xm_oinit (hY : xm_Y E own nL cc rt ini D mc ms Z) {cp b : Nat} (hd : decode cc pc = .ok (.invokespecial cp, 3)) (hl : Cond.methodLink (xm_C own) cp objectInit ∈ lw_tb) (hi : Cond.instanceMethod objectInit ∈ lw_tb) (hc : Cond.code objectInit ⟨#[0xb1]⟩ 1 none ∈ lw_tb) (hD : 1 ≤ D) (hS : (S.map fun v => v.category).sum ≤ 8)
    (k : xm_Go E Z nL mc ms r ce sl (pc + 3) L S M) : xm_Go E Z nL mc ms r ce sl pc L (.ref b :: S) M := by
  intro H locs ls hW hF hl0
  obtain ⟨X, -, -, hR1, hR2, hR3, hR4⟩ := hY
  obtain ⟨hx, hbc, hml, hown, hts, hK, hlocks, hO, hxt, hsz⟩ := id X
  refine W.objInit hx hbc hown (hts _ hl) (hts _ hi) (hts _ hc) rfl (by rw [hml]; exact hl0.1) rfl hd (by omega) ?_ (k H locs ls hW hF hl0)
  have := lv_room (m := Z.2.2.2.2.2.1) (pc := pc) (ls := ls) (rest := (Value.ref b :: S).map (xm_gv E.2.1)) (st := S.map (xm_gv E.2.1)) (by rw [xm_cats]; exact hS)
  omega
/-- a switch: within, without -/
theorem xm_tab (hY : xm_Y E own nL cc rt ini D mc ms Z) {x : Int32} {dflt lo hi : Int} {offs : Array Int} {len : Nat} (hd : decode cc pc = .ok (.tableswitch dflt lo hi offs, len)) (tg : Int → Nat) (ht : ∀ z : Int, lo ≤ z → z ≤ hi → ∃ off, offs[(z - lo).toNat]? = some off ∧ (pc : Int) + off = (tg z : Int)) {td : Nat} (htd : (pc : Int) + dflt = (td : Int))
    (kin : lo ≤ x.toInt → x.toInt ≤ hi → xm_Go E Z nL mc ms r ce sl (tg x.toInt) L S M) (kout : (x.toInt < lo ∨ hi < x.toInt) → xm_Go E Z nL mc ms r ce sl td L S M) : xm_Go E Z nL mc ms r ce sl pc L (.int x :: S) M := by
  intro H locs ls hW hF hl0
  obtain ⟨hx, hbc, -⟩ := hY.1
  by_cases h : x.toInt < lo ∨ hi < x.toInt
  · exact lv_tableOut hx hbc hd h htd (kout h H locs ls hW hF hl0)
  · have h1 : ¬ x.toInt < lo := fun q => h (Or.inl q)
    have h2 : ¬ hi < x.toInt := fun q => h (Or.inr q)
    obtain ⟨off, ho, hto⟩ := ht x.toInt (by omega) (by omega)
    exact lv_tableIn hx hbc hd h1 h2 ho hto (kin (by omega) (by omega) H locs ls hW hF hl0)
end XMN
