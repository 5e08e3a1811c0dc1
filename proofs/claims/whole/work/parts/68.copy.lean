/-! System.arraycopy of 60 ints between two arrays of ours -/
def cpR (f g : Nat → Int32) : Nat → Int32 := fun k => if k < 60 then f k else g k
def xm_cp (M : xm_M) (b0 b : Nat) : xm_M := mI M (fun x => if x = b then cpR (M.2.1 b0) (M.2.1 b) else M.2.1 x)
theorem xm_iat {E : xm_E} {M : xm_M} {a j : Nat} {cell : Cell} (hat : xm_at E M a cell) (hk : ly_k a = 10) (hj : j < ly_n a) : cell.slots[j]? = some (.int (M.2.1 a j)) := by
  have h := hat.2.2.1 j (by unfold xm_ns; rw [if_neg (by omega)]; exact hj)
  unfold xm_sm xm_v at h
  rw [if_neg (by omega), hk, if_neg (show ¬ xm_cd 10 j = 2 from by show ¬ (0 : Nat) = 2; decide)] at h
  exact h
theorem sy_ok : ∀ w ∈ [Cond.native arraycopyName, Cond.static arraycopyName, Cond.initialized "java/lang/System"], w ∈ lw_tb := wq_of _ [1234, 1233, 109] (by decide +kernel) (by decide +kernel)
section XMCP
variable {E : xm_E} {p : Program} {l : Launch} {e : Env} {R : Room} {s : State} {m : MethodId} {args : Array Value} {below : List Frame} {meth : Method} {c : Code} {own nL ce sl pc : Nat} {cc : ByteArray} {Q : State → Prop} {L S : List Value} {M : xm_M}
theorem st_copy (X : xm_X E own nL cc p s m args meth c) {b0 b index : Nat} (hd : decode cc pc = .ok (.invokestatic index, 3)) (hlink : Cond.methodLink (xm_C own) index arraycopyName ∈ lw_tb) (hfr : 1 ≤ R.frames) (hlo : 30 ≤ R.locals) (hS : (S.map fun v => v.category).sum ≤ 8) (hb0 : b0 < M.1) (hb : b < M.1) (hk0 : ly_k b0 = 10) (hk : ly_k b = 10) (hn0 : ly_n b0 = 60) (hn : ly_n b = 60) (k : xm_Rn E p l e R s m args below meth c nL ce sl Q (pc + 3) L S (xm_cp M b0 b)) : xm_Rn E p l e R s m args below meth c nL ce sl Q pc L (.int 60 :: .int 0 :: .ref b :: .int 0 :: .ref b0 :: S) M := fun H locs ls hW hF hl => by
  obtain ⟨hx, hbc, hml, hown, hts, hK, hlocks, hO, hxt, hsz⟩ := id X
  obtain ⟨c0, hc0, hat0⟩ := hW.2.2.2 b0 hb0
  obtain ⟨c1, hc1, hat1⟩ := hW.2.2.2 b hb
  have z0 : c0.slots.size = 60 := (hat0.2.2.2 (by omega)).trans hn0
  have z1 : c1.slots.size = 60 := (hat1.2.2.2 (by omega)).trans hn
  have a0 := xm_arr hK hat0 (by omega) (by omega)
  have a1 := xm_arr hK hat1 (by omega) (by omega)
  rw [hk0] at a0
  rw [hk] at a1
  obtain ⟨-, k0, hk0', cm0, hkk0⟩ := a0
  obtain ⟨-, k1, hk1', cm1, hkk1⟩ := a1
  have hlm : M.1 ≤ 287 := hW.2.2.1
  have get0 : ∀ i, i < 60 → c0.slots.getD i .null = .int (M.2.1 b0 i) := fun i hi => by
    rw [Array.getD_eq_getD_getElem?, xm_iat hat0 hk0 (by omega)]
    rfl
  have hcat : ((S.map (xm_gv E.2.1)).map fun v => v.category).sum ≤ 8 := by rw [xm_cats]; exact hS
  intro T hT XX
  obtain ⟨vm', X', step⟩ := XX.arraycopy hx hown (hts _ hlink) (hts _ (sy_ok _ (by simp))) (hts _ (sy_ok _ (by simp))) (hts _ (sy_ok _ (by simp))) (src := E.2.1 b0) (dst := E.2.1 b) (cs := c0) (cd := c1) (srcPos := 0) (destPos := 0) (n := 60) (by rw [hT]; exact hc0) (by rw [hT]; exact hc1)
    (fun _ h => by rw [hat0.1] at h; cases h) (fun _ h => by rw [hat1.1] at h; cases h) (fun h => by rw [hat0.1] at h; cases h) (fun h => by rw [hat1.1] at h; cases h) hk0' hk1' hkk0 hkk1 (by decide) (by decide) (by decide) (by decide)
    (by rw [z0]; decide) (by rw [z1]; decide)
    (fun vm₁ _ i hi => by
      have hi : i < 60 := hi
      have e : c0.slots.getD ((0 : Int32).toNatClampNeg + i) .null = .int (M.2.1 b0 i) := by
        have := get0 i hi
        rw [show (0 : Int32).toNatClampNeg + i = i from Nat.zero_add i]
        exact this
      refine ⟨?_, ?_⟩
      · rw [e]; rfl
      · rw [e]; exact trivial)
    (g := F0 m pc ls (.int 60 :: .int 0 :: .ref (E.2.1 b) :: .int 0 :: .ref (E.2.1 b0) :: S.map (xm_gv E.2.1))) rfl (by rw [hml]; exact hl.1) (rest := S.map (xm_gv E.2.1)) rfl (by rw [hbc]; exact hd) hfr (by
      have hw : nativeFrameWords "java/lang/System" "arraycopy" 5 = 7 := by decide
      rw [hw]
      show 2 * 0 + _ + _ ≤ _
      omega)
  have hlt : E.2.1 b < H.size := (Array.getElem?_eq_some_iff.mp hc1).1
  generalize hC : copied c0 c1 0 0 60 = C at X' step
  have hheap : ((T.setVm vm').setCell (E.2.1 b) C).heap = H.setIfInBounds (E.2.1 b) C := by rw [← hT]; rfl
  have e2 : (H.setIfInBounds (E.2.1 b) C).size = H.size := by simp
  have e3 : ∀ q : Nat, q ≠ E.2.1 b → (H.setIfInBounds (E.2.1 b) C)[q]? = H[q]? := fun q hq => by simp [Array.getElem?_setIfInBounds, Ne.symm hq]
  have e1 : (H.setIfInBounds (E.2.1 b) C)[E.2.1 b]? = some C := by simp [hlt]
  obtain ⟨f1, f2, f3, f4, f5⟩ := Cell.storeRun_facts c1 0 (c0.stretch 0 60)
  have hC1 : c1.storeRun 0 (c0.stretch 0 60) = C := hC
  rw [hC1] at f1 f2 f3
  have hlen : (c0.stretch 0 60).length = 60 := by simp [Cell.stretch]
  have hg : ∀ j, j < 60 → C.slots[j]? = some (.int (M.2.1 b0 j)) := fun j hj => by
    rw [← hC1, Cell.storeRun_get c1 0 _ j (by rw [hlen, z1]; decide), if_pos (by rw [hlen]; omega)]
    unfold Cell.stretch
    rw [List.getElem?_map, Nat.sub_zero, List.getElem?_range (by omega)]
    show some (c0.slots.getD (0 + j) .null) = _
    rw [Nat.zero_add, get0 j hj]
  have hW1 : xm_W E (xm_cp M b0 b) (H.setIfInBounds (E.2.1 b) C) := by
    obtain ⟨w1, w2, w3, w4⟩ := hW
    refine ⟨by rw [e2]; exact w1, by rw [e2]; exact w2, w3, fun x hx' => ?_⟩
    by_cases hxb : x = b
    · subst hxb
      refine ⟨C, e1, f2.trans hat1.1, f1.trans hat1.2.1, fun j hj => ?_, fun h8 => f3.trans (hat1.2.2.2 h8)⟩
      have hj60 : j < 60 := by unfold xm_ns at hj; rw [if_neg (by omega)] at hj; omega
      unfold xm_sm xm_v
      rw [if_neg (by omega), hk, if_neg (show ¬ xm_cd 10 j = 2 from by show ¬ (0 : Nat) = 2; decide), hg j hj60]
      show some (Value.int _) = some (xm_gv E.2.1 (.int ((if x = x then cpR (M.2.1 b0) (M.2.1 x) else M.2.1 x) j)))
      rw [if_pos rfl]
      unfold cpR
      rw [if_pos hj60]
      rfl
    · obtain ⟨c2, g1, g2⟩ := w4 x hx'
      have hx1 : x < M.1 := hx'
      refine ⟨c2, ?_, g2.1, g2.2.1, fun j hj => ?_, g2.2.2.2⟩
      · rw [e3 _ (by rw [hO.1 x (by omega), hO.1 b (by omega)]; omega)]
        exact g1
      · have := g2.2.2.1 j hj
        unfold xm_v at this ⊢
        show _ = some (xm_gv E.2.1 (if xm_cd (ly_k x) j = 2 then M.2.2 x j else .int ((if x = b then cpR (M.2.1 b0) (M.2.1 b) else M.2.1 x) j)))
        rw [if_neg hxb]
        exact this
  obtain ⟨t, u1, u2⟩ := k _ _ ls hW1 ⟨by rw [e2]; exact hF.1, fun q hq => by
      rw [e3 q (by rw [hO.1 b (by omega)]; omega)]
      exact hF.2.1 q hq, fun z hz => by
      rcases List.mem_append.mp hz with h | h
      · exact hF.2.2 z h
      · obtain ⟨w, -, hw⟩ := List.mem_map.mp h
        rw [← hw]
        show E.2.2.1 ≤ E.2.1 b
        rw [hO.1 b (by omega)]
        omega⟩ hl _ hheap X'
  exact ⟨t, step t u1, u2⟩
end XMCP
section XMCQ
variable {E : xm_E} {Z : xm_Z} {own nL rt D mc ms ce sl pc : Nat} {ini : Bool} {cc : ByteArray} {r : Option Value → xm_M → Prop} {L S : List Value} {M : xm_M}
theorem xm_copy (hY : xm_Y E own nL cc rt ini D mc ms Z) {b0 b index : Nat} (hd : decode cc pc = .ok (.invokestatic index, 3)) (hlink : Cond.methodLink (xm_C own) index arraycopyName ∈ lw_tb) (hD : 1 ≤ D) (hS : (S.map fun v => v.category).sum ≤ 8) (hb0 : b0 < M.1) (hb : b < M.1) (hk0 : ly_k b0 = 10) (hk : ly_k b = 10) (hn0 : ly_n b0 = 60) (hn : ly_n b = 60) (k : xm_Go E Z nL mc ms r ce sl (pc + 3) L S (xm_cp M b0 b)) : xm_Go E Z nL mc ms r ce sl pc L (.int 60 :: .int 0 :: .ref b :: .int 0 :: .ref b0 :: S) M := by
  obtain ⟨X, -, -, hR1, hR2, hR3, hR4⟩ := hY
  exact st_copy X hd hlink (by omega) (by omega) hS hb0 hb hk0 hk hn0 hn k
end XMCQ
