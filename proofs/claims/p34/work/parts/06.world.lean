/-! THE CELLS of this claim, in the order in which they are made: 0 the class; 2, 10 its setups; 18 its reader; 19, 147 its lines (items at 27 + 2 i, 155 + 2 i, their samples behind each); 275 its table; 278 the reference; 285, 286 the law's rows -/
def ly_q (a : Nat) : Nat := if 147 ≤ a ∧ a ≤ 274 then a - 128 else a
def ly_k (a : Nat) : Nat := if 27 ≤ ly_q a ∧ ly_q a ≤ 146 then (if a % 2 = 1 then 0 else 10) else
  match ly_q a with
  | 0 => 6
  | 2 => 4
  | 3 => 5
  | 10 => 4
  | 11 => 5
  | 18 => 2
  | 19 => 1
  | 20 => 11
  | 21 => 11
  | 25 => 12
  | 275 => 3
  | 278 => 7
  | 285 => 13
  | 286 => 14
  | _ => 10
def ly_n (a : Nat) : Nat := if 27 ≤ ly_q a ∧ ly_q a ≤ 146 then 60 else
  match ly_q a with
  | 1 => 500
  | 4 => 4
  | 5 => 4
  | 6 => 4
  | 12 => 4
  | 13 => 4
  | 14 => 4
  | 25 => 60
  | 26 => 60
  | 276 => 1740
  | 277 => 61
  | 279 => 41
  | 280 => 41
  | 281 => 4641
  | 282 => 4641
  | 283 => 500
  | 284 => 1740
  | 285 => 1
  | 286 => 1
  | _ => 3
def ly_m : Nat := 278
/-- what the memory holds at a place -/
def xm_v (M : xm_M) (a j : Nat) : Value := if xm_cd (ly_k a) j = 2 then M.2.2 a j else .int (M.2.1 a j)
def xm_ns (a : Nat) : Nat := if ly_k a < 8 then xm_N (ly_k a) else ly_n a
def xm_sm (E : xm_E) (kd j : Nat) : Nat := if kd < 8 then E.1.2 kd j else j
def xm_at (E : xm_E) (M : xm_M) (a : Nat) (cell : Cell) : Prop :=
  cell.vm = .none ∧ cell.cls = E.1.1 (ly_k a) ∧ (∀ j, j < xm_ns a → cell.slots[xm_sm E (ly_k a) j]? = some (xm_gv E.2.1 (xm_v M a j))) ∧ (8 ≤ ly_k a → cell.slots.size = ly_n a)
/-- the world: the first M.1 cells, with what the memory holds -/
def xm_W (E : xm_E) (M : xm_M) (H : Heap) : Prop :=
  E.2.2.1 + M.1 ≤ H.size ∧ (M.1 < ly_m → H.size = E.2.2.1 + M.1) ∧ M.1 ≤ ly_m ∧ ∀ a, a < M.1 → ∃ cell, H[E.2.1 a]? = some cell ∧ xm_at E M a cell
/-- the addresses, and what is known of the cells below ours -/
def xm_O (E : xm_E) : Prop :=
  (∀ a, a < 1000 → E.2.1 a = E.2.2.1 + a) ∧ (∀ u U : State, u.WarmedH U.vm → (∀ q, q < E.2.2.1 → U.heap[q]? = u.heap[q]?) → E.2.2.2.1 u → E.2.2.2.1 U) ∧ ∀ U : State, E.2.2.2.1 U → va_X (E.2.1 1000) E.2.2.2.2.1 E.2.2.2.2.2 U U.heap ∧ E.2.1 1000 < E.2.2.1
/-- the tables' part: classes and array classes -/
def xm_tys (E : xm_E) : List (ClassId × FieldType) := [(E.1.1 10, .int), (E.1.1 11, .boolean), (E.1.1 12, .object "CheckWeigher$Item")]
def xm_K (E : xm_E) (U : State) : Prop := va_K E.1 vwCl (xm_tys E) U ∧ ∀ q ∈ nw_tab, va_Nw (nw_w q) U
theorem xm_K.moved {E : xm_E} {u U : State} (hW : u.WarmedH U.vm) (h : xm_K E u) : xm_K E U := ⟨va_K.moved hW.alike h.1, fun q hq => va_Nw.warmM hW (h.2 q hq)⟩
/-- cells that are not the class's -/
def xm_o (E : xm_E) (q : Nat) : Prop := q < E.2.2.1 ∨ E.2.2.1 + 278 ≤ q
/-- the frame of a walk from s to the heap H -/
def xm_F (E : xm_E) (s : State) (H : Heap) (locs : List Loc) : Prop :=
  s.heap.size ≤ H.size ∧ (∀ q, xm_o E q → H[q]? = s.heap[q]?) ∧ ∀ z ∈ locs, ¬ xm_o E z.base
def xm_setI (M : xm_M) (a j : Nat) (x : Int32) : xm_M := (M.1, fun b => if b = a then upd (M.2.1 a) j x else M.2.1 b, M.2.2)
def xm_setR (M : xm_M) (a j : Nat) (x : Value) : xm_M := (M.1, M.2.1, fun b => if b = a then updV (M.2.2 a) j x else M.2.2 b)
/-- putting v of a kind at a place -/
def xm_put (M : xm_M) (a j : Nat) (v : Value) : xm_M := match v with
  | .int x => xm_setI M a j x
  | w => xm_setR M a j w
theorem xm_v_put {M : xm_M} {a j : Nat} {v : Value} (hv : (xm_cd (ly_k a) j = 2 ∧ ∀ x, v ≠ .int x) ∨ (xm_cd (ly_k a) j ≠ 2 ∧ ∃ x, v = .int x)) (b i : Nat) : xm_v (xm_put M a j v) b i = if b = a ∧ i = j then v else xm_v M b i := by
  rcases hv with ⟨hc, hv⟩ | ⟨hc, x, rfl⟩
  · have e : xm_put M a j v = xm_setR M a j v := by cases v <;> first | rfl | exact absurd rfl (hv _)
    rw [e]
    unfold xm_v
    by_cases hb : b = a
    · subst hb
      by_cases hi : i = j
      · subst hi
        simp [hc, xm_setR, updV]
      · simp [hi, xm_setR, updV]
    · simp [hb, xm_setR]
  · show xm_v (xm_setI M a j x) b i = _
    unfold xm_v
    by_cases hb : b = a
    · subst hb
      by_cases hi : i = j
      · subst hi
        simp [hc, xm_setI, upd]
      · simp [hi, xm_setI, upd]
    · simp [hb, xm_setI]
theorem xm_put_n (M : xm_M) (a j : Nat) (v : Value) : (xm_put M a j v).1 = M.1 := by cases v <;> rfl
/-- a store into a cell of ours -/
theorem xm_W.store {E : xm_E} {M : xm_M} {H H1 : Heap} {a j i : Nat} {cell : Cell} {v : Value} (hO : xm_O E) (hW : xm_W E M H) (ha : a < M.1) (hc : H[E.2.1 a]? = some cell) (hat : xm_at E M a cell)
    (hv : (xm_cd (ly_k a) j = 2 ∧ ∀ x, v ≠ .int x) ∨ (xm_cd (ly_k a) j ≠ 2 ∧ ∃ x, v = .int x)) (hj : j < xm_ns a) (hi : i = xm_sm E (ly_k a) j) (hap : ∀ x y, x < xm_ns a → y < xm_ns a → x ≠ y → xm_sm E (ly_k a) x ≠ xm_sm E (ly_k a) y)
    (e1 : H1[E.2.1 a]? = some (cell.setSlot i (xm_gv E.2.1 v))) (e2 : H1.size = H.size) (e3 : ∀ q, q ≠ E.2.1 a → H1[q]? = H[q]?) : xm_W E (xm_put M a j v) H1 := by
  obtain ⟨w1, w2, w3, w4⟩ := hW
  refine ⟨by rw [xm_put_n, e2]; exact w1, by rw [xm_put_n, e2]; exact w2, by rw [xm_put_n]; exact w3, fun b hb => ?_⟩
  rw [xm_put_n] at hb
  have hlm : ly_m = 278 := rfl
  by_cases hba : b = a
  · subst hba
    refine ⟨_, e1, hat.1, hat.2.1, fun k hk => ?_, fun h8 => ?_⟩
    · rw [xm_v_put hv]
      have hs := hat.2.2.1
      by_cases hkj : k = j
      · subst hkj
        have h5 := hs k hk
        have hlt := (Array.getElem?_eq_some_iff.mp h5).1
        subst hi
        rw [if_pos ⟨rfl, rfl⟩]
        show (cell.slots.setIfInBounds _ _)[_]? = _
        simp [hlt]
      · rw [if_neg (fun q => hkj q.2)]
        subst hi
        show (cell.slots.setIfInBounds _ _)[_]? = _
        rw [Array.getElem?_setIfInBounds_ne (fun q => hap k j hk hj hkj q.symm)]
        exact hs k hk
    · show (cell.slots.setIfInBounds _ _).size = _
      rw [Array.size_setIfInBounds]
      exact hat.2.2.2 h8
  · obtain ⟨c0, h1, h2⟩ := w4 b hb
    refine ⟨c0, ?_, h2.1, h2.2.1, fun k hk => ?_, h2.2.2.2⟩
    · rw [e3 _ (by rw [hO.1 a (by omega), hO.1 b (by omega)]; omega)]
      exact h1
    · rw [xm_v_put hv, if_neg (fun q => hba q.1)]
      exact h2.2.2.1 k hk
theorem xm_F.store {E : xm_E} {s : State} {H H1 : Heap} {locs : List Loc} {a i : Nat} (hO : xm_O E) (hF : xm_F E s H locs) (ha : a < 278) (e2 : H1.size = H.size) (e3 : ∀ q, q ≠ E.2.1 a → H1[q]? = H[q]?) : xm_F E s H1 (locs ++ [⟨E.2.1 a, i⟩]) := by
  obtain ⟨f1, f2, f3⟩ := hF
  have ea := hO.1 a (by omega)
  refine ⟨by rw [e2]; exact f1, fun q hq => ?_, fun z hz => ?_⟩
  · rw [e3 q (by rw [ea]; unfold xm_o at hq; omega)]
    exact f2 q hq
  · rcases List.mem_append.mp hz with h | h
    · exact f3 z h
    · rw [List.mem_singleton.mp h]
      show ¬ (E.2.1 a < E.2.2.1 ∨ E.2.2.1 + 278 ≤ E.2.1 a)
      rw [ea]; omega
theorem xm_apart {E : xm_E} {s : State} {args : Array Value} (hK : xm_K E s) (hts : ∀ w ∈ lw_tb, w.before args s = true) (a : Nat) : ∀ x y, x < xm_ns a → y < xm_ns a → x ≠ y → xm_sm E (ly_k a) x ≠ xm_sm E (ly_k a) y := by
  intro x y hx hy hne
  unfold xm_sm
  unfold xm_ns at hx hy
  by_cases h : ly_k a < 8
  · rw [if_pos h] at hx hy
    rw [if_pos h, if_pos h]
    exact va_apart (own := "") hts (xm_in h) (xm_ty (ly_k a)) (xm_tyok h) (xm_nm h) hK.1 (xm_cl h) x y hx hy hne
  · rw [if_neg h, if_neg h]; exact hne
/-- an array of ours is one for the machine -/
theorem xm_arr {E : xm_E} {s : State} {M : xm_M} {a : Nat} {cell : Cell} (hK : xm_K E s) (hat : xm_at E M a cell) (hk : 10 ≤ ly_k a) (hk2 : ly_k a ≤ 12) : s.isArrayOf cell (xm_aty (ly_k a)) := by
  have key : ArrOfT s (E.1.1 (ly_k a)) (xm_aty (ly_k a)) := by
    rcases (by omega : ly_k a = 10 ∨ ly_k a = 11 ∨ ly_k a = 12) with h | h | h <;> rw [h]
    · exact (hK.1.2 0 _ rfl).1
    · exact (hK.1.2 1 _ rfl).1
    · exact (hK.1.2 2 _ rfl).1
  obtain ⟨h1, kA, h2, comp, h3⟩ := key 0 (fun _ => .null)
  refine ⟨fun k h => (by rw [hat.1] at h; cases h), kA, ?_, comp, h3⟩
  rw [hat.2.1]
  exact h2
