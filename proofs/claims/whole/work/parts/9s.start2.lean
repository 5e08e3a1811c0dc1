def R_law : String := "CheckWeigherLaw"
def lw_P (b : Addr) (xs : List Int32) (args : Array Value) (s : State) : Prop := args = #[.ref b] ∧ s.IntsAt b xs ∧ xs.length ≤ 3072 ∧ (Jvm.Cond.and given_1 narrow_1).before args s = true
/-- what a walk over the start with the record d0 says of its end, said of the start itself -/
theorem lw_closed {s t : State} {o : Outcome} {d0 : Drawn} {L : List Loc} {k n : Nat} (hd0 : s.drawn.sameBut d0 lw_cs) (hv : ∃ v, o = .returned v) (hW : (s.setDrawn d0).WarmedH t.vm) (hs : (s.setDrawn d0).sameButNew ({ t with vm := s.vm } : State) L k n) : State.butDraws s t lw_cs (fun t1 => Framed s o t1 L k n) := by
  have h2 : t.drawn = d0 := congrArg State.drawn hs.1
  refine ⟨⟨hv, hW, State.sameButNew.setDrawn hs s.drawn⟩, ?_, by decide⟩
  rw [h2]
  exact hd0
def lw_Q (_ : Array Value) (s : State) (o : Outcome) (t : State) : Prop := o = .returned (some (.int 1)) ∧ State.butDraws s t lw_cs (fun t1 => Framed s o t1 [] 601024 7293034)
def lw_Z (below : List Frame) (a : Array Value) (s : State) : State → Prop := fun t => ∃ o, t.status = .running ∧ Ended t below o ∧ lw_Q a s o t
/-- the law's own end, with 1 on the stack, nothing written that was there before, its room as the claim has it; d0: the record of draws at this point (at the entry s.drawn: begin with 'refine W.base ?_' and 'have hd0 := Drawn.sameBut.refl s.drawn lw_cs') -/
theorem lw_ret {p : Program} {l : Launch} {e : Env} {s : State} {m : MethodId} {below : List Frame} {meth : Method} {c : Code} {b : Nat} {d0 : Drawn} (hd0 : s.drawn.sameBut d0 lw_cs) (hx : p.tables.exec = Jvm.exec) (hb : c.code = code) (hr : meth.sig.returnType = ret) (hlocks : meth.locks = false) {pc : Nat} {H : Heap} {ls : Array Slot} (hdg : decode code pc = .ok (.ireturn, 1)) : W p l e room_1 (s.setDrawn d0) m #[Value.ref b] below meth c H [] 601024 7293034 (lw_Z below #[Value.ref b] s) (F0 m pc ls [.int 1]) := by
  intro T hT X
  obtain ⟨fs, hret, hrun, hended, hW, hframe⟩ := X.leave (v := some (.int 1)) (hlocks := hlocks) (fun h => by rw [hr] at h; cases h)
  have hmeth' : T.vm.method? m = some meth := X.method'
  refine ⟨T.setFrames fs, ?_, .returned (some (.int 1)), hrun, hended, rfl, lw_closed hd0 ⟨_, rfl⟩ hW hframe⟩
  jvm_step X.here [X.here.top, hx, hb, hdg, hmeth', hr, ret, narrow_b1]
  (try refine ⟨rfl, ?_⟩); (try refine ⟨rfl, ?_⟩)
  first | (intro acts; rw [hret _ acts rfl rfl rfl]) | rw [hret _ _ rfl rfl rfl]
  exact Steps.refl _
/-- what holds at the law's entry: the machine, the code, the tables' words (any of lw_tbl by 'hts w (by decide +kernel)'), the script of L ints xs at the cell b, what the Statement gives of the start (any of its parts by flat_of_before) -/
def lw_At (p : Program) (s : State) (m : MethodId) (meth : Method) (c : Code) (b L : Nat) (xs : Nat → Int32) : Prop :=
  p.tables.exec = Jvm.exec ∧ c.code = code ∧ meth.sig.returnType = ret ∧ c.maxLocals = 9 ∧ s.vm.findClass R_law = some m.cls ∧ (∀ w ∈ lw_tbl, w.before #[Value.ref b] s = true) ∧ va_X b L xs s s.heap ∧ b < s.heap.size ∧ meth.locks = false ∧ (Jvm.Cond.and given_1 narrow_1).before #[Value.ref b] s = true
/-- what is known below ours -/
def kn1 (base b L : Nat) (xs : Nat → Int32) (ad : Nat → Nat) (D : va_G) : State → Prop := fun U => va_X b L xs U U.heap ∧ xl base U ∧ xst (D, ad, base, (fun _ => True), (0, fun _ => 0)) U ∧ va_AO RX0 U
def E1 (base b L : Nat) (xs : Nat → Int32) (ad : Nat → Nat) (D : va_G) : xm_E := (D, ad, base, kn1 base b L xs ad D, (L, xs))
theorem E1.O {base b L : Nat} {xs : Nat → Int32} {ad : Nat → Nat} {D : va_G} (h0 : ∀ k, k < 1000 → ad k = base + k) (h1 : ad 1000 = b) (hb : b < base) : xm_O (E1 base b L xs ad D) := by
  refine ⟨h0, fun u U hW hq h => ?_, fun U h => ?_⟩
  · obtain ⟨a1, a2, a3, a4⟩ := h
    exact ⟨va_X.moved hW.alike (a1.kept (hq b hb)), a2.keep hW hq, a3.keep hW hq, a4.moved hW.alike⟩
  · show va_X (ad 1000) L xs U U.heap ∧ ad 1000 < base
    rw [h1]
    exact ⟨h.1, hb⟩
theorem d_2040 : decode code 2040 = .ok (.iconst 1, 1) := by decide +kernel
theorem d_2041 : decode code 2041 = .ok (.ireturn, 1) := by decide +kernel
/-- from the entry, for every script of at most 3072 ints, the law comes to its end with true -/
theorem whole_start {p : Program} {e : Env} {s : State} {m : MethodId} {below : List Frame} {meth : Method} {c : Code} (l : Launch) (hflags : l.flags = flags0) {b L : Nat} {xs : Nat → Int32} (hL : L ≤ 3072) (C0 : lw_At p s m meth c b L xs) : W p l e room_1 s m #[Value.ref b] below meth c s.heap [] 0 0 (lw_Z below #[Value.ref b] s) (entryFrame m ([Value.ref b] : List Value).toArray 9) := by
  obtain ⟨hx, hb, hr, hml, hown, hts, hX, hbl, hlocks, hgv⟩ := id C0
  have hfl : ∀ w ∈ fl1c, w.before #[Value.ref b] s = true := flat_of_before _ hgv
  have hA : ∀ a : Nat, a < s.heap.size → ¬ (fun q : Nat => s.heap.size ≤ q) a := fun a ha h => by
    have h : s.heap.size ≤ a := h
    omega
  have hls : l.stackTraces = false := by
    unfold Launch.stackTraces
    rw [hflags]
    decide +kernel
  obtain ⟨D, hD⟩ := st_K hts
  obtain ⟨f, hf⟩ := st_str hts hfl hA
  have hxl := st_xl hts hfl
  have hxo : va_AO RX0 s := va_AO.of (hts _ ws_ao)
  have hcs := va_Zof (hts _ ws_lc) (hts _ ws_i0) (va_eqt (hfl _ wf_c)) hA
  obtain ⟨q, hq⟩ : ∃ q : Nat, va_Z RJ3 "SIOOBE_FORMATTER" "Ljava/util/function/BiFunction;" .null (fun q : Nat => s.heap.size ≤ q) s s.heap ∨ va_Z RJ3 "SIOOBE_FORMATTER" "Ljava/util/function/BiFunction;" (.ref q) (fun q : Nat => s.heap.size ≤ q) s s.heap := by
    rcases va_Zqof (hts _ ws_lf) (hts _ ws_i3) (hfl _ wf_f) hA with h | ⟨t, h⟩
    · exact ⟨0, Or.inl h⟩
    · exact ⟨t, Or.inr h⟩
  obtain ⟨ad, d0, d1, d2, d3, d4⟩ : ∃ ad : Nat → Nat, (∀ k, k < 1000 → ad k = s.heap.size + k) ∧ ad 1000 = b ∧ (∀ i, i < 32 → ad (1001 + i) = (f i).1) ∧ (∀ i, i < 32 → ad (1101 + i) = (f i).2) ∧ ad 1200 = q := by
    refine ⟨fun k => if k < 1000 then s.heap.size + k else if k = 1000 then b else if k < 1100 then (f (k - 1001)).1 else if k < 1200 then (f (k - 1101)).2 else q, fun k hk => if_pos hk, ?_, fun i hi => ?_, fun i hi => ?_, ?_⟩
    · show (if 1000 < 1000 then _ else _) = b
      rw [if_neg (by decide), if_pos rfl]
    · show (if 1001 + i < 1000 then _ else _) = _
      rw [if_neg (by omega), if_neg (by omega), if_pos (by omega), Nat.add_sub_cancel_left]
    · show (if 1101 + i < 1000 then _ else _) = _
      rw [if_neg (by omega), if_neg (by omega), if_neg (by omega), if_pos (by omega), Nat.add_sub_cancel_left]
    · show (if 1200 < 1000 then _ else _) = q
      rw [if_neg (by decide), if_neg (by decide), if_neg (by decide), if_neg (by decide)]
  have hkn : kn1 s.heap.size b L xs ad D s := by
    refine ⟨hX, hxl, ⟨fun i hi => ?_, hcs, ?_⟩, hxo⟩
    · show vk_R _ _ _ (ad (1001 + i)) s ∧ va_O RJ0 (ad (1001 + i)) _ s s.heap ∧ va_OF RJ0 "coder" "B" (.int 0) (ad (1001 + i)) _ s s.heap ∧ va_OF RJ0 "value" "[B" (.ref (ad (1101 + i))) (ad (1001 + i)) _ s s.heap ∧ va_T .byte (ad (1101 + i)) (sx_n i) (fun j => .int (sx_c i j)) _ s s.heap
      rw [d2 i hi, d3 i hi]
      exact hf i hi
    · rcases hq with h | h
      · exact ⟨.null, Or.inl rfl, h⟩
      · refine ⟨.ref 1200, Or.inr rfl, ?_⟩
        show va_Z RJ3 "SIOOBE_FORMATTER" "Ljava/util/function/BiFunction;" (.ref (ad 1200)) _ s s.heap
        rw [d4]
        exact h
  have hO : xm_O (E1 s.heap.size b L xs ad D) := E1.O d0 d1 hbl
  have hY : xm_Y (E1 s.heap.size b L xs ad D) 8 9 code 1 false 14 601024 7293034 (p, l, e, room_1, s, m, #[Value.ref b], below, meth, c) :=
    ⟨⟨hx, hb, hml, hown, fun w hw => hts w (lw_tb_in w hw), hD _ rfl, hlocks, hO, hkn, Nat.le_refl _⟩, (fun h => by cases h), hr, Nat.le_of_ble_eq_true rfl, Nat.le_of_ble_eq_true rfl, Nat.le_of_ble_eq_true rfl, Nat.le_of_ble_eq_true rfl⟩
  have hend : ∀ ce sl i M, ce ≤ 601024 → sl ≤ 7293034 → KRE M → xm_GQ (E1 s.heap.size b L xs ad D) (p, l, e, room_1, s, m, #[Value.ref b], below, meth, c) 9 (lw_Z below #[Value.ref b] s) ce sl 2040 (LB i (.retAddr 0) (.retAddr 0) (.retAddr 0)) [] M := by
    intro ce sl i M h1 h2 _ H locs ls hW hF hl
    refine va_forget (fun q hq => hF.2.2 q hq) ?_
    refine W.widen (k := 601024) (n := 7293034) h1 h2 ?_
    refine lv_iconst (v := 1) hx hb d_2040 (by decide) ?_
    exact lw_ret (d0 := s.drawn) (Drawn.sameBut.refl s.drawn lw_cs) hx hb hr hlocks d_2041
  have hl := lv_entry ([.ref b]) (n := 9) (Nat.le_of_ble_eq_true rfl)
  rw [lg_entry_eq]
  generalize (lg_sl ([.ref b]) ++ List.replicate (9 - (lg_sl ([.ref b])).length) Slot.unset).toArray = ls at hl ⊢
  have hl2 : xm_L ad ls 9 [.ref 1000, .retAddr 0, .retAddr 0, .retAddr 0, .retAddr 0, .retAddr 0, .retAddr 0, .retAddr 0, .retAddr 0] := by
    have h9 := xm_e_args (ad := ad) 8 [.ref 1000] 0 (fun v hv => by
      cases List.mem_singleton.mp hv
      exact ⟨rfl, rfl⟩)
    have h8 : lv_has ls 9 (xm_e ad 0 ([.ref 1000] ++ List.replicate 8 (.retAddr 0))) := by
      rw [h9]
      show lv_has ls 9 (lv_args 0 [.ref (ad 1000)])
      rw [d1]
      exact hl
    exact h8
  exact lw_body hY hls (fun U h => h.2.1) (fun U h => h.2.2.1) (fun U h => h.2.2.2) hL hend s.heap [] ls ⟨Nat.le_refl _, fun _ => rfl, Nat.zero_le _, fun a ha => absurd ha (Nat.not_lt_zero a)⟩ ⟨Nat.le_refl _, fun _ _ => rfl, fun z hz => by cases hz⟩ hl2
