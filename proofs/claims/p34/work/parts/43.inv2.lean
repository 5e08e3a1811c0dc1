/-! THE ROW's invariants at rest: gates, the belt's end; what holds between ticks -/
theorem ivx.dec {p a b : Nat → Int32} {V G W Q i w T : Nat} (hp : wp p V G W Q) (h : ivx p (wds a i) G T ((p 2).toInt + (p 0).toInt) ((p 3).toInt + 99)) (hb : ∀ v, v < 76 → b (81 + 76 * i + v) = a (81 + 76 * i + v)) (hb0 : b 0 = nI (T + 1)) (hT : T + 1 ≤ 45000) (hn : 1 ≤ (a (81 + 76 * i + 1)).toInt ∧ (a (81 + 76 * i + 1)).toInt ≤ 2000) (hq : dcq p a i) : ivx p (wds (dcd p b i w) i) G (T + 1) (p 2).toInt ((p 3).toInt + 99) := by
  obtain ⟨a1, a2, a3, a4, a5, a6, a7, a8⟩ := h
  unfold wds at a1 a2 a3 a4 a5 a6 a7 a8
  obtain ⟨q1, q2⟩ := hq
  have a4 := a4 q1
  have a3 := a3 (by rw [q1]; decide)
  have hc := dcd_cm (a := b) (i := i) (w := w) hp hb0 hT (by rw [hb 2 (by decide)]; exact a2) (by rw [hb 1 (by decide)]; exact hn) (by rw [hb 10 (by decide), hb 11 (by decide)]; exact a4.2.2.2)
  obtain ⟨d3, d6, d7, d8, d14⟩ := dcd_at (p := p) (a := b) (i := i) (w := w)
  have e : ∀ k, k < 76 → k ≠ 3 ∧ k ≠ 6 ∧ k ≠ 7 ∧ k ≠ 8 ∧ k ≠ 10 ∧ k ≠ 11 ∧ k ≠ 14 → dcd p b i w (81 + 76 * i + k) = a (81 + 76 * i + k) := fun k h1 h2 => by rw [dcd_k h2, hb k h1]
  unfold ivx wds
  simp only [d3, e 2 (by decide) (by decide), e 9 (by decide) (by decide), e 12 (by decide) (by decide), e 13 (by decide) (by decide)]
  refine ⟨by rw [i1]; omega, a2, fun _ => a3, fun t => absurd t (by decide), fun _ => by rw [tl] at q2; exact q2, ?_, ?_, ?_⟩
  · rcases hc with t | ⟨g, g1, g2, -⟩
    · exact Or.inl t.1
    · exact Or.inr ⟨g, g1, g2⟩
  · exact Or.inl a3.2
  · rcases hc with t | ⟨g, g1, g2, g3, g4, g5, g6, g7, g8⟩
    · rw [t.2.1, t.2.2, i0]; omega
    · omega
theorem mg_w {p b : Nat → Int32} {N G i T : Nat} {f0 fb : Int} (hG : G ≤ 3) (hb0 : b 0 = nI (T + 1)) (hT : T + 1 ≤ 45000) (hp15 : 1 ≤ (p 15).toInt ∧ (p 15).toInt ≤ 99) (h : ivx p (wds b i) G (T + 1) f0 fb) : ivx p (wds (mgf p N G i b) i) G (T + 1) f0 fb := by
  have key : ∀ n, n ≤ G → ivx p (wds (mgf p N n i b) i) G (T + 1) f0 fb ∧ mgf p N n i b 0 = nI (T + 1) := by
    intro n
    induction n with
    | zero => intro _; exact ⟨h, hb0⟩
    | succ n ih =>
      intro hn
      obtain ⟨h1, h2⟩ := ih (by omega)
      have es : mgf p N (n + 1) i b = mg1 p N i n (mgf p N n i b) := rfl
      rw [es]
      generalize mgf p N n i b = c at h1 h2
      refine ⟨?_, by rw [mg1_n (by omega) (by omega)]; exact h2⟩
      unfold mg1
      by_cases hm : met1 p c N i n
      · rw [if_pos hm]
        obtain ⟨d3, d9, d13, d12, dg⟩ := dvt_at (p := p) (a := c) (i := i) (g := n) (by omega)
        have e : ∀ k, k < 76 → k ≠ 3 ∧ k ≠ 9 ∧ k ≠ 12 ∧ k ≠ 13 → dvt p c i n (81 + 76 * i + k) = c (81 + 76 * i + k) := fun k hk h2 => dvt_n (by omega)
        obtain ⟨a1, a2, a3, a4, a5, a6, a7, a8⟩ := h1
        unfold wds at a2 a6 a8
        have t0 : (c 0).toInt = (T : Int) + 1 := by rw [h2, tn (by omega)]; omega
        have t3 : dvt p c i n (81 + 76 * i + 3) = 3 ∨ dvt p c i n (81 + 76 * i + 3) = 4 := by
          rw [d3]
          split
          · exact Or.inl rfl
          · exact Or.inr rfl
        have e3 : (3 : Int32).toInt = 3 := rfl
        have e4 : (4 : Int32).toInt = 4 := rfl
        unfold ivx wds
        simp only [d9, d12, d13, e 2 (by decide) (by decide), e 6 (by decide) (by decide), e 7 (by decide) (by decide), e 10 (by decide) (by decide), e 11 (by decide) (by decide)]
        refine ⟨by rcases t3 with t | t <;> rw [t] <;> omega, a2, fun z => ?_, fun z => ?_, fun z => ?_, a6, Or.inr ⟨?_, by rw [t0]; omega, by rw [t0]; omega, n, by omega, rfl⟩, a8⟩
        · rcases t3 with t | t <;> rw [t] at z <;> exact absurd z (by decide)
        · rcases t3 with t | t <;> rw [t] at z <;> exact absurd z (by decide)
        · rcases t3 with t | t <;> rw [t] at z <;> exact absurd z (by decide)
        · rw [ti_add (by omega) (by omega)]
      · rw [if_neg hm]; exact h1
  exact (key G (Nat.le_refl _)).1
theorem mg2_l {p : Nat → Int32} {N G : Nat} (hG : G ≤ 3) : ∀ i a j, 81 ≤ j → ¬ (81 + 76 * i ≤ j ∧ j < 81 + 76 * i + 76) → mg2 p N G i a j = a j := fun i a j h1 h2 => by rw [mg2_e, mgf_n h2 (fun g hg => by omega)]
theorem lv1_l {p : Nat → Int32} : ∀ i a j, 81 ≤ j → ¬ (81 + 76 * i ≤ j ∧ j < 81 + 76 * i + 76) → lv1 p i a j = a j := fun _ _ _ _ h => lv1_n h
theorem lv_lo {p a : Nat → Int32} {N j : Nat} (h : j < 81) : itf (lv1 p) N a j = a j := itf_hi (fun i a j h => lv1_n h) (Or.inl h)
/-- the row at rest: N items, G gates, time T -/
def rv (p a : Nat → Int32) (G N T : Nat) : Prop := a 0 = nI T ∧ (0 ≤ (a 3).toInt ∧ (a 3).toInt ≤ (T : Int)) ∧ (∀ g, g < 3 → (a (6 + 5 * g) = 0 ∨ a (6 + 5 * g) = 1) ∧ (a (6 + 5 * g + 1) = 0 ∨ a (6 + 5 * g + 1) = 1)) ∧ (∀ g, G ≤ g → g < 3 → a (6 + 5 * g + 4) = 0) ∧ ∀ i, i < N → ivx p (wds a i) G T (p 2).toInt ((p 3).toInt - 1)
/-- up to the items' samples -/
theorem rv.t5 {p a : Nat → Int32} {V G W Q N T : Nat} (hp : wp p V G W Q) (ha : wa a N G) (h : rv p a G N T) : (∀ i, i < N → ivx p (wds (tk5 p a V N) i) G T ((p 2).toInt + (p 0).toInt) ((p 3).toInt + 99)) ∧ (∀ j, j < 21 → tk5 p a V N j = if j = 0 then nI (T + 1) else a j) ∧ ∀ i, i < N → ivx p (wds (tk4 p a V N) i) G T ((p 2).toInt + (p 0).toInt) ((p 3).toInt + 99) := by
  obtain ⟨h0, h3, hf, hal, hi⟩ := h
  have h4 : ∀ i, i < N → ivx p (wds (tk4 p a V N) i) G T ((p 2).toInt + (p 0).toInt) ((p 3).toInt + 99) := by
    intro i hiN
    obtain ⟨m1, m2⟩ := mv_w (p := p) (a := upd a 0 (a 0 + 1)) hiN
    have ew : ∀ w, w < 76 → wds (tk4 p a V N) i w = itf (mv1 p) N (upd a 0 (a 0 + 1)) (81 + 76 * i + w) := fun w hw => by
      unfold wds tk4
      rw [ces_n (by omega)]
    have eu : ∀ w, upd a 0 (a 0 + 1) (81 + 76 * i + w) = a (81 + 76 * i + w) := fun w => up_n (by omega)
    refine (hi i hiN).move hp.s0 hp.e3 (fun w hw h2 => ?_) ?_
    · rw [ew w hw, m1 w hw h2, eu]
    · rw [ew 2 (by decide), m2]
      by_cases hh : onB a i
      · have ho : onB (upd a 0 (a 0 + 1)) i := by unfold onB; rw [eu]; exact hh
        rw [if_pos ho, eu]
        exact (if_pos hh).symm
      · have ho : ¬ onB (upd a 0 (a 0 + 1)) i := by unfold onB; rw [eu]; exact hh
        rw [if_neg ho, eu]
        exact (if_neg hh).symm
  have hw4 : wa (tk4 p a V N) N G := ha.tk4
  have lo4 : ∀ j, j < 21 → tk4 p a V N j = if j = 0 then nI (T + 1) else a j := by
    intro j hj
    unfold tk4
    rw [ces_n (by omega), mv_lo (by omega)]
    by_cases e : j = 0
    · subst e; rw [up_s, if_pos rfl, h0, nI_1]
    · rw [up_n e, if_neg e]
  refine ⟨fun i hiN => ?_, fun j hj => ?_, h4⟩
  · have e : ∀ w, w < 16 → w ≠ 4 → w ≠ 5 → wds (tk5 p a V N) i w = wds (tk4 p a V N) i w := fun w h1 h2 h3 => cl_w hw4 hiN h1 h2 h3
    exact (h4 i hiN).cong (e 2 (by decide) (by decide) (by decide)) (e 3 (by decide) (by decide) (by decide)) (e 6 (by decide) (by decide) (by decide)) (e 7 (by decide) (by decide) (by decide)) (e 9 (by decide) (by decide) (by decide)) (e 10 (by decide) (by decide) (by decide)) (e 11 (by decide) (by decide) (by decide)) (e 12 (by decide) (by decide) (by decide)) (e 13 (by decide) (by decide) (by decide))
  · unfold tk5
    rw [cl_lo hw4 (by omega)]
    exact lo4 j hj
/-- the row behind the decisions -/
abbrev tk6 (p a : Nat → Int32) (V W N : Nat) : Nat → Int32 := itf (dc4 p (wnw p V W)) N (tk5 p a V N)
abbrev tk7 (p a : Nat → Int32) (V G W N : Nat) : Nat → Int32 := itf (mg2 p N G) N (tk6 p a V W N)
theorem rv.t6 {p a : Nat → Int32} {V G W Q N T : Nat} (hp : wp p V G W Q) (ha : wa a N G) (h : rv p a G N T) (hT : T + 1 ≤ 45000) : ∀ i, i < N → ivx p (wds (tk6 p a V W N) i) G (T + 1) (p 2).toInt ((p 3).toInt + 99) := by
  obtain ⟨h5, lo5, -⟩ := rv.t5 hp ha h
  intro i hiN
  obtain ⟨n1, n2⟩ := dc_w (p := p) (a := tk5 p a V N) (w := wnw p V W) hiN
  by_cases hq : dcq p (tk5 p a V N) i
  · obtain ⟨b, hb, hb0, hb2⟩ := n2 hq
    have hln := (ha.tk5 (p := p) (V := V)).ln i hiN
    have h9 := (h5 i hiN).dec (b := b) (w := wnw p V W) hp hb (by rw [hb0, lo5 0 (by omega), if_pos rfl]) hT hln hq
    have e : ∀ v, v < 76 → wds (tk6 p a V W N) i v = wds (dcd p b i (wnw p V W)) i v := fun v hv => hb2 v hv
    exact h9.cong (e 2 (by decide)) (e 3 (by decide)) (e 6 (by decide)) (e 7 (by decide)) (e 9 (by decide)) (e 10 (by decide)) (e 11 (by decide)) (e 12 (by decide)) (e 13 (by decide))
  · have e : ∀ v, v < 76 → wds (tk6 p a V W N) i v = wds (tk5 p a V N) i v := fun v hv => n1 hq v hv
    refine ((h5 i hiN).cong (e 2 (by decide)) (e 3 (by decide)) (e 6 (by decide)) (e 7 (by decide)) (e 9 (by decide)) (e 10 (by decide)) (e 11 (by decide)) (e 12 (by decide)) (e 13 (by decide))).mono (by omega) (fun z => ?_) (fun z => ?_)
    · rw [e 3 (by decide)] at z
      rw [e 2 (by decide)]
      have h2 : ¬ p 2 < tk5 p a V N (81 + 76 * i + 2) := fun t => hq ⟨z, t⟩
      rw [tl] at h2
      show (tk5 p a V N (81 + 76 * i + 2)).toInt ≤ _
      omega
    · rw [e 3 (by decide)] at z
      rw [e 2 (by decide)]
      exact ((h5 i hiN).2.2.1 z).1
theorem rv.lo6 {p a : Nat → Int32} {V G W Q N T : Nat} (hp : wp p V G W Q) (ha : wa a N G) (h : rv p a G N T) : ∀ j, j < 21 → tk6 p a V W N j = if j = 0 then nI (T + 1) else a j := fun j hj => by
  unfold tk6
  rw [dc_lo (by omega)]
  exact (rv.t5 hp ha h).2.1 j hj
theorem rv.t7 {p a : Nat → Int32} {V G W Q N T : Nat} (hp : wp p V G W Q) (ha : wa a N G) (h : rv p a G N T) (hT : T + 1 ≤ 45000) : ∀ i, i < N → ivx p (wds (tk7 p a V G W N) i) G (T + 1) (p 2).toInt ((p 3).toInt + 99) := by
  intro i hiN
  have h6 := rv.t6 hp ha h hT i hiN
  have lo := rv.lo6 (W := W) hp ha h
  obtain ⟨n1, n2⟩ := itf_it (f := mg2 p N G) (mg2_l hp.g5b) (a := tk6 p a V W N) (i := i)
  have hb0 : itf (mg2 p N G) i (tk6 p a V W N) 0 = nI (T + 1) := by
    rw [itm_n hp.g5b (by omega) (by omega), lo 0 (by omega), if_pos rfl]
  have e1 : ∀ v, v < 76 → wds (itf (mg2 p N G) i (tk6 p a V W N)) i v = wds (tk6 p a V W N) i v := fun v hv => n1 v hv
  have h61 := h6.cong (e1 2 (by decide)) (e1 3 (by decide)) (e1 6 (by decide)) (e1 7 (by decide)) (e1 9 (by decide)) (e1 10 (by decide)) (e1 11 (by decide)) (e1 12 (by decide)) (e1 13 (by decide))
  have h7 := mg_w (N := N) hp.g5b hb0 hT hp.co15 h61
  have e2 : ∀ v, v < 76 → wds (tk7 p a V G W N) i v = wds (mgf p N G i (itf (mg2 p N G) i (tk6 p a V W N))) i v := fun v hv => by
    show itf (mg2 p N G) N (tk6 p a V W N) (81 + 76 * i + v) = _
    rw [n2 N v hiN hv, mg2_e]
  exact h7.cong (e2 2 (by decide)) (e2 3 (by decide)) (e2 6 (by decide)) (e2 7 (by decide)) (e2 9 (by decide)) (e2 10 (by decide)) (e2 11 (by decide)) (e2 12 (by decide)) (e2 13 (by decide))
theorem rv.t8 {p a : Nat → Int32} {V G W Q N T : Nat} (hp : wp p V G W Q) (ha : wa a N G) (h : rv p a G N T) (hT : T + 1 ≤ 45000) : ∀ i, i < N → ivx p (wds (tk8 p a V G W N) i) G (T + 1) (p 2).toInt ((p 3).toInt - 1) := by
  intro i hiN
  have h7 := rv.t7 (W := W) hp ha h hT i hiN
  obtain ⟨n1, n2⟩ := itf_it (f := lv1 p) lv1_l (a := tk7 p a V G W N) (i := i)
  have e1 : ∀ v, v < 76 → wds (itf (lv1 p) i (tk7 p a V G W N)) i v = wds (tk7 p a V G W N) i v := fun v hv => n1 v hv
  have h71 := (h7.cong (e1 2 (by decide)) (e1 3 (by decide)) (e1 6 (by decide)) (e1 7 (by decide)) (e1 9 (by decide)) (e1 10 (by decide)) (e1 11 (by decide)) (e1 12 (by decide)) (e1 13 (by decide))).lv hp.e3
  have e2 : ∀ v, v < 76 → wds (tk8 p a V G W N) i v = wds (lv1 p i (itf (lv1 p) i (tk7 p a V G W N))) i v := fun v hv => n2 N v hiN hv
  exact h71.cong (e2 2 (by decide)) (e2 3 (by decide)) (e2 6 (by decide)) (e2 7 (by decide)) (e2 9 (by decide)) (e2 10 (by decide)) (e2 11 (by decide)) (e2 12 (by decide)) (e2 13 (by decide))
theorem lo8 {p a : Nat → Int32} {V G W Q N T j : Nat} (hp : wp p V G W Q) (ha : wa a N G) (h : rv p a G N T) (hj : j < 21) (hj2 : j ≠ 8 ∧ j ≠ 13 ∧ j ≠ 18) : tk8 p a V G W N j = if j = 0 then nI (T + 1) else a j := by
  unfold tk8
  rw [lv_lo (by omega), itm_n hp.g5b hj2 (by omega)]
  exact rv.lo6 (W := W) hp ha h j hj
theorem zrf_n {p a : Nat → Int32} {Q j : Nat} {b : Int32} (h : j ≠ 3) (h1 : j ≠ 1) : zrf p a Q b j = a j := by
  unfold zrf
  split
  · exact zr1_n h
  · rw [up_n h1]; exact zr1_n h
theorem zrf_3 {p a : Nat → Int32} {Q : Nat} {b : Int32} : zrf p a Q b 3 = if b = 0 then 0 else a 3 + 1 := by
  unfold zrf
  split
  · exact up_s
  · rw [up_n (by decide)]; exact up_s
/-- confirmations change counters of gates alone -/
theorem cf_n {a : Nat → Int32} {N G j : Nat} (ha : wa a N G) (hj : ∀ g, g < 3 → j ≠ 6 + 5 * g + 3 ∧ j ≠ 6 + 5 * g + 4) : itf cf1 N a j = a j := by
  have key : ∀ n, n ≤ N → itf cf1 n a j = a j := by
    intro n
    induction n with
    | zero => intro _; rfl
    | succ n ih =>
      intro hn
      have hb : wa (itf cf1 n a) N G := ha.itf (fun k a hk h => h.cf1 (by omega))
      obtain ⟨g, hg, hg2⟩ := hb.by' n (by omega)
      rw [itf_s, cf1_n (g := g) (by rw [hg2, cl_n (by omega)]) (hj g hg)]
      exact ih (by omega)
  exact key N (Nat.le_refl _)
/-- alarms: of the gates that there are alone -/
theorem cf_al {a : Nat → Int32} {N G g T : Nat} (ha : wa a N G) (ha0 : a 0 = nI T) (hT : T < 100000) (hg : G ≤ g) (hg3 : g < 3) (hby : ∀ i, i < N → a (81 + 76 * i + 12) = nI T → ∃ b, b < G ∧ a (81 + 76 * i + 13) = nI b) : itf cf1 N a (6 + 5 * g + 4) = a (6 + 5 * g + 4) := by
  have key : ∀ n, n ≤ N → itf cf1 n a (6 + 5 * g + 4) = a (6 + 5 * g + 4) := by
    intro n
    induction n with
    | zero => intro _; rfl
    | succ n ih =>
      intro hn
      have e : ∀ j, (j = 0 ∨ 81 ≤ j) → itf cf1 n a j = a j := by
        intro j hj
        have key2 : ∀ m, m ≤ n → itf cf1 m a j = a j := by
          intro m
          induction m with
          | zero => intro _; rfl
          | succ m ih2 =>
            intro hm
            have hb : wa (itf cf1 m a) N G := ha.itf (fun k a hk h => h.cf1 (by omega))
            obtain ⟨g', hg', hg2⟩ := hb.by' m (by omega)
            rw [itf_s, cf1_n (g := g') (by rw [hg2, cl_n (by omega)]) (by omega)]
            exact ih2 (by omega)
        exact key2 n (Nat.le_refl _)
      have ih := ih (by omega)
      have e12 := e (81 + 76 * n + 12) (by omega)
      have e13 := e (81 + 76 * n + 13) (by omega)
      have e0 := e 0 (by omega)
      rw [itf_s]
      generalize itf cf1 n a = b at *
      unfold cf1
      by_cases hq : b (81 + 76 * n + 12) = b 0
      · rw [if_pos hq]
        obtain ⟨x, hx, hx2⟩ := hby n (by omega) (by rw [← e12, hq, e0, ha0])
        have ex : (b (81 + 76 * n + 13)).toNatClampNeg = x := by rw [e13, hx2, cl_n (by omega)]
        rw [ex, up_n (by split <;> omega)]
        exact ih
      · rw [if_neg hq]; exact ih
  exact key N (Nat.le_refl _)
theorem rv.tk {p a : Nat → Int32} {V G W Q N T : Nat} (hp : wp p V G W Q) (ha : wa a N G) (h : rv p a G N T) (hT : T + 1 ≤ 45000) : rv p (tk p a V G W Q N) G N (T + 1) := by
  have h8 := rv.t8 (W := W) hp ha h hT
  have hw8 : wa (tk8 p a V G W N) N G := ha.tk8 hp.g5b
  have lo : ∀ j, j < 21 → j ≠ 8 ∧ j ≠ 13 ∧ j ≠ 18 → tk8 p a V G W N j = if j = 0 then nI (T + 1) else a j := fun j h1 h2 => lo8 hp ha h h1 h2
  obtain ⟨h0, h3, hf, hal, hi⟩ := h
  unfold _root_.Jvm.Pilot.CCheckWeigherLaw_law_r2128_7c0bd7.tk
  generalize xb (pts p (tk4 p a V N) N = 0) = bq
  generalize tk8 p a V G W N = r8 at *
  have hwz : wa (zrf p r8 Q bq) N G := hw8.zrf
  have ez : ∀ j, j ≠ 3 → j ≠ 1 → zrf p r8 Q bq j = r8 j := fun j h1 h2 => zrf_n h1 h2
  refine ⟨?_, ?_, fun g hg => ?_, fun g hg hg3 => ?_, fun i hiN => ?_⟩
  · rw [cf_n hwz (fun g hg => by omega), ez 0 (by decide) (by decide), lo 0 (by omega) (by omega), if_pos rfl]
  · rw [cf_n hwz (fun g hg => by omega), zrf_3]
    have e3 : r8 3 = a 3 := by rw [lo 3 (by omega) (by omega), if_neg (by decide)]
    split
    · rw [i0]; omega
    · rw [e3, ti_add (by rw [i1]; omega) (by rw [i1]; omega), i1]; omega
  · rw [cf_n hwz (fun g hg => by omega), cf_n hwz (fun g hg => by omega), ez _ (by omega) (by omega), ez _ (by omega) (by omega), lo _ (by omega) (by omega), lo _ (by omega) (by omega), if_neg (by omega), if_neg (by omega)]
    exact hf g hg
  · rw [cf_al (T := T + 1) hwz (by rw [ez 0 (by decide) (by decide), lo 0 (by omega) (by omega), if_pos rfl]) (by omega) hg hg3 (fun i hiN hd => ?_), ez _ (by omega) (by omega), lo _ (by omega) (by omega), if_neg (by omega)]
    · exact hal g hg hg3
    · rw [ez _ (by omega) (by omega)] at hd
      rw [ez _ (by omega) (by omega)]
      rcases (h8 i hiN).2.2.2.2.2.2.1 with t | ⟨-, -, -, t⟩
      · exfalso
        have t : r8 (81 + 76 * i + 12) = 0 := t
        rw [t] at hd
        have h5 := congrArg Int32.toInt hd
        rw [tn (by omega), i0] at h5
        omega
      · exact t
  · have e : ∀ v, wds (itf cf1 N (zrf p r8 Q bq)) i v = wds r8 i v := fun v => by
      show itf cf1 N (zrf p r8 Q bq) (81 + 76 * i + v) = r8 (81 + 76 * i + v)
      rw [cf_n hwz (fun g hg => by omega), ez _ (by omega) (by omega)]
    exact (h8 i hiN).cong (e 2) (e 3) (e 6) (e 7) (e 9) (e 10) (e 11) (e 12) (e 13)
