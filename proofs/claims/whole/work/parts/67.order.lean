/-! THE ROW's order: items decide in their order; the commands of a gate are sorted -/
theorem mgf_w {p b : Nat → Int32} {N i v : Nat} (h : v ≠ 3 ∧ v ≠ 9 ∧ v ≠ 12 ∧ v ≠ 13) (hv : v < 76) : ∀ {n : Nat}, n ≤ 3 → mgf p N n i b (81 + 76 * i + v) = b (81 + 76 * i + v)
  | 0, _ => rfl
  | n + 1, hn => by
    have es : mgf p N (n + 1) i b = mg1 p N i n (mgf p N n i b) := rfl
    have ih := mgf_w (p := p) (b := b) (N := N) (i := i) h hv (n := n) (by omega)
    rw [es]
    generalize mgf p N n i b = c at ih
    unfold mg1
    split
    · rw [dvt_n (by omega)]; exact ih
    · exact ih
theorem mgf_s {p b : Nat → Int32} {V G W Q N i : Nat} (hp : wp p V G W Q) (hf : b (81 + 76 * i + 3) = 0 → (b (81 + 76 * i + 2)).toInt ≤ (p 2).toInt) : ∀ {n : Nat}, n ≤ G → (mgf p N n i b (81 + 76 * i + 3) = 0 ↔ b (81 + 76 * i + 3) = 0)
  | 0, _ => Iff.rfl
  | n + 1, hn => by
    have hG := hp.g5b
    have es : mgf p N (n + 1) i b = mg1 p N i n (mgf p N n i b) := rfl
    have ih := mgf_s (N := N) hp hf (n := n) (by omega)
    have w2 := mgf_w (p := p) (b := b) (N := N) (i := i) (v := 2) (by decide) (by decide) (n := n) (by omega)
    rw [es]
    generalize mgf p N n i b = c at ih w2
    unfold mg1
    by_cases hm : met1 p c N i n
    · rw [if_pos hm, (dvt_at (by omega)).1]
      have hs : ¬ b (81 + 76 * i + 3) = 0 := fun z => by
        have h1 := hf z
        have h2 := hm.2.1
        rw [te, w2] at h2
        have := (hp.gat n (by omega)).1
        omega
      constructor
      · intro z
        split at z <;> exact absurd z (by decide)
      · intro z
        exact absurd z hs
    · rw [if_neg hm]; exact ih
theorem lv_w {p a : Nat → Int32} {i v : Nat} (h : v ≠ 3 ∧ v ≠ 9) : lv1 p i a (81 + 76 * i + v) = a (81 + 76 * i + v) := by
  unfold lv1
  split
  · rw [up_n (by omega), up_n (by omega)]
  · rfl
theorem lv_s {p a : Nat → Int32} {i : Nat} (hf : a (81 + 76 * i + 3) = 0 → (a (81 + 76 * i + 2)).toInt < (p 3).toInt) : lv1 p i a (81 + 76 * i + 3) = 0 ↔ a (81 + 76 * i + 3) = 0 := by
  unfold lv1
  by_cases hl : onB a i ∧ p 3 ≤ a (81 + 76 * i + 2)
  · rw [if_pos hl, up_n (by omega), up_s]
    have hs : ¬ a (81 + 76 * i + 3) = 0 := fun z => by
      have h1 := hf z
      have h2 := hl.2
      rw [te] at h2
      omega
    constructor
    · intro z
      split at z <;> exact absurd z (by decide)
    · intro z
      exact absurd z hs
  · rw [if_neg hl]
/-- the words of an item behind the gates, the end, the confirmations -/
theorem tk_w {p a : Nat → Int32} {V G W Q N i v : Nat} (hG : G ≤ 3) (ha : wa a N G) (hi : i < N) (hv : v < 76) (h : v ≠ 3 ∧ v ≠ 9 ∧ v ≠ 12 ∧ v ≠ 13) : tk p a V G W Q N (81 + 76 * i + v) = tk6 p a V W N (81 + 76 * i + v) := by
  have hw8 : wa (tk8 p a V G W N) N G := ha.tk8 hG
  unfold tk
  rw [cf_n hw8.zrf (fun g hg => by omega), zrf_n (by omega) (by omega)]
  obtain ⟨n1, n2⟩ := itf_it (f := lv1 p) lv1_l (a := tk7 p a V G W N) (i := i)
  obtain ⟨m1, m2⟩ := itf_it (f := mg2 p N G) (mg2_l hG) (a := tk6 p a V W N) (i := i)
  have e1 : tk8 p a V G W N (81 + 76 * i + v) = lv1 p i (itf (lv1 p) i (tk7 p a V G W N)) (81 + 76 * i + v) := n2 N v hi hv
  have e2 : tk7 p a V G W N (81 + 76 * i + v) = mg2 p N G i (itf (mg2 p N G) i (tk6 p a V W N)) (81 + 76 * i + v) := m2 N v hi hv
  rw [e1, lv_w (by omega), n1 v hv, e2, mg2_e, mgf_w h hv hG, m1 v hv]
theorem tk_s {p a : Nat → Int32} {V G W Q N T i : Nat} (hp : wp p V G W Q) (ha : wa a N G) (hr : rv p a G N T) (hT : T + 1 ≤ 45000) (hi : i < N) : tk p a V G W Q N (81 + 76 * i + 3) = 0 ↔ tk6 p a V W N (81 + 76 * i + 3) = 0 := by
  have hG := hp.g5b
  have hw8 : wa (tk8 p a V G W N) N G := ha.tk8 hG
  have h6 := rv.t6 (W := W) hp ha hr hT i hi
  have h7 := rv.t7 (W := W) hp ha hr hT i hi
  unfold tk
  rw [cf_n hw8.zrf (fun g hg => by omega), zrf_n (by omega) (by omega)]
  obtain ⟨n1, n2⟩ := itf_it (f := lv1 p) lv1_l (a := tk7 p a V G W N) (i := i)
  obtain ⟨m1, m2⟩ := itf_it (f := mg2 p N G) (mg2_l hG) (a := tk6 p a V W N) (i := i)
  have e1 : tk8 p a V G W N (81 + 76 * i + 3) = lv1 p i (itf (lv1 p) i (tk7 p a V G W N)) (81 + 76 * i + 3) := n2 N 3 hi (by decide)
  have e2 : tk7 p a V G W N (81 + 76 * i + 3) = mg2 p N G i (itf (mg2 p N G) i (tk6 p a V W N)) (81 + 76 * i + 3) := m2 N 3 hi (by decide)
  rw [e1, lv_s, n1 3 (by decide), e2, mg2_e, mgf_s hp, m1 3 (by decide)]
  · rw [m1 3 (by decide), m1 2 (by decide)]
    exact fun z => (h6.2.2.2.1 z).1
  · exact Nat.le_refl _
  · rw [n1 3 (by decide), n1 2 (by decide)]
    intro z
    have := (h7.2.2.2.1 z).1
    have := hp.e2
    have q : ((wds (tk7 p a V G W N) i) 2).toInt ≤ (p 2).toInt := by omega
    show (tk7 p a V G W N (81 + 76 * i + 2)).toInt < _
    exact Int.lt_of_le_of_lt q (by omega)
theorem tk4_w {p a : Nat → Int32} {V N i w : Nat} (hi : i < N) (hw : w < 76) : tk4 p a V N (81 + 76 * i + w) = if w = 2 ∧ onB a i then a (81 + 76 * i + 2) + p 0 else a (81 + 76 * i + w) := by
  obtain ⟨m1, m2⟩ := mv_w (p := p) (a := upd a 0 (a 0 + 1)) hi
  have eu : ∀ w, upd a 0 (a 0 + 1) (81 + 76 * i + w) = a (81 + 76 * i + w) := fun w => up_n (by omega)
  have ho : onB (upd a 0 (a 0 + 1)) i ↔ onB a i := by unfold onB; rw [eu]
  unfold tk4
  rw [ces_n (by omega)]
  by_cases h2 : w = 2
  · subst h2
    rw [m2]
    by_cases hh : onB a i
    · rw [if_pos (ho.mpr hh), if_pos ⟨rfl, hh⟩, eu]
    · rw [if_neg (fun t => hh (ho.mp t)), if_neg (fun t => hh t.2), eu]
  · rw [m1 w hw h2, if_neg (fun t => h2 t.1), eu]
theorem cl_4 {p a : Nat → Int32} {N G C i : Nat} (ha : wa a N G) (hi : i < N) (h : 0 < a (81 + 76 * i + 4)) : 0 < itf (cl1 p C) N a (81 + 76 * i + 4) := by
  have key : ∀ n, n ≤ N → 0 < itf (cl1 p C) n a (81 + 76 * i + 4) := by
    intro n
    induction n with
    | zero => intro _; exact h
    | succ n ih =>
      intro hn
      have hb : wa (itf (cl1 p C) n a) N G := ha.itf (fun k a hk h => h.cl1 (by omega))
      obtain ⟨m1, m2⟩ := hb.my (i := n) (by omega)
      have ih := ih (by omega)
      rw [itf_s]
      generalize itf (cl1 p C) n a = b at *
      unfold cl1
      split
      · split
        · by_cases e : i = n
          · subst e
            rw [gvs_4 m1, tl, tn (by split <;> omega), i0]
            split <;> omega
          · rw [gvs_n m1 (by omega) (by omega)]; exact ih
        · rw [up_n (by omega)]; exact ih
      · exact ih
  exact key N (Nat.le_refl _)
/-- quotients rounded up, with a floor of 0 -/
def rz (x y : Int) : Int := (max 0 x + y - 1) / y
theorem rup_z {x y : Int32} (hx : x.toInt ≤ 100000) (hy : 1 ≤ y.toInt ∧ y.toInt ≤ 100) : (rup x y).toInt = rz x.toInt y.toInt := by
  obtain ⟨r1, r2, -, -⟩ := rup_b hx hy
  unfold rz
  by_cases h : 0 < x.toInt
  · rw [r1 h, Int.max_eq_right (by omega)]
  · rw [r2 (by omega), i0, Int.max_eq_left (by omega), Int.zero_add]
    exact (Int.ediv_eq_zero_of_lt (by omega) (by omega)).symm
theorem rz_mono {x x' y : Int} (hy : 1 ≤ y) (h : x ≤ x') : rz x y ≤ rz x' y := Int.ediv_le_ediv (by omega) (by omega)
theorem rz_step {x y : Int} (hy : 1 ≤ y) (h : 0 ≤ x) : rz x y ≤ rz (x + 1 - y) y + 1 := by
  unfold rz
  by_cases q : 0 ≤ x + 1 - y
  · rw [Int.max_eq_right h, Int.max_eq_right q]
    have e : (x + 1 - y + y - 1) / y + 1 = (x + y) / y := by
      rw [show x + 1 - y + y - 1 = x by omega, show x + y = x + 1 * y by omega, Int.add_mul_ediv_right _ _ (by omega)]
    rw [e]
    exact Int.ediv_le_ediv (by omega) (by omega)
  · rw [Int.max_eq_right h, Int.max_eq_left (by omega)]
    have e1 : (x + y - 1) / y < 2 := Int.ediv_lt_of_lt_mul (by omega) (by omega)
    have e2 : 0 ≤ (0 + y - 1) / y := Int.ediv_nonneg (by omega) (by omega)
    omega
/-- an item's own: how late its command may begin; class 1 comes from samples -/
def ovx (p x : Nat → Int32) (G T : Nat) : Prop := (∀ g, g < G → x 7 = nI g → x 10 < x 11 → (x 10).toInt ≤ (T : Int) + max (rz ((p (28 + 3 * g + 1)).toInt - (p 2).toInt - 1) (p 0).toInt) (p (28 + 3 * g + 2)).toInt) ∧ (x 6 = 1 → 0 < x 4)
def ov (p a : Nat → Int32) (G N T : Nat) : Prop := (∀ i k, i < k → k < N → a (81 + 76 * i + 3) = 0 → a (81 + 76 * k + 3) = 0 ∧ (a (81 + 76 * k + 2)).toInt < (a (81 + 76 * i + 2)).toInt) ∧ (∀ i k, i < k → k < N → ∀ g, g < G → a (81 + 76 * i + 7) = nI g → a (81 + 76 * k + 7) = nI g → a (81 + 76 * i + 10) < a (81 + 76 * i + 11) → a (81 + 76 * k + 10) < a (81 + 76 * k + 11) → (a (81 + 76 * i + 10)).toInt ≤ (a (81 + 76 * k + 10)).toInt) ∧ ∀ i, i < N → ovx p (wds a i) G T
/-- what a tick does to an item -/
theorem tk_it {p a : Nat → Int32} {V G W Q N T i : Nat} (hp : wp p V G W Q) (ha : wa a N G) (hr : rv p a G N T) (hT : T + 1 ≤ 45000) (hi : i < N) : (tk p a V G W Q N (81 + 76 * i + 3) = 0 ↔ a (81 + 76 * i + 3) = 0 ∧ (a (81 + 76 * i + 2)).toInt + (p 0).toInt ≤ (p 2).toInt) ∧ (a (81 + 76 * i + 3) = 0 → (tk p a V G W Q N (81 + 76 * i + 2)).toInt = (a (81 + 76 * i + 2)).toInt + (p 0).toInt) ∧ (¬ (a (81 + 76 * i + 3) = 0 ∧ (p 2).toInt < (a (81 + 76 * i + 2)).toInt + (p 0).toInt) → ∀ v, v = 6 ∨ v = 7 ∨ v = 10 ∨ v = 11 → tk p a V G W Q N (81 + 76 * i + v) = a (81 + 76 * i + v)) ∧ (0 < a (81 + 76 * i + 4) → 0 < tk p a V G W Q N (81 + 76 * i + 4)) ∧ ((a (81 + 76 * i + 3) = 0 ∧ (p 2).toInt < (a (81 + 76 * i + 2)).toInt + (p 0).toInt) → (tk p a V G W Q N (81 + 76 * i + 6) = 1 → 0 < tk p a V G W Q N (81 + 76 * i + 4)) ∧ ((tk p a V G W Q N (81 + 76 * i + 7) = -1 ∧ tk p a V G W Q N (81 + 76 * i + 10) = 0 ∧ tk p a V G W Q N (81 + 76 * i + 11) = 0) ∨ ∃ g, g < G ∧ tk p a V G W Q N (81 + 76 * i + 7) = nI g ∧ (tk p a V G W Q N (81 + 76 * i + 10)).toInt = max ((T : Int) + 1 + rz ((p (28 + 3 * g + 1)).toInt - ((a (81 + 76 * i + 2)).toInt + (p 0).toInt)) (p 0).toInt) ((T : Int) + 1 + (p (28 + 3 * g + 2)).toInt))) := by
  have hG := hp.g5b
  have hw4 : wa (tk4 p a V N) N G := ha.tk4
  have hw5 : wa (tk5 p a V N) N G := ha.tk5
  have hs := tk_s (V := V) (W := W) (Q := Q) hp ha hr hT hi
  have hw : ∀ v, v < 76 → v ≠ 3 ∧ v ≠ 9 ∧ v ≠ 12 ∧ v ≠ 13 → tk p a V G W Q N (81 + 76 * i + v) = tk6 p a V W N (81 + 76 * i + v) := fun v => tk_w hG ha hi
  obtain ⟨h5, lo5, -⟩ := rv.t5 (V := V) hp ha hr
  have e5 : ∀ w, w < 16 → w ≠ 4 → w ≠ 5 → tk5 p a V N (81 + 76 * i + w) = tk4 p a V N (81 + 76 * i + w) := fun w h1 h2 h3 => cl_w hw4 hi h1 h2 h3
  have e4 : ∀ w, w < 76 → w ≠ 2 → tk4 p a V N (81 + 76 * i + w) = a (81 + 76 * i + w) := fun w h1 h2 => by rw [tk4_w hi h1, if_neg (fun t => h2 t.1)]
  have e54 : ∀ w, w < 16 → w ≠ 4 → w ≠ 5 → w ≠ 2 → tk5 p a V N (81 + 76 * i + w) = a (81 + 76 * i + w) := fun w h1 h2 h3 h4 => (e5 w h1 h2 h3).trans (e4 w (by omega) h4)
  have hi0 := hr.2.2.2.2 i hi
  have f5 : a (81 + 76 * i + 3) = 0 → (tk5 p a V N (81 + 76 * i + 2)).toInt = (a (81 + 76 * i + 2)).toInt + (p 0).toInt := fun z => by
    rw [e5 2 (by decide) (by decide) (by decide), tk4_w hi (by decide), if_pos ⟨rfl, by unfold onB; rw [z]; decide⟩]
    have h1 : 0 ≤ (a (81 + 76 * i + 2)).toInt ∧ (a (81 + 76 * i + 2)).toInt ≤ 9200 := hi0.2.1
    have h2 := hp.s0
    exact ti_add (by omega) (by omega)
  have p4 : 0 < a (81 + 76 * i + 4) → 0 < tk5 p a V N (81 + 76 * i + 4) := fun h => by
    refine cl_4 hw4 hi ?_
    rw [e4 4 (by decide) (by decide)]
    exact h
  have hq : dcq p (tk5 p a V N) i ↔ a (81 + 76 * i + 3) = 0 ∧ (p 2).toInt < (a (81 + 76 * i + 2)).toInt + (p 0).toInt := by
    unfold dcq
    rw [e54 3 (by decide) (by decide) (by decide) (by decide), tl]
    constructor
    · rintro ⟨z1, z2⟩
      rw [f5 z1] at z2
      exact ⟨z1, z2⟩
    · rintro ⟨z1, z2⟩
      rw [f5 z1]
      exact ⟨z1, z2⟩
  obtain ⟨n1, n2⟩ := dc_w (p := p) (a := tk5 p a V N) (w := wnw p V W) hi
  have n1' : ¬ dcq p (tk5 p a V N) i → ∀ v, v < 76 → tk6 p a V W N (81 + 76 * i + v) = tk5 p a V N (81 + 76 * i + v) := n1
  have n2' : dcq p (tk5 p a V N) i → ∃ b : Nat → Int32, (∀ v, v < 76 → b (81 + 76 * i + v) = tk5 p a V N (81 + 76 * i + v)) ∧ b 0 = tk5 p a V N 0 ∧ ∀ v, v < 76 → tk6 p a V W N (81 + 76 * i + v) = dcd p b i (wnw p V W) (81 + 76 * i + v) := n2
  clear n1 n2
  rw [hs, hw 2 (by decide) (by decide), hw 4 (by decide) (by decide), hw 6 (by decide) (by decide), hw 7 (by decide) (by decide), hw 10 (by decide) (by decide), hw 11 (by decide) (by decide)]
  have hw' : ∀ v, v = 6 ∨ v = 7 ∨ v = 10 ∨ v = 11 → tk p a V G W Q N (81 + 76 * i + v) = tk6 p a V W N (81 + 76 * i + v) := fun v hv => hw v (by omega) (by omega)
  by_cases hd : dcq p (tk5 p a V N) i
  · have hd2 := hq.mp hd
    obtain ⟨b, hb, hb0, hb2⟩ := n2' hd
    obtain ⟨d3, d6, d7, d8, d14⟩ := dcd_at (p := p) (a := b) (i := i) (w := wnw p V W)
    have d4 : dcd p b i (wnw p V W) (81 + 76 * i + 4) = tk5 p a V N (81 + 76 * i + 4) := by rw [dcd_k (by decide), hb 4 (by decide)]
    have d2 : dcd p b i (wnw p V W) (81 + 76 * i + 2) = tk5 p a V N (81 + 76 * i + 2) := by rw [dcd_k (by decide), hb 2 (by decide)]
    have h9 := h5 i hi
    have z9 := h9.2.2.2.1 (by show tk5 p a V N (81 + 76 * i + 3) = 0; rw [e54 3 (by decide) (by decide) (by decide) (by decide)]; exact hd2.1)
    have hc := dcd_cm (a := b) (i := i) (w := wnw p V W) (T := T + 1) hp (by rw [hb0, lo5 0 (by omega), if_pos rfl]) hT (by rw [hb 2 (by decide)]; exact h9.2.1) (by rw [hb 1 (by decide)]; exact hw5.ln i hi) (by rw [hb 10 (by decide), hb 11 (by decide)]; exact z9.2.2.2)
    rw [hb2 3 (by decide), hb2 2 (by decide), hb2 4 (by decide), hb2 6 (by decide), hb2 7 (by decide), hb2 10 (by decide), hb2 11 (by decide), d3, d2, d4]
    refine ⟨⟨fun z => absurd z (by decide), fun z => by omega⟩, fun z => f5 z, fun z => absurd hd2 z, p4, fun _ => ⟨fun z => ?_, ?_⟩⟩
    · rw [d6] at z
      obtain ⟨m1, m2⟩ := hw5.my hi
      have hmb : mny b i = mny (tk5 p a V N) i := by unfold mny; rw [hb 4 (by decide)]
      rw [m2, tl, tn (by omega), i0]
      have h11 := hp.ls11
      have hck : clk p (dc1 b i (wnw p V W)) i (mny b i) (wnw p V W) = 1 := (nI_eq (by have := clk_b (p := p) (a := dc1 b i (wnw p V W)) (i := i) (m := mny b i) (w := wnw p V W); omega) (by decide)).mp z
      by_cases hm0 : nI (mny b i) < p 11
      · exfalso
        unfold clk at hck
        rw [if_pos (Or.inr (Or.inl hm0))] at hck
        omega
      · rw [tl, hmb, tn (by omega)] at hm0
        omega
    · rcases hc with t | ⟨g, g1, g2, g3, -, -, -, -, g8⟩
      · exact Or.inl t
      · refine Or.inr ⟨g, g1, g2, ?_⟩
        obtain ⟨q1, q2, q3, q4⟩ := hp.gat g g1
        have e3 := hp.e3
        have e2 := hp.e2
        have fb : (b (81 + 76 * i + 2)).toInt = (a (81 + 76 * i + 2)).toInt + (p 0).toInt := by rw [hb 2 (by decide), f5 hd2.1]
        have f0 : 0 ≤ (a (81 + 76 * i + 2)).toInt ∧ (a (81 + 76 * i + 2)).toInt ≤ 9200 := hi0.2.1
        have s0 := hp.s0
        rw [g3, rup_z (by omega) hp.s0, g8, fb]
        omega
  · have hd2 : ¬ (a (81 + 76 * i + 3) = 0 ∧ (p 2).toInt < (a (81 + 76 * i + 2)).toInt + (p 0).toInt) := fun z => hd (hq.mpr z)
    have n1' := n1' hd
    rw [n1' 3 (by decide), n1' 2 (by decide), n1' 4 (by decide), e54 3 (by decide) (by decide) (by decide) (by decide)]
    refine ⟨⟨fun z => ⟨z, Int.not_lt.mp (fun t => hd2 ⟨z, t⟩)⟩, fun z => z.1⟩, f5, fun _ v hv => ?_, p4, fun z => absurd z hd2⟩
    rw [hw' v hv, n1' v (by omega), e54 v (by omega) (by omega) (by omega) (by omega)]
theorem ov.tk {p a : Nat → Int32} {V G W Q N T : Nat} (hp : wp p V G W Q) (ha : wa a N G) (hr : rv p a G N T) (hT : T + 1 ≤ 45000) (h : ov p a G N T) : ov p (tk p a V G W Q N) G N (T + 1) := by
  obtain ⟨o1, o2, o3⟩ := h
  have key := fun i hi => tk_it (V := V) (W := W) (Q := Q) (i := i) hp ha hr hT hi
  have hp0 := hp.s0
  generalize _root_.Jvm.Pilot.CCheckWeigherLaw_law_r5039_46c173.tk p a V G W Q N = b at key ⊢
  have dec : ∀ i, i < N → ∀ g, g < G → b (81 + 76 * i + 7) = nI g → b (81 + 76 * i + 10) < b (81 + 76 * i + 11) → (a (81 + 76 * i + 3) = 0 ∧ (p 2).toInt < (a (81 + 76 * i + 2)).toInt + (p 0).toInt ∧ (b (81 + 76 * i + 10)).toInt = max ((T : Int) + 1 + rz ((p (28 + 3 * g + 1)).toInt - ((a (81 + 76 * i + 2)).toInt + (p 0).toInt)) (p 0).toInt) ((T : Int) + 1 + (p (28 + 3 * g + 2)).toInt)) ∨ (¬ a (81 + 76 * i + 3) = 0 ∧ a (81 + 76 * i + 7) = nI g ∧ a (81 + 76 * i + 10) < a (81 + 76 * i + 11) ∧ b (81 + 76 * i + 10) = a (81 + 76 * i + 10)) := by
    intro i hi g hg h7 hlt
    have hG := hp.g5b
    obtain ⟨k1, k2, k3, k4, k5⟩ := key i hi
    by_cases hd : a (81 + 76 * i + 3) = 0 ∧ (p 2).toInt < (a (81 + 76 * i + 2)).toInt + (p 0).toInt
    · obtain ⟨-, k5⟩ := k5 hd
      rcases k5 with ⟨-, t1, t2⟩ | ⟨g', t1, t2, t3⟩
      · rw [t1, t2] at hlt
        exact absurd hlt (by decide)
      · have e : g' = g := (nI_eq (by omega) (by omega)).mp (t2.symm.trans h7)
        subst e
        exact Or.inl ⟨hd.1, hd.2, t3⟩
    · have k3 := k3 hd
      rw [k3 7 (by decide)] at h7
      rw [k3 10 (by decide), k3 11 (by decide)] at hlt
      refine Or.inr ⟨fun z => ?_, h7, hlt, k3 10 (by decide)⟩
      have := ((hr.2.2.2.2 i hi).2.2.2.1 z).2.2
      have c10 : a (81 + 76 * i + 10) = 0 := this.2.1
      have c11 : a (81 + 76 * i + 11) = 0 := this.2.2
      rw [c10, c11] at hlt
      exact absurd hlt (by decide)
  refine ⟨fun i k hik hk z => ?_, fun i k hik hk g hg h7 h7' hl hl' => ?_, fun i hi => ⟨fun g hg h7 hlt => ?_, fun z => ?_⟩⟩
  · have zi := (key i (by omega)).1.mp z
    obtain ⟨c1, c2⟩ := o1 i k hik hk zi.1
    rw [(key k hk).1, (key k hk).2.1 c1, (key i (by omega)).2.1 zi.1]
    exact ⟨⟨c1, by omega⟩, by omega⟩
  · have hgt := hp.gat g hg
    rcases dec i (by omega) g hg h7 hl with ⟨a1, a2, a3⟩ | ⟨a1, a2, a3, a4⟩
    · obtain ⟨c1, c2⟩ := o1 i k hik hk a1
      rcases dec k hk g hg h7' hl' with ⟨b1, b2, b3⟩ | ⟨b1, b2, b3, b4⟩
      · have := rz_mono (y := (p 0).toInt) hp0.1 (show (p (28 + 3 * g + 1)).toInt - ((a (81 + 76 * i + 2)).toInt + (p 0).toInt) ≤ (p (28 + 3 * g + 1)).toInt - ((a (81 + 76 * k + 2)).toInt + (p 0).toInt) by omega)
        rw [a3, b3]
        omega
      · exact absurd c1 b1
    · rcases dec k hk g hg h7' hl' with ⟨b1, b2, b3⟩ | ⟨b1, b2, b3, b4⟩
      · have hx := (o3 i (by omega)).1 g hg a2 a3
        have hx : (a (81 + 76 * i + 10)).toInt ≤ _ := hx
        have f2 : (a (81 + 76 * k + 2)).toInt ≤ (p 2).toInt := ((hr.2.2.2.2 k hk).2.2.2.1 b1).1
        have s1 := rz_step (x := (p (28 + 3 * g + 1)).toInt - (p 2).toInt - 1) (y := (p 0).toInt) hp0.1 (by omega)
        have s2 := rz_mono (y := (p 0).toInt) hp0.1 (show (p (28 + 3 * g + 1)).toInt - (p 2).toInt - 1 + 1 - (p 0).toInt ≤ (p (28 + 3 * g + 1)).toInt - ((a (81 + 76 * k + 2)).toInt + (p 0).toInt) by omega)
        rw [a4, b3]
        omega
      · rw [a4, b4]
        exact o2 i k hik hk g hg a2 b2 a3 b3
  · show (b (81 + 76 * i + 10)).toInt ≤ _
    rcases dec i hi g hg h7 hlt with ⟨a1, a2, a3⟩ | ⟨a1, a2, a3, a4⟩
    · have s2 := rz_mono (y := (p 0).toInt) hp0.1 (show (p (28 + 3 * g + 1)).toInt - ((a (81 + 76 * i + 2)).toInt + (p 0).toInt) ≤ (p (28 + 3 * g + 1)).toInt - (p 2).toInt - 1 by omega)
      rw [a3]
      omega
    · have hx := (o3 i hi).1 g hg a2 a3
      have hx : (a (81 + 76 * i + 10)).toInt ≤ _ := hx
      rw [a4]
      omega
  · show 0 < b (81 + 76 * i + 4)
    have z : b (81 + 76 * i + 6) = 1 := z
    obtain ⟨k1, k2, k3, k4, k5⟩ := key i hi
    by_cases hd : a (81 + 76 * i + 3) = 0 ∧ (p 2).toInt < (a (81 + 76 * i + 2)).toInt + (p 0).toInt
    · exact (k5 hd).1 z
    · rw [k3 hd 6 (by decide)] at z
      exact k4 ((o3 i hi).2 z)
theorem ov.cong {p a b : Nat → Int32} {G N T : Nat} (h : ov p a G N T) (hb : ∀ j, 81 ≤ j → b j = a j) : ov p b G N T := by
  have e : ∀ i w, b (81 + 76 * i + w) = a (81 + 76 * i + w) := fun i w => hb _ (by omega)
  have ew : ∀ i, wds b i = wds a i := fun i => by funext w; exact e i w
  obtain ⟨o1, o2, o3⟩ := h
  refine ⟨fun i k hik hk z => ?_, fun i k hik hk g hg => ?_, fun i hi => by rw [ew]; exact o3 i hi⟩
  · rw [e] at z
    rw [e, e, e]
    exact o1 i k hik hk z
  · rw [e, e, e, e, e, e]
    exact o2 i k hik hk g hg
theorem ov.put {p a : Nat → Int32} {V G W Q N T : Nat} {x y : Int32} (hp : wp p V G W Q) (ha : wa a N G) (hr : rv p a G N T) (hf : fre a N) (h : ov p a G N T) : ov p (ptf a N x y) G (N + 1) T := by
  obtain ⟨o1, o2, o3⟩ := h
  have e : ∀ i w, i < N → w < 76 → ptf a N x y (81 + 76 * i + w) = a (81 + 76 * i + w) := fun i w hi hw => by
    unfold ptf
    rw [up_n (by omega), up_n (by omega), up_n (by omega), up_n (by omega), up_n (by omega), up_n (by omega)]
    unfold zf
    rw [if_neg (by omega), up_n (by omega)]
  have n0 : ∀ w, w = 2 ∨ w = 3 ∨ w = 4 ∨ w = 10 ∨ w = 11 → ptf a N x y (81 + 76 * N + w) = 0 := fun w hw => by
    unfold ptf
    rw [up_n (by omega), up_n (by omega), up_n (by omega), up_n (by omega), up_n (by omega), up_n (by omega)]
    unfold zf
    rw [if_pos (by omega)]
  have n6 : ptf a N x y (81 + 76 * N + 6) = -1 := by
    unfold ptf
    rw [up_n (by omega), up_n (by omega), up_n (by omega), up_s]
  have n7 : ptf a N x y (81 + 76 * N + 7) = -1 := by
    unfold ptf
    rw [up_n (by omega), up_n (by omega), up_s]
  have ew : ∀ i, i < N → ∀ w, w < 76 → wds (ptf a N x y) i w = wds a i w := fun i hi w hw => e i w hi hw
  generalize ptf a N x y = b at *
  have pos : ∀ i, i < N → a (81 + 76 * i + 3) = 0 → 0 < (a (81 + 76 * i + 2)).toInt := fun i hi z => by
    have hl : a (81 + 76 * (N - 1) + 3) = 0 ∧ (a (81 + 76 * (N - 1) + 2)).toInt ≤ (a (81 + 76 * i + 2)).toInt := by
      by_cases q : i = N - 1
      · subst q
        exact ⟨z, Int.le_refl _⟩
      · have := o1 i (N - 1) (by omega) (by omega) z
        exact ⟨this.1, by omega⟩
    rcases hf with q | q | q
    · omega
    · exact absurd (by unfold onB; rw [hl.1]; decide) q
    · have hn := ha.ln (N - 1) (by omega)
      have h2 : 0 ≤ (a (81 + 76 * (N - 1) + 2)).toInt ∧ (a (81 + 76 * (N - 1) + 2)).toInt ≤ 9200 := (hr.2.2.2.2 (N - 1) (by omega)).2.1
      rw [te, i0, ti_sub (by omega) (by omega)] at q
      omega
  refine ⟨fun i k hik hk z => ?_, fun i k hik hk g hg h7 h7' hl hl' => ?_, fun i hi => ?_⟩
  · have hi : i < N := by omega
    rw [e i 3 hi (by decide)] at z
    rw [e i 2 hi (by decide)]
    by_cases q : k = N
    · subst q
      rw [n0 3 (by decide), n0 2 (by decide)]
      exact ⟨rfl, pos i hi z⟩
    · rw [e k 3 (by omega) (by decide), e k 2 (by omega) (by decide)]
      exact o1 i k hik (by omega) z
  · have hi : i < N := by omega
    have hg3 := hp.g5b
    by_cases q : k = N
    · subst q
      rw [n0 10 (by decide), n0 11 (by decide)] at hl'
      exact absurd hl' (by decide)
    · have hk : k < N := by omega
      rw [e i 7 hi (by decide)] at h7
      rw [e k 7 hk (by decide)] at h7'
      rw [e i 10 hi (by decide), e i 11 hi (by decide)] at hl
      rw [e k 10 hk (by decide), e k 11 hk (by decide)] at hl'
      rw [e i 10 hi (by decide), e k 10 hk (by decide)]
      exact o2 i k hik hk g hg h7 h7' hl hl'
  · by_cases q : i = N
    · subst q
      refine ⟨fun g hg h7 hlt => ?_, fun z => ?_⟩
      · have hlt : b (81 + 76 * i + 10) < b (81 + 76 * i + 11) := hlt
        rw [n0 10 (by decide), n0 11 (by decide)] at hlt
        exact absurd hlt (by decide)
      · have z : b (81 + 76 * i + 6) = 1 := z
        rw [n6] at z
        exact absurd z (by decide)
    · have hi : i < N := by omega
      obtain ⟨x1, x2⟩ := o3 i hi
      unfold ovx
      rw [ew i hi 7 (by decide), ew i hi 10 (by decide), ew i hi 11 (by decide), ew i hi 6 (by decide), ew i hi 4 (by decide)]
      exact ⟨x1, x2⟩
theorem ov.tks {p a : Nat → Int32} {V G W Q N T : Nat} (hp : wp p V G W Q) (ha : wa a N G) (hr : rv p a G N T) (h : ov p a G N T) : ∀ k, T + k ≤ 45000 → ov p (tks p a V G W Q N k) G N (T + k)
  | 0, _ => h
  | k + 1, hk => ov.tk hp (ha.tks hp.g5b k) (hr.tks hp ha k (by omega)) (by omega) (ov.tks hp ha hr h k (by omega))
theorem ov.zero {p a : Nat → Int32} {G T : Nat} : ov p a G 0 T := ⟨fun i k _ h => absurd h (Nat.not_lt_zero k), fun i k _ h => absurd h (Nat.not_lt_zero k), fun i h => absurd h (Nat.not_lt_zero i)⟩
/-- the last commanded tick -/
theorem lcd_d {p a : Nat → Int32} {G N T : Nat} (hr : rv p a G N T) (hT : T ≤ 45000) : ∃ d, lcd a N = nI (T + d) ∧ T + d ≤ 60000 := by
  have key : ∀ n, n ≤ N → (T : Int) ≤ (lcd a n).toInt ∧ (lcd a n).toInt ≤ 60000 := by
    intro n
    induction n with
    | zero =>
      intro _
      show (T : Int) ≤ (a 0).toInt ∧ (a 0).toInt ≤ 60000
      rw [hr.1, tn (by omega)]
      omega
    | succ n ih =>
      intro hn
      have ih := ih (by omega)
      have h8 : 0 ≤ (a (81 + 76 * n + 10)).toInt ∧ (a (81 + 76 * n + 10)).toInt ≤ 60000 ∧ 0 ≤ (a (81 + 76 * n + 11)).toInt ∧ (a (81 + 76 * n + 11)).toInt ≤ 60000 := (hr.2.2.2.2 n (by omega)).2.2.2.2.2.2.2
      rw [lcd, igt_t]
      omega
  obtain ⟨k1, k2⟩ := key N (Nat.le_refl _)
  obtain ⟨m, m1, m2⟩ := of_nat (x := lcd a N) (by omega)
  exact ⟨m - T, by rw [m1]; congr 1; omega, by omega⟩
