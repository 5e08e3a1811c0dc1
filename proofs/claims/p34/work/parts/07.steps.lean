/-! ONE STEP: what the machine does at each instruction, said of the abstract machine; then xm_i (a step as a predicate), xm_b (a block) and that they are sound -/
def xm_Rn (E : xm_E) (p : Program) (l : Launch) (e : Env) (R : Room) (s : State) (m : MethodId) (args : Array Value) (below : List Frame) (meth : Method) (c : Code) (nL ce sl : Nat) (Q : State → Prop) (pc : Nat) (L S : List Value) (M : xm_M) : Prop :=
  ∀ (H : Heap) (locs : List Loc) (ls : Array Slot), xm_W E M H → xm_F E s H locs → xm_L E.2.1 ls nL L → W p l e R s m args below meth c H locs ce sl Q (F0 m pc ls (S.map (xm_gv E.2.1)))
def xm_X (E : xm_E) (own nL : Nat) (cc : ByteArray) (p : Program) (s : State) (m : MethodId) (args : Array Value) (meth : Method) (c : Code) : Prop :=
  p.tables.exec = Jvm.exec ∧ c.code = cc ∧ c.maxLocals = nL ∧ s.vm.findClass (xm_C own) = some m.cls ∧ (∀ w ∈ lw_tb, w.before args s = true) ∧ xm_K E s ∧ meth.locks = false ∧ xm_O E ∧ E.2.2.2.1 s ∧ E.2.2.1 ≤ s.heap.size
section XMS
variable {E : xm_E} {p : Program} {l : Launch} {e : Env} {R : Room} {s : State} {m : MethodId} {args : Array Value} {below : List Frame} {meth : Method} {c : Code} {own nL ce sl : Nat} {Q : State → Prop} {cc : ByteArray} {pc : Nat} {L S : List Value} {M : xm_M}
theorem st_iload (X : xm_X E own nL cc p s m args meth c) {n : Nat} {x : Int32} (hd : decode cc pc = .ok (.iload n, 2)) (h : xm_g L n = .int x) (k : xm_Rn E p l e R s m args below meth c nL ce sl Q (pc + 2) L (.int x :: S) M) : xm_Rn E p l e R s m args below meth c nL ce sl Q pc L S M := fun H locs ls hW hF hl => lv_iload X.1 X.2.1 hd (hl.at h rfl) (k H locs ls hW hF hl)
theorem st_iload_n (X : xm_X E own nL cc p s m args meth c) {n : Fin 4} {x : Int32} (hd : decode cc pc = .ok (.iload_n n, 1)) (h : xm_g L n.val = .int x) (k : xm_Rn E p l e R s m args below meth c nL ce sl Q (pc + 1) L (.int x :: S) M) : xm_Rn E p l e R s m args below meth c nL ce sl Q pc L S M := fun H locs ls hW hF hl => lv_iload_n X.1 X.2.1 hd rfl (hl.at h rfl) (k H locs ls hW hF hl)
theorem st_aload (X : xm_X E own nL cc p s m args meth c) {n : Nat} {x : Nat} (hd : decode cc pc = .ok (.aload n, 2)) (h : xm_g L n = .ref x) (k : xm_Rn E p l e R s m args below meth c nL ce sl Q (pc + 2) L (.ref x :: S) M) : xm_Rn E p l e R s m args below meth c nL ce sl Q pc L S M := fun H locs ls hW hF hl => lv_aload X.1 X.2.1 hd (hl.at h rfl) (k H locs ls hW hF hl)
theorem st_aload_n (X : xm_X E own nL cc p s m args meth c) {n : Fin 4} {x : Nat} (hd : decode cc pc = .ok (.aload_n n, 1)) (h : xm_g L n.val = .ref x) (k : xm_Rn E p l e R s m args below meth c nL ce sl Q (pc + 1) L (.ref x :: S) M) : xm_Rn E p l e R s m args below meth c nL ce sl Q pc L S M := fun H locs ls hW hF hl => lv_aload_n X.1 X.2.1 hd rfl (hl.at h rfl) (k H locs ls hW hF hl)
theorem st_aloadN (X : xm_X E own nL cc p s m args meth c) {n : Nat} (hd : decode cc pc = .ok (.aload n, 2)) (h : xm_g L n = .null) (k : xm_Rn E p l e R s m args below meth c nL ce sl Q (pc + 2) L (.null :: S) M) : xm_Rn E p l e R s m args below meth c nL ce sl Q pc L S M := fun H locs ls hW hF hl => lv_aloadN X.1 X.2.1 hd (hl.at h rfl) (k H locs ls hW hF hl)
theorem st_aload_nN (X : xm_X E own nL cc p s m args meth c) {n : Fin 4} (hd : decode cc pc = .ok (.aload_n n, 1)) (h : xm_g L n.val = .null) (k : xm_Rn E p l e R s m args below meth c nL ce sl Q (pc + 1) L (.null :: S) M) : xm_Rn E p l e R s m args below meth c nL ce sl Q pc L S M := fun H locs ls hW hF hl => lv_aload_nN X.1 X.2.1 hd rfl (hl.at h rfl) (k H locs ls hW hF hl)
theorem st_istore (X : xm_X E own nL cc p s m args meth c) {n : Nat} {x : Int32} (hd : decode cc pc = .ok (.istore n, 2)) (h1 : xm_1 L n = true) (hn : n < nL) (k : xm_Rn E p l e R s m args below meth c nL ce sl Q (pc + 2) (xm_s L n (.int x)) S M) : xm_Rn E p l e R s m args below meth c nL ce sl Q pc L ((.int x) :: S) M := fun H locs ls hW hF hl => lv_istore X.1 X.2.1 hd hl hn rfl (fun ls2 hl2 => k H locs ls2 hW hF (xm_L.set1 h1 hl2))
theorem st_istore_n (X : xm_X E own nL cc p s m args meth c) {n : Fin 4} {x : Int32} (hd : decode cc pc = .ok (.istore_n n, 1)) (h1 : xm_1 L n.val = true) (hn : n.val < nL) (k : xm_Rn E p l e R s m args below meth c nL ce sl Q (pc + 1) (xm_s L n.val (.int x)) S M) : xm_Rn E p l e R s m args below meth c nL ce sl Q pc L ((.int x) :: S) M := fun H locs ls hW hF hl => lv_istore_n X.1 X.2.1 hd rfl hl hn rfl (fun ls2 hl2 => k H locs ls2 hW hF (xm_L.set1 h1 hl2))
theorem st_astore (X : xm_X E own nL cc p s m args meth c) {n : Nat} {x : Nat} (hd : decode cc pc = .ok (.astore n, 2)) (h1 : xm_1 L n = true) (hn : n < nL) (k : xm_Rn E p l e R s m args below meth c nL ce sl Q (pc + 2) (xm_s L n (.ref x)) S M) : xm_Rn E p l e R s m args below meth c nL ce sl Q pc L ((.ref x) :: S) M := fun H locs ls hW hF hl => lv_astore X.1 X.2.1 hd hl hn rfl (fun ls2 hl2 => k H locs ls2 hW hF (xm_L.set1 h1 hl2))
theorem st_astore_n (X : xm_X E own nL cc p s m args meth c) {n : Fin 4} {x : Nat} (hd : decode cc pc = .ok (.astore_n n, 1)) (h1 : xm_1 L n.val = true) (hn : n.val < nL) (k : xm_Rn E p l e R s m args below meth c nL ce sl Q (pc + 1) (xm_s L n.val (.ref x)) S M) : xm_Rn E p l e R s m args below meth c nL ce sl Q pc L ((.ref x) :: S) M := fun H locs ls hW hF hl => lv_astore_n X.1 X.2.1 hd rfl hl hn rfl (fun ls2 hl2 => k H locs ls2 hW hF (xm_L.set1 h1 hl2))
theorem st_astoreN (X : xm_X E own nL cc p s m args meth c) {n : Nat} (hd : decode cc pc = .ok (.astore n, 2)) (h1 : xm_1 L n = true) (hn : n < nL) (k : xm_Rn E p l e R s m args below meth c nL ce sl Q (pc + 2) (xm_s L n (.null)) S M) : xm_Rn E p l e R s m args below meth c nL ce sl Q pc L ((.null) :: S) M := fun H locs ls hW hF hl => lv_astoreN X.1 X.2.1 hd hl hn rfl (fun ls2 hl2 => k H locs ls2 hW hF (xm_L.set1 h1 hl2))
theorem st_astore_nN (X : xm_X E own nL cc p s m args meth c) {n : Fin 4} (hd : decode cc pc = .ok (.astore_n n, 1)) (h1 : xm_1 L n.val = true) (hn : n.val < nL) (k : xm_Rn E p l e R s m args below meth c nL ce sl Q (pc + 1) (xm_s L n.val (.null)) S M) : xm_Rn E p l e R s m args below meth c nL ce sl Q pc L ((.null) :: S) M := fun H locs ls hW hF hl => lv_astore_nN X.1 X.2.1 hd rfl hl hn rfl (fun ls2 hl2 => k H locs ls2 hW hF (xm_L.set1 h1 hl2))
theorem st_iinc (X : xm_X E own nL cc p s m args meth c) {n : Nat} {z : Int} {x : Int32} (hd : decode cc pc = .ok (.iinc n z, 3)) (h : xm_g L n = .int x) (h1 : xm_1 L n = true) (hn : n < nL) (k : xm_Rn E p l e R s m args below meth c nL ce sl Q (pc + 3) (xm_s L n (.int (x + Int32.ofInt z))) S M) : xm_Rn E p l e R s m args below meth c nL ce sl Q pc L S M := by
  intro H locs ls hW hF hl
  have hm : (n, Value.int x) ∈ xm_e E.2.1 0 L := (xm_e_mem L 0 n _).mpr ⟨n, .int x, by omega, xm_g_some h rfl, rfl, rfl⟩
  obtain ⟨q, hq⟩ := List.getElem?_of_mem hm
  exact lv_iinc X.1 X.2.1 hd hl hq rfl hn rfl (fun ls2 hl2 => k H locs ls2 hW hF (xm_L.set1 (v := .int (x + Int32.ofInt z)) h1 hl2))
theorem st_iconst (X : xm_X E own nL cc p s m args meth c) {n : Int} (hd : decode cc pc = .ok (.iconst n, 1))  (k : xm_Rn E p l e R s m args below meth c nL ce sl Q (pc + 1) L (.int (Int32.ofInt n) :: S) M) : xm_Rn E p l e R s m args below meth c nL ce sl Q pc L S M := fun H locs ls hW hF hl => lv_iconst X.1 X.2.1 hd rfl (k H locs ls hW hF hl)
theorem st_bipush (X : xm_X E own nL cc p s m args meth c) {n : Int} (hd : decode cc pc = .ok (.bipush n, 2))  (k : xm_Rn E p l e R s m args below meth c nL ce sl Q (pc + 2) L (.int (Int8.ofInt n).toInt32 :: S) M) : xm_Rn E p l e R s m args below meth c nL ce sl Q pc L S M := fun H locs ls hW hF hl => lv_bipush X.1 X.2.1 hd rfl (k H locs ls hW hF hl)
theorem st_sipush (X : xm_X E own nL cc p s m args meth c) {n : Int} (hd : decode cc pc = .ok (.sipush n, 3))  (k : xm_Rn E p l e R s m args below meth c nL ce sl Q (pc + 3) L (.int (Int16.ofInt n).toInt32 :: S) M) : xm_Rn E p l e R s m args below meth c nL ce sl Q pc L S M := fun H locs ls hW hF hl => lv_sipush X.1 X.2.1 hd rfl (k H locs ls hW hF hl)
theorem st_null (X : xm_X E own nL cc p s m args meth c)  (hd : decode cc pc = .ok (.aconst_null, 1))  (k : xm_Rn E p l e R s m args below meth c nL ce sl Q (pc + 1) L (.null :: S) M) : xm_Rn E p l e R s m args below meth c nL ce sl Q pc L S M := fun H locs ls hW hF hl => lv_null X.1 X.2.1 hd (k H locs ls hW hF hl)
theorem st_lconst (X : xm_X E own nL cc p s m args meth c) {n : Fin 2} (hd : decode cc pc = .ok (.lconst n, 1))  (k : xm_Rn E p l e R s m args below meth c nL ce sl Q (pc + 1) L (.long (Int64.ofNat (n : Nat)) :: S) M) : xm_Rn E p l e R s m args below meth c nL ce sl Q pc L S M := fun H locs ls hW hF hl => lv_lconst X.1 X.2.1 hd rfl (k H locs ls hW hF hl)
theorem st_iadd (X : xm_X E own nL cc p s m args meth c) {x y : Int32} (hd : decode cc pc = .ok (.iadd, 1))  (k : xm_Rn E p l e R s m args below meth c nL ce sl Q (pc + 1) L (.int (x + y) :: S) M) : xm_Rn E p l e R s m args below meth c nL ce sl Q pc L (.int y :: .int x :: S) M := fun H locs ls hW hF hl => lv_iadd X.1 X.2.1 hd (k H locs ls hW hF hl)
theorem st_isub (X : xm_X E own nL cc p s m args meth c) {x y : Int32} (hd : decode cc pc = .ok (.isub, 1))  (k : xm_Rn E p l e R s m args below meth c nL ce sl Q (pc + 1) L (.int (x - y) :: S) M) : xm_Rn E p l e R s m args below meth c nL ce sl Q pc L (.int y :: .int x :: S) M := fun H locs ls hW hF hl => lv_isub X.1 X.2.1 hd (k H locs ls hW hF hl)
theorem st_imul (X : xm_X E own nL cc p s m args meth c) {x y : Int32} (hd : decode cc pc = .ok (.imul, 1))  (k : xm_Rn E p l e R s m args below meth c nL ce sl Q (pc + 1) L (.int (x * y) :: S) M) : xm_Rn E p l e R s m args below meth c nL ce sl Q pc L (.int y :: .int x :: S) M := fun H locs ls hW hF hl => lv_imul X.1 X.2.1 hd (k H locs ls hW hF hl)
theorem st_iand (X : xm_X E own nL cc p s m args meth c) {x y : Int32} (hd : decode cc pc = .ok (.iand, 1))  (k : xm_Rn E p l e R s m args below meth c nL ce sl Q (pc + 1) L (.int (x &&& y) :: S) M) : xm_Rn E p l e R s m args below meth c nL ce sl Q pc L (.int y :: .int x :: S) M := fun H locs ls hW hF hl => lv_iand X.1 X.2.1 hd (k H locs ls hW hF hl)
theorem st_ior (X : xm_X E own nL cc p s m args meth c) {x y : Int32} (hd : decode cc pc = .ok (.ior, 1))  (k : xm_Rn E p l e R s m args below meth c nL ce sl Q (pc + 1) L (.int (x ||| y) :: S) M) : xm_Rn E p l e R s m args below meth c nL ce sl Q pc L (.int y :: .int x :: S) M := fun H locs ls hW hF hl => lv_ior X.1 X.2.1 hd (k H locs ls hW hF hl)
theorem st_idiv (X : xm_X E own nL cc p s m args meth c) {x y : Int32} (hd : decode cc pc = .ok (.idiv, 1)) (h : y ≠ 0) (k : xm_Rn E p l e R s m args below meth c nL ce sl Q (pc + 1) L (.int (x / y) :: S) M) : xm_Rn E p l e R s m args below meth c nL ce sl Q pc L (.int y :: .int x :: S) M := fun H locs ls hW hF hl => lv_idiv X.1 X.2.1 hd h (k H locs ls hW hF hl)
theorem st_irem (X : xm_X E own nL cc p s m args meth c) {x y : Int32} (hd : decode cc pc = .ok (.irem, 1)) (h : y ≠ 0) (k : xm_Rn E p l e R s m args below meth c nL ce sl Q (pc + 1) L (.int (x % y) :: S) M) : xm_Rn E p l e R s m args below meth c nL ce sl Q pc L (.int y :: .int x :: S) M := fun H locs ls hW hF hl => lv_irem X.1 X.2.1 hd h (by rw [irem_eq_mod]; exact (k H locs ls hW hF hl))
theorem st_ineg (X : xm_X E own nL cc p s m args meth c) {x : Int32} (hd : decode cc pc = .ok (.ineg, 1))  (k : xm_Rn E p l e R s m args below meth c nL ce sl Q (pc + 1) L (.int (-x) :: S) M) : xm_Rn E p l e R s m args below meth c nL ce sl Q pc L (.int x :: S) M := fun H locs ls hW hF hl => lv_ineg X.1 X.2.1 hd (k H locs ls hW hF hl)
theorem st_ishl (X : xm_X E own nL cc p s m args meth c) {x y : Int32} (hd : decode cc pc = .ok (.ishl, 1))  (k : xm_Rn E p l e R s m args below meth c nL ce sl Q (pc + 1) L (.int (x <<< (y &&& 31)) :: S) M) : xm_Rn E p l e R s m args below meth c nL ce sl Q pc L (.int y :: .int x :: S) M := fun H locs ls hW hF hl => lv_ishl X.1 X.2.1 hd (k H locs ls hW hF hl)
theorem st_ishr (X : xm_X E own nL cc p s m args meth c) {x y : Int32} (hd : decode cc pc = .ok (.ishr, 1))  (k : xm_Rn E p l e R s m args below meth c nL ce sl Q (pc + 1) L (.int (x >>> (y &&& 31)) :: S) M) : xm_Rn E p l e R s m args below meth c nL ce sl Q pc L (.int y :: .int x :: S) M := fun H locs ls hW hF hl => lv_ishr X.1 X.2.1 hd (k H locs ls hW hF hl)
theorem st_iushr (X : xm_X E own nL cc p s m args meth c) {x y : Int32} (hd : decode cc pc = .ok (.iushr, 1))  (k : xm_Rn E p l e R s m args below meth c nL ce sl Q (pc + 1) L (.int (x.toUInt32 >>> (y.toUInt32 &&& Int32.toUInt32 31)).toInt32 :: S) M) : xm_Rn E p l e R s m args below meth c nL ce sl Q pc L (.int y :: .int x :: S) M := fun H locs ls hW hF hl => lv_iushr X.1 X.2.1 hd rfl (k H locs ls hW hF hl)
theorem st_i2l (X : xm_X E own nL cc p s m args meth c) {x : Int32} (hd : decode cc pc = .ok (.i2l, 1))  (k : xm_Rn E p l e R s m args below meth c nL ce sl Q (pc + 1) L (.long x.toInt64 :: S) M) : xm_Rn E p l e R s m args below meth c nL ce sl Q pc L (.int x :: S) M := fun H locs ls hW hF hl => lv_i2l X.1 X.2.1 hd rfl (k H locs ls hW hF hl)
theorem st_i2d (X : xm_X E own nL cc p s m args meth c) {x : Int32} (hd : decode cc pc = .ok (.i2d, 1))  (k : xm_Rn E p l e R s m args below meth c nL ce sl Q (pc + 1) L (.double (FP.i2d x) :: S) M) : xm_Rn E p l e R s m args below meth c nL ce sl Q pc L (.int x :: S) M := fun H locs ls hW hF hl => lv_i2d X.1 X.2.1 hd (k H locs ls hW hF hl)
theorem st_lcmp (X : xm_X E own nL cc p s m args meth c) {x y : Int64} (hd : decode cc pc = .ok (.lcmp, 1))  (k : xm_Rn E p l e R s m args below meth c nL ce sl Q (pc + 1) L (.int (lg_cmp x y) :: S) M) : xm_Rn E p l e R s m args below meth c nL ce sl Q pc L (.long y :: .long x :: S) M := fun H locs ls hW hF hl => W.lcmp X.1 X.2.1 hd (k H locs ls hW hF hl)
theorem st_dup (X : xm_X E own nL cc p s m args meth c) {v : Value} (hd : decode cc pc = .ok (.dup, 1)) (h : v.category = 1) (k : xm_Rn E p l e R s m args below meth c nL ce sl Q (pc + 1) L (v :: v :: S) M) : xm_Rn E p l e R s m args below meth c nL ce sl Q pc L (v :: S) M := fun H locs ls hW hF hl => lv_dup X.1 X.2.1 hd ((xm_gv_cat _ _).trans h) (k H locs ls hW hF hl)
theorem st_dup2 (X : xm_X E own nL cc p s m args meth c) {u v : Value} (hd : decode cc pc = .ok (.dup2, 1)) (h : v.category = 1) (h2 : u.category = 1) (k : xm_Rn E p l e R s m args below meth c nL ce sl Q (pc + 1) L (v :: u :: v :: u :: S) M) : xm_Rn E p l e R s m args below meth c nL ce sl Q pc L (v :: u :: S) M := fun H locs ls hW hF hl => lv_dup2_11 X.1 X.2.1 hd ((xm_gv_cat _ _).trans h) ((xm_gv_cat _ _).trans h2) (k H locs ls hW hF hl)
theorem st_goto (X : xm_X E own nL cc p s m args meth c) {off : Int} {tgt : Nat} (hd : decode cc pc = .ok (.goto off, 3)) (ht : (pc : Int) + off = (tgt : Int)) (k : xm_Rn E p l e R s m args below meth c nL ce sl Q tgt L S M) : xm_Rn E p l e R s m args below meth c nL ce sl Q pc L S M := fun H locs ls hW hF hl => lv_goto X.1 X.2.1 hd ht (k H locs ls hW hF hl)
theorem st_ifnull (X : xm_X E own nL cc p s m args meth c) {off : Int} {x : Nat} (hd : decode cc pc = .ok (.ifnull off, 3)) (k : xm_Rn E p l e R s m args below meth c nL ce sl Q (pc + 3) L S M) : xm_Rn E p l e R s m args below meth c nL ce sl Q pc L (.ref x :: S) M := fun H locs ls hW hF hl => lv_ifnull X.1 X.2.1 hd (k H locs ls hW hF hl)
theorem st_ifnonnull (X : xm_X E own nL cc p s m args meth c) {off : Int} {tgt x : Nat} (hd : decode cc pc = .ok (.ifnonnull off, 3)) (ht : (pc : Int) + off = (tgt : Int)) (k : xm_Rn E p l e R s m args below meth c nL ce sl Q tgt L S M) : xm_Rn E p l e R s m args below meth c nL ce sl Q pc L (.ref x :: S) M := fun H locs ls hW hF hl => lv_ifnonnull X.1 X.2.1 hd ht (k H locs ls hW hF hl)
theorem st_ifnullN (X : xm_X E own nL cc p s m args meth c) {off : Int} {tgt : Nat} (hd : decode cc pc = .ok (.ifnull off, 3)) (ht : (pc : Int) + off = (tgt : Int)) (k : xm_Rn E p l e R s m args below meth c nL ce sl Q tgt L S M) : xm_Rn E p l e R s m args below meth c nL ce sl Q pc L (.null :: S) M := fun H locs ls hW hF hl => lv_ifnullN X.1 X.2.1 hd ht (k H locs ls hW hF hl)
theorem st_ifnonnullN (X : xm_X E own nL cc p s m args meth c) {off : Int} (hd : decode cc pc = .ok (.ifnonnull off, 3)) (k : xm_Rn E p l e R s m args below meth c nL ce sl Q (pc + 3) L S M) : xm_Rn E p l e R s m args below meth c nL ce sl Q pc L (.null :: S) M := fun H locs ls hW hF hl => lv_ifnonnullN X.1 X.2.1 hd (k H locs ls hW hF hl)
def xm_cnd (q : Jvm.ClassFile.Cond) (x y : Int32) : Prop := match q with
  | .eq => x = y
  | .ne => ¬ x = y
  | .lt => x < y
  | .ge => y ≤ x
  | .gt => y < x
  | .le => x ≤ y
theorem st_icmp (X : xm_X E own nL cc p s m args meth c) {q : Jvm.ClassFile.Cond} {off : Int} {tgt : Nat} {x y : Int32} (hd : decode cc pc = .ok (.if_icmp q off, 3)) (ht : (pc : Int) + off = (tgt : Int)) (kt : xm_cnd q x y → xm_Rn E p l e R s m args below meth c nL ce sl Q tgt L S M) (kf : ¬ xm_cnd q x y → xm_Rn E p l e R s m args below meth c nL ce sl Q (pc + 3) L S M) : xm_Rn E p l e R s m args below meth c nL ce sl Q pc L (.int y :: .int x :: S) M := fun H locs ls hW hF hl => by
  cases q
  · exact lv_icmp_eq X.1 X.2.1 hd ht (fun h => kt h H locs ls hW hF hl) (fun h => kf h H locs ls hW hF hl)
  · exact lv_icmp_ne X.1 X.2.1 hd ht (fun h => kt h H locs ls hW hF hl) (fun h => kf (fun q => q h) H locs ls hW hF hl)
  · exact lv_icmp_lt X.1 X.2.1 hd ht (fun h => kt h H locs ls hW hF hl) (fun h => kf h H locs ls hW hF hl)
  · exact lv_icmp_ge X.1 X.2.1 hd ht (fun h => kt h H locs ls hW hF hl) (fun h => kf h H locs ls hW hF hl)
  · exact lv_icmp_gt X.1 X.2.1 hd ht (fun h => kt h H locs ls hW hF hl) (fun h => kf h H locs ls hW hF hl)
  · exact lv_icmp_le X.1 X.2.1 hd ht (fun h => kt h H locs ls hW hF hl) (fun h => kf h H locs ls hW hF hl)
theorem st_if (X : xm_X E own nL cc p s m args meth c) {q : Jvm.ClassFile.Cond} {off : Int} {tgt : Nat} {x : Int32} (hd : decode cc pc = .ok (.ifCond q off, 3)) (ht : (pc : Int) + off = (tgt : Int)) (kt : xm_cnd q x 0 → xm_Rn E p l e R s m args below meth c nL ce sl Q tgt L S M) (kf : ¬ xm_cnd q x 0 → xm_Rn E p l e R s m args below meth c nL ce sl Q (pc + 3) L S M) : xm_Rn E p l e R s m args below meth c nL ce sl Q pc L (.int x :: S) M := fun H locs ls hW hF hl => by
  cases q
  · exact lv_if_eq X.1 X.2.1 hd ht (fun h => kt h H locs ls hW hF hl) (fun h => kf h H locs ls hW hF hl)
  · exact lv_if_ne X.1 X.2.1 hd ht (fun h => kt h H locs ls hW hF hl) (fun h => kf (fun q => q h) H locs ls hW hF hl)
  · exact lv_if_lt X.1 X.2.1 hd ht (fun h => kt h H locs ls hW hF hl) (fun h => kf h H locs ls hW hF hl)
  · exact lv_if_ge X.1 X.2.1 hd ht (fun h => kt h H locs ls hW hF hl) (fun h => kf h H locs ls hW hF hl)
  · exact lv_if_gt X.1 X.2.1 hd ht (fun h => kt h H locs ls hW hF hl) (fun h => kf h H locs ls hW hF hl)
  · exact lv_if_le X.1 X.2.1 hd ht (fun h => kt h H locs ls hW hF hl) (fun h => kf h H locs ls hW hF hl)
theorem st_get (X : xm_X E own nL cc p s m args meth c) {cp ci j b : Nat} (hci : ci < 8) (hj : j < xm_N ci) (hl0 : (Cond.fieldLink (xm_C own) cp (xm_T ci j).1 (xm_T ci j).2.1 (xm_T ci j).2.2.1) ∈ lw_tb) (hd : decode cc pc = .ok (.getfield cp, 3)) (hb : b < M.1) (hk : ly_k b = ci) (k : xm_Rn E p l e R s m args below meth c nL ce sl Q (pc + 3) L (xm_v M b j :: S) M) : xm_Rn E p l e R s m args below meth c nL ce sl Q pc L (.ref b :: S) M := fun H locs ls hW hF hl => by
  obtain ⟨cell, hc, hat⟩ := hW.2.2.2 b hb
  obtain ⟨hS, hfc, kC, hkC, hkind⟩ := X.2.2.2.2.2.1.1.1 ci _ (xm_cl hci)
  obtain ⟨cf, kf, fi, f, hi, hsl⟩ := hS j hj
  have hts := X.2.2.2.2.1
  have hlt : ly_k b < 8 := by omega
  refine W.getf X.1 X.2.1 X.2.2.2.1 (hts _ hl0) hi (u_facts hfc hkC (u_lays hts (xm_in hci) hj) hi).1 hc (by rw [hat.1]; exact fun h => by cases h) (v := xm_gv E.2.1 (xm_v M b j)) ?_ rfl rfl hd (k H locs ls hW hF hl)
  have h3 := hat.2.2.1 j (by unfold xm_ns; rw [if_pos hlt, hk]; exact hj)
  unfold xm_sm at h3
  rw [if_pos hlt, hk] at h3
  rw [hsl]
  exact h3
/-- what may be stored in a field -/
def xm_ok (t : FieldType) (v : Value) : Prop := match xm_c t, v with
  | 0, .int _ => True
  | 1, .int x => x = 0 ∨ x = 1
  | 2, .ref _ => True
  | 2, .null => True
  | _, _ => False
theorem xm_ok_fits {ci j : Nat} (hci : ci < 8) (hj : j < xm_N ci) {v : Value} {ad : Nat → Nat} (h : xm_ok (xm_ty ci j) v) : narrow (xm_ty ci j) (xm_gv ad v) = xm_gv ad v ∧ fits (xm_ty ci j) (xm_gv ad v) = true := by
  rcases xm_tyc hci j hj with ht | ht | ⟨t, ht | ⟨t, ht⟩⟩ <;> rw [ht] at h ⊢ <;> cases v <;> simp only [xm_ok, xm_c] at h <;> try exact h.elim
  · exact ⟨rfl, rfl⟩
  · rcases h with rfl | rfl <;> exact ⟨show narrow .boolean (.int _) = .int _ by decide, show fits .boolean (.int _) = true by decide⟩
  all_goals exact ⟨rfl, rfl⟩
theorem xm_ok_kind {a j : Nat} (h8 : ly_k a < 8) {v : Value} (h : xm_ok (xm_ty (ly_k a) j) v) : (xm_cd (ly_k a) j = 2 ∧ ∀ x, v ≠ .int x) ∨ (xm_cd (ly_k a) j ≠ 2 ∧ ∃ x, v = .int x) := by
  unfold xm_cd
  rw [if_pos h8]
  unfold xm_ok at h
  split at h
  · rename_i h1
    exact Or.inr ⟨by omega, _, rfl⟩
  · rename_i h1
    exact Or.inr ⟨by omega, _, rfl⟩
  · rename_i h1
    exact Or.inl ⟨h1, fun x q => by cases q⟩
  · rename_i h1
    exact Or.inl ⟨h1, fun x q => by cases q⟩
  · exact h.elim
theorem st_put (X : xm_X E own nL cc p s m args meth c) {cp ci j b : Nat} {v : Value} (hci : ci < 8) (hj : j < xm_N ci) (hfin : (xm_T ci j).2.2.2 = false ∨ ((xm_T ci j).2.2.2 = true ∧ meth.name = "<init>" ∧ (xm_T ci j).1 = xm_C own)) (hl0 : (Cond.fieldLink (xm_C own) cp (xm_T ci j).1 (xm_T ci j).2.1 (xm_T ci j).2.2.1) ∈ lw_tb) (hd : decode cc pc = .ok (.putfield cp, 3)) (hb : b < M.1) (hk : ly_k b = ci) (hv : xm_ok (xm_ty ci j) v) (k : xm_Rn E p l e R s m args below meth c nL ce sl Q (pc + 3) L S (xm_put M b j v)) : xm_Rn E p l e R s m args below meth c nL ce sl Q pc L (v :: .ref b :: S) M := fun H locs ls hW hF hl => by
  obtain ⟨cell, hc, hat⟩ := hW.2.2.2 b hb
  obtain ⟨hS, hfc, kC, hkC, hkind⟩ := X.2.2.2.2.2.1.1.1 ci _ (xm_cl hci)
  obtain ⟨cf, kf, fi, f, hi, hsl⟩ := hS j hj
  have hts := X.2.2.2.2.1
  have hO := X.2.2.2.2.2.2.2.1
  have hlt : ly_k b < 8 := by omega
  have hlm : M.1 ≤ 278 := hW.2.2.1
  have hst := (u_facts hfc hkC (u_lays hts (xm_in hci) hj) hi).1
  have hns : j < xm_ns b := by unfold xm_ns; rw [if_pos hlt, hk]; exact hj
  have hsm : f.slot = xm_sm E (ly_k b) j := by unfold xm_sm; rw [if_pos hlt, hk]; exact hsl
  obtain ⟨hn, hfit⟩ := xm_ok_fits (ad := E.2.1) hci hj hv
  have hcls : cell.cls = E.1.1 ci := by rw [hat.2.1, hk]
  have hlts : f.slot < cell.slots.size := by rw [hsm]; exact k2_hasslot (hat.2.2.1 j hns)
  have fin : ∀ H' : Heap, H'[E.2.1 b]? = some (cell.setSlot f.slot (xm_gv E.2.1 v)) → H'.size = H.size → (∀ q, q ≠ E.2.1 b → H'[q]? = H[q]?) → W p l e R s m args below meth c H' (locs ++ [⟨E.2.1 b, f.slot⟩]) ce sl Q (F0 m (pc + 3) ls (S.map (xm_gv E.2.1))) := fun H' e1 e2 e3 =>
    k H' _ ls (hW.store hO hb hc hat (xm_ok_kind hlt (by rw [hk]; exact hv)) hns hsm (xm_apart X.2.2.2.2.2.1 hts b) e1 e2 e3) (hF.store hO (by omega) e2 e3) hl
  rcases hfin with hfin | ⟨hfin, hin, hdecl⟩
  · have hlay := hts _ (xm_in hci _ (u_in_lay hj))
    unfold u_lay at hlay
    rw [if_neg (by rw [hfin]; decide)] at hlay
    have h6 := u_store hfc hkC hkind hlay hi (xm_tyok hci j hj) hn hfit
    exact W.putK X.1 X.2.1 (f := f) ⟨X.2.2.2.1, hts _ hl0, ⟨_, _, _, hi⟩, hst⟩ (by rw [hcls]; exact h6) hc hat.1 hlts rfl rfl hd fin
  · have hcf : m.cls = cf := by
      have hlay := hts _ (xm_in hci _ (u_in_lay hj))
      unfold u_lay at hlay
      rw [if_pos hfin] at hlay
      obtain ⟨_, _, c', _, _, _, -, -, hf', -, -, -, hown2, -⟩ := Cond.laysFinal_spec hlay
      have e1 : c' = cf := by have := hi.symm.trans hf'; simp at this; exact this.1.symm
      rw [hdecl] at hown2
      rw [← e1]; exact Option.some.inj (X.2.2.2.1.symm.trans hown2)
    exact W.putFinK X.1 X.2.1 X.2.2.2.1 (hts _ hl0) hi hst hcf hin (by rw [hcls]; exact u_fits hfc hkC hkind (u_lays hts (xm_in hci) hj) hi (xm_tyok hci j hj) hn hfit) hc hat.1 hlts rfl rfl hd fin
theorem st_iaload (X : xm_X E own nL cc p s m args meth c) {i : Int32} {b : Nat} (hd : decode cc pc = .ok (.iaload, 1)) (hb : b < M.1) (hk : ly_k b = 10) (hi : vp_in i (ly_n b)) (k : xm_Rn E p l e R s m args below meth c nL ce sl Q (pc + 1) L (xm_v M b i.toNatClampNeg :: S) M) : xm_Rn E p l e R s m args below meth c nL ce sl Q pc L (.int i :: .ref b :: S) M := fun H locs ls hW hF hl => by
  obtain ⟨cell, hc, hat⟩ := hW.2.2.2 b hb
  have hsz : cell.slots.size = ly_n b := hat.2.2.2 (by omega)
  have hlt : i.toNatClampNeg < ly_n b := Nat.not_le.mp fun q => hi (Or.inr q)
  have harr := xm_arr X.2.2.2.2.2.1 hat (by omega) (by omega)
  rw [hk] at harr
  have h3 := hat.2.2.1 i.toNatClampNeg (by unfold xm_ns; rw [if_neg (by omega)]; exact hlt)
  unfold xm_sm at h3
  rw [if_neg (by omega)] at h3
  exact W.iald (v := xm_gv E.2.1 (xm_v M b i.toNatClampNeg)) X.1 X.2.1 hc harr (by rw [hat.1]; exact fun h => by cases h) (by rw [hsz]; exact hi) h3 rfl rfl hd (k H locs ls hW hF hl)
theorem st_baload (X : xm_X E own nL cc p s m args meth c) {i : Int32} {b : Nat} (hd : decode cc pc = .ok (.baload, 1)) (hb : b < M.1) (hk : ly_k b = 11) (hi : vp_in i (ly_n b)) (k : xm_Rn E p l e R s m args below meth c nL ce sl Q (pc + 1) L (xm_v M b i.toNatClampNeg :: S) M) : xm_Rn E p l e R s m args below meth c nL ce sl Q pc L (.int i :: .ref b :: S) M := fun H locs ls hW hF hl => by
  obtain ⟨cell, hc, hat⟩ := hW.2.2.2 b hb
  have hsz : cell.slots.size = ly_n b := hat.2.2.2 (by omega)
  have hlt : i.toNatClampNeg < ly_n b := Nat.not_le.mp fun q => hi (Or.inr q)
  have harr := xm_arr X.2.2.2.2.2.1 hat (by omega) (by omega)
  rw [hk] at harr
  have h3 := hat.2.2.1 i.toNatClampNeg (by unfold xm_ns; rw [if_neg (by omega)]; exact hlt)
  unfold xm_sm at h3
  rw [if_neg (by omega)] at h3
  exact W.zald (v := xm_gv E.2.1 (xm_v M b i.toNatClampNeg)) X.1 X.2.1 hc harr (by rw [hat.1]; exact fun h => by cases h) (by rw [hsz]; exact hi) h3 rfl rfl hd (k H locs ls hW hF hl)
theorem st_aaload (X : xm_X E own nL cc p s m args meth c) {i : Int32} {b : Nat} (hd : decode cc pc = .ok (.aaload, 1)) (hb : b < M.1) (hk : ly_k b = 12) (hi : vp_in i (ly_n b)) (k : xm_Rn E p l e R s m args below meth c nL ce sl Q (pc + 1) L (xm_v M b i.toNatClampNeg :: S) M) : xm_Rn E p l e R s m args below meth c nL ce sl Q pc L (.int i :: .ref b :: S) M := fun H locs ls hW hF hl => by
  obtain ⟨cell, hc, hat⟩ := hW.2.2.2 b hb
  have hsz : cell.slots.size = ly_n b := hat.2.2.2 (by omega)
  have hlt : i.toNatClampNeg < ly_n b := Nat.not_le.mp fun q => hi (Or.inr q)
  have harr := xm_arr X.2.2.2.2.2.1 hat (by omega) (by omega)
  rw [hk] at harr
  have h3 := hat.2.2.1 i.toNatClampNeg (by unfold xm_ns; rw [if_neg (by omega)]; exact hlt)
  unfold xm_sm at h3
  rw [if_neg (by omega)] at h3
  exact W.aald (v := xm_gv E.2.1 (xm_v M b i.toNatClampNeg)) X.1 X.2.1 hc harr rfl (by rw [hat.1]; exact fun h => by cases h) (by rw [hsz]; exact hi) h3 rfl rfl hd (k H locs ls hW hF hl)
theorem st_iastore (X : xm_X E own nL cc p s m args meth c) {i : Int32} {b : Nat} {x : Int32} (hd : decode cc pc = .ok (.iastore, 1)) (hb : b < M.1) (hk : ly_k b = 10) (hi : vp_in i (ly_n b))  (k : xm_Rn E p l e R s m args below meth c nL ce sl Q (pc + 1) L S (xm_put M b i.toNatClampNeg (.int x))) : xm_Rn E p l e R s m args below meth c nL ce sl Q pc L ((.int x) :: .int i :: .ref b :: S) M := fun H locs ls hW hF hl => by
  obtain ⟨cell, hc, hat⟩ := hW.2.2.2 b hb
  have hsz : cell.slots.size = ly_n b := hat.2.2.2 (by omega)
  have hlt : i.toNatClampNeg < ly_n b := Nat.not_le.mp fun q => hi (Or.inr q)
  have harr := xm_arr X.2.2.2.2.2.1 hat (by omega) (by omega)
  rw [hk] at harr
  have hlm : M.1 ≤ 278 := hW.2.2.1
  have hO := X.2.2.2.2.2.2.2.1
  have hns : i.toNatClampNeg < xm_ns b := by unfold xm_ns; rw [if_neg (by omega)]; exact hlt
  have hsm : i.toNatClampNeg = xm_sm E (ly_k b) i.toNatClampNeg := by unfold xm_sm; rw [if_neg (by omega)]
  refine W.iast X.1 X.2.1 hc harr (by rw [hat.1]; exact fun h => by cases h) (by rw [hsz]; exact hi) rfl rfl hd (fun H' e1 e2 e3 => ?_)
  exact k H' _ ls (hW.store hO hb hc hat (Or.inr ⟨by rw [hk]; show (0 : Nat) ≠ 2; decide, x, rfl⟩) hns hsm (xm_apart X.2.2.2.2.2.1 X.2.2.2.2.1 b) e1 e2 e3) (hF.store hO (by omega) e2 e3) hl
theorem st_bastore (X : xm_X E own nL cc p s m args meth c) {i : Int32} {b : Nat} {x : Int32} (hd : decode cc pc = .ok (.bastore, 1)) (hb : b < M.1) (hk : ly_k b = 11) (hi : vp_in i (ly_n b)) (hx : x = 0 ∨ x = 1) (k : xm_Rn E p l e R s m args below meth c nL ce sl Q (pc + 1) L S (xm_put M b i.toNatClampNeg (.int x))) : xm_Rn E p l e R s m args below meth c nL ce sl Q pc L ((.int x) :: .int i :: .ref b :: S) M := fun H locs ls hW hF hl => by
  obtain ⟨cell, hc, hat⟩ := hW.2.2.2 b hb
  have hsz : cell.slots.size = ly_n b := hat.2.2.2 (by omega)
  have hlt : i.toNatClampNeg < ly_n b := Nat.not_le.mp fun q => hi (Or.inr q)
  have harr := xm_arr X.2.2.2.2.2.1 hat (by omega) (by omega)
  rw [hk] at harr
  have hlm : M.1 ≤ 278 := hW.2.2.1
  have hO := X.2.2.2.2.2.2.2.1
  have hns : i.toNatClampNeg < xm_ns b := by unfold xm_ns; rw [if_neg (by omega)]; exact hlt
  have hsm : i.toNatClampNeg = xm_sm E (ly_k b) i.toNatClampNeg := by unfold xm_sm; rw [if_neg (by omega)]
  refine W.zast X.1 X.2.1 hc harr (by rw [hat.1]; exact fun h => by cases h) (by rw [hsz]; exact hi) rfl rfl hd (fun H' e1 e2 e3 => ?_)
  have hn : narrow .boolean (.int x) = .int x := by rcases hx with rfl | rfl <;> decide
  rw [hn] at e1
  exact k H' _ ls (hW.store hO hb hc hat (Or.inr ⟨by rw [hk]; show (1 : Nat) ≠ 2; decide, x, rfl⟩) hns hsm (xm_apart X.2.2.2.2.2.1 X.2.2.2.2.1 b) e1 e2 e3) (hF.store hO (by omega) e2 e3) hl
theorem st_alen (X : xm_X E own nL cc p s m args meth c) {b : Nat} (hd : decode cc pc = .ok (.arraylength, 1)) (hb : b < M.1) (hk : 10 ≤ ly_k b ∧ ly_k b ≤ 12) (k : xm_Rn E p l e R s m args below meth c nL ce sl Q (pc + 1) L (.int (nI (ly_n b)) :: S) M) : xm_Rn E p l e R s m args below meth c nL ce sl Q pc L (.ref b :: S) M := fun H locs ls hW hF hl => by
  obtain ⟨cell, hc, hat⟩ := hW.2.2.2 b hb
  have hsz : cell.slots.size = ly_n b := hat.2.2.2 (by omega)
  exact W.alen (n := nI (ly_n b)) X.1 X.2.1 hc (xm_arr X.2.2.2.2.2.1 hat hk.1 hk.2) (by rw [hsz]; rfl) rfl rfl hd (k H locs ls hW hF hl)
theorem st_script {H : Heap} {locs : List Loc} (X : xm_X E own nL cc p s m args meth c) (hF : xm_F E s H locs) : va_X (E.2.1 1000) E.2.2.2.2.1 E.2.2.2.2.2 s H := by
  obtain ⟨h1, h2⟩ := X.2.2.2.2.2.2.2.1.2.2 s X.2.2.2.2.2.2.2.2.1
  obtain ⟨scr, q1, q2⟩ := h1
  exact ⟨scr, by rw [hF.2.1 _ h2]; exact q1, q2⟩
theorem st_sload (X : xm_X E own nL cc p s m args meth c) {i : Int32} (hd : decode cc pc = .ok (.iaload, 1)) (hi : vp_in i E.2.2.2.2.1) (k : xm_Rn E p l e R s m args below meth c nL ce sl Q (pc + 1) L (.int (E.2.2.2.2.2 i.toNatClampNeg) :: S) M) : xm_Rn E p l e R s m args below meth c nL ce sl Q pc L (.int i :: .ref 1000 :: S) M := fun H locs ls hW hF hl => by
  obtain ⟨scr, q1, q2, q3, q4, q5⟩ := st_script X hF
  have hlt : i.toNatClampNeg < E.2.2.2.2.1 := Nat.not_le.mp fun q => hi (Or.inr q)
  exact W.iald X.1 X.2.1 q1 q2 q3 (by rw [q4]; exact hi) (q5 _ hlt) rfl rfl hd (k H locs ls hW hF hl)
theorem st_slen (X : xm_X E own nL cc p s m args meth c) (hd : decode cc pc = .ok (.arraylength, 1)) (k : xm_Rn E p l e R s m args below meth c nL ce sl Q (pc + 1) L (.int (nI E.2.2.2.2.1) :: S) M) : xm_Rn E p l e R s m args below meth c nL ce sl Q pc L (.ref 1000 :: S) M := fun H locs ls hW hF hl => by
  obtain ⟨scr, q1, q2, q3, q4, q5⟩ := st_script X hF
  exact W.alen (n := nI E.2.2.2.2.1) X.1 X.2.1 q1 q2 (by rw [q4]; rfl) rfl rfl hd (k H locs ls hW hF hl)
end XMS
