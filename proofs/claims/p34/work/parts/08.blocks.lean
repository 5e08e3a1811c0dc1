/-! BLOCKS: a step as a predicate; a list of resolved instructions; both sound -/
abbrev xm_I : Type := Instr × Nat × Nat × Nat × Int32
def xi_bin (f : Int32 → Int32 → Int32) (S : List Value) (k : List Value → Prop) : Prop := match S with
  | .int y :: .int x :: S' => k (.int (f x y) :: S')
  | _ => False
def xi_div (f : Int32 → Int32 → Int32) (S : List Value) (k : List Value → Prop) : Prop := match S with
  | .int y :: .int x :: S' => y ≠ 0 ∧ k (.int (f x y) :: S')
  | _ => False
def xi_un (f : Int32 → Value) (S : List Value) (k : List Value → Prop) : Prop := match S with
  | .int x :: S' => k (f x :: S')
  | _ => False
def xi_il (v : Value) (k : Value → Prop) : Prop := match v with
  | .int x => k (.int x)
  | _ => False
def xi_al (v : Value) (k : Value → Prop) : Prop := match v with
  | .ref x => k (.ref x)
  | .null => k .null
  | _ => False
def xi_is (S : List Value) (k : Value → List Value → Prop) : Prop := match S with
  | .int x :: S' => k (.int x) S'
  | _ => False
def xi_as (S : List Value) (k : Value → List Value → Prop) : Prop := match S with
  | .ref x :: S' => k (.ref x) S'
  | .null :: S' => k .null S'
  | _ => False
def xi_inc (v : Value) (z : Int32) (k : Value → Prop) : Prop := match v with
  | .int x => k (.int (x + z))
  | _ => False
def xi_cmp (q : Jvm.ClassFile.Cond) (S : List Value) (jt kf : List Value → Prop) : Prop := match S with
  | .int y :: .int x :: S' => (xm_cnd q x y → jt S') ∧ (¬ xm_cnd q x y → kf S')
  | _ => False
def xi_if (q : Jvm.ClassFile.Cond) (S : List Value) (jt kf : List Value → Prop) : Prop := match S with
  | .int x :: S' => (xm_cnd q x 0 → jt S') ∧ (¬ xm_cnd q x 0 → kf S')
  | _ => False
def xi_nul (S : List Value) (jn kr : List Value → Prop) : Prop := match S with
  | .null :: S' => jn S'
  | .ref _ :: S' => kr S'
  | _ => False
/-- a read: an int, or anything else -/
def xi_rd (M : xm_M) (b j t : Nat) : Value := match t with
  | 2 => M.2.2 b j
  | _ => .int (M.2.1 b j)
def xi_get (M : xm_M) (ci j t : Nat) (S : List Value) (k : List Value → Prop) : Prop := match S with
  | .ref b :: S' => (b < M.1 ∧ ly_k b = ci) ∧ k (xi_rd M b j t :: S')
  | _ => False
def xi_put (M : xm_M) (ci j t : Nat) (S : List Value) (k : List Value → xm_M → Prop) : Prop := match t, S with
  | 0, .int x :: .ref b :: S' => (b < M.1 ∧ ly_k b = ci) ∧ k S' (xm_setI M b j x)
  | 1, .int x :: .ref b :: S' => (b < M.1 ∧ ly_k b = ci) ∧ (x = 0 ∨ x = 1) ∧ k S' (xm_setI M b j x)
  | 2, .ref x :: .ref b :: S' => (b < M.1 ∧ ly_k b = ci) ∧ k S' (xm_setR M b j (.ref x))
  | 2, .null :: .ref b :: S' => (b < M.1 ∧ ly_k b = ci) ∧ k S' (xm_setR M b j .null)
  | _, _ => False
/-- a read of an array of ours: of a kind, within -/
def xi_ald (M : xm_M) (kd t : Nat) (S : List Value) (k : List Value → Prop) : Prop := match S with
  | .int i :: .ref b :: S' => (b < M.1 ∧ ly_k b = kd ∧ vp_in i (ly_n b)) ∧ k (xi_rd M b i.toNatClampNeg t :: S')
  | _ => False
def xi_sld (sc : Nat × (Nat → Int32)) (S : List Value) (k : List Value → Prop) : Prop := match S with
  | .int i :: .ref 1000 :: S' => vp_in i sc.1 ∧ k (.int (sc.2 i.toNatClampNeg) :: S')
  | _ => False
def xi_iast (M : xm_M) (S : List Value) (k : List Value → xm_M → Prop) : Prop := match S with
  | .int x :: .int i :: .ref b :: S' => (b < M.1 ∧ ly_k b = 10 ∧ vp_in i (ly_n b)) ∧ k S' (xm_setI M b i.toNatClampNeg x)
  | _ => False
def xi_bast (M : xm_M) (S : List Value) (k : List Value → xm_M → Prop) : Prop := match S with
  | .int x :: .int i :: .ref b :: S' => (b < M.1 ∧ ly_k b = 11 ∧ vp_in i (ly_n b)) ∧ (x = 0 ∨ x = 1) ∧ k S' (xm_setI M b i.toNatClampNeg x)
  | _ => False
def xi_last (M : xm_M) (S : List Value) (k : List Value → xm_M → Prop) : Prop := match S with
  | .long x :: .int i :: .ref b :: S' => (b < M.1 ∧ ly_k b = 13 ∧ vp_in i (ly_n b)) ∧ k S' (xm_setR M b i.toNatClampNeg (.long x))
  | _ => False
def xi_dast (M : xm_M) (S : List Value) (k : List Value → xm_M → Prop) : Prop := match S with
  | .double x :: .int i :: .ref b :: S' => (b < M.1 ∧ ly_k b = 14 ∧ vp_in i (ly_n b)) ∧ k S' (xm_setR M b i.toNatClampNeg (.double x))
  | _ => False
def xi_len (M : xm_M) (S : List Value) (k : List Value → Prop) : Prop := match S with
  | .ref b :: S' => (b < M.1 ∧ 10 ≤ ly_k b ∧ ly_k b ≤ 12) ∧ k (.int (nI (ly_n b)) :: S')
  | _ => False
def xi_slen (sc : Nat × (Nat → Int32)) (S : List Value) (k : List Value → Prop) : Prop := match S with
  | .ref 1000 :: S' => k (.int (nI sc.1) :: S')
  | _ => False
def xi_lcmp (S : List Value) (k : List Value → Prop) : Prop := match S with
  | .long y :: .long x :: S' => k (.int (lg_cmp x y) :: S')
  | _ => False
def xi_dup (S : List Value) (k : List Value → Prop) : Prop := match S with
  | v :: S' => v.category = 1 ∧ k (v :: v :: S')
  | _ => False
def xi_dup2 (S : List Value) (k : List Value → Prop) : Prop := match S with
  | v :: u :: S' => (v.category = 1 ∧ u.category = 1) ∧ k (v :: u :: v :: u :: S')
  | _ => False
def xi_ret (t : Nat) (S : List Value) (r : Value → Prop) : Prop := match t, S with
  | 0, [.int x] => r (.int x)
  | 1, [.int x] => (x = 0 ∨ x = 1) ∧ r (.int x)
  | 2, [.ref x] => r (.ref x)
  | 2, [.null] => r .null
  | 4, [.double x] => r (.double x)
  | _, _ => False
def xi_retv (S : List Value) (r : Prop) : Prop := match S with
  | [] => r
  | _ => False
def xm_i (sc : Nat × (Nat → Int32)) (a : xm_I) (L S : List Value) (M : xm_M) (k : List Value → List Value → xm_M → Prop) (j : Nat → List Value → List Value → xm_M → Prop) (r : Option Value → xm_M → Prop) : Prop := match a with
  | (.iload _, n, _, _, _) => xi_il (xm_g L n) (fun v => k L (v :: S) M)
  | (.aload _, n, _, _, _) => xi_al (xm_g L n) (fun v => k L (v :: S) M)
  | (.istore _, n, _, _, _) => xm_1 L n = true ∧ xi_is S (fun v S' => k (xm_s L n v) S' M)
  | (.astore _, n, _, _, _) => xm_1 L n = true ∧ xi_as S (fun v S' => k (xm_s L n v) S' M)
  | (.iinc _ _, n, _, _, z) => xm_1 L n = true ∧ xi_inc (xm_g L n) z (fun v => k (xm_s L n v) S M)
  | (.sipush _, _, _, _, z) => k L (.int z :: S) M
  | (.lconst _, n, _, _, _) => k L (.long (Int64.ofNat n) :: S) M
  | (.aconst_null, _, _, _, _) => k L (.null :: S) M
  | (.iadd, _, _, _, _) => xi_bin (fun x y => x + y) S (fun S' => k L S' M)
  | (.isub, _, _, _, _) => xi_bin (fun x y => x - y) S (fun S' => k L S' M)
  | (.imul, _, _, _, _) => xi_bin (fun x y => x * y) S (fun S' => k L S' M)
  | (.iand, _, _, _, _) => xi_bin (fun x y => x &&& y) S (fun S' => k L S' M)
  | (.ior, _, _, _, _) => xi_bin (fun x y => x ||| y) S (fun S' => k L S' M)
  | (.ishl, _, _, _, _) => xi_bin (fun x y => x <<< (y &&& 31)) S (fun S' => k L S' M)
  | (.ishr, _, _, _, _) => xi_bin (fun x y => x >>> (y &&& 31)) S (fun S' => k L S' M)
  | (.iushr, _, _, _, _) => xi_bin (fun x y => (x.toUInt32 >>> (y.toUInt32 &&& Int32.toUInt32 31)).toInt32) S (fun S' => k L S' M)
  | (.idiv, _, _, _, _) => xi_div (fun x y => x / y) S (fun S' => k L S' M)
  | (.irem, _, _, _, _) => xi_div (fun x y => x % y) S (fun S' => k L S' M)
  | (.ineg, _, _, _, _) => xi_un (fun x => .int (-x)) S (fun S' => k L S' M)
  | (.i2l, _, _, _, _) => xi_un (fun x => .long x.toInt64) S (fun S' => k L S' M)
  | (.i2d, _, _, _, _) => xi_un (fun x => .double (FP.i2d x)) S (fun S' => k L S' M)
  | (.lcmp, _, _, _, _) => xi_lcmp S (fun S' => k L S' M)
  | (.dup, _, _, _, _) => xi_dup S (fun S' => k L S' M)
  | (.dup2, _, _, _, _) => xi_dup2 S (fun S' => k L S' M)
  | (.getfield _, ci, f, t, _) => xi_get M ci f t S (fun S' => k L S' M)
  | (.putfield _, ci, f, t, _) => xi_put M ci f t S (fun S' M' => k L S' M')
  | (.iaload, 0, _, _, _) => xi_ald M 10 0 S (fun S' => k L S' M)
  | (.iaload, _, _, _, _) => xi_sld sc S (fun S' => k L S' M)
  | (.baload, _, _, _, _) => xi_ald M 11 0 S (fun S' => k L S' M)
  | (.aaload, _, _, _, _) => xi_ald M 12 2 S (fun S' => k L S' M)
  | (.iastore, _, _, _, _) => xi_iast M S (fun S' M' => k L S' M')
  | (.bastore, _, _, _, _) => xi_bast M S (fun S' M' => k L S' M')
  | (.arraylength, 0, _, _, _) => xi_len M S (fun S' => k L S' M)
  | (.arraylength, _, _, _, _) => xi_slen sc S (fun S' => k L S' M)
  | (.if_icmp q _, tgt, _, _, _) => xi_cmp q S (fun S' => j tgt L S' M) (fun S' => k L S' M)
  | (.ifCond q _, tgt, _, _, _) => xi_if q S (fun S' => j tgt L S' M) (fun S' => k L S' M)
  | (.ifnull _, tgt, _, _, _) => xi_nul S (fun S' => j tgt L S' M) (fun S' => k L S' M)
  | (.ifnonnull _, tgt, _, _, _) => xi_nul S (fun S' => k L S' M) (fun S' => j tgt L S' M)
  | (.goto _, tgt, _, _, _) => j tgt L S M
  | (.ireturn, t, _, _, _) => xi_ret t S (fun v => r (some v) M)
  | (.return_, _, _, _, _) => xi_retv S (r none M)
  | _ => False
def xm_tgt (pc : Nat) (off : Int) : Option Nat := if 0 ≤ (pc : Int) + off then some ((pc : Int) + off).toNat else none
/-- a decoded instruction, resolved: its class' number, the locals, the return's kind (0 int, 1 boolean, 2 reference, 3 void, 4 double), whether in a constructor -/
def xm_rz (own nL rt : Nat) (ini : Bool) (pc : Nat) (i : Instr) : Option xm_I := match i with
  | .iload n => some (.iload 0, n, 0, 0, 0)
  | .iload_n n => some (.iload 0, n.val, 0, 0, 0)
  | .aload n => some (.aload 0, n, 0, 0, 0)
  | .aload_n n => some (.aload 0, n.val, 0, 0, 0)
  | .istore n => if n < nL then some (.istore 0, n, 0, 0, 0) else none
  | .istore_n n => if n.val < nL then some (.istore 0, n.val, 0, 0, 0) else none
  | .astore n => if n < nL then some (.astore 0, n, 0, 0, 0) else none
  | .astore_n n => if n.val < nL then some (.astore 0, n.val, 0, 0, 0) else none
  | .iinc n z => if n < nL then some (.iinc 0 0, n, 0, 0, Int32.ofInt z) else none
  | .iconst n => some (.sipush 0, 0, 0, 0, Int32.ofInt n)
  | .bipush n => some (.sipush 0, 0, 0, 0, (Int8.ofInt n).toInt32)
  | .sipush n => some (.sipush 0, 0, 0, 0, (Int16.ofInt n).toInt32)
  | .lconst n => some (.lconst 0, n.val, 0, 0, 0)
  | .aconst_null => some (.aconst_null, 0, 0, 0, 0)
  | .iadd => some (.iadd, 0, 0, 0, 0)
  | .isub => some (.isub, 0, 0, 0, 0)
  | .imul => some (.imul, 0, 0, 0, 0)
  | .iand => some (.iand, 0, 0, 0, 0)
  | .ior => some (.ior, 0, 0, 0, 0)
  | .ishl => some (.ishl, 0, 0, 0, 0)
  | .ishr => some (.ishr, 0, 0, 0, 0)
  | .iushr => some (.iushr, 0, 0, 0, 0)
  | .idiv => some (.idiv, 0, 0, 0, 0)
  | .irem => some (.irem, 0, 0, 0, 0)
  | .ineg => some (.ineg, 0, 0, 0, 0)
  | .i2l => some (.i2l, 0, 0, 0, 0)
  | .i2d => some (.i2d, 0, 0, 0, 0)
  | .lcmp => some (.lcmp, 0, 0, 0, 0)
  | .dup => some (.dup, 0, 0, 0, 0)
  | .dup2 => some (.dup2, 0, 0, 0, 0)
  | .getfield cp => (fl_find own cp).map fun q => (.getfield 0, q.1, q.2, xm_c (xm_ty q.1 q.2), 0)
  | .putfield cp => (fl_find own cp).bind fun q => if (xm_T q.1 q.2).2.2.2 = false ∨ (ini = true ∧ own = q.1 ∧ q.1 < 8) then some (.putfield 0, q.1, q.2, xm_c (xm_ty q.1 q.2), 0) else none
  | .iaload => some (.iaload, (if own = 8 then 1 else 0), 0, 0, 0)
  | .baload => some (.baload, 0, 0, 0, 0)
  | .aaload => some (.aaload, 0, 0, 0, 0)
  | .iastore => some (.iastore, 0, 0, 0, 0)
  | .bastore => some (.bastore, 0, 0, 0, 0)
  | .arraylength => some (.arraylength, (if own = 8 then 1 else 0), 0, 0, 0)
  | .if_icmp q off => (xm_tgt pc off).map fun t => (.if_icmp q 0, t, 0, 0, 0)
  | .ifCond q off => (xm_tgt pc off).map fun t => (.ifCond q 0, t, 0, 0, 0)
  | .ifnull off => (xm_tgt pc off).map fun t => (.ifnull 0, t, 0, 0, 0)
  | .ifnonnull off => (xm_tgt pc off).map fun t => (.ifnonnull 0, t, 0, 0, 0)
  | .goto off => (xm_tgt pc off).map fun t => (.goto 0, t, 0, 0, 0)
  | .ireturn => if rt = 0 ∨ rt = 1 then some (.ireturn, rt, 0, 0, 0) else none
  | .areturn => if rt = 2 then some (.ireturn, 2, 0, 0, 0) else none
  | .dreturn => if rt = 4 then some (.ireturn, 4, 0, 0, 0) else none
  | .return_ => if rt = 3 then some (.return_, 0, 0, 0, 0) else none
  | _ => none
/-- how many bytes it has -/
def xm_len (i : Instr) : Nat := match i with
  | .iload _ => 2
  | .aload _ => 2
  | .istore _ => 2
  | .astore _ => 2
  | .iinc _ _ => 3
  | .bipush _ => 2
  | .sipush _ => 3
  | .getfield _ => 3
  | .putfield _ => 3
  | .if_icmp _ _ => 3
  | .ifCond _ _ => 3
  | .ifnull _ => 3
  | .ifnonnull _ => 3
  | .goto _ => 3
  | _ => 1
def xm_b (sc : Nat × (Nat → Int32)) (e : Nat) (j : Nat → List Value → List Value → xm_M → Prop) (r : Option Value → xm_M → Prop) : List xm_I → List Value → List Value → xm_M → Prop
  | [], L, S, M => j e L S M
  | a :: as, L, S, M => xm_i sc a L S M (fun L S M => xm_b sc e j r as L S M) j r
def xm_okb (cc : ByteArray) (own nL rt : Nat) (ini : Bool) (e : Nat) : Nat → List xm_I → Bool
  | pc, [] => pc == e
  | pc, a :: as => match decode cc pc with
    | .ok (i, n) => decide (n = xm_len i) && decide (xm_rz own nL rt ini pc i = some a) && xm_okb cc own nL rt ini e (pc + n) as
    | _ => false
