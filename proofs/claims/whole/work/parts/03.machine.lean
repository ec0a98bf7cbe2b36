/-! the abstract machine's words: values, heaps, methods by number -/
/-- a value: an int, a long, a place (none: not known) -/
abbrev ab_V : Type := Int ⊕ Int ⊕ Option Nat
/-- how many places; what is at a place (0 ints, 1 booleans, 2 Villages, 5 ints that nobody writes, c + 3 an object of class c; its length); places in fields and elements -/
abbrev ab_E : Type := Nat × (Nat → Nat × Nat) × (Nat → Nat → Option Nat)
abbrev ab_D : Type := Nat → Nat → Int
abbrev ab_H : Type := ab_E × ab_D
abbrev ab_C : Type := List ab_V → List ab_V → ab_H → Nat × Nat → Prop
abbrev vI (z : Int) : ab_V := .inl z
abbrev vL (z : Int) : ab_V := .inr (.inl z)
abbrev vR (k : Nat) : ab_V := .inr (.inr (some k))
abbrev vU : ab_V := .inr (.inr none)
def i32 (z : Int) : Prop := -2147483648 ≤ z ∧ z < 2147483648
def i64 (z : Int) : Prop := -9223372036854775808 ≤ z ∧ z < 9223372036854775808
def mr (z : Nat) : ab_M := mt.getD z mr_189
def mN (z : Nat) : MethodName := (mr z).1
def mB (z : Nat) : ByteArray := (mr z).2.1
def mL (z : Nat) : Nat := (mr z).2.2.1
def mT (z : Nat) : Option FieldType := (mr z).2.2.2.1
def mRm (z : Nat) : Room := (mr z).2.2.2.2.1
def mKd (z : Nat) : Nat := (mr z).2.2.2.2.2.1
def mNp (z : Nat) : Nat := (mr z).2.2.2.2.2.2.1
def mPs (z : Nat) : Nat × Nat × Nat × Nat := (mr z).2.2.2.2.2.2.2
def mC (z : Nat) : List ab_I := mcd.getD z []
/-- an instruction's place in the bytes: the lengths of those ahead of it -/
def pcS : List ab_I → Nat → Nat
  | _, 0 => 0
  | [], _ => 0
  | q :: r, n + 1 => q.2.2.1 + pcS r n
def pcN (y n : Nat) : Nat := pcS (mC y) n
def nF (c : Nat) : Nat := match cls[c]? with
  | some q => q.2.2
  | none => 0
def fT (c : Nat) : u_T := match cls[c]? with
  | some q => q.2.1
  | none => fT_0
def cN (c : Nat) : String := match cls[c]? with
  | some q => q.1
  | none => ""
def fRf (c k : Nat) : Bool := match cY c k with
  | .int => false
  | _ => true
/-! the check of a method's code against its bytes and the tables -/
def ix (t : Nat) (w : Jvm.Cond) : Bool := decide (lw_tbl[t]? = some w)
def tg (y pc : Nat) (off : Int) (t : Nat) : Bool := decide ((pc : Int) + off = (pcN y t : Int))
def tgs (y pc : Nat) : List Int → List Nat → Bool
  | [], [] => true
  | o :: os, t :: ts => tg y pc o t && tgs y pc os ts
  | _, _ => false
def okCall (y z idx na rk t ne ml kc kd : Nat) : Bool :=
  (if ne = 1 then ix t (.methodLinkNest (mN y).cls idx (mN z) "PolesInALake") else ix t (.methodLink (mN y).cls idx (mN z)))
  && decide (mKd z = kd) && decide (4 ≤ z ∧ z < 189) && decide (na = mNp z + (if kd = 1 then 0 else 1))
  && decide ((mRm z).frames + 1 ≤ (mRm y).frames) && decide (8 + (mL z + 11) + (mRm z).locals ≤ (mRm y).locals)
  && decide (mT z = (match rk with | 1 => mT z | 2 => some .long | _ => none)) && decide (rk = 1 → (mT z = some .int ∨ mT z = some .boolean)) && decide (rk ≤ 3)
  && decide (rk ≠ 3 → (mRm z).cells = 0 ∧ (mRm z).slots = 0) && decide (ml = mL z) && decide (kd = 1 ∨ (3 ≤ kc ∧ kc < 11 ∧ cN (kc - 3) = (mN z).cls))
def okX (y : Nat) (q : ab_I) : Bool :=
  let own := (mN y).cls
  match q.2.1, q.2.2.1, q.2.2.2 with
  | .iload_n k, 1, [i] => decide (k.val = i)
  | .aload_n k, 1, [i] => decide (k.val = i)
  | .lload_n k, 1, [i] => decide (k.val = i)
  | .iload k, 2, [i] => decide (k = i)
  | .aload k, 2, [i] => decide (k = i)
  | .lload k, 2, [i] => decide (k = i)
  | .istore_n k, 1, [i] => decide (k.val = i ∧ i < mL y)
  | .astore_n k, 1, [i] => decide (k.val = i ∧ i < mL y)
  | .lstore_n k, 1, [i] => decide (k.val = i ∧ i + 1 < mL y)
  | .istore k, 2, [i] => decide (k = i ∧ i < mL y)
  | .astore k, 2, [i] => decide (k = i ∧ i < mL y)
  | .lstore k, 2, [i] => decide (k = i ∧ i + 1 < mL y)
  | .iinc k _, 3, [i] => decide (k = i ∧ i < mL y)
  | .iconst n, 1, [] => decide (-2147483648 ≤ n ∧ n < 2147483648)
  | .bipush n, 2, [] => decide (-2147483648 ≤ n ∧ n < 2147483648 ∧ (Int8.ofInt n).toInt32 = Int32.ofInt n)
  | .sipush n, 3, [] => decide (-2147483648 ≤ n ∧ n < 2147483648 ∧ (Int16.ofInt n).toInt32 = Int32.ofInt n)
  | .lconst k, 1, [i] => decide (k.val = i)
  | .ldc2_w idx, 3, [t, sg, a] => ix t (.constantLong own idx (Int64.ofInt (if sg = 1 then -(a : Int) else (a : Int)))) && decide (a < 4294967296)
  | .iadd, 1, [] | .isub, 1, [] | .imul, 1, [] | .idiv, 1, [] | .irem, 1, [] | .ineg, 1, [] | .iand, 1, [] | .ior, 1, [] | .ishl, 1, [] | .ishr, 1, [] => true
  | .lsub, 1, [] | .lmul, 1, [] | .ldiv, 1, [] | .lrem, 1, [] | .land, 1, [] | .lor, 1, [] | .lshl, 1, [] | .lshr, 1, [] | .lushr, 1, [] => true
  | .i2l, 1, [] | .l2i, 1, [] | .lcmp, 1, [] | .dup, 1, [] | .dup2, 1, [] | .pop, 1, [] => true
  | .iaload, 1, [] | .iastore, 1, [] | .baload, 1, [] | .bastore, 1, [] | .aaload, 1, [] | .aastore, 1, [] | .arraylength, 1, [] => true
  | .ifCond _ off, 3, [t] => tg y q.1 off t
  | .if_icmp _ off, 3, [t] => tg y q.1 off t
  | .goto off, 3, [t] => tg y q.1 off t
  | .tableswitch d lo hi offs, _, td :: ts => tg y q.1 d td && tgs y q.1 offs.toList ts && decide (hi - lo + 1 = (ts.length : Int))
  | .lookupswitch d ps, _, td :: ts => tg y q.1 d td && tgs y q.1 (ps.toList.map (·.2)) ts && decide ((ps.toList.zip (ps.toList.drop 1)).all (fun (a, next) => a.1 < next.1) = true)
  | .getfield idx, 3, [c, k, r, t] => ix t (.fieldLink own idx (fT c k).1 (fT c k).2.1 (fT c k).2.2.1) && decide (c < 8 ∧ k < nF c ∧ fRf c k = (r == 1) ∧ r ≤ 1)
  | .putfield idx, 3, [c, k, r, t] => ix t (.fieldLink own idx (fT c k).1 (fT c k).2.1 (fT c k).2.2.1) && decide (c < 8 ∧ k < nF c ∧ fRf c k = (r == 1) ∧ r ≤ 1 ∧ ((fT c k).2.2.2 = true → (mN y).name = "<init>" ∧ (fT c k).1 = own))
  | .getstatic idx, 3, [p, t, ne] => let nm := if p = 1001 then "ELSE" else "TENS"
    (if ne = 1 then ix t (.fieldLinkNest own idx "PolesInALake" nm "[I" "PolesInALake") else ix t (.fieldLink own idx "PolesInALake" nm "[I")) && decide (p = 1001 ∨ p = 1002)
  | .new idx, 3, [c, t, t2, t3] => ix t (.classLink own idx (cN c)) && ix t2 (.instantiable (cN c) (nF c)) && ix t3 (.initialized (cN c)) && decide (c < 8)
  | .newarray .int, 2, [0] => true
  | .newarray .boolean, 2, [1] => true
  | .anewarray idx, 3, [t] => ix t (.classLink own idx "PolesInALake$Village")
  | .invokespecial idx, 3, [t] => ix t (.methodLink own idx objectInit) && decide (1 ≤ (mRm y).frames ∧ 24 ≤ (mRm y).locals)
  | .invokestatic idx, 3, [t] => ix t (.methodLink own idx arraycopyName) && decide (1 ≤ (mRm y).frames ∧ 8 + (nativeFrameWords "java/lang/System" "arraycopy" 5 + 11) ≤ (mRm y).locals)
  | .invokestatic idx, 3, [0, t] => ix t (.methodLink own idx Lib.Math.abs.name) && decide (1 ≤ (mRm y).frames ∧ 24 ≤ (mRm y).locals)
  | .invokestatic idx, 3, [1, t] => ix t (.methodLink own idx Lib.Math.max.name) && decide (1 ≤ (mRm y).frames ∧ 24 ≤ (mRm y).locals)
  | .invokestatic idx, 3, [2, t] => ix t (.methodLink own idx Lib.MathLoose.max_long.x) && decide (1 ≤ (mRm y).frames ∧ 24 ≤ (mRm y).locals)
  | .invokestatic idx, 3, [3, t] => ix t (.methodLink own idx Lib.Math.min.name) && decide (1 ≤ (mRm y).frames ∧ 24 ≤ (mRm y).locals)
  | .invokevirtual idx, 3, [z, na, rk, t, ne, ml, kc] => okCall y z idx na rk t ne ml kc 0
  | .invokestatic idx, 3, [z, na, rk, t, ne, ml, kc] => okCall y z idx na rk t ne ml kc 1
  | .invokespecial idx, 3, [z, na, rk, t, ne, ml, kc] => okCall y z idx na rk t ne ml kc 2
  | .ireturn, 1, [0] => decide (mT y = some .int)
  | .ireturn, 1, [1] => decide (mT y = some .boolean)
  | .lreturn, 1, [] => decide (mT y = some .long)
  | .return_, 1, [] => decide (mT y = none)
  | _, _, _ => false
def okD (y : Nat) (q : ab_I) : Bool := decide (decode (mB y) q.1 = .ok (q.2.1, q.2.2.1))
def okL : Nat → List ab_I → Bool
  | _, [] => true
  | a, q :: r => decide (q.1 = a) && okL (a + q.2.2.1) r
def okM (y : Nat) : Bool := okL 0 (mC y) && (mC y).all (okD y) && (mC y).all (okX y)
/-- a method's own words -/
def okN (z : Nat) : Bool :=
  ix (mPs z).2.1 (.initialized (mN z).cls)
  && (if mKd z = 1 then ix (mPs z).2.2.1 (.static (mN z)) else ix (mPs z).2.2.1 (.instanceMethod (mN z)))
  && (if mKd z = 0 then ix (mPs z).2.2.2 (.selects (mN z).cls (mN z) (mN z)) else true)
  && decide (plainName (mN z).cls = true) && decide ((mN z).cls ≠ "java/lang/invoke/MethodHandle" ∧ (mN z).cls ≠ "java/lang/invoke/VarHandle")
  && decide ((parseMethodDescriptor (mN z).desc).map (fun d => d.parameters.length) = some (mNp z))
  && decide (mKd z = 2 ↔ (mN z).name = "<init>")
theorem ck_N : ∀ z, 4 ≤ z → z < 189 → okN z = true := by
  have h : (List.range 189).all (fun z => decide (z < 4) || okN z) = true := by decide +kernel
  intro z h4 hz
  have h1 := List.all_eq_true.mp h z (List.mem_range.mpr hz)
  simp only [Bool.or_eq_true, decide_eq_true_eq] at h1
  rcases h1 with h1 | h1
  · omega
  · exact h1
def ckX (a b : Nat) : Bool := (List.range (b - a)).all (fun i => (mC (a + i)).all (okX (a + i)))
theorem ck_X0 : ckX 4 45 = true := by decide +kernel
theorem ck_X1 : ckX 45 80 = true := by decide +kernel
theorem ck_X2 : ckX 80 116 = true := by decide +kernel
theorem ck_X3 : ckX 116 160 = true := by decide +kernel
theorem ck_X4 : ckX 160 189 = true := by decide +kernel
theorem ck_X5 : ckX 189 190 = true := by decide +kernel
