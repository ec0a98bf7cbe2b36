/-! rewriting rules: what the abstract machine asks, instruction by instruction, over literal lists (printed by wip/gen/gen_rules.py) -/
def wBc (y : Nat) (Q : Option ab_V → ab_H → Prop) (K : Nat → ab_C) : List ab_I → ab_C → ab_C
  | [], c => c
  | q :: r, c => wI y Q K q (wBc y Q K r c)
/-- Sem under a cover, so that no tactic opens it -/
def Sx (y n : Nat) (lo st : List ab_V) (h : ab_H) (u : Nat × Nat) (Q : Option ab_V → ab_H → Prop) : Prop := ∃ _ : Unit, Sem y n lo st h u Q
theorem Sx.un {y n : Nat} {lo st : List ab_V} {h : ab_H} {u : Nat × Nat} {Q : Option ab_V → ab_H → Prop} (k : Sx y n lo st h u Q) : Sem y n lo st h u Q := by
  obtain ⟨_, q⟩ := k
  exact q
theorem sm_seg {y n s : Nat} (sg : List ab_I) (hy : 4 ≤ y ∧ y < 190) (hs : ((mC y).drop n).take sg.length = sg) (he : n + sg.length = s) {lo st : List ab_V} {h : ab_H} {u : Nat × Nat} {Q : Option ab_V → ab_H → Prop} (hw : wBc y Q (fun t lo st h u => Sx y t lo st h u Q) sg (fun lo st h u => Sx y s lo st h u Q) lo st h u) : Sx y n lo st h u Q := by
  subst he
  have key : ∀ (r : List ab_I) (n : Nat) (lo st : List ab_V) (h : ab_H) (u : Nat × Nat), ((mC y).drop n).take r.length = r → wBc y Q (fun t lo st h u => Sx y t lo st h u Q) r (fun lo st h u => Sx y (n + r.length) lo st h u Q) lo st h u → Sem y n lo st h u Q := by
    intro r
    induction r with
    | nil => intro n lo st h u _ hw; exact hw.un
    | cons q r ih =>
      intro n lo st h u hr hw
      have hq : (mC y)[n]? = some q := by
        have := congrArg (fun l => l[0]?) hr
        simpa using this
      have hr' : ((mC y).drop (n + 1)).take r.length = r := by
        cases hM : (mC y).drop n with
        | nil => rw [hM] at hr; simp at hr
        | cons a M' =>
          have h1 : (mC y).drop (n + 1) = M' := by
            have := congrArg List.tail hM
            simpa using this
          rw [hM] at hr
          rw [h1]
          exact (List.cons.inj hr).2
      refine s_all (F := ⟨hy, hq⟩) (fun lo st h u k' => ih (n + 1) lo st h u hr' ?_) (fun t lo st h u k => k.un) hw
      rw [show n + 1 + r.length = n + (q :: r).length by simp; omega]
      exact k'
  exact ⟨(), key sg n lo st h u hs hw⟩
def wInc (k : Nat) (z : Int) (c : ab_C) : ab_C := fun lo st h u => match ab_ld lo k with
  | .inl a => i32 (a + z) ∧ c (ab_st lo k (.inl (a + z))) st h u
  | _ => False
def wRef (o : Option Nat) (f : Nat → Prop) : Prop := match o with
  | some j => f j
  | none => False
theorem wRef_some {j : Nat} {f : Nat → Prop} : wRef (some j) f = f j := rfl
section Rules
variable {y : Nat} {Q : Option ab_V → ab_H → Prop} {K : Nat → ab_C} {c : ab_C} {r : List ab_I} {lo st : List ab_V} {E : ab_E} {D : ab_D} {h : ab_H} {u : Nat × Nat}
theorem e_nil : wBc y Q K [] c lo st h u = c lo st h u := rfl
theorem e_iload {pc len : Nat} {k i : Nat} : wBc y Q K ((pc, .iload k, len, [i]) :: r) c lo st h u = (wLd i (wBc y Q K r c) lo st h u) := rfl
theorem e_iload_n {pc len : Nat} {k : Fin 4} {i : Nat} : wBc y Q K ((pc, .iload_n k, len, [i]) :: r) c lo st h u = (wLd i (wBc y Q K r c) lo st h u) := rfl
theorem e_aload {pc len : Nat} {k i : Nat} : wBc y Q K ((pc, .aload k, len, [i]) :: r) c lo st h u = (wLdA i (wBc y Q K r c) lo st h u) := rfl
theorem e_aload_n {pc len : Nat} {k : Fin 4} {i : Nat} : wBc y Q K ((pc, .aload_n k, len, [i]) :: r) c lo st h u = (wLdA i (wBc y Q K r c) lo st h u) := rfl
theorem e_lload {pc len : Nat} {k i : Nat} : wBc y Q K ((pc, .lload k, len, [i]) :: r) c lo st h u = (wLdL i (wBc y Q K r c) lo st h u) := rfl
theorem e_lload_n {pc len : Nat} {k : Fin 4} {i : Nat} : wBc y Q K ((pc, .lload_n k, len, [i]) :: r) c lo st h u = (wLdL i (wBc y Q K r c) lo st h u) := rfl
theorem e_istore {pc len : Nat} {k i : Nat} : wBc y Q K ((pc, .istore k, len, [i]) :: r) c lo st h u = (wSt i (wBc y Q K r c) lo st h u) := rfl
theorem e_istore_n {pc len : Nat} {k : Fin 4} {i : Nat} : wBc y Q K ((pc, .istore_n k, len, [i]) :: r) c lo st h u = (wSt i (wBc y Q K r c) lo st h u) := rfl
theorem e_astore {pc len : Nat} {k i : Nat} : wBc y Q K ((pc, .astore k, len, [i]) :: r) c lo st h u = (wStA i (wBc y Q K r c) lo st h u) := rfl
theorem e_astore_n {pc len : Nat} {k : Fin 4} {i : Nat} : wBc y Q K ((pc, .astore_n k, len, [i]) :: r) c lo st h u = (wStA i (wBc y Q K r c) lo st h u) := rfl
theorem e_lstore {pc len : Nat} {k i : Nat} : wBc y Q K ((pc, .lstore k, len, [i]) :: r) c lo st h u = (wStL i (wBc y Q K r c) lo st h u) := rfl
theorem e_lstore_n {pc len : Nat} {k : Fin 4} {i : Nat} : wBc y Q K ((pc, .lstore_n k, len, [i]) :: r) c lo st h u = (wStL i (wBc y Q K r c) lo st h u) := rfl

theorem e_iinc {pc len : Nat} {k i : Nat} {z : Int} : wBc y Q K ((pc, .iinc k z, len, [i]) :: r) c lo st h u = (wInc i z (wBc y Q K r c) lo st h u) := rfl
theorem e_iconst {pc len : Nat} {z : Int} {ax : List Nat} : wBc y Q K ((pc, .iconst z, len, ax) :: r) c lo st h u = ((wBc y Q K r c) lo (.inl z :: st) h u) := rfl
theorem e_bipush {pc len : Nat} {z : Int} {ax : List Nat} : wBc y Q K ((pc, .bipush z, len, ax) :: r) c lo st h u = ((wBc y Q K r c) lo (.inl z :: st) h u) := rfl
theorem e_sipush {pc len : Nat} {z : Int} {ax : List Nat} : wBc y Q K ((pc, .sipush z, len, ax) :: r) c lo st h u = ((wBc y Q K r c) lo (.inl z :: st) h u) := rfl
theorem e_lconst {pc len : Nat} {z : Fin 2} {k : Nat} : wBc y Q K ((pc, .lconst z, len, [k]) :: r) c lo st h u = ((wBc y Q K r c) lo (.inr (.inl (k : Int)) :: st) h u) := rfl
theorem e_ldc2 {pc len : Nat} {k t a : Nat} : wBc y Q K ((pc, .ldc2_w k, len, [t, 0, a]) :: r) c lo st h u = ((wBc y Q K r c) lo (.inr (.inl (a : Int)) :: st) h u) := rfl
theorem e_ldc2m {pc len : Nat} {k t a : Nat} : wBc y Q K ((pc, .ldc2_w k, len, [t, 1, a]) :: r) c lo st h u = ((wBc y Q K r c) lo (.inr (.inl (-(a : Int))) :: st) h u) := rfl
theorem e_iadd {pc len : Nat} {ax : List Nat} {a b : Int} : wBc y Q K ((pc, .iadd, len, ax) :: r) c lo (.inl b :: .inl a :: st) h u = ((i32 (a + b)) ∧ (wBc y Q K r c) lo (.inl (a + b) :: st) h u) := rfl
theorem e_isub {pc len : Nat} {ax : List Nat} {a b : Int} : wBc y Q K ((pc, .isub, len, ax) :: r) c lo (.inl b :: .inl a :: st) h u = ((i32 (a - b)) ∧ (wBc y Q K r c) lo (.inl (a - b) :: st) h u) := rfl
theorem e_imul {pc len : Nat} {ax : List Nat} {a b : Int} : wBc y Q K ((pc, .imul, len, ax) :: r) c lo (.inl b :: .inl a :: st) h u = ((i32 (a * b)) ∧ (wBc y Q K r c) lo (.inl (a * b) :: st) h u) := rfl
theorem e_idiv {pc len : Nat} {ax : List Nat} {a b : Int} : wBc y Q K ((pc, .idiv, len, ax) :: r) c lo (.inl b :: .inl a :: st) h u = ((0 ≤ a ∧ 0 < b) ∧ (wBc y Q K r c) lo (.inl (a / b) :: st) h u) := rfl
theorem e_irem {pc len : Nat} {ax : List Nat} {a b : Int} : wBc y Q K ((pc, .irem, len, ax) :: r) c lo (.inl b :: .inl a :: st) h u = ((0 ≤ a ∧ 0 < b) ∧ (wBc y Q K r c) lo (.inl (a % b) :: st) h u) := rfl
theorem e_iand {pc len : Nat} {ax : List Nat} {a b : Int} : wBc y Q K ((pc, .iand, len, ax) :: r) c lo (.inl b :: .inl a :: st) h u = ((wBc y Q K r c) lo (.inl ((Int32.ofInt a &&& Int32.ofInt b).toInt) :: st) h u) := propext ⟨fun q => q.2, fun q => ⟨trivial, q⟩⟩
theorem e_ior {pc len : Nat} {ax : List Nat} {a b : Int} : wBc y Q K ((pc, .ior, len, ax) :: r) c lo (.inl b :: .inl a :: st) h u = ((wBc y Q K r c) lo (.inl ((Int32.ofInt a ||| Int32.ofInt b).toInt) :: st) h u) := propext ⟨fun q => q.2, fun q => ⟨trivial, q⟩⟩
theorem e_ishl {pc len : Nat} {ax : List Nat} {a b : Int} : wBc y Q K ((pc, .ishl, len, ax) :: r) c lo (.inl b :: .inl a :: st) h u = ((wBc y Q K r c) lo (.inl ((Int32.ofInt a <<< (Int32.ofInt b &&& 31)).toInt) :: st) h u) := propext ⟨fun q => q.2, fun q => ⟨trivial, q⟩⟩
theorem e_ishr {pc len : Nat} {ax : List Nat} {a b : Int} : wBc y Q K ((pc, .ishr, len, ax) :: r) c lo (.inl b :: .inl a :: st) h u = ((wBc y Q K r c) lo (.inl ((Int32.ofInt a >>> (Int32.ofInt b &&& 31)).toInt) :: st) h u) := propext ⟨fun q => q.2, fun q => ⟨trivial, q⟩⟩
theorem e_ineg {pc len : Nat} {ax : List Nat} {a b : Int} : wBc y Q K ((pc, .ineg, len, ax) :: r) c lo (.inl a :: st) h u = (i32 (-a) ∧ (wBc y Q K r c) lo (.inl (-a) :: st) h u) := rfl
theorem e_lsub {pc len : Nat} {ax : List Nat} {a b : Int} : wBc y Q K ((pc, .lsub, len, ax) :: r) c lo (.inr (.inl b) :: .inr (.inl a) :: st) h u = ((i64 (a - b)) ∧ (wBc y Q K r c) lo (.inr (.inl (a - b)) :: st) h u) := rfl
theorem e_lmul {pc len : Nat} {ax : List Nat} {a b : Int} : wBc y Q K ((pc, .lmul, len, ax) :: r) c lo (.inr (.inl b) :: .inr (.inl a) :: st) h u = ((i64 (a * b)) ∧ (wBc y Q K r c) lo (.inr (.inl (a * b)) :: st) h u) := rfl
theorem e_ldiv {pc len : Nat} {ax : List Nat} {a b : Int} : wBc y Q K ((pc, .ldiv, len, ax) :: r) c lo (.inr (.inl b) :: .inr (.inl a) :: st) h u = ((0 ≤ a ∧ 0 < b) ∧ (wBc y Q K r c) lo (.inr (.inl (a / b)) :: st) h u) := rfl
theorem e_lrem {pc len : Nat} {ax : List Nat} {a b : Int} : wBc y Q K ((pc, .lrem, len, ax) :: r) c lo (.inr (.inl b) :: .inr (.inl a) :: st) h u = ((0 ≤ a ∧ 0 < b) ∧ (wBc y Q K r c) lo (.inr (.inl (a % b)) :: st) h u) := rfl
theorem e_land {pc len : Nat} {ax : List Nat} {a b : Int} : wBc y Q K ((pc, .land, len, ax) :: r) c lo (.inr (.inl b) :: .inr (.inl a) :: st) h u = ((wBc y Q K r c) lo (.inr (.inl ((Int64.ofInt a &&& Int64.ofInt b).toInt)) :: st) h u) := propext ⟨fun q => q.2, fun q => ⟨trivial, q⟩⟩
theorem e_lor {pc len : Nat} {ax : List Nat} {a b : Int} : wBc y Q K ((pc, .lor, len, ax) :: r) c lo (.inr (.inl b) :: .inr (.inl a) :: st) h u = ((wBc y Q K r c) lo (.inr (.inl ((Int64.ofInt a ||| Int64.ofInt b).toInt)) :: st) h u) := propext ⟨fun q => q.2, fun q => ⟨trivial, q⟩⟩
theorem e_lshl {pc len : Nat} {ax : List Nat} {a b : Int} : wBc y Q K ((pc, .lshl, len, ax) :: r) c lo (.inl b :: .inr (.inl a) :: st) h u = ((wBc y Q K r c) lo (.inr (.inl ((Int64.ofInt a <<< ((Int32.ofInt b).toInt64 &&& 63)).toInt)) :: st) h u) := rfl
theorem e_lshr {pc len : Nat} {ax : List Nat} {a b : Int} : wBc y Q K ((pc, .lshr, len, ax) :: r) c lo (.inl b :: .inr (.inl a) :: st) h u = ((wBc y Q K r c) lo (.inr (.inl ((Int64.ofInt a >>> ((Int32.ofInt b).toInt64 &&& 63)).toInt)) :: st) h u) := rfl
theorem e_lushr {pc len : Nat} {ax : List Nat} {a b : Int} : wBc y Q K ((pc, .lushr, len, ax) :: r) c lo (.inl b :: .inr (.inl a) :: st) h u = ((wBc y Q K r c) lo (.inr (.inl ((((Int64.ofInt a).toUInt64 >>> ((Int32.ofInt b).toInt64.toUInt64 &&& Int64.toUInt64 63)).toInt64).toInt)) :: st) h u) := rfl
theorem e_i2l {pc len : Nat} {ax : List Nat} {a b : Int} : wBc y Q K ((pc, .i2l, len, ax) :: r) c lo (.inl a :: st) h u = ((wBc y Q K r c) lo (.inr (.inl a) :: st) h u) := rfl
theorem e_l2i {pc len : Nat} {ax : List Nat} {a b : Int} : wBc y Q K ((pc, .l2i, len, ax) :: r) c lo (.inr (.inl a) :: st) h u = ((wBc y Q K r c) lo (.inl ((Int64.ofInt a).toInt32).toInt :: st) h u) := rfl
theorem e_lcmp {pc len : Nat} {ax : List Nat} {a b : Int} : wBc y Q K ((pc, .lcmp, len, ax) :: r) c lo (.inr (.inl b) :: .inr (.inl a) :: st) h u = ((wBc y Q K r c) lo (.inl (if b < a then 1 else if a = b then 0 else -1) :: st) h u) := rfl
theorem e_dupI {pc len : Nat} {ax : List Nat} {a b : Int} : wBc y Q K ((pc, .dup, len, ax) :: r) c lo (.inl a :: st) h u = ((wBc y Q K r c) lo (.inl a :: .inl a :: st) h u) := rfl
theorem e_dupR {pc len : Nat} {ax : List Nat} {k : Nat} : wBc y Q K ((pc, .dup, len, ax) :: r) c lo (.inr (.inr (some k)) :: st) h u = ((wBc y Q K r c) lo (.inr (.inr (some k)) :: .inr (.inr (some k)) :: st) h u) := rfl
theorem e_dup2 {pc len : Nat} {ax : List Nat} {a : Int} {k : Nat} : wBc y Q K ((pc, .dup2, len, ax) :: r) c lo (.inl a :: .inr (.inr (some k)) :: st) h u = ((wBc y Q K r c) lo (.inl a :: .inr (.inr (some k)) :: .inl a :: .inr (.inr (some k)) :: st) h u) := rfl
theorem e_pop {pc len : Nat} {ax : List Nat} {a b : Int} : wBc y Q K ((pc, .pop, len, ax) :: r) c lo (.inl a :: st) h u = ((wBc y Q K r c) lo st h u) := rfl
theorem e_iaload {pc len : Nat} {ax : List Nat} {x z : Int} {i j : Nat} : wBc y Q K ((pc, .iaload, len, ax) :: r) c lo (.inl x :: .inr (.inr (some i)) :: st) (E, D) u = (ab_ia E i ∧ (0 ≤ x ∧ x < (E.2.1 i).2) ∧ (wBc y Q K r c) lo (.inl (D i x.toNat) :: st) (E, D) u) := rfl
theorem e_baload {pc len : Nat} {ax : List Nat} {x z : Int} {i j : Nat} : wBc y Q K ((pc, .baload, len, ax) :: r) c lo (.inl x :: .inr (.inr (some i)) :: st) (E, D) u = ((i < E.1 ∧ (E.2.1 i).1 = 1) ∧ (0 ≤ x ∧ x < (E.2.1 i).2) ∧ (wBc y Q K r c) lo (.inl (D i x.toNat) :: st) (E, D) u) := rfl
theorem e_iastore {pc len : Nat} {ax : List Nat} {x z : Int} {i j : Nat} : wBc y Q K ((pc, .iastore, len, ax) :: r) c lo (.inl z :: .inl x :: .inr (.inr (some i)) :: st) (E, D) u = ((i < E.1 ∧ (E.2.1 i).1 = 0) ∧ (0 ≤ x ∧ x < (E.2.1 i).2) ∧ (wBc y Q K r c) lo st (E, ups D i x.toNat z) u) := rfl
theorem e_bastore {pc len : Nat} {ax : List Nat} {x z : Int} {i j : Nat} : wBc y Q K ((pc, .bastore, len, ax) :: r) c lo (.inl z :: .inl x :: .inr (.inr (some i)) :: st) (E, D) u = ((i < E.1 ∧ (E.2.1 i).1 = 1) ∧ (0 ≤ x ∧ x < (E.2.1 i).2) ∧ (z = 0 ∨ z = 1) ∧ (wBc y Q K r c) lo st (E, ups D i x.toNat z) u) := rfl
theorem e_aaload {pc len : Nat} {ax : List Nat} {x z : Int} {i j : Nat} : wBc y Q K ((pc, .aaload, len, ax) :: r) c lo (.inl x :: .inr (.inr (some i)) :: st) (E, D) u = ((i < E.1 ∧ (E.2.1 i).1 = 2) ∧ (0 ≤ x ∧ x < (E.2.1 i).2) ∧ wRef (E.2.2 i x.toNat) (fun j => (wBc y Q K r c) lo (.inr (.inr (some j)) :: st) (E, D) u)) := rfl
theorem e_aastore {pc len : Nat} {ax : List Nat} {x z : Int} {i j : Nat} : wBc y Q K ((pc, .aastore, len, ax) :: r) c lo (.inr (.inr (some j)) :: .inl x :: .inr (.inr (some i)) :: st) (E, D) u = ((i < E.1 ∧ (E.2.1 i).1 = 2) ∧ (0 ≤ x ∧ x < (E.2.1 i).2) ∧ (j < E.1 ∧ (E.2.1 j).1 = 7) ∧ (wBc y Q K r c) lo st ((E.1, E.2.1, upq E.2.2 i x.toNat j), D) u) := rfl
theorem e_alen {pc len : Nat} {ax : List Nat} {x z : Int} {i j : Nat} : wBc y Q K ((pc, .arraylength, len, ax) :: r) c lo (.inr (.inr (some i)) :: st) (E, D) u = (ab_ia E i ∧ (E.2.1 i).2 < 2147483648 ∧ (wBc y Q K r c) lo (.inl (E.2.1 i).2 :: st) (E, D) u) := rfl
theorem e_get0 {pc len : Nat} {f cc k t i : Nat} : wBc y Q K ((pc, .getfield f, len, [cc, k, 0, t]) :: r) c lo (.inr (.inr (some i)) :: st) (E, D) u = ((i < E.1 ∧ (E.2.1 i).1 = cc + 3) ∧ (wBc y Q K r c) lo (.inl (D i k) :: st) (E, D) u) := rfl
theorem e_get1 {pc len : Nat} {f cc k t i : Nat} : wBc y Q K ((pc, .getfield f, len, [cc, k, 1, t]) :: r) c lo (.inr (.inr (some i)) :: st) (E, D) u = ((i < E.1 ∧ (E.2.1 i).1 = cc + 3) ∧ wRef (E.2.2 i k) (fun j => (wBc y Q K r c) lo (.inr (.inr (some j)) :: st) (E, D) u)) := rfl
theorem e_put0 {pc len : Nat} {f cc k t i : Nat} {z : Int} : wBc y Q K ((pc, .putfield f, len, [cc, k, 0, t]) :: r) c lo (.inl z :: .inr (.inr (some i)) :: st) (E, D) u = ((i < E.1 ∧ (E.2.1 i).1 = cc + 3) ∧ (wBc y Q K r c) lo st (E, ups D i k z) u) := rfl
theorem e_put1 {pc len : Nat} {f cc k t i j : Nat} : wBc y Q K ((pc, .putfield f, len, [cc, k, 1, t]) :: r) c lo (.inr (.inr (some j)) :: .inr (.inr (some i)) :: st) (E, D) u = ((i < E.1 ∧ (E.2.1 i).1 = cc + 3 ∧ j < E.1) ∧ (wBc y Q K r c) lo st ((E.1, E.2.1, upq E.2.2 i k j), D) u) := rfl
theorem e_gets {pc len : Nat} {f p t ne : Nat} : wBc y Q K ((pc, .getstatic f, len, [p, t, ne]) :: r) c lo st h u = ((wBc y Q K r c) lo (.inr (.inr (some p)) :: st) h u) := rfl
theorem e_new {pc len : Nat} {f cc t t2 t3 : Nat} : wBc y Q K ((pc, .new f, len, [cc, t, t2, t3]) :: r) c lo st h u = (wNew y cc (wBc y Q K r c) lo st h u) := rfl
theorem e_newa {pc len : Nat} {f : ArrayType} {kd : Nat} {z : Int} : wBc y Q K ((pc, .newarray f, len, [kd]) :: r) c lo (.inl z :: st) h u = (wNewa y kd (wBc y Q K r c) lo (.inl z :: st) h u) := rfl
theorem e_anew {pc len : Nat} {f t : Nat} {z : Int} : wBc y Q K ((pc, .anewarray f, len, [t]) :: r) c lo (.inl z :: st) h u = (wNewa y 2 (wBc y Q K r c) lo (.inl z :: st) h u) := rfl
theorem e_objInit {pc len : Nat} {f t i : Nat} : wBc y Q K ((pc, .invokespecial f, len, [t]) :: r) c lo (.inr (.inr (some i)) :: st) h u = (st.length ≤ 4 ∧ (wBc y Q K r c) lo st h u) := rfl
theorem e_copy {pc len : Nat} {f t a b : Nat} {n dp sp : Int} : wBc y Q K ((pc, .invokestatic f, len, [t]) :: r) c lo (.inl n :: .inl dp :: .inr (.inr (some b)) :: .inl sp :: .inr (.inr (some a)) :: st) (E, D) u = ((st.length ≤ 4 ∧ a < E.1 ∧ b < E.1 ∧ (E.2.1 a).1 = 0 ∧ (E.2.1 b).1 = 0 ∧ 0 ≤ sp ∧ 0 ≤ dp ∧ 0 ≤ n ∧ sp + n ≤ (E.2.1 a).2 ∧ dp + n ≤ (E.2.1 b).2) ∧ (wBc y Q K r c) lo st (E, upr D b (fun j => if dp.toNat ≤ j ∧ j < dp.toNat + n.toNat then D a (sp.toNat + (j - dp.toNat)) else D b j)) u) := rfl
theorem e_abs {pc len : Nat} {f t : Nat} {a : Int} : wBc y Q K ((pc, .invokestatic f, len, [0, t]) :: r) c lo (.inl a :: st) h u = ((st.length ≤ 4 ∧ i32 (-a)) ∧ (wBc y Q K r c) lo (.inl (if 0 ≤ a then a else -a) :: st) h u) := rfl
theorem e_max {pc len : Nat} {f t : Nat} {a b : Int} : wBc y Q K ((pc, .invokestatic f, len, [1, t]) :: r) c lo (.inl b :: .inl a :: st) h u = (st.length ≤ 4 ∧ (wBc y Q K r c) lo (.inl (if a < b then b else a) :: st) h u) := rfl
theorem e_maxL {pc len : Nat} {f t : Nat} {a b : Int} : wBc y Q K ((pc, .invokestatic f, len, [2, t]) :: r) c lo (.inr (.inl b) :: .inr (.inl a) :: st) h u = (st.length ≤ 4 ∧ (wBc y Q K r c) lo (.inr (.inl (if a < b then b else a)) :: st) h u) := rfl
theorem e_min {pc len : Nat} {f t : Nat} {a b : Int} : wBc y Q K ((pc, .invokestatic f, len, [3, t]) :: r) c lo (.inl b :: .inl a :: st) h u = (st.length ≤ 4 ∧ (wBc y Q K r c) lo (.inl (if b < a then b else a) :: st) h u) := rfl
theorem e_icmp_eq {pc len : Nat} {o : Int} {t : Nat} {a b : Int} : wBc y Q K ((pc, .if_icmp .eq o, len, [t]) :: r) c lo (.inl b :: .inl a :: st) h u = ((a = b → K t lo st h u) ∧ (¬ (a = b) → (wBc y Q K r c) lo st h u)) := rfl
theorem e_if_eq {pc len : Nat} {o : Int} {t : Nat} {a : Int} : wBc y Q K ((pc, .ifCond .eq o, len, [t]) :: r) c lo (.inl a :: st) h u = ((a = 0 → K t lo st h u) ∧ (¬ (a = 0) → (wBc y Q K r c) lo st h u)) := rfl
theorem e_icmp_ne {pc len : Nat} {o : Int} {t : Nat} {a b : Int} : wBc y Q K ((pc, .if_icmp .ne o, len, [t]) :: r) c lo (.inl b :: .inl a :: st) h u = ((¬ a = b → K t lo st h u) ∧ (¬ (¬ a = b) → (wBc y Q K r c) lo st h u)) := rfl
theorem e_if_ne {pc len : Nat} {o : Int} {t : Nat} {a : Int} : wBc y Q K ((pc, .ifCond .ne o, len, [t]) :: r) c lo (.inl a :: st) h u = ((¬ a = 0 → K t lo st h u) ∧ (¬ (¬ a = 0) → (wBc y Q K r c) lo st h u)) := rfl
theorem e_icmp_lt {pc len : Nat} {o : Int} {t : Nat} {a b : Int} : wBc y Q K ((pc, .if_icmp .lt o, len, [t]) :: r) c lo (.inl b :: .inl a :: st) h u = ((a < b → K t lo st h u) ∧ (¬ (a < b) → (wBc y Q K r c) lo st h u)) := rfl
theorem e_if_lt {pc len : Nat} {o : Int} {t : Nat} {a : Int} : wBc y Q K ((pc, .ifCond .lt o, len, [t]) :: r) c lo (.inl a :: st) h u = ((a < 0 → K t lo st h u) ∧ (¬ (a < 0) → (wBc y Q K r c) lo st h u)) := rfl
theorem e_icmp_ge {pc len : Nat} {o : Int} {t : Nat} {a b : Int} : wBc y Q K ((pc, .if_icmp .ge o, len, [t]) :: r) c lo (.inl b :: .inl a :: st) h u = ((b ≤ a → K t lo st h u) ∧ (¬ (b ≤ a) → (wBc y Q K r c) lo st h u)) := rfl
theorem e_if_ge {pc len : Nat} {o : Int} {t : Nat} {a : Int} : wBc y Q K ((pc, .ifCond .ge o, len, [t]) :: r) c lo (.inl a :: st) h u = ((0 ≤ a → K t lo st h u) ∧ (¬ (0 ≤ a) → (wBc y Q K r c) lo st h u)) := rfl
theorem e_icmp_gt {pc len : Nat} {o : Int} {t : Nat} {a b : Int} : wBc y Q K ((pc, .if_icmp .gt o, len, [t]) :: r) c lo (.inl b :: .inl a :: st) h u = ((b < a → K t lo st h u) ∧ (¬ (b < a) → (wBc y Q K r c) lo st h u)) := rfl
theorem e_if_gt {pc len : Nat} {o : Int} {t : Nat} {a : Int} : wBc y Q K ((pc, .ifCond .gt o, len, [t]) :: r) c lo (.inl a :: st) h u = ((0 < a → K t lo st h u) ∧ (¬ (0 < a) → (wBc y Q K r c) lo st h u)) := rfl
theorem e_icmp_le {pc len : Nat} {o : Int} {t : Nat} {a b : Int} : wBc y Q K ((pc, .if_icmp .le o, len, [t]) :: r) c lo (.inl b :: .inl a :: st) h u = ((a ≤ b → K t lo st h u) ∧ (¬ (a ≤ b) → (wBc y Q K r c) lo st h u)) := rfl
theorem e_if_le {pc len : Nat} {o : Int} {t : Nat} {a : Int} : wBc y Q K ((pc, .ifCond .le o, len, [t]) :: r) c lo (.inl a :: st) h u = ((a ≤ 0 → K t lo st h u) ∧ (¬ (a ≤ 0) → (wBc y Q K r c) lo st h u)) := rfl
theorem e_goto {pc len : Nat} {o : Int} {t : Nat} : wBc y Q K ((pc, .goto o, len, [t]) :: r) c lo st h u = (K t lo st h u) := rfl
theorem e_tab {pc len : Nat} {d a b : Int} {os : Array Int} {td : Nat} {ts : List Nat} {z : Int} : wBc y Q K ((pc, .tableswitch d a b os, len, td :: ts) :: r) c lo (.inl z :: st) h u = (((z < a ∨ b < z) → K td lo st h u) ∧ wTab K z lo st h u a ts) := rfl
theorem e_lk {pc len : Nat} {d : Int} {ps : Array (Int × Int)} {td : Nat} {ts : List Nat} {z : Int} : wBc y Q K ((pc, .lookupswitch d ps, len, td :: ts) :: r) c lo (.inl z :: st) h u = (wLk K z lo st h u td ps.toList ts) := rfl
theorem e_tab0 {z b : Int} : wTab K z lo st h u b [] = (True) := rfl
theorem e_tab1 {z b : Int} {t : Nat} {ts : List Nat} : wTab K z lo st h u b (t :: ts) = ((z = b → K t lo st h u) ∧ wTab K z lo st h u (b + 1) ts) := rfl
theorem e_lk1 {z k o : Int} {td t : Nat} {ps : List (Int × Int)} {ts : List Nat} : wLk K z lo st h u td ((k, o) :: ps) (t :: ts) = ((z = k → K t lo st h u) ∧ (¬ z = k → wLk K z lo st h u td ps ts)) := rfl
theorem e_lk0 {z : Int} {td : Nat} : wLk K z lo st h u td [] [] = (K td lo st h u) := rfl
theorem e_iret0 {pc len : Nat} {z : Int} : wBc y Q K ((pc, .ireturn, len, [0]) :: r) c lo ([.inl z]) h u = (Q (some (.inl z)) h) := propext ⟨fun q => q.2, fun q => ⟨fun z => absurd z (by decide), q⟩⟩
theorem e_iret1 {pc len : Nat} {z : Int} : wBc y Q K ((pc, .ireturn, len, [1]) :: r) c lo ([.inl z]) h u = ((z = 0 ∨ z = 1) ∧ Q (some (.inl z)) h) := propext ⟨fun q => ⟨q.1 rfl, q.2⟩, fun q => ⟨fun _ => q.1, q.2⟩⟩
theorem e_lret {pc len : Nat} {ax : List Nat} {z : Int} : wBc y Q K ((pc, .lreturn, len, ax) :: r) c lo ([.inr (.inl z)]) h u = (Q (some (.inr (.inl z))) h) := rfl
theorem e_vret {pc len : Nat} {ax : List Nat} : wBc y Q K ((pc, .return_, len, ax) :: r) c lo ([]) h u = (Q none h) := rfl
theorem l_ld0 {l : List ab_V} {z : Int} : wLd 0 c (.inl z :: l) st h u = (c (.inl z :: l) (.inl z :: st) h u) := rfl
theorem l_ldL0 {l : List ab_V} {z : Int} : wLdL 0 c (.inr (.inl z) :: l) st h u = (c (.inr (.inl z) :: l) (.inr (.inl z) :: st) h u) := rfl
theorem l_ldA0 {l : List ab_V} {z : Nat} : wLdA 0 c (.inr (.inr (some z)) :: l) st h u = (c (.inr (.inr (some z)) :: l) (.inr (.inr (some z)) :: st) h u) := rfl
theorem l_st0 {l : List ab_V} {x : ab_V} {z : Int} : wSt 0 c (x :: l) (.inl z :: st) h u = (c (.inl z :: l) st h u) := rfl
theorem l_stA0 {l : List ab_V} {x : ab_V} {z : Nat} : wStA 0 c (x :: l) (.inr (.inr (some z)) :: st) h u = (c (.inr (.inr (some z)) :: l) st h u) := rfl
theorem l_stL0 {l : List ab_V} {x x2 : ab_V} {z : Int} : wStL 0 c (x :: x2 :: l) (.inr (.inl z) :: st) h u = (c (.inr (.inl z) :: .inr (.inr none) :: l) st h u) := rfl
theorem l_inc0 {l : List ab_V} {z d : Int} : wInc 0 d c (.inl z :: l) st h u = (i32 (z + d) ∧ c (.inl (z + d) :: l) st h u) := rfl
theorem l_ld1 {a0 : ab_V} {l : List ab_V} {z : Int} : wLd 1 c (a0 :: .inl z :: l) st h u = (c (a0 :: .inl z :: l) (.inl z :: st) h u) := rfl
theorem l_ldL1 {a0 : ab_V} {l : List ab_V} {z : Int} : wLdL 1 c (a0 :: .inr (.inl z) :: l) st h u = (c (a0 :: .inr (.inl z) :: l) (.inr (.inl z) :: st) h u) := rfl
theorem l_ldA1 {a0 : ab_V} {l : List ab_V} {z : Nat} : wLdA 1 c (a0 :: .inr (.inr (some z)) :: l) st h u = (c (a0 :: .inr (.inr (some z)) :: l) (.inr (.inr (some z)) :: st) h u) := rfl
theorem l_st1 {a0 : ab_V} {l : List ab_V} {x : ab_V} {z : Int} : wSt 1 c (a0 :: x :: l) (.inl z :: st) h u = (c (ab_cl a0 :: .inl z :: l) st h u) := rfl
theorem l_stA1 {a0 : ab_V} {l : List ab_V} {x : ab_V} {z : Nat} : wStA 1 c (a0 :: x :: l) (.inr (.inr (some z)) :: st) h u = (c (ab_cl a0 :: .inr (.inr (some z)) :: l) st h u) := rfl
theorem l_stL1 {a0 : ab_V} {l : List ab_V} {x x2 : ab_V} {z : Int} : wStL 1 c (a0 :: x :: x2 :: l) (.inr (.inl z) :: st) h u = (c (ab_cl a0 :: .inr (.inl z) :: .inr (.inr none) :: l) st h u) := rfl
theorem l_inc1 {a0 : ab_V} {l : List ab_V} {z d : Int} : wInc 1 d c (a0 :: .inl z :: l) st h u = (i32 (z + d) ∧ c (ab_cl a0 :: .inl (z + d) :: l) st h u) := rfl
theorem l_ld2 {a0 a1 : ab_V} {l : List ab_V} {z : Int} : wLd 2 c (a0 :: a1 :: .inl z :: l) st h u = (c (a0 :: a1 :: .inl z :: l) (.inl z :: st) h u) := rfl
theorem l_ldL2 {a0 a1 : ab_V} {l : List ab_V} {z : Int} : wLdL 2 c (a0 :: a1 :: .inr (.inl z) :: l) st h u = (c (a0 :: a1 :: .inr (.inl z) :: l) (.inr (.inl z) :: st) h u) := rfl
theorem l_ldA2 {a0 a1 : ab_V} {l : List ab_V} {z : Nat} : wLdA 2 c (a0 :: a1 :: .inr (.inr (some z)) :: l) st h u = (c (a0 :: a1 :: .inr (.inr (some z)) :: l) (.inr (.inr (some z)) :: st) h u) := rfl
theorem l_st2 {a0 a1 : ab_V} {l : List ab_V} {x : ab_V} {z : Int} : wSt 2 c (a0 :: a1 :: x :: l) (.inl z :: st) h u = (c (a0 :: ab_cl a1 :: .inl z :: l) st h u) := rfl
theorem l_stA2 {a0 a1 : ab_V} {l : List ab_V} {x : ab_V} {z : Nat} : wStA 2 c (a0 :: a1 :: x :: l) (.inr (.inr (some z)) :: st) h u = (c (a0 :: ab_cl a1 :: .inr (.inr (some z)) :: l) st h u) := rfl
theorem l_stL2 {a0 a1 : ab_V} {l : List ab_V} {x x2 : ab_V} {z : Int} : wStL 2 c (a0 :: a1 :: x :: x2 :: l) (.inr (.inl z) :: st) h u = (c (a0 :: ab_cl a1 :: .inr (.inl z) :: .inr (.inr none) :: l) st h u) := rfl
theorem l_inc2 {a0 a1 : ab_V} {l : List ab_V} {z d : Int} : wInc 2 d c (a0 :: a1 :: .inl z :: l) st h u = (i32 (z + d) ∧ c (a0 :: ab_cl a1 :: .inl (z + d) :: l) st h u) := rfl
theorem l_ld3 {a0 a1 a2 : ab_V} {l : List ab_V} {z : Int} : wLd 3 c (a0 :: a1 :: a2 :: .inl z :: l) st h u = (c (a0 :: a1 :: a2 :: .inl z :: l) (.inl z :: st) h u) := rfl
theorem l_ldL3 {a0 a1 a2 : ab_V} {l : List ab_V} {z : Int} : wLdL 3 c (a0 :: a1 :: a2 :: .inr (.inl z) :: l) st h u = (c (a0 :: a1 :: a2 :: .inr (.inl z) :: l) (.inr (.inl z) :: st) h u) := rfl
theorem l_ldA3 {a0 a1 a2 : ab_V} {l : List ab_V} {z : Nat} : wLdA 3 c (a0 :: a1 :: a2 :: .inr (.inr (some z)) :: l) st h u = (c (a0 :: a1 :: a2 :: .inr (.inr (some z)) :: l) (.inr (.inr (some z)) :: st) h u) := rfl
theorem l_st3 {a0 a1 a2 : ab_V} {l : List ab_V} {x : ab_V} {z : Int} : wSt 3 c (a0 :: a1 :: a2 :: x :: l) (.inl z :: st) h u = (c (a0 :: a1 :: ab_cl a2 :: .inl z :: l) st h u) := rfl
theorem l_stA3 {a0 a1 a2 : ab_V} {l : List ab_V} {x : ab_V} {z : Nat} : wStA 3 c (a0 :: a1 :: a2 :: x :: l) (.inr (.inr (some z)) :: st) h u = (c (a0 :: a1 :: ab_cl a2 :: .inr (.inr (some z)) :: l) st h u) := rfl
theorem l_stL3 {a0 a1 a2 : ab_V} {l : List ab_V} {x x2 : ab_V} {z : Int} : wStL 3 c (a0 :: a1 :: a2 :: x :: x2 :: l) (.inr (.inl z) :: st) h u = (c (a0 :: a1 :: ab_cl a2 :: .inr (.inl z) :: .inr (.inr none) :: l) st h u) := rfl
theorem l_inc3 {a0 a1 a2 : ab_V} {l : List ab_V} {z d : Int} : wInc 3 d c (a0 :: a1 :: a2 :: .inl z :: l) st h u = (i32 (z + d) ∧ c (a0 :: a1 :: ab_cl a2 :: .inl (z + d) :: l) st h u) := rfl
theorem l_ld4 {a0 a1 a2 a3 : ab_V} {l : List ab_V} {z : Int} : wLd 4 c (a0 :: a1 :: a2 :: a3 :: .inl z :: l) st h u = (c (a0 :: a1 :: a2 :: a3 :: .inl z :: l) (.inl z :: st) h u) := rfl
theorem l_ldL4 {a0 a1 a2 a3 : ab_V} {l : List ab_V} {z : Int} : wLdL 4 c (a0 :: a1 :: a2 :: a3 :: .inr (.inl z) :: l) st h u = (c (a0 :: a1 :: a2 :: a3 :: .inr (.inl z) :: l) (.inr (.inl z) :: st) h u) := rfl
theorem l_ldA4 {a0 a1 a2 a3 : ab_V} {l : List ab_V} {z : Nat} : wLdA 4 c (a0 :: a1 :: a2 :: a3 :: .inr (.inr (some z)) :: l) st h u = (c (a0 :: a1 :: a2 :: a3 :: .inr (.inr (some z)) :: l) (.inr (.inr (some z)) :: st) h u) := rfl
theorem l_st4 {a0 a1 a2 a3 : ab_V} {l : List ab_V} {x : ab_V} {z : Int} : wSt 4 c (a0 :: a1 :: a2 :: a3 :: x :: l) (.inl z :: st) h u = (c (a0 :: a1 :: a2 :: ab_cl a3 :: .inl z :: l) st h u) := rfl
theorem l_stA4 {a0 a1 a2 a3 : ab_V} {l : List ab_V} {x : ab_V} {z : Nat} : wStA 4 c (a0 :: a1 :: a2 :: a3 :: x :: l) (.inr (.inr (some z)) :: st) h u = (c (a0 :: a1 :: a2 :: ab_cl a3 :: .inr (.inr (some z)) :: l) st h u) := rfl
theorem l_stL4 {a0 a1 a2 a3 : ab_V} {l : List ab_V} {x x2 : ab_V} {z : Int} : wStL 4 c (a0 :: a1 :: a2 :: a3 :: x :: x2 :: l) (.inr (.inl z) :: st) h u = (c (a0 :: a1 :: a2 :: ab_cl a3 :: .inr (.inl z) :: .inr (.inr none) :: l) st h u) := rfl
theorem l_inc4 {a0 a1 a2 a3 : ab_V} {l : List ab_V} {z d : Int} : wInc 4 d c (a0 :: a1 :: a2 :: a3 :: .inl z :: l) st h u = (i32 (z + d) ∧ c (a0 :: a1 :: a2 :: ab_cl a3 :: .inl (z + d) :: l) st h u) := rfl
theorem l_ld5 {a0 a1 a2 a3 a4 : ab_V} {l : List ab_V} {z : Int} : wLd 5 c (a0 :: a1 :: a2 :: a3 :: a4 :: .inl z :: l) st h u = (c (a0 :: a1 :: a2 :: a3 :: a4 :: .inl z :: l) (.inl z :: st) h u) := rfl
theorem l_ldL5 {a0 a1 a2 a3 a4 : ab_V} {l : List ab_V} {z : Int} : wLdL 5 c (a0 :: a1 :: a2 :: a3 :: a4 :: .inr (.inl z) :: l) st h u = (c (a0 :: a1 :: a2 :: a3 :: a4 :: .inr (.inl z) :: l) (.inr (.inl z) :: st) h u) := rfl
theorem l_ldA5 {a0 a1 a2 a3 a4 : ab_V} {l : List ab_V} {z : Nat} : wLdA 5 c (a0 :: a1 :: a2 :: a3 :: a4 :: .inr (.inr (some z)) :: l) st h u = (c (a0 :: a1 :: a2 :: a3 :: a4 :: .inr (.inr (some z)) :: l) (.inr (.inr (some z)) :: st) h u) := rfl
theorem l_st5 {a0 a1 a2 a3 a4 : ab_V} {l : List ab_V} {x : ab_V} {z : Int} : wSt 5 c (a0 :: a1 :: a2 :: a3 :: a4 :: x :: l) (.inl z :: st) h u = (c (a0 :: a1 :: a2 :: a3 :: ab_cl a4 :: .inl z :: l) st h u) := rfl
theorem l_stA5 {a0 a1 a2 a3 a4 : ab_V} {l : List ab_V} {x : ab_V} {z : Nat} : wStA 5 c (a0 :: a1 :: a2 :: a3 :: a4 :: x :: l) (.inr (.inr (some z)) :: st) h u = (c (a0 :: a1 :: a2 :: a3 :: ab_cl a4 :: .inr (.inr (some z)) :: l) st h u) := rfl
theorem l_stL5 {a0 a1 a2 a3 a4 : ab_V} {l : List ab_V} {x x2 : ab_V} {z : Int} : wStL 5 c (a0 :: a1 :: a2 :: a3 :: a4 :: x :: x2 :: l) (.inr (.inl z) :: st) h u = (c (a0 :: a1 :: a2 :: a3 :: ab_cl a4 :: .inr (.inl z) :: .inr (.inr none) :: l) st h u) := rfl
theorem l_inc5 {a0 a1 a2 a3 a4 : ab_V} {l : List ab_V} {z d : Int} : wInc 5 d c (a0 :: a1 :: a2 :: a3 :: a4 :: .inl z :: l) st h u = (i32 (z + d) ∧ c (a0 :: a1 :: a2 :: a3 :: ab_cl a4 :: .inl (z + d) :: l) st h u) := rfl
theorem l_ld6 {a0 a1 a2 a3 a4 a5 : ab_V} {l : List ab_V} {z : Int} : wLd 6 c (a0 :: a1 :: a2 :: a3 :: a4 :: a5 :: .inl z :: l) st h u = (c (a0 :: a1 :: a2 :: a3 :: a4 :: a5 :: .inl z :: l) (.inl z :: st) h u) := rfl
theorem l_ldL6 {a0 a1 a2 a3 a4 a5 : ab_V} {l : List ab_V} {z : Int} : wLdL 6 c (a0 :: a1 :: a2 :: a3 :: a4 :: a5 :: .inr (.inl z) :: l) st h u = (c (a0 :: a1 :: a2 :: a3 :: a4 :: a5 :: .inr (.inl z) :: l) (.inr (.inl z) :: st) h u) := rfl
theorem l_ldA6 {a0 a1 a2 a3 a4 a5 : ab_V} {l : List ab_V} {z : Nat} : wLdA 6 c (a0 :: a1 :: a2 :: a3 :: a4 :: a5 :: .inr (.inr (some z)) :: l) st h u = (c (a0 :: a1 :: a2 :: a3 :: a4 :: a5 :: .inr (.inr (some z)) :: l) (.inr (.inr (some z)) :: st) h u) := rfl
theorem l_st6 {a0 a1 a2 a3 a4 a5 : ab_V} {l : List ab_V} {x : ab_V} {z : Int} : wSt 6 c (a0 :: a1 :: a2 :: a3 :: a4 :: a5 :: x :: l) (.inl z :: st) h u = (c (a0 :: a1 :: a2 :: a3 :: a4 :: ab_cl a5 :: .inl z :: l) st h u) := rfl
theorem l_stA6 {a0 a1 a2 a3 a4 a5 : ab_V} {l : List ab_V} {x : ab_V} {z : Nat} : wStA 6 c (a0 :: a1 :: a2 :: a3 :: a4 :: a5 :: x :: l) (.inr (.inr (some z)) :: st) h u = (c (a0 :: a1 :: a2 :: a3 :: a4 :: ab_cl a5 :: .inr (.inr (some z)) :: l) st h u) := rfl
theorem l_stL6 {a0 a1 a2 a3 a4 a5 : ab_V} {l : List ab_V} {x x2 : ab_V} {z : Int} : wStL 6 c (a0 :: a1 :: a2 :: a3 :: a4 :: a5 :: x :: x2 :: l) (.inr (.inl z) :: st) h u = (c (a0 :: a1 :: a2 :: a3 :: a4 :: ab_cl a5 :: .inr (.inl z) :: .inr (.inr none) :: l) st h u) := rfl
theorem l_inc6 {a0 a1 a2 a3 a4 a5 : ab_V} {l : List ab_V} {z d : Int} : wInc 6 d c (a0 :: a1 :: a2 :: a3 :: a4 :: a5 :: .inl z :: l) st h u = (i32 (z + d) ∧ c (a0 :: a1 :: a2 :: a3 :: a4 :: ab_cl a5 :: .inl (z + d) :: l) st h u) := rfl
theorem l_ld7 {a0 a1 a2 a3 a4 a5 a6 : ab_V} {l : List ab_V} {z : Int} : wLd 7 c (a0 :: a1 :: a2 :: a3 :: a4 :: a5 :: a6 :: .inl z :: l) st h u = (c (a0 :: a1 :: a2 :: a3 :: a4 :: a5 :: a6 :: .inl z :: l) (.inl z :: st) h u) := rfl
theorem l_ldL7 {a0 a1 a2 a3 a4 a5 a6 : ab_V} {l : List ab_V} {z : Int} : wLdL 7 c (a0 :: a1 :: a2 :: a3 :: a4 :: a5 :: a6 :: .inr (.inl z) :: l) st h u = (c (a0 :: a1 :: a2 :: a3 :: a4 :: a5 :: a6 :: .inr (.inl z) :: l) (.inr (.inl z) :: st) h u) := rfl
theorem l_ldA7 {a0 a1 a2 a3 a4 a5 a6 : ab_V} {l : List ab_V} {z : Nat} : wLdA 7 c (a0 :: a1 :: a2 :: a3 :: a4 :: a5 :: a6 :: .inr (.inr (some z)) :: l) st h u = (c (a0 :: a1 :: a2 :: a3 :: a4 :: a5 :: a6 :: .inr (.inr (some z)) :: l) (.inr (.inr (some z)) :: st) h u) := rfl
theorem l_st7 {a0 a1 a2 a3 a4 a5 a6 : ab_V} {l : List ab_V} {x : ab_V} {z : Int} : wSt 7 c (a0 :: a1 :: a2 :: a3 :: a4 :: a5 :: a6 :: x :: l) (.inl z :: st) h u = (c (a0 :: a1 :: a2 :: a3 :: a4 :: a5 :: ab_cl a6 :: .inl z :: l) st h u) := rfl
theorem l_stA7 {a0 a1 a2 a3 a4 a5 a6 : ab_V} {l : List ab_V} {x : ab_V} {z : Nat} : wStA 7 c (a0 :: a1 :: a2 :: a3 :: a4 :: a5 :: a6 :: x :: l) (.inr (.inr (some z)) :: st) h u = (c (a0 :: a1 :: a2 :: a3 :: a4 :: a5 :: ab_cl a6 :: .inr (.inr (some z)) :: l) st h u) := rfl
theorem l_stL7 {a0 a1 a2 a3 a4 a5 a6 : ab_V} {l : List ab_V} {x x2 : ab_V} {z : Int} : wStL 7 c (a0 :: a1 :: a2 :: a3 :: a4 :: a5 :: a6 :: x :: x2 :: l) (.inr (.inl z) :: st) h u = (c (a0 :: a1 :: a2 :: a3 :: a4 :: a5 :: ab_cl a6 :: .inr (.inl z) :: .inr (.inr none) :: l) st h u) := rfl
theorem l_inc7 {a0 a1 a2 a3 a4 a5 a6 : ab_V} {l : List ab_V} {z d : Int} : wInc 7 d c (a0 :: a1 :: a2 :: a3 :: a4 :: a5 :: a6 :: .inl z :: l) st h u = (i32 (z + d) ∧ c (a0 :: a1 :: a2 :: a3 :: a4 :: a5 :: ab_cl a6 :: .inl (z + d) :: l) st h u) := rfl
theorem l_ld8 {a0 a1 a2 a3 a4 a5 a6 a7 : ab_V} {l : List ab_V} {z : Int} : wLd 8 c (a0 :: a1 :: a2 :: a3 :: a4 :: a5 :: a6 :: a7 :: .inl z :: l) st h u = (c (a0 :: a1 :: a2 :: a3 :: a4 :: a5 :: a6 :: a7 :: .inl z :: l) (.inl z :: st) h u) := rfl
theorem l_ldL8 {a0 a1 a2 a3 a4 a5 a6 a7 : ab_V} {l : List ab_V} {z : Int} : wLdL 8 c (a0 :: a1 :: a2 :: a3 :: a4 :: a5 :: a6 :: a7 :: .inr (.inl z) :: l) st h u = (c (a0 :: a1 :: a2 :: a3 :: a4 :: a5 :: a6 :: a7 :: .inr (.inl z) :: l) (.inr (.inl z) :: st) h u) := rfl
theorem l_ldA8 {a0 a1 a2 a3 a4 a5 a6 a7 : ab_V} {l : List ab_V} {z : Nat} : wLdA 8 c (a0 :: a1 :: a2 :: a3 :: a4 :: a5 :: a6 :: a7 :: .inr (.inr (some z)) :: l) st h u = (c (a0 :: a1 :: a2 :: a3 :: a4 :: a5 :: a6 :: a7 :: .inr (.inr (some z)) :: l) (.inr (.inr (some z)) :: st) h u) := rfl
theorem l_st8 {a0 a1 a2 a3 a4 a5 a6 a7 : ab_V} {l : List ab_V} {x : ab_V} {z : Int} : wSt 8 c (a0 :: a1 :: a2 :: a3 :: a4 :: a5 :: a6 :: a7 :: x :: l) (.inl z :: st) h u = (c (a0 :: a1 :: a2 :: a3 :: a4 :: a5 :: a6 :: ab_cl a7 :: .inl z :: l) st h u) := rfl
theorem l_stA8 {a0 a1 a2 a3 a4 a5 a6 a7 : ab_V} {l : List ab_V} {x : ab_V} {z : Nat} : wStA 8 c (a0 :: a1 :: a2 :: a3 :: a4 :: a5 :: a6 :: a7 :: x :: l) (.inr (.inr (some z)) :: st) h u = (c (a0 :: a1 :: a2 :: a3 :: a4 :: a5 :: a6 :: ab_cl a7 :: .inr (.inr (some z)) :: l) st h u) := rfl
theorem l_stL8 {a0 a1 a2 a3 a4 a5 a6 a7 : ab_V} {l : List ab_V} {x x2 : ab_V} {z : Int} : wStL 8 c (a0 :: a1 :: a2 :: a3 :: a4 :: a5 :: a6 :: a7 :: x :: x2 :: l) (.inr (.inl z) :: st) h u = (c (a0 :: a1 :: a2 :: a3 :: a4 :: a5 :: a6 :: ab_cl a7 :: .inr (.inl z) :: .inr (.inr none) :: l) st h u) := rfl
theorem l_inc8 {a0 a1 a2 a3 a4 a5 a6 a7 : ab_V} {l : List ab_V} {z d : Int} : wInc 8 d c (a0 :: a1 :: a2 :: a3 :: a4 :: a5 :: a6 :: a7 :: .inl z :: l) st h u = (i32 (z + d) ∧ c (a0 :: a1 :: a2 :: a3 :: a4 :: a5 :: a6 :: ab_cl a7 :: .inl (z + d) :: l) st h u) := rfl
theorem l_ld9 {a0 a1 a2 a3 a4 a5 a6 a7 a8 : ab_V} {l : List ab_V} {z : Int} : wLd 9 c (a0 :: a1 :: a2 :: a3 :: a4 :: a5 :: a6 :: a7 :: a8 :: .inl z :: l) st h u = (c (a0 :: a1 :: a2 :: a3 :: a4 :: a5 :: a6 :: a7 :: a8 :: .inl z :: l) (.inl z :: st) h u) := rfl
theorem l_ldL9 {a0 a1 a2 a3 a4 a5 a6 a7 a8 : ab_V} {l : List ab_V} {z : Int} : wLdL 9 c (a0 :: a1 :: a2 :: a3 :: a4 :: a5 :: a6 :: a7 :: a8 :: .inr (.inl z) :: l) st h u = (c (a0 :: a1 :: a2 :: a3 :: a4 :: a5 :: a6 :: a7 :: a8 :: .inr (.inl z) :: l) (.inr (.inl z) :: st) h u) := rfl
theorem l_ldA9 {a0 a1 a2 a3 a4 a5 a6 a7 a8 : ab_V} {l : List ab_V} {z : Nat} : wLdA 9 c (a0 :: a1 :: a2 :: a3 :: a4 :: a5 :: a6 :: a7 :: a8 :: .inr (.inr (some z)) :: l) st h u = (c (a0 :: a1 :: a2 :: a3 :: a4 :: a5 :: a6 :: a7 :: a8 :: .inr (.inr (some z)) :: l) (.inr (.inr (some z)) :: st) h u) := rfl
theorem l_st9 {a0 a1 a2 a3 a4 a5 a6 a7 a8 : ab_V} {l : List ab_V} {x : ab_V} {z : Int} : wSt 9 c (a0 :: a1 :: a2 :: a3 :: a4 :: a5 :: a6 :: a7 :: a8 :: x :: l) (.inl z :: st) h u = (c (a0 :: a1 :: a2 :: a3 :: a4 :: a5 :: a6 :: a7 :: ab_cl a8 :: .inl z :: l) st h u) := rfl
theorem l_stA9 {a0 a1 a2 a3 a4 a5 a6 a7 a8 : ab_V} {l : List ab_V} {x : ab_V} {z : Nat} : wStA 9 c (a0 :: a1 :: a2 :: a3 :: a4 :: a5 :: a6 :: a7 :: a8 :: x :: l) (.inr (.inr (some z)) :: st) h u = (c (a0 :: a1 :: a2 :: a3 :: a4 :: a5 :: a6 :: a7 :: ab_cl a8 :: .inr (.inr (some z)) :: l) st h u) := rfl
theorem l_stL9 {a0 a1 a2 a3 a4 a5 a6 a7 a8 : ab_V} {l : List ab_V} {x x2 : ab_V} {z : Int} : wStL 9 c (a0 :: a1 :: a2 :: a3 :: a4 :: a5 :: a6 :: a7 :: a8 :: x :: x2 :: l) (.inr (.inl z) :: st) h u = (c (a0 :: a1 :: a2 :: a3 :: a4 :: a5 :: a6 :: a7 :: ab_cl a8 :: .inr (.inl z) :: .inr (.inr none) :: l) st h u) := rfl
theorem l_inc9 {a0 a1 a2 a3 a4 a5 a6 a7 a8 : ab_V} {l : List ab_V} {z d : Int} : wInc 9 d c (a0 :: a1 :: a2 :: a3 :: a4 :: a5 :: a6 :: a7 :: a8 :: .inl z :: l) st h u = (i32 (z + d) ∧ c (a0 :: a1 :: a2 :: a3 :: a4 :: a5 :: a6 :: a7 :: ab_cl a8 :: .inl (z + d) :: l) st h u) := rfl
theorem l_ld10 {a0 a1 a2 a3 a4 a5 a6 a7 a8 a9 : ab_V} {l : List ab_V} {z : Int} : wLd 10 c (a0 :: a1 :: a2 :: a3 :: a4 :: a5 :: a6 :: a7 :: a8 :: a9 :: .inl z :: l) st h u = (c (a0 :: a1 :: a2 :: a3 :: a4 :: a5 :: a6 :: a7 :: a8 :: a9 :: .inl z :: l) (.inl z :: st) h u) := rfl
theorem l_ldL10 {a0 a1 a2 a3 a4 a5 a6 a7 a8 a9 : ab_V} {l : List ab_V} {z : Int} : wLdL 10 c (a0 :: a1 :: a2 :: a3 :: a4 :: a5 :: a6 :: a7 :: a8 :: a9 :: .inr (.inl z) :: l) st h u = (c (a0 :: a1 :: a2 :: a3 :: a4 :: a5 :: a6 :: a7 :: a8 :: a9 :: .inr (.inl z) :: l) (.inr (.inl z) :: st) h u) := rfl
theorem l_ldA10 {a0 a1 a2 a3 a4 a5 a6 a7 a8 a9 : ab_V} {l : List ab_V} {z : Nat} : wLdA 10 c (a0 :: a1 :: a2 :: a3 :: a4 :: a5 :: a6 :: a7 :: a8 :: a9 :: .inr (.inr (some z)) :: l) st h u = (c (a0 :: a1 :: a2 :: a3 :: a4 :: a5 :: a6 :: a7 :: a8 :: a9 :: .inr (.inr (some z)) :: l) (.inr (.inr (some z)) :: st) h u) := rfl
theorem l_st10 {a0 a1 a2 a3 a4 a5 a6 a7 a8 a9 : ab_V} {l : List ab_V} {x : ab_V} {z : Int} : wSt 10 c (a0 :: a1 :: a2 :: a3 :: a4 :: a5 :: a6 :: a7 :: a8 :: a9 :: x :: l) (.inl z :: st) h u = (c (a0 :: a1 :: a2 :: a3 :: a4 :: a5 :: a6 :: a7 :: a8 :: ab_cl a9 :: .inl z :: l) st h u) := rfl
theorem l_stA10 {a0 a1 a2 a3 a4 a5 a6 a7 a8 a9 : ab_V} {l : List ab_V} {x : ab_V} {z : Nat} : wStA 10 c (a0 :: a1 :: a2 :: a3 :: a4 :: a5 :: a6 :: a7 :: a8 :: a9 :: x :: l) (.inr (.inr (some z)) :: st) h u = (c (a0 :: a1 :: a2 :: a3 :: a4 :: a5 :: a6 :: a7 :: a8 :: ab_cl a9 :: .inr (.inr (some z)) :: l) st h u) := rfl
theorem l_stL10 {a0 a1 a2 a3 a4 a5 a6 a7 a8 a9 : ab_V} {l : List ab_V} {x x2 : ab_V} {z : Int} : wStL 10 c (a0 :: a1 :: a2 :: a3 :: a4 :: a5 :: a6 :: a7 :: a8 :: a9 :: x :: x2 :: l) (.inr (.inl z) :: st) h u = (c (a0 :: a1 :: a2 :: a3 :: a4 :: a5 :: a6 :: a7 :: a8 :: ab_cl a9 :: .inr (.inl z) :: .inr (.inr none) :: l) st h u) := rfl
theorem l_inc10 {a0 a1 a2 a3 a4 a5 a6 a7 a8 a9 : ab_V} {l : List ab_V} {z d : Int} : wInc 10 d c (a0 :: a1 :: a2 :: a3 :: a4 :: a5 :: a6 :: a7 :: a8 :: a9 :: .inl z :: l) st h u = (i32 (z + d) ∧ c (a0 :: a1 :: a2 :: a3 :: a4 :: a5 :: a6 :: a7 :: a8 :: ab_cl a9 :: .inl (z + d) :: l) st h u) := rfl
theorem l_ld11 {a0 a1 a2 a3 a4 a5 a6 a7 a8 a9 a10 : ab_V} {l : List ab_V} {z : Int} : wLd 11 c (a0 :: a1 :: a2 :: a3 :: a4 :: a5 :: a6 :: a7 :: a8 :: a9 :: a10 :: .inl z :: l) st h u = (c (a0 :: a1 :: a2 :: a3 :: a4 :: a5 :: a6 :: a7 :: a8 :: a9 :: a10 :: .inl z :: l) (.inl z :: st) h u) := rfl
theorem l_ldL11 {a0 a1 a2 a3 a4 a5 a6 a7 a8 a9 a10 : ab_V} {l : List ab_V} {z : Int} : wLdL 11 c (a0 :: a1 :: a2 :: a3 :: a4 :: a5 :: a6 :: a7 :: a8 :: a9 :: a10 :: .inr (.inl z) :: l) st h u = (c (a0 :: a1 :: a2 :: a3 :: a4 :: a5 :: a6 :: a7 :: a8 :: a9 :: a10 :: .inr (.inl z) :: l) (.inr (.inl z) :: st) h u) := rfl
theorem l_ldA11 {a0 a1 a2 a3 a4 a5 a6 a7 a8 a9 a10 : ab_V} {l : List ab_V} {z : Nat} : wLdA 11 c (a0 :: a1 :: a2 :: a3 :: a4 :: a5 :: a6 :: a7 :: a8 :: a9 :: a10 :: .inr (.inr (some z)) :: l) st h u = (c (a0 :: a1 :: a2 :: a3 :: a4 :: a5 :: a6 :: a7 :: a8 :: a9 :: a10 :: .inr (.inr (some z)) :: l) (.inr (.inr (some z)) :: st) h u) := rfl
theorem l_st11 {a0 a1 a2 a3 a4 a5 a6 a7 a8 a9 a10 : ab_V} {l : List ab_V} {x : ab_V} {z : Int} : wSt 11 c (a0 :: a1 :: a2 :: a3 :: a4 :: a5 :: a6 :: a7 :: a8 :: a9 :: a10 :: x :: l) (.inl z :: st) h u = (c (a0 :: a1 :: a2 :: a3 :: a4 :: a5 :: a6 :: a7 :: a8 :: a9 :: ab_cl a10 :: .inl z :: l) st h u) := rfl
theorem l_stA11 {a0 a1 a2 a3 a4 a5 a6 a7 a8 a9 a10 : ab_V} {l : List ab_V} {x : ab_V} {z : Nat} : wStA 11 c (a0 :: a1 :: a2 :: a3 :: a4 :: a5 :: a6 :: a7 :: a8 :: a9 :: a10 :: x :: l) (.inr (.inr (some z)) :: st) h u = (c (a0 :: a1 :: a2 :: a3 :: a4 :: a5 :: a6 :: a7 :: a8 :: a9 :: ab_cl a10 :: .inr (.inr (some z)) :: l) st h u) := rfl
theorem l_stL11 {a0 a1 a2 a3 a4 a5 a6 a7 a8 a9 a10 : ab_V} {l : List ab_V} {x x2 : ab_V} {z : Int} : wStL 11 c (a0 :: a1 :: a2 :: a3 :: a4 :: a5 :: a6 :: a7 :: a8 :: a9 :: a10 :: x :: x2 :: l) (.inr (.inl z) :: st) h u = (c (a0 :: a1 :: a2 :: a3 :: a4 :: a5 :: a6 :: a7 :: a8 :: a9 :: ab_cl a10 :: .inr (.inl z) :: .inr (.inr none) :: l) st h u) := rfl
theorem l_inc11 {a0 a1 a2 a3 a4 a5 a6 a7 a8 a9 a10 : ab_V} {l : List ab_V} {z d : Int} : wInc 11 d c (a0 :: a1 :: a2 :: a3 :: a4 :: a5 :: a6 :: a7 :: a8 :: a9 :: a10 :: .inl z :: l) st h u = (i32 (z + d) ∧ c (a0 :: a1 :: a2 :: a3 :: a4 :: a5 :: a6 :: a7 :: a8 :: a9 :: ab_cl a10 :: .inl (z + d) :: l) st h u) := rfl
theorem l_ld12 {a0 a1 a2 a3 a4 a5 a6 a7 a8 a9 a10 a11 : ab_V} {l : List ab_V} {z : Int} : wLd 12 c (a0 :: a1 :: a2 :: a3 :: a4 :: a5 :: a6 :: a7 :: a8 :: a9 :: a10 :: a11 :: .inl z :: l) st h u = (c (a0 :: a1 :: a2 :: a3 :: a4 :: a5 :: a6 :: a7 :: a8 :: a9 :: a10 :: a11 :: .inl z :: l) (.inl z :: st) h u) := rfl
theorem l_ldL12 {a0 a1 a2 a3 a4 a5 a6 a7 a8 a9 a10 a11 : ab_V} {l : List ab_V} {z : Int} : wLdL 12 c (a0 :: a1 :: a2 :: a3 :: a4 :: a5 :: a6 :: a7 :: a8 :: a9 :: a10 :: a11 :: .inr (.inl z) :: l) st h u = (c (a0 :: a1 :: a2 :: a3 :: a4 :: a5 :: a6 :: a7 :: a8 :: a9 :: a10 :: a11 :: .inr (.inl z) :: l) (.inr (.inl z) :: st) h u) := rfl
theorem l_ldA12 {a0 a1 a2 a3 a4 a5 a6 a7 a8 a9 a10 a11 : ab_V} {l : List ab_V} {z : Nat} : wLdA 12 c (a0 :: a1 :: a2 :: a3 :: a4 :: a5 :: a6 :: a7 :: a8 :: a9 :: a10 :: a11 :: .inr (.inr (some z)) :: l) st h u = (c (a0 :: a1 :: a2 :: a3 :: a4 :: a5 :: a6 :: a7 :: a8 :: a9 :: a10 :: a11 :: .inr (.inr (some z)) :: l) (.inr (.inr (some z)) :: st) h u) := rfl
theorem l_st12 {a0 a1 a2 a3 a4 a5 a6 a7 a8 a9 a10 a11 : ab_V} {l : List ab_V} {x : ab_V} {z : Int} : wSt 12 c (a0 :: a1 :: a2 :: a3 :: a4 :: a5 :: a6 :: a7 :: a8 :: a9 :: a10 :: a11 :: x :: l) (.inl z :: st) h u = (c (a0 :: a1 :: a2 :: a3 :: a4 :: a5 :: a6 :: a7 :: a8 :: a9 :: a10 :: ab_cl a11 :: .inl z :: l) st h u) := rfl
theorem l_stA12 {a0 a1 a2 a3 a4 a5 a6 a7 a8 a9 a10 a11 : ab_V} {l : List ab_V} {x : ab_V} {z : Nat} : wStA 12 c (a0 :: a1 :: a2 :: a3 :: a4 :: a5 :: a6 :: a7 :: a8 :: a9 :: a10 :: a11 :: x :: l) (.inr (.inr (some z)) :: st) h u = (c (a0 :: a1 :: a2 :: a3 :: a4 :: a5 :: a6 :: a7 :: a8 :: a9 :: a10 :: ab_cl a11 :: .inr (.inr (some z)) :: l) st h u) := rfl
theorem l_stL12 {a0 a1 a2 a3 a4 a5 a6 a7 a8 a9 a10 a11 : ab_V} {l : List ab_V} {x x2 : ab_V} {z : Int} : wStL 12 c (a0 :: a1 :: a2 :: a3 :: a4 :: a5 :: a6 :: a7 :: a8 :: a9 :: a10 :: a11 :: x :: x2 :: l) (.inr (.inl z) :: st) h u = (c (a0 :: a1 :: a2 :: a3 :: a4 :: a5 :: a6 :: a7 :: a8 :: a9 :: a10 :: ab_cl a11 :: .inr (.inl z) :: .inr (.inr none) :: l) st h u) := rfl
theorem l_inc12 {a0 a1 a2 a3 a4 a5 a6 a7 a8 a9 a10 a11 : ab_V} {l : List ab_V} {z d : Int} : wInc 12 d c (a0 :: a1 :: a2 :: a3 :: a4 :: a5 :: a6 :: a7 :: a8 :: a9 :: a10 :: a11 :: .inl z :: l) st h u = (i32 (z + d) ∧ c (a0 :: a1 :: a2 :: a3 :: a4 :: a5 :: a6 :: a7 :: a8 :: a9 :: a10 :: ab_cl a11 :: .inl (z + d) :: l) st h u) := rfl
theorem cl_I {z : Int} : ab_cl (.inl z) = (.inl z) := rfl
theorem cl_L {z : Int} : ab_cl (.inr (.inl z)) = (.inr (.inr none)) := rfl
theorem cl_R {o : Option Nat} : ab_cl (.inr (.inr o)) = (.inr (.inr o)) := rfl
theorem fl_0 : ab_fl [] = ([]) := rfl
theorem fl_I {z : Int} {l : List ab_V} : ab_fl (.inl z :: l) = (.inl z :: ab_fl l) := rfl
theorem fl_L {z : Int} {l : List ab_V} : ab_fl (.inr (.inl z) :: l) = (.inr (.inl z) :: .inr (.inr none) :: ab_fl l) := rfl
theorem fl_R {o : Option Nat} {l : List ab_V} : ab_fl (.inr (.inr o) :: l) = (.inr (.inr o) :: ab_fl l) := rfl
def wRk (y z rk : Nat) (args : List ab_V) (lo st : List ab_V) (E : ab_E) (D : ab_D) (u : Nat × Nat) (ct : ab_C) : Prop := match rk with
  | 0 => CV z args (E, D) (fun D' => ct lo st (E, D') u)
  | 1 => CI z args (E, D) (fun x D' => ct lo (.inl x :: st) (E, D') u)
  | 2 => CL z args (E, D) (fun x D' => ct lo (.inr (.inl x) :: st) (E, D') u)
  | _ => (u.1 + (mRm z).cells ≤ (mRm y).cells ∧ u.2 + (mRm z).slots ≤ (mRm y).slots) ∧ CN z args (E, D) (fun h' => E.1 ≤ h'.1.1 ∧ ct lo st h' (u.1 + (mRm z).cells, u.2 + (mRm z).slots))
theorem rk_0 {z : Nat} {args : List ab_V} : wRk y z 0 args lo st E D u c = (CV z args (E, D) (fun D' => c lo st (E, D') u)) := rfl
theorem rk_1 {z : Nat} {args : List ab_V} : wRk y z 1 args lo st E D u c = (CI z args (E, D) (fun x D' => c lo (.inl x :: st) (E, D') u)) := rfl
theorem rk_2 {z : Nat} {args : List ab_V} : wRk y z 2 args lo st E D u c = (CL z args (E, D) (fun x D' => c lo (.inr (.inl x) :: st) (E, D') u)) := rfl
theorem rk_3 {z : Nat} {args : List ab_V} : wRk y z 3 args lo st E D u c = ((u.1 + (mRm z).cells ≤ (mRm y).cells ∧ u.2 + (mRm z).slots ≤ (mRm y).slots) ∧ CN z args (E, D) (fun h' => E.1 ≤ h'.1.1 ∧ c lo st h' (u.1 + (mRm z).cells, u.2 + (mRm z).slots))) := rfl
theorem e_cs0 {pc len : Nat} {f z rk t ne ml : Nat} : wBc y Q K ((pc, .invokestatic f, len, [z, 0, rk, t, ne, ml, 0]) :: r) c lo (st) (E, D) u = ((st.length ≤ 4 ∧ (ab_fl []).length ≤ ml) ∧ wRk y z rk [] lo st E D u (wBc y Q K r c)) := by
  apply propext
  constructor
  · rintro ⟨⟨h1, h2, h3⟩, _, h4⟩
    exact ⟨⟨h1, h3⟩, h4⟩
  · rintro ⟨⟨h1, h3⟩, h4⟩
    exact ⟨⟨h1, by simp, h3⟩, Or.inl rfl, h4⟩
theorem e_cv1 {pc len : Nat} {f z rk t ne ml kc i : Nat} : wBc y Q K ((pc, .invokevirtual f, len, [z, 1, rk, t, ne, ml, kc + 1]) :: r) c lo (.inr (.inr (some i)) :: st) (E, D) u = (((st.length ≤ 4 ∧ (ab_fl [.inr (.inr (some i))]).length ≤ ml) ∧ (i < E.1 ∧ (E.2.1 i).1 = kc + 1)) ∧ wRk y z rk [.inr (.inr (some i))] lo st E D u (wBc y Q K r c)) := by
  apply propext
  constructor
  · rintro ⟨⟨h1, h2, h3⟩, h5, h4⟩
    rcases h5 with h5 | ⟨j, h5, h6, h7⟩
    · exact absurd h5 (by omega)
    · cases h5
      exact ⟨⟨⟨h1, h3⟩, h6, h7⟩, h4⟩
  · rintro ⟨⟨⟨h1, h3⟩, h6, h7⟩, h4⟩
    exact ⟨⟨h1, by simp, h3⟩, Or.inr ⟨i, rfl, h6, h7⟩, h4⟩
theorem e_ci1 {pc len : Nat} {f z rk t ne ml kc i : Nat} : wBc y Q K ((pc, .invokespecial f, len, [z, 1, rk, t, ne, ml, kc + 1]) :: r) c lo (.inr (.inr (some i)) :: st) (E, D) u = (((st.length ≤ 4 ∧ (ab_fl [.inr (.inr (some i))]).length ≤ ml) ∧ (i < E.1 ∧ (E.2.1 i).1 = kc + 1)) ∧ wRk y z rk [.inr (.inr (some i))] lo st E D u (wBc y Q K r c)) := by
  apply propext
  constructor
  · rintro ⟨⟨h1, h2, h3⟩, h5, h4⟩
    rcases h5 with h5 | ⟨j, h5, h6, h7⟩
    · exact absurd h5 (by omega)
    · cases h5
      exact ⟨⟨⟨h1, h3⟩, h6, h7⟩, h4⟩
  · rintro ⟨⟨⟨h1, h3⟩, h6, h7⟩, h4⟩
    exact ⟨⟨h1, by simp, h3⟩, Or.inr ⟨i, rfl, h6, h7⟩, h4⟩
theorem e_cs1 {pc len : Nat} {f z rk t ne ml : Nat} {a0 : ab_V} : wBc y Q K ((pc, .invokestatic f, len, [z, 1, rk, t, ne, ml, 0]) :: r) c lo (a0 :: st) (E, D) u = ((st.length ≤ 4 ∧ (ab_fl [a0]).length ≤ ml) ∧ wRk y z rk [a0] lo st E D u (wBc y Q K r c)) := by
  apply propext
  constructor
  · rintro ⟨⟨h1, h2, h3⟩, _, h4⟩
    exact ⟨⟨h1, h3⟩, h4⟩
  · rintro ⟨⟨h1, h3⟩, h4⟩
    exact ⟨⟨h1, by simp, h3⟩, Or.inl rfl, h4⟩
theorem e_cv2 {pc len : Nat} {f z rk t ne ml kc i : Nat} {a0 : ab_V} : wBc y Q K ((pc, .invokevirtual f, len, [z, 2, rk, t, ne, ml, kc + 1]) :: r) c lo (a0 :: .inr (.inr (some i)) :: st) (E, D) u = (((st.length ≤ 4 ∧ (ab_fl [.inr (.inr (some i)), a0]).length ≤ ml) ∧ (i < E.1 ∧ (E.2.1 i).1 = kc + 1)) ∧ wRk y z rk [.inr (.inr (some i)), a0] lo st E D u (wBc y Q K r c)) := by
  apply propext
  constructor
  · rintro ⟨⟨h1, h2, h3⟩, h5, h4⟩
    rcases h5 with h5 | ⟨j, h5, h6, h7⟩
    · exact absurd h5 (by omega)
    · cases h5
      exact ⟨⟨⟨h1, h3⟩, h6, h7⟩, h4⟩
  · rintro ⟨⟨⟨h1, h3⟩, h6, h7⟩, h4⟩
    exact ⟨⟨h1, by simp, h3⟩, Or.inr ⟨i, rfl, h6, h7⟩, h4⟩
theorem e_ci2 {pc len : Nat} {f z rk t ne ml kc i : Nat} {a0 : ab_V} : wBc y Q K ((pc, .invokespecial f, len, [z, 2, rk, t, ne, ml, kc + 1]) :: r) c lo (a0 :: .inr (.inr (some i)) :: st) (E, D) u = (((st.length ≤ 4 ∧ (ab_fl [.inr (.inr (some i)), a0]).length ≤ ml) ∧ (i < E.1 ∧ (E.2.1 i).1 = kc + 1)) ∧ wRk y z rk [.inr (.inr (some i)), a0] lo st E D u (wBc y Q K r c)) := by
  apply propext
  constructor
  · rintro ⟨⟨h1, h2, h3⟩, h5, h4⟩
    rcases h5 with h5 | ⟨j, h5, h6, h7⟩
    · exact absurd h5 (by omega)
    · cases h5
      exact ⟨⟨⟨h1, h3⟩, h6, h7⟩, h4⟩
  · rintro ⟨⟨⟨h1, h3⟩, h6, h7⟩, h4⟩
    exact ⟨⟨h1, by simp, h3⟩, Or.inr ⟨i, rfl, h6, h7⟩, h4⟩
theorem e_cs2 {pc len : Nat} {f z rk t ne ml : Nat} {a0 a1 : ab_V} : wBc y Q K ((pc, .invokestatic f, len, [z, 2, rk, t, ne, ml, 0]) :: r) c lo (a1 :: a0 :: st) (E, D) u = ((st.length ≤ 4 ∧ (ab_fl [a0, a1]).length ≤ ml) ∧ wRk y z rk [a0, a1] lo st E D u (wBc y Q K r c)) := by
  apply propext
  constructor
  · rintro ⟨⟨h1, h2, h3⟩, _, h4⟩
    exact ⟨⟨h1, h3⟩, h4⟩
  · rintro ⟨⟨h1, h3⟩, h4⟩
    exact ⟨⟨h1, by simp, h3⟩, Or.inl rfl, h4⟩
theorem e_cv3 {pc len : Nat} {f z rk t ne ml kc i : Nat} {a0 a1 : ab_V} : wBc y Q K ((pc, .invokevirtual f, len, [z, 3, rk, t, ne, ml, kc + 1]) :: r) c lo (a1 :: a0 :: .inr (.inr (some i)) :: st) (E, D) u = (((st.length ≤ 4 ∧ (ab_fl [.inr (.inr (some i)), a0, a1]).length ≤ ml) ∧ (i < E.1 ∧ (E.2.1 i).1 = kc + 1)) ∧ wRk y z rk [.inr (.inr (some i)), a0, a1] lo st E D u (wBc y Q K r c)) := by
  apply propext
  constructor
  · rintro ⟨⟨h1, h2, h3⟩, h5, h4⟩
    rcases h5 with h5 | ⟨j, h5, h6, h7⟩
    · exact absurd h5 (by omega)
    · cases h5
      exact ⟨⟨⟨h1, h3⟩, h6, h7⟩, h4⟩
  · rintro ⟨⟨⟨h1, h3⟩, h6, h7⟩, h4⟩
    exact ⟨⟨h1, by simp, h3⟩, Or.inr ⟨i, rfl, h6, h7⟩, h4⟩
theorem e_ci3 {pc len : Nat} {f z rk t ne ml kc i : Nat} {a0 a1 : ab_V} : wBc y Q K ((pc, .invokespecial f, len, [z, 3, rk, t, ne, ml, kc + 1]) :: r) c lo (a1 :: a0 :: .inr (.inr (some i)) :: st) (E, D) u = (((st.length ≤ 4 ∧ (ab_fl [.inr (.inr (some i)), a0, a1]).length ≤ ml) ∧ (i < E.1 ∧ (E.2.1 i).1 = kc + 1)) ∧ wRk y z rk [.inr (.inr (some i)), a0, a1] lo st E D u (wBc y Q K r c)) := by
  apply propext
  constructor
  · rintro ⟨⟨h1, h2, h3⟩, h5, h4⟩
    rcases h5 with h5 | ⟨j, h5, h6, h7⟩
    · exact absurd h5 (by omega)
    · cases h5
      exact ⟨⟨⟨h1, h3⟩, h6, h7⟩, h4⟩
  · rintro ⟨⟨⟨h1, h3⟩, h6, h7⟩, h4⟩
    exact ⟨⟨h1, by simp, h3⟩, Or.inr ⟨i, rfl, h6, h7⟩, h4⟩
theorem e_cs3 {pc len : Nat} {f z rk t ne ml : Nat} {a0 a1 a2 : ab_V} : wBc y Q K ((pc, .invokestatic f, len, [z, 3, rk, t, ne, ml, 0]) :: r) c lo (a2 :: a1 :: a0 :: st) (E, D) u = ((st.length ≤ 4 ∧ (ab_fl [a0, a1, a2]).length ≤ ml) ∧ wRk y z rk [a0, a1, a2] lo st E D u (wBc y Q K r c)) := by
  apply propext
  constructor
  · rintro ⟨⟨h1, h2, h3⟩, _, h4⟩
    exact ⟨⟨h1, h3⟩, h4⟩
  · rintro ⟨⟨h1, h3⟩, h4⟩
    exact ⟨⟨h1, by simp, h3⟩, Or.inl rfl, h4⟩
theorem e_cv4 {pc len : Nat} {f z rk t ne ml kc i : Nat} {a0 a1 a2 : ab_V} : wBc y Q K ((pc, .invokevirtual f, len, [z, 4, rk, t, ne, ml, kc + 1]) :: r) c lo (a2 :: a1 :: a0 :: .inr (.inr (some i)) :: st) (E, D) u = (((st.length ≤ 4 ∧ (ab_fl [.inr (.inr (some i)), a0, a1, a2]).length ≤ ml) ∧ (i < E.1 ∧ (E.2.1 i).1 = kc + 1)) ∧ wRk y z rk [.inr (.inr (some i)), a0, a1, a2] lo st E D u (wBc y Q K r c)) := by
  apply propext
  constructor
  · rintro ⟨⟨h1, h2, h3⟩, h5, h4⟩
    rcases h5 with h5 | ⟨j, h5, h6, h7⟩
    · exact absurd h5 (by omega)
    · cases h5
      exact ⟨⟨⟨h1, h3⟩, h6, h7⟩, h4⟩
  · rintro ⟨⟨⟨h1, h3⟩, h6, h7⟩, h4⟩
    exact ⟨⟨h1, by simp, h3⟩, Or.inr ⟨i, rfl, h6, h7⟩, h4⟩
theorem e_ci4 {pc len : Nat} {f z rk t ne ml kc i : Nat} {a0 a1 a2 : ab_V} : wBc y Q K ((pc, .invokespecial f, len, [z, 4, rk, t, ne, ml, kc + 1]) :: r) c lo (a2 :: a1 :: a0 :: .inr (.inr (some i)) :: st) (E, D) u = (((st.length ≤ 4 ∧ (ab_fl [.inr (.inr (some i)), a0, a1, a2]).length ≤ ml) ∧ (i < E.1 ∧ (E.2.1 i).1 = kc + 1)) ∧ wRk y z rk [.inr (.inr (some i)), a0, a1, a2] lo st E D u (wBc y Q K r c)) := by
  apply propext
  constructor
  · rintro ⟨⟨h1, h2, h3⟩, h5, h4⟩
    rcases h5 with h5 | ⟨j, h5, h6, h7⟩
    · exact absurd h5 (by omega)
    · cases h5
      exact ⟨⟨⟨h1, h3⟩, h6, h7⟩, h4⟩
  · rintro ⟨⟨⟨h1, h3⟩, h6, h7⟩, h4⟩
    exact ⟨⟨h1, by simp, h3⟩, Or.inr ⟨i, rfl, h6, h7⟩, h4⟩
theorem e_cs4 {pc len : Nat} {f z rk t ne ml : Nat} {a0 a1 a2 a3 : ab_V} : wBc y Q K ((pc, .invokestatic f, len, [z, 4, rk, t, ne, ml, 0]) :: r) c lo (a3 :: a2 :: a1 :: a0 :: st) (E, D) u = ((st.length ≤ 4 ∧ (ab_fl [a0, a1, a2, a3]).length ≤ ml) ∧ wRk y z rk [a0, a1, a2, a3] lo st E D u (wBc y Q K r c)) := by
  apply propext
  constructor
  · rintro ⟨⟨h1, h2, h3⟩, _, h4⟩
    exact ⟨⟨h1, h3⟩, h4⟩
  · rintro ⟨⟨h1, h3⟩, h4⟩
    exact ⟨⟨h1, by simp, h3⟩, Or.inl rfl, h4⟩
theorem e_cv5 {pc len : Nat} {f z rk t ne ml kc i : Nat} {a0 a1 a2 a3 : ab_V} : wBc y Q K ((pc, .invokevirtual f, len, [z, 5, rk, t, ne, ml, kc + 1]) :: r) c lo (a3 :: a2 :: a1 :: a0 :: .inr (.inr (some i)) :: st) (E, D) u = (((st.length ≤ 4 ∧ (ab_fl [.inr (.inr (some i)), a0, a1, a2, a3]).length ≤ ml) ∧ (i < E.1 ∧ (E.2.1 i).1 = kc + 1)) ∧ wRk y z rk [.inr (.inr (some i)), a0, a1, a2, a3] lo st E D u (wBc y Q K r c)) := by
  apply propext
  constructor
  · rintro ⟨⟨h1, h2, h3⟩, h5, h4⟩
    rcases h5 with h5 | ⟨j, h5, h6, h7⟩
    · exact absurd h5 (by omega)
    · cases h5
      exact ⟨⟨⟨h1, h3⟩, h6, h7⟩, h4⟩
  · rintro ⟨⟨⟨h1, h3⟩, h6, h7⟩, h4⟩
    exact ⟨⟨h1, by simp, h3⟩, Or.inr ⟨i, rfl, h6, h7⟩, h4⟩
theorem e_ci5 {pc len : Nat} {f z rk t ne ml kc i : Nat} {a0 a1 a2 a3 : ab_V} : wBc y Q K ((pc, .invokespecial f, len, [z, 5, rk, t, ne, ml, kc + 1]) :: r) c lo (a3 :: a2 :: a1 :: a0 :: .inr (.inr (some i)) :: st) (E, D) u = (((st.length ≤ 4 ∧ (ab_fl [.inr (.inr (some i)), a0, a1, a2, a3]).length ≤ ml) ∧ (i < E.1 ∧ (E.2.1 i).1 = kc + 1)) ∧ wRk y z rk [.inr (.inr (some i)), a0, a1, a2, a3] lo st E D u (wBc y Q K r c)) := by
  apply propext
  constructor
  · rintro ⟨⟨h1, h2, h3⟩, h5, h4⟩
    rcases h5 with h5 | ⟨j, h5, h6, h7⟩
    · exact absurd h5 (by omega)
    · cases h5
      exact ⟨⟨⟨h1, h3⟩, h6, h7⟩, h4⟩
  · rintro ⟨⟨⟨h1, h3⟩, h6, h7⟩, h4⟩
    exact ⟨⟨h1, by simp, h3⟩, Or.inr ⟨i, rfl, h6, h7⟩, h4⟩
theorem e_cs5 {pc len : Nat} {f z rk t ne ml : Nat} {a0 a1 a2 a3 a4 : ab_V} : wBc y Q K ((pc, .invokestatic f, len, [z, 5, rk, t, ne, ml, 0]) :: r) c lo (a4 :: a3 :: a2 :: a1 :: a0 :: st) (E, D) u = ((st.length ≤ 4 ∧ (ab_fl [a0, a1, a2, a3, a4]).length ≤ ml) ∧ wRk y z rk [a0, a1, a2, a3, a4] lo st E D u (wBc y Q K r c)) := by
  apply propext
  constructor
  · rintro ⟨⟨h1, h2, h3⟩, _, h4⟩
    exact ⟨⟨h1, h3⟩, h4⟩
  · rintro ⟨⟨h1, h3⟩, h4⟩
    exact ⟨⟨h1, by simp, h3⟩, Or.inl rfl, h4⟩
theorem e_cv6 {pc len : Nat} {f z rk t ne ml kc i : Nat} {a0 a1 a2 a3 a4 : ab_V} : wBc y Q K ((pc, .invokevirtual f, len, [z, 6, rk, t, ne, ml, kc + 1]) :: r) c lo (a4 :: a3 :: a2 :: a1 :: a0 :: .inr (.inr (some i)) :: st) (E, D) u = (((st.length ≤ 4 ∧ (ab_fl [.inr (.inr (some i)), a0, a1, a2, a3, a4]).length ≤ ml) ∧ (i < E.1 ∧ (E.2.1 i).1 = kc + 1)) ∧ wRk y z rk [.inr (.inr (some i)), a0, a1, a2, a3, a4] lo st E D u (wBc y Q K r c)) := by
  apply propext
  constructor
  · rintro ⟨⟨h1, h2, h3⟩, h5, h4⟩
    rcases h5 with h5 | ⟨j, h5, h6, h7⟩
    · exact absurd h5 (by omega)
    · cases h5
      exact ⟨⟨⟨h1, h3⟩, h6, h7⟩, h4⟩
  · rintro ⟨⟨⟨h1, h3⟩, h6, h7⟩, h4⟩
    exact ⟨⟨h1, by simp, h3⟩, Or.inr ⟨i, rfl, h6, h7⟩, h4⟩
theorem e_ci6 {pc len : Nat} {f z rk t ne ml kc i : Nat} {a0 a1 a2 a3 a4 : ab_V} : wBc y Q K ((pc, .invokespecial f, len, [z, 6, rk, t, ne, ml, kc + 1]) :: r) c lo (a4 :: a3 :: a2 :: a1 :: a0 :: .inr (.inr (some i)) :: st) (E, D) u = (((st.length ≤ 4 ∧ (ab_fl [.inr (.inr (some i)), a0, a1, a2, a3, a4]).length ≤ ml) ∧ (i < E.1 ∧ (E.2.1 i).1 = kc + 1)) ∧ wRk y z rk [.inr (.inr (some i)), a0, a1, a2, a3, a4] lo st E D u (wBc y Q K r c)) := by
  apply propext
  constructor
  · rintro ⟨⟨h1, h2, h3⟩, h5, h4⟩
    rcases h5 with h5 | ⟨j, h5, h6, h7⟩
    · exact absurd h5 (by omega)
    · cases h5
      exact ⟨⟨⟨h1, h3⟩, h6, h7⟩, h4⟩
  · rintro ⟨⟨⟨h1, h3⟩, h6, h7⟩, h4⟩
    exact ⟨⟨h1, by simp, h3⟩, Or.inr ⟨i, rfl, h6, h7⟩, h4⟩
theorem e_cs6 {pc len : Nat} {f z rk t ne ml : Nat} {a0 a1 a2 a3 a4 a5 : ab_V} : wBc y Q K ((pc, .invokestatic f, len, [z, 6, rk, t, ne, ml, 0]) :: r) c lo (a5 :: a4 :: a3 :: a2 :: a1 :: a0 :: st) (E, D) u = ((st.length ≤ 4 ∧ (ab_fl [a0, a1, a2, a3, a4, a5]).length ≤ ml) ∧ wRk y z rk [a0, a1, a2, a3, a4, a5] lo st E D u (wBc y Q K r c)) := by
  apply propext
  constructor
  · rintro ⟨⟨h1, h2, h3⟩, _, h4⟩
    exact ⟨⟨h1, h3⟩, h4⟩
  · rintro ⟨⟨h1, h3⟩, h4⟩
    exact ⟨⟨h1, by simp, h3⟩, Or.inl rfl, h4⟩
theorem e_cv7 {pc len : Nat} {f z rk t ne ml kc i : Nat} {a0 a1 a2 a3 a4 a5 : ab_V} : wBc y Q K ((pc, .invokevirtual f, len, [z, 7, rk, t, ne, ml, kc + 1]) :: r) c lo (a5 :: a4 :: a3 :: a2 :: a1 :: a0 :: .inr (.inr (some i)) :: st) (E, D) u = (((st.length ≤ 4 ∧ (ab_fl [.inr (.inr (some i)), a0, a1, a2, a3, a4, a5]).length ≤ ml) ∧ (i < E.1 ∧ (E.2.1 i).1 = kc + 1)) ∧ wRk y z rk [.inr (.inr (some i)), a0, a1, a2, a3, a4, a5] lo st E D u (wBc y Q K r c)) := by
  apply propext
  constructor
  · rintro ⟨⟨h1, h2, h3⟩, h5, h4⟩
    rcases h5 with h5 | ⟨j, h5, h6, h7⟩
    · exact absurd h5 (by omega)
    · cases h5
      exact ⟨⟨⟨h1, h3⟩, h6, h7⟩, h4⟩
  · rintro ⟨⟨⟨h1, h3⟩, h6, h7⟩, h4⟩
    exact ⟨⟨h1, by simp, h3⟩, Or.inr ⟨i, rfl, h6, h7⟩, h4⟩
theorem e_ci7 {pc len : Nat} {f z rk t ne ml kc i : Nat} {a0 a1 a2 a3 a4 a5 : ab_V} : wBc y Q K ((pc, .invokespecial f, len, [z, 7, rk, t, ne, ml, kc + 1]) :: r) c lo (a5 :: a4 :: a3 :: a2 :: a1 :: a0 :: .inr (.inr (some i)) :: st) (E, D) u = (((st.length ≤ 4 ∧ (ab_fl [.inr (.inr (some i)), a0, a1, a2, a3, a4, a5]).length ≤ ml) ∧ (i < E.1 ∧ (E.2.1 i).1 = kc + 1)) ∧ wRk y z rk [.inr (.inr (some i)), a0, a1, a2, a3, a4, a5] lo st E D u (wBc y Q K r c)) := by
  apply propext
  constructor
  · rintro ⟨⟨h1, h2, h3⟩, h5, h4⟩
    rcases h5 with h5 | ⟨j, h5, h6, h7⟩
    · exact absurd h5 (by omega)
    · cases h5
      exact ⟨⟨⟨h1, h3⟩, h6, h7⟩, h4⟩
  · rintro ⟨⟨⟨h1, h3⟩, h6, h7⟩, h4⟩
    exact ⟨⟨h1, by simp, h3⟩, Or.inr ⟨i, rfl, h6, h7⟩, h4⟩
theorem e_cs7 {pc len : Nat} {f z rk t ne ml : Nat} {a0 a1 a2 a3 a4 a5 a6 : ab_V} : wBc y Q K ((pc, .invokestatic f, len, [z, 7, rk, t, ne, ml, 0]) :: r) c lo (a6 :: a5 :: a4 :: a3 :: a2 :: a1 :: a0 :: st) (E, D) u = ((st.length ≤ 4 ∧ (ab_fl [a0, a1, a2, a3, a4, a5, a6]).length ≤ ml) ∧ wRk y z rk [a0, a1, a2, a3, a4, a5, a6] lo st E D u (wBc y Q K r c)) := by
  apply propext
  constructor
  · rintro ⟨⟨h1, h2, h3⟩, _, h4⟩
    exact ⟨⟨h1, h3⟩, h4⟩
  · rintro ⟨⟨h1, h3⟩, h4⟩
    exact ⟨⟨h1, by simp, h3⟩, Or.inl rfl, h4⟩
theorem e_cv8 {pc len : Nat} {f z rk t ne ml kc i : Nat} {a0 a1 a2 a3 a4 a5 a6 : ab_V} : wBc y Q K ((pc, .invokevirtual f, len, [z, 8, rk, t, ne, ml, kc + 1]) :: r) c lo (a6 :: a5 :: a4 :: a3 :: a2 :: a1 :: a0 :: .inr (.inr (some i)) :: st) (E, D) u = (((st.length ≤ 4 ∧ (ab_fl [.inr (.inr (some i)), a0, a1, a2, a3, a4, a5, a6]).length ≤ ml) ∧ (i < E.1 ∧ (E.2.1 i).1 = kc + 1)) ∧ wRk y z rk [.inr (.inr (some i)), a0, a1, a2, a3, a4, a5, a6] lo st E D u (wBc y Q K r c)) := by
  apply propext
  constructor
  · rintro ⟨⟨h1, h2, h3⟩, h5, h4⟩
    rcases h5 with h5 | ⟨j, h5, h6, h7⟩
    · exact absurd h5 (by omega)
    · cases h5
      exact ⟨⟨⟨h1, h3⟩, h6, h7⟩, h4⟩
  · rintro ⟨⟨⟨h1, h3⟩, h6, h7⟩, h4⟩
    exact ⟨⟨h1, by simp, h3⟩, Or.inr ⟨i, rfl, h6, h7⟩, h4⟩
theorem e_ci8 {pc len : Nat} {f z rk t ne ml kc i : Nat} {a0 a1 a2 a3 a4 a5 a6 : ab_V} : wBc y Q K ((pc, .invokespecial f, len, [z, 8, rk, t, ne, ml, kc + 1]) :: r) c lo (a6 :: a5 :: a4 :: a3 :: a2 :: a1 :: a0 :: .inr (.inr (some i)) :: st) (E, D) u = (((st.length ≤ 4 ∧ (ab_fl [.inr (.inr (some i)), a0, a1, a2, a3, a4, a5, a6]).length ≤ ml) ∧ (i < E.1 ∧ (E.2.1 i).1 = kc + 1)) ∧ wRk y z rk [.inr (.inr (some i)), a0, a1, a2, a3, a4, a5, a6] lo st E D u (wBc y Q K r c)) := by
  apply propext
  constructor
  · rintro ⟨⟨h1, h2, h3⟩, h5, h4⟩
    rcases h5 with h5 | ⟨j, h5, h6, h7⟩
    · exact absurd h5 (by omega)
    · cases h5
      exact ⟨⟨⟨h1, h3⟩, h6, h7⟩, h4⟩
  · rintro ⟨⟨⟨h1, h3⟩, h6, h7⟩, h4⟩
    exact ⟨⟨h1, by simp, h3⟩, Or.inr ⟨i, rfl, h6, h7⟩, h4⟩
end Rules
