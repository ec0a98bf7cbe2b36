/-! bytes: write, wipe -/
def byC (v k : Int) : Int := ((Int64.ofInt ((Int64.ofInt ((((Int64.ofInt v).toUInt64 >>> ((Int32.ofInt (8 * k)).toInt64.toUInt64 &&& Int64.toUInt64 63)).toInt64).toInt) &&& Int64.ofInt 255).toInt)).toInt32).toInt
def byM (v k : Int) : Int := ((Int64.ofInt ((Int64.ofInt ((Int64.ofInt v >>> ((Int32.ofInt (8 * k)).toInt64 &&& 63)).toInt) &&& Int64.ofInt 255).toInt)).toInt32).toInt
theorem bx_c : ∀ k : Nat, k < 8 → (((Int32.ofInt (8 * (k : Int))).toInt64 &&& 63).toBitVec.smod 64).toNat = 8 * k := by decide +kernel
theorem bx_u : ∀ k : Nat, k < 8 → (((Int32.ofInt (8 * (k : Int))).toInt64.toUInt64 &&& Int64.toUInt64 63).toBitVec % 64).toNat = 8 * k := by decide +kernel
theorem bx_255 (i : Nat) : (255#64).getLsbD i = decide (i < 8) := by
  rcases Nat.lt_or_ge i 64 with h | h
  · exact (by decide +kernel : ∀ i, i < 64 → (255#64).getLsbD i = decide (i < 8)) i h
  · rw [BitVec.getLsbD_of_ge _ _ h, decide_eq_false (by omega)]
theorem bx_eq (x : Int64) (k : Nat) (hk : k < 8) : (x.toUInt64 >>> ((Int32.ofInt (8 * (k : Int))).toInt64.toUInt64 &&& Int64.toUInt64 63)).toInt64 &&& Int64.ofInt 255 = (x >>> ((Int32.ofInt (8 * (k : Int))).toInt64 &&& 63)) &&& Int64.ofInt 255 := by
  apply Int64.toBitVec_inj.mp
  rw [Int64.toBitVec_and, Int64.toBitVec_and, Int64.toBitVec_shiftRight]
  have e : (x.toUInt64 >>> ((Int32.ofInt (8 * (k : Int))).toInt64.toUInt64 &&& Int64.toUInt64 63)).toInt64.toBitVec = x.toBitVec >>> (8 * k) := by
    show (x.toUInt64 >>> ((Int32.ofInt (8 * (k : Int))).toInt64.toUInt64 &&& Int64.toUInt64 63)).toBitVec = _
    rw [UInt64.toBitVec_shiftRight]
    show x.toUInt64.toBitVec >>> (((Int32.ofInt (8 * (k : Int))).toInt64.toUInt64 &&& Int64.toUInt64 63).toBitVec % 64).toNat = _
    rw [bx_u k hk]
    rfl
  have e2 : x.toBitVec.sshiftRight' (((Int32.ofInt (8 * (k : Int))).toInt64 &&& 63).toBitVec.smod 64) = x.toBitVec.sshiftRight (8 * k) := by
    show x.toBitVec.sshiftRight (((Int32.ofInt (8 * (k : Int))).toInt64 &&& 63).toBitVec.smod 64).toNat = _
    rw [bx_c k hk]
  rw [e, e2]
  show _ &&& 255#64 = _ &&& 255#64
  apply BitVec.eq_of_getLsbD_eq
  intro i hi
  rw [BitVec.getLsbD_and, BitVec.getLsbD_and, bx_255, BitVec.getLsbD_ushiftRight, BitVec.getLsbD_sshiftRight]
  by_cases h8 : i < 8
  · rw [if_pos (show 8 * k + i < 64 by omega), decide_eq_false (show ¬ 64 ≤ i by omega), Bool.not_false, Bool.true_and]
  · rw [decide_eq_false h8, Bool.and_false, Bool.and_false]
theorem by_same {v k : Int} (h : 0 ≤ k ∧ k < 8) : byC v k = byM v k := by
  obtain ⟨n, rfl⟩ := Int.eq_ofNat_of_zero_le h.1
  unfold byC byM
  rw [Int64.ofInt_toInt, Int64.ofInt_toInt, Int64.ofInt_toInt, Int64.ofInt_toInt]
  rw [bx_eq (Int64.ofInt v) n (by omega)]
theorem bx_bd (y : Int64) : 0 ≤ ((y &&& Int64.ofInt 255).toInt32).toInt ∧ ((y &&& Int64.ofInt 255).toInt32).toInt ≤ 255 := by
  have e : ((y &&& Int64.ofInt 255).toInt32).toBitVec.toNat ≤ 255 := by
    rw [Int64.toBitVec_toInt32, BitVec.signExtend_eq_setWidth_of_le _ (by decide)]
    have : (y &&& Int64.ofInt 255).toBitVec.toNat ≤ 255 := by
      rw [Int64.toBitVec_and, BitVec.toNat_and]
      exact Nat.and_le_right
    rw [BitVec.toNat_setWidth]
    exact Nat.le_trans (Nat.mod_le _ _) this
  show 0 ≤ ((y &&& Int64.ofInt 255).toInt32).toBitVec.toInt ∧ ((y &&& Int64.ofInt 255).toInt32).toBitVec.toInt ≤ 255
  rw [BitVec.toInt_eq_toNat_of_lt (by omega)]
  omega
theorem by_bd {v k : Int} : 0 ≤ byM v k ∧ byM v k ≤ 255 := by
  unfold byM
  rw [Int64.ofInt_toInt, Int64.ofInt_toInt]
  exact bx_bd _
/-- what is written: place o, its length at f, its text t -/
def wrI (o f t : Nat) (b : Int → Int → Int) (v len n : Int) (D D' : ab_D) (m : Int) : Prop := D' o f = m ∧ (∀ j : Int, 0 ≤ j → j < len → D' t j.toNat = D t j.toNat) ∧ (∀ j : Int, len ≤ j → j < m → D' t j.toNat = b v (len + n - 1 - j)) ∧ (∀ a, a ≠ o → a ≠ t → D' a = D a) ∧ ∀ j, j ≠ f → D' o j = D o j
/-- the answer of write, the heap behind it -/
def wrA (o f t : Nat) (b : Int → Int → Int) (v n : Int) (D D' : ab_D) (r : Int) : Prop := (¬ (1 ≤ n ∧ n ≤ 8) ∧ r = -2 ∧ D' = D) ∨ ((1 ≤ n ∧ n ≤ 8) ∧ 64 < D o f + n ∧ r = -4 ∧ D' = D) ∨ ((1 ≤ n ∧ n ≤ 8) ∧ D o f + n ≤ 64 ∧ r = D o f + n ∧ wrI o f t b v (D o f) n D D' (D o f + n))
section Write
variable {L : Nat} {D : ab_D}
theorem p_write_loop {Q : Option ab_V → ab_H → Prop} {n v len : Int} (hn : 1 ≤ n ∧ n ≤ 8) (hl : 0 ≤ len ∧ len + n ≤ 64) (hq : ∀ D', wrI 0 1 1 byC v len n D D' (len + n) → Q (some (.inl (len + n))) (EE L, D')) :
    ∀ (k : Nat) (x m : Int) (D' : ab_D), x = k - 1 → m = len + n - k → (k : Int) ≤ n → wrI 0 1 1 byC v len n D D' m → Sx 70 20 [vR 0, vI n, vL v, vU, vI x] [] (EE L, D') (0, 0) Q := by
  intro k
  induction k with
  | zero =>
    intro x m D' hx hm hk hi
    have e := hi.1
    refine go_70_20 ?_
    simp only [sg_70_20, cl_I, cl_L, cl_R, e_aload_n, e_bipush, e_dupI, e_dupR, e_get0, e_get1, e_goto, e_iadd, e_iastore, e_iconst, e_if_lt, e_iinc, e_iload, e_imul, e_l2i, e_land, e_ldc2, e_lload_n, e_lushr, e_nil, e_put0, l_inc4, l_ld4, l_ldA0, l_ldL2, wRef_some, EE_n, EE_r0_0, EE_s0, EE_s1, lc_lt, lc_le, lc_gt, lc_ge, lc_eq, true_and, and_true, List.length_cons, List.length_nil, ab_ia, Nat.reduceAdd, Nat.reduceLeDiff, Nat.reduceEqDiff, Nat.reduceLT, Int.reduceLT, Int.reduceLE, Int.reduceEq, Int.reduceNeg, true_or, or_true, false_or, or_false, not_false_eq_true, not_true_eq_false, false_implies, true_implies, forall_const, implies_true, Nat.zero_le, Nat.le_refl]
    refine ⟨fun _ => ?_, fun hc => absurd hc (by omega)⟩
    have hm : m = len + n := by omega
    subst hm
    refine go_70_43 ?_
    simp only [sg_70_43, cl_I, cl_L, cl_R, e_aload_n, e_get0, e_iret0, e_nil, l_ldA0, wRef_some, EE_n, EE_s0, e, lc_lt, lc_le, lc_gt, lc_ge, lc_eq, true_and, and_true, List.length_cons, List.length_nil, ab_ia, Nat.reduceAdd, Nat.reduceLeDiff, Nat.reduceEqDiff, Nat.reduceLT, Int.reduceLT, Int.reduceLE, Int.reduceEq, Int.reduceNeg, true_or, or_true, false_or, or_false, not_false_eq_true, not_true_eq_false, false_implies, true_implies, forall_const, implies_true, Nat.zero_le, Nat.le_refl]
    exact hq D' hi
  | succ k ih =>
    intro x m D' hx hm hk hi
    obtain ⟨e, i1, i2, i3, i4⟩ := hi
    refine go_70_20 ?_
    simp only [sg_70_20, cl_I, cl_L, cl_R, e_aload_n, e_bipush, e_dupI, e_dupR, e_get0, e_get1, e_goto, e_iadd, e_iastore, e_iconst, e_if_lt, e_iinc, e_iload, e_imul, e_l2i, e_land, e_ldc2, e_lload_n, e_lushr, e_nil, e_put0, l_inc4, l_ld4, l_ldA0, l_ldL2, wRef_some, EE_n, EE_r0_0, EE_s0, EE_s1, e, lc_lt, lc_le, lc_gt, lc_ge, lc_eq, true_and, and_true, List.length_cons, List.length_nil, ab_ia, Nat.reduceAdd, Nat.reduceLeDiff, Nat.reduceEqDiff, Nat.reduceLT, Int.reduceLT, Int.reduceLE, Int.reduceEq, Int.reduceNeg, true_or, or_true, false_or, or_false, not_false_eq_true, not_true_eq_false, false_implies, true_implies, forall_const, implies_true, Nat.zero_le, Nat.le_refl]
    refine ⟨fun hc => absurd hc (by omega), fun _ => ?_⟩
    simp (disch := omega) only [ups_ne1, e]
    refine ⟨⟨by omega, by omega⟩, by omega, ⟨by omega, by omega⟩, ⟨by omega, by omega⟩, ih (x + -1) (m + 1) _ (by omega) (by omega) (by omega) ⟨ups_self, fun j j0 j1 => ?_, fun j j0 j1 => ?_, fun a a0 a1 => ?_, fun j j0 => ?_⟩⟩
    · rw [ups_ne1 (by decide), ups_ne2 (by omega)]
      exact i1 j j0 j1
    · rw [ups_ne1 (by decide)]
      by_cases z : j = m
      · subst z
        rw [ups_self, show len + n - 1 - j = x by omega]
        rfl
      · rw [ups_ne2 (by omega)]
        exact i2 j j0 (by omega)
    · funext j
      rw [ups_ne1 a0, ups_ne1 a1, i3 a a0 a1]
    · rw [ups_ne2 j0, ups_ne1 (by decide), i4 j j0]
theorem m_write_loop {Q : Option ab_V → ab_H → Prop} {n v len : Int} (hn : 1 ≤ n ∧ n ≤ 8) (hl : 0 ≤ len ∧ len + n ≤ 64) (hq : ∀ D', wrI 69 4 73 byM v len n D D' (len + n) → Q (some (.inl (len + n))) (EE L, D')) :
    ∀ (k : Nat) (x m : Int) (D' : ab_D), x = k - 1 → m = len + n - k → (k : Int) ≤ n → wrI 69 4 73 byM v len n D D' m → Sx 120 20 [vR 69, vI n, vL v, vU, vI x] [] (EE L, D') (0, 0) Q := by
  intro k
  induction k with
  | zero =>
    intro x m D' hx hm hk hi
    have e := hi.1
    refine go_120_20 ?_
    simp only [sg_120_20, cl_I, cl_L, cl_R, e_aload_n, e_bipush, e_dupI, e_dupR, e_get0, e_get1, e_goto, e_iadd, e_iastore, e_iconst, e_if_lt, e_iinc, e_iload, e_imul, e_l2i, e_land, e_ldc2, e_lload_n, e_lshr, e_nil, e_put0, l_inc4, l_ld4, l_ldA0, l_ldL2, wRef_some, EE_n, EE_r69_3, EE_s69, EE_s73, lc_lt, lc_le, lc_gt, lc_ge, lc_eq, true_and, and_true, List.length_cons, List.length_nil, ab_ia, Nat.reduceAdd, Nat.reduceLeDiff, Nat.reduceEqDiff, Nat.reduceLT, Int.reduceLT, Int.reduceLE, Int.reduceEq, Int.reduceNeg, true_or, or_true, false_or, or_false, not_false_eq_true, not_true_eq_false, false_implies, true_implies, forall_const, implies_true, Nat.zero_le, Nat.le_refl]
    refine ⟨fun _ => ?_, fun hc => absurd hc (by omega)⟩
    have hm : m = len + n := by omega
    subst hm
    refine go_120_43 ?_
    simp only [sg_120_43, cl_I, cl_L, cl_R, e_aload_n, e_get0, e_iret0, e_nil, l_ldA0, wRef_some, EE_n, EE_s69, e, lc_lt, lc_le, lc_gt, lc_ge, lc_eq, true_and, and_true, List.length_cons, List.length_nil, ab_ia, Nat.reduceAdd, Nat.reduceLeDiff, Nat.reduceEqDiff, Nat.reduceLT, Int.reduceLT, Int.reduceLE, Int.reduceEq, Int.reduceNeg, true_or, or_true, false_or, or_false, not_false_eq_true, not_true_eq_false, false_implies, true_implies, forall_const, implies_true, Nat.zero_le, Nat.le_refl]
    exact hq D' hi
  | succ k ih =>
    intro x m D' hx hm hk hi
    obtain ⟨e, i1, i2, i3, i4⟩ := hi
    refine go_120_20 ?_
    simp only [sg_120_20, cl_I, cl_L, cl_R, e_aload_n, e_bipush, e_dupI, e_dupR, e_get0, e_get1, e_goto, e_iadd, e_iastore, e_iconst, e_if_lt, e_iinc, e_iload, e_imul, e_l2i, e_land, e_ldc2, e_lload_n, e_lshr, e_nil, e_put0, l_inc4, l_ld4, l_ldA0, l_ldL2, wRef_some, EE_n, EE_r69_3, EE_s69, EE_s73, e, lc_lt, lc_le, lc_gt, lc_ge, lc_eq, true_and, and_true, List.length_cons, List.length_nil, ab_ia, Nat.reduceAdd, Nat.reduceLeDiff, Nat.reduceEqDiff, Nat.reduceLT, Int.reduceLT, Int.reduceLE, Int.reduceEq, Int.reduceNeg, true_or, or_true, false_or, or_false, not_false_eq_true, not_true_eq_false, false_implies, true_implies, forall_const, implies_true, Nat.zero_le, Nat.le_refl]
    refine ⟨fun hc => absurd hc (by omega), fun _ => ?_⟩
    simp (disch := omega) only [ups_ne1, e]
    refine ⟨⟨by omega, by omega⟩, by omega, ⟨by omega, by omega⟩, ⟨by omega, by omega⟩, ih (x + -1) (m + 1) _ (by omega) (by omega) (by omega) ⟨ups_self, fun j j0 j1 => ?_, fun j j0 j1 => ?_, fun a a0 a1 => ?_, fun j j0 => ?_⟩⟩
    · rw [ups_ne1 (by decide), ups_ne2 (by omega)]
      exact i1 j j0 j1
    · rw [ups_ne1 (by decide)]
      by_cases z : j = m
      · subst z
        rw [ups_self, show len + n - 1 - j = x by omega]
        rfl
      · rw [ups_ne2 (by omega)]
        exact i2 j j0 (by omega)
    · funext j
      rw [ups_ne1 a0, ups_ne1 a1, i3 a a0 a1]
    · rw [ups_ne2 j0, ups_ne1 (by decide), i4 j j0]
theorem p_write {n v : Int} (hl : 0 ≤ D 0 1 ∧ D 0 1 ≤ 64) : CI 70 [vR 0, vI n, vL v] (EE L, D) (fun r D' => wrA 0 1 1 byC v n D D' r) := by
  refine Sx.un (y := 70) (n := 0) (lo := [vR 0, vI n, vL v, vU, vU]) (st := []) (u := (0, 0)) ?_
  refine go_70_0 ?_
  simp only [sg_70_0, cl_I, cl_L, cl_R, e_bipush, e_icmp_le, e_icmp_lt, e_iconst, e_iload_n, e_iret0, e_nil, l_ld1, lc_lt, lc_le, lc_gt, lc_ge, lc_eq, true_and, and_true, List.length_cons, List.length_nil, ab_ia, Nat.reduceAdd, Nat.reduceLeDiff, Nat.reduceEqDiff, Nat.reduceLT, Int.reduceLT, Int.reduceLE, Int.reduceEq, Int.reduceNeg, true_or, or_true, false_or, or_false, not_false_eq_true, not_true_eq_false, false_implies, true_implies, forall_const, implies_true, Nat.zero_le, Nat.le_refl]
  refine ⟨fun h1 => ?_, fun h1 => ⟨fun h2 => ?_, fun h2 => ?_⟩⟩
  · refine go_70_6 ?_
    simp only [sg_70_6, cl_I, cl_L, cl_R, e_bipush, e_iret0, e_nil, lc_lt, lc_le, lc_gt, lc_ge, lc_eq, true_and, and_true, List.length_cons, List.length_nil, ab_ia, Nat.reduceAdd, Nat.reduceLeDiff, Nat.reduceEqDiff, Nat.reduceLT, Int.reduceLT, Int.reduceLE, Int.reduceEq, Int.reduceNeg, true_or, or_true, false_or, or_false, not_false_eq_true, not_true_eq_false, false_implies, true_implies, forall_const, implies_true, Nat.zero_le, Nat.le_refl]
    exact retI (Or.inl ⟨by omega, rfl, rfl⟩)
  · refine go_70_8 ?_
    simp only [sg_70_8, cl_I, cl_L, cl_R, e_aload_n, e_bipush, e_get0, e_iadd, e_icmp_le, e_iload_n, e_iret0, e_nil, l_ld1, l_ldA0, wRef_some, EE_n, EE_s0, lc_lt, lc_le, lc_gt, lc_ge, lc_eq, true_and, and_true, List.length_cons, List.length_nil, ab_ia, Nat.reduceAdd, Nat.reduceLeDiff, Nat.reduceEqDiff, Nat.reduceLT, Int.reduceLT, Int.reduceLE, Int.reduceEq, Int.reduceNeg, true_or, or_true, false_or, or_false, not_false_eq_true, not_true_eq_false, false_implies, true_implies, forall_const, implies_true, Nat.zero_le, Nat.le_refl]
    refine ⟨⟨by omega, by omega⟩, fun h3 => ?_, fun h3 => ?_⟩
    · refine go_70_16 ?_
      simp only [sg_70_16, cl_I, cl_L, cl_R, e_iconst, e_iload_n, e_istore, e_isub, e_nil, l_ld1, l_st4, lc_lt, lc_le, lc_gt, lc_ge, lc_eq, true_and, and_true, List.length_cons, List.length_nil, ab_ia, Nat.reduceAdd, Nat.reduceLeDiff, Nat.reduceEqDiff, Nat.reduceLT, Int.reduceLT, Int.reduceLE, Int.reduceEq, Int.reduceNeg, true_or, or_true, false_or, or_false, not_false_eq_true, not_true_eq_false, false_implies, true_implies, forall_const, implies_true, Nat.zero_le, Nat.le_refl]
      refine ⟨⟨by omega, by omega⟩, ?_⟩
      refine p_write_loop (len := D 0 1) (by omega) (by omega) (fun D' hi => retI (Or.inr (Or.inr ⟨by omega, h3, rfl, hi⟩))) n.toNat (n - 1) (D 0 1) D (by omega) (by omega) (by omega) ⟨rfl, fun _ _ _ => rfl, fun j j0 j1 => absurd j1 (by omega), fun _ _ _ => rfl, fun _ _ => rfl⟩
    · exact retI (Or.inr (Or.inl ⟨by omega, by omega, rfl, rfl⟩))
  · exact retI (Or.inl ⟨by omega, rfl, rfl⟩)
theorem m_write {n v : Int} (hl : 0 ≤ D 69 4 ∧ D 69 4 ≤ 64) : CI 120 [vR 69, vI n, vL v] (EE L, D) (fun r D' => wrA 69 4 73 byM v n D D' r) := by
  refine Sx.un (y := 120) (n := 0) (lo := [vR 69, vI n, vL v, vU, vU]) (st := []) (u := (0, 0)) ?_
  refine go_120_0 ?_
  simp only [sg_120_0, cl_I, cl_L, cl_R, e_bipush, e_cs3, e_i2l, e_if_ne, e_iload_n, e_iret0, e_lconst, e_ldc2, e_nil, fl_0, fl_I, fl_L, fl_R, l_ld1, rk_1, lc_lt, lc_le, lc_gt, lc_ge, lc_eq, true_and, and_true, List.length_cons, List.length_nil, ab_ia, Nat.reduceAdd, Nat.reduceLeDiff, Nat.reduceEqDiff, Nat.reduceLT, Int.reduceLT, Int.reduceLE, Int.reduceEq, Int.reduceNeg, true_or, or_true, false_or, or_false, not_false_eq_true, not_true_eq_false, false_implies, true_implies, forall_const, implies_true, Nat.zero_le, Nat.le_refl]
  refine CB.use m_in (fun h1 => ?_) (fun h1 => ?_)
  · try simp only [lc_lt, lc_le, lc_gt, lc_ge, lc_eq, true_and, and_true, List.length_cons, List.length_nil, ab_ia, Nat.reduceAdd, Nat.reduceLeDiff, Nat.reduceEqDiff, Nat.reduceLT, Int.reduceLT, Int.reduceLE, Int.reduceEq, Int.reduceNeg, true_or, or_true, false_or, or_false, not_false_eq_true, not_true_eq_false, false_implies, true_implies, forall_const, implies_true, Nat.zero_le, Nat.le_refl]
    refine go_120_8 ?_
    simp only [sg_120_8, cl_I, cl_L, cl_R, e_aload_n, e_bipush, e_get0, e_iadd, e_icmp_le, e_iload_n, e_iret0, e_nil, l_ld1, l_ldA0, wRef_some, EE_n, EE_s69, lc_lt, lc_le, lc_gt, lc_ge, lc_eq, true_and, and_true, List.length_cons, List.length_nil, ab_ia, Nat.reduceAdd, Nat.reduceLeDiff, Nat.reduceEqDiff, Nat.reduceLT, Int.reduceLT, Int.reduceLE, Int.reduceEq, Int.reduceNeg, true_or, or_true, false_or, or_false, not_false_eq_true, not_true_eq_false, false_implies, true_implies, forall_const, implies_true, Nat.zero_le, Nat.le_refl]
    refine ⟨⟨by omega, by omega⟩, fun h3 => ?_, fun h3 => ?_⟩
    · refine go_120_16 ?_
      simp only [sg_120_16, cl_I, cl_L, cl_R, e_iconst, e_iload_n, e_istore, e_isub, e_nil, l_ld1, l_st4, lc_lt, lc_le, lc_gt, lc_ge, lc_eq, true_and, and_true, List.length_cons, List.length_nil, ab_ia, Nat.reduceAdd, Nat.reduceLeDiff, Nat.reduceEqDiff, Nat.reduceLT, Int.reduceLT, Int.reduceLE, Int.reduceEq, Int.reduceNeg, true_or, or_true, false_or, or_false, not_false_eq_true, not_true_eq_false, false_implies, true_implies, forall_const, implies_true, Nat.zero_le, Nat.le_refl]
      refine ⟨⟨by omega, by omega⟩, ?_⟩
      refine m_write_loop (len := D 69 4) (by omega) (by omega) (fun D' hi => retI (Or.inr (Or.inr ⟨by omega, h3, rfl, hi⟩))) n.toNat (n - 1) (D 69 4) D (by omega) (by omega) (by omega) ⟨rfl, fun _ _ _ => rfl, fun j j0 j1 => absurd j1 (by omega), fun _ _ _ => rfl, fun _ _ => rfl⟩
    · exact retI (Or.inr (Or.inl ⟨by omega, by omega, rfl, rfl⟩))
  · try simp only [lc_lt, lc_le, lc_gt, lc_ge, lc_eq, true_and, and_true, List.length_cons, List.length_nil, ab_ia, Nat.reduceAdd, Nat.reduceLeDiff, Nat.reduceEqDiff, Nat.reduceLT, Int.reduceLT, Int.reduceLE, Int.reduceEq, Int.reduceNeg, true_or, or_true, false_or, or_false, not_false_eq_true, not_true_eq_false, false_implies, true_implies, forall_const, implies_true, Nat.zero_le, Nat.le_refl]
    exact retI (Or.inl ⟨by omega, rfl, rfl⟩)
theorem p_wipe : CI 71 [vR 0] (EE L, D) (fun r D' => r = D 0 1 ∧ D' = ups D 0 1 0) := by
  refine Sx.un (y := 71) (n := 0) (lo := [vR 0, vU]) (st := []) (u := (0, 0)) ?_
  refine go_71_0 ?_
  simp only [sg_71_0, cl_I, cl_L, cl_R, e_aload_n, e_get0, e_iconst, e_iload_n, e_iret0, e_istore_n, e_nil, e_put0, l_ld1, l_ldA0, l_st1, wRef_some, EE_n, EE_s0, lc_lt, lc_le, lc_gt, lc_ge, lc_eq, true_and, and_true, List.length_cons, List.length_nil, ab_ia, Nat.reduceAdd, Nat.reduceLeDiff, Nat.reduceEqDiff, Nat.reduceLT, Int.reduceLT, Int.reduceLE, Int.reduceEq, Int.reduceNeg, true_or, or_true, false_or, or_false, not_false_eq_true, not_true_eq_false, false_implies, true_implies, forall_const, implies_true, Nat.zero_le, Nat.le_refl]
  exact retI ⟨rfl, rfl⟩
theorem m_wipe : CI 121 [vR 69] (EE L, D) (fun r D' => r = D 69 4 ∧ D' = ups D 69 4 0) := by
  refine Sx.un (y := 121) (n := 0) (lo := [vR 69, vU]) (st := []) (u := (0, 0)) ?_
  refine go_121_0 ?_
  simp only [sg_121_0, cl_I, cl_L, cl_R, e_aload_n, e_get0, e_iconst, e_iload_n, e_iret0, e_istore_n, e_nil, e_put0, l_ld1, l_ldA0, l_st1, wRef_some, EE_n, EE_s69, lc_lt, lc_le, lc_gt, lc_ge, lc_eq, true_and, and_true, List.length_cons, List.length_nil, ab_ia, Nat.reduceAdd, Nat.reduceLeDiff, Nat.reduceEqDiff, Nat.reduceLT, Int.reduceLT, Int.reduceLE, Int.reduceEq, Int.reduceNeg, true_or, or_true, false_or, or_false, not_false_eq_true, not_true_eq_false, false_implies, true_implies, forall_const, implies_true, Nat.zero_le, Nat.le_refl]
  exact retI ⟨rfl, rfl⟩
end Write
