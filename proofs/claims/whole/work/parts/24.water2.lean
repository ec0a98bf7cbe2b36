/-! water: the calls -/
section Water2
variable {L : Nat} {D : ab_D}
theorem w_mayRise {b : Int} (hr : 0 ≤ D 59 1 ∧ D 59 1 ≤ 8) : CI 65 [vR 59, vI b] (EE L, D) (fun r D' => (D 59 1 = 8 ∧ r = -4 ∧ D' = D) ∨ (D 59 1 < 8 ∧ r = D 59 1 + 1 ∧ D' = ups (ups D 60 (D 59 1).toNat b) 59 1 (D 59 1 + 1))) := by
  refine Sx.un (y := 65) (n := 0) (lo := [vR 59, vI b]) (st := []) (u := (0, 0)) ?_
  refine go_65_0 ?_
  simp only [sg_65_0, cl_I, cl_L, cl_R, e_aload_n, e_bipush, e_get0, e_icmp_lt, e_iret0, e_nil, l_ldA0, wRef_some, EE_n, EE_s59, lc_lt, lc_le, lc_gt, lc_ge, lc_eq, true_and, and_true, List.length_cons, List.length_nil, ab_ia, Nat.reduceAdd, Nat.reduceLeDiff, Nat.reduceEqDiff, Nat.reduceLT, Int.reduceLT, Int.reduceLE, Int.reduceEq, Int.reduceNeg, true_or, or_true, false_or, or_false, not_false_eq_true, not_true_eq_false, false_implies, true_implies, forall_const, implies_true, Nat.zero_le, Nat.le_refl]
  refine ⟨fun h1 => ?_, fun h1 => retI (Or.inl ⟨by omega, rfl, rfl⟩)⟩
  refine go_65_6 ?_
  simp only [sg_65_6, cl_I, cl_L, cl_R, e_aload_n, e_dupI, e_dupR, e_get0, e_get1, e_iadd, e_iastore, e_iconst, e_iload_n, e_iret0, e_nil, e_put0, l_ld1, l_ldA0, wRef_some, EE_n, EE_r59_0, EE_s59, EE_s60, lc_lt, lc_le, lc_gt, lc_ge, lc_eq, true_and, and_true, List.length_cons, List.length_nil, ab_ia, Nat.reduceAdd, Nat.reduceLeDiff, Nat.reduceEqDiff, Nat.reduceLT, Int.reduceLT, Int.reduceLE, Int.reduceEq, Int.reduceNeg, true_or, or_true, false_or, or_false, not_false_eq_true, not_true_eq_false, false_implies, true_implies, forall_const, implies_true, Nat.zero_le, Nat.le_refl]
  have e : ups D 60 (D 59 1).toNat b 59 1 = D 59 1 := ups_ne1 (by decide)
  refine ⟨by omega, ?_⟩
  rw [e]
  refine ⟨⟨by omega, by omega⟩, retI (Or.inr ⟨h1, ups_self, rfl⟩)⟩
theorem p_rise {b : Int} (hr : 0 ≤ D 59 1 ∧ D 59 1 ≤ 8) : CI 87 [vR 0, vI b] (EE L, D) (fun r D' => (¬ (0 ≤ b ∧ b ≤ 20) ∧ r = -2 ∧ D' = D) ∨ ((0 ≤ b ∧ b ≤ 20) ∧ D 59 1 = 8 ∧ r = -4 ∧ D' = D) ∨ ((0 ≤ b ∧ b ≤ 20) ∧ D 59 1 < 8 ∧ r = D 59 1 + 1 ∧ D' = ups (ups D 60 (D 59 1).toNat b) 59 1 (D 59 1 + 1))) := by
  refine Sx.un (y := 87) (n := 0) (lo := [vR 0, vI b]) (st := []) (u := (0, 0)) ?_
  refine go_87_0 ?_
  simp only [sg_87_0, cl_I, cl_L, cl_R, e_bipush, e_icmp_le, e_if_lt, e_iload_n, e_iret0, e_nil, l_ld1, lc_lt, lc_le, lc_gt, lc_ge, lc_eq, true_and, and_true, List.length_cons, List.length_nil, ab_ia, Nat.reduceAdd, Nat.reduceLeDiff, Nat.reduceEqDiff, Nat.reduceLT, Int.reduceLT, Int.reduceLE, Int.reduceEq, Int.reduceNeg, true_or, or_true, false_or, or_false, not_false_eq_true, not_true_eq_false, false_implies, true_implies, forall_const, implies_true, Nat.zero_le, Nat.le_refl]
  refine ⟨fun h1 => ?_, fun h1 => ⟨fun h2 => ?_, fun h2 => ?_⟩⟩
  · refine go_87_5 ?_
    simp only [sg_87_5, cl_I, cl_L, cl_R, e_bipush, e_iret0, e_nil, lc_lt, lc_le, lc_gt, lc_ge, lc_eq, true_and, and_true, List.length_cons, List.length_nil, ab_ia, Nat.reduceAdd, Nat.reduceLeDiff, Nat.reduceEqDiff, Nat.reduceLT, Int.reduceLT, Int.reduceLE, Int.reduceEq, Int.reduceNeg, true_or, or_true, false_or, or_false, not_false_eq_true, not_true_eq_false, false_implies, true_implies, forall_const, implies_true, Nat.zero_le, Nat.le_refl]
    exact retI (Or.inl ⟨by omega, rfl, rfl⟩)
  · refine go_87_7 ?_
    simp only [sg_87_7, cl_I, cl_L, cl_R, e_aload_n, e_cv2, e_get1, e_iload_n, e_iret0, e_nil, fl_0, fl_I, fl_L, fl_R, l_ld1, l_ldA0, rk_1, wRef_some, EE_n, EE_r0_8, EE_s0, EE_s59, lc_lt, lc_le, lc_gt, lc_ge, lc_eq, true_and, and_true, List.length_cons, List.length_nil, ab_ia, Nat.reduceAdd, Nat.reduceLeDiff, Nat.reduceEqDiff, Nat.reduceLT, Int.reduceLT, Int.reduceLE, Int.reduceEq, Int.reduceNeg, true_or, or_true, false_or, or_false, not_false_eq_true, not_true_eq_false, false_implies, true_implies, forall_const, implies_true, Nat.zero_le, Nat.le_refl]
    refine (w_mayRise hr).mono ?_
    rintro r D' (⟨q1, q2, q3⟩ | ⟨q1, q2, q3⟩)
    · exact retI (Or.inr (Or.inl ⟨by omega, q1, q2, q3⟩))
    · exact retI (Or.inr (Or.inr ⟨by omega, q1, q2, q3⟩))
  · exact retI (Or.inl ⟨by omega, rfl, rfl⟩)
theorem m_rise {b : Int} (hr : 0 ≤ D 69 19 ∧ D 69 19 ≤ 8) : CI 163 [vR 69, vI b] (EE L, D) (fun r D' => (¬ (0 ≤ b ∧ b ≤ 20) ∧ r = -2 ∧ D' = D) ∨ ((0 ≤ b ∧ b ≤ 20) ∧ D 69 19 = 8 ∧ r = -4 ∧ D' = D) ∨ ((0 ≤ b ∧ b ≤ 20) ∧ D 69 19 < 8 ∧ r = D 69 19 + 1 ∧ D' = ups (ups D 81 (D 69 19).toNat b) 69 19 (D 69 19 + 1))) := by
  refine Sx.un (y := 163) (n := 0) (lo := [vR 69, vI b]) (st := []) (u := (0, 0)) ?_
  refine go_163_0 ?_
  simp only [sg_163_0, cl_I, cl_L, cl_R, e_bipush, e_cs3, e_i2l, e_if_ne, e_iload_n, e_iret0, e_lconst, e_ldc2, e_nil, fl_0, fl_I, fl_L, fl_R, l_ld1, rk_1, lc_lt, lc_le, lc_gt, lc_ge, lc_eq, true_and, and_true, List.length_cons, List.length_nil, ab_ia, Nat.reduceAdd, Nat.reduceLeDiff, Nat.reduceEqDiff, Nat.reduceLT, Int.reduceLT, Int.reduceLE, Int.reduceEq, Int.reduceNeg, true_or, or_true, false_or, or_false, not_false_eq_true, not_true_eq_false, false_implies, true_implies, forall_const, implies_true, Nat.zero_le, Nat.le_refl]
  refine CB.use m_in (fun h1 => ?_) (fun h1 => ?_)
  · try simp only [lc_lt, lc_le, lc_gt, lc_ge, lc_eq, true_and, and_true, List.length_cons, List.length_nil, ab_ia, Nat.reduceAdd, Nat.reduceLeDiff, Nat.reduceEqDiff, Nat.reduceLT, Int.reduceLT, Int.reduceLE, Int.reduceEq, Int.reduceNeg, true_or, or_true, false_or, or_false, not_false_eq_true, not_true_eq_false, false_implies, true_implies, forall_const, implies_true, Nat.zero_le, Nat.le_refl]
    refine go_163_8 ?_
    simp only [sg_163_8, cl_I, cl_L, cl_R, e_aload_n, e_bipush, e_get0, e_icmp_ne, e_iret0, e_nil, l_ldA0, wRef_some, EE_n, EE_s69, lc_lt, lc_le, lc_gt, lc_ge, lc_eq, true_and, and_true, List.length_cons, List.length_nil, ab_ia, Nat.reduceAdd, Nat.reduceLeDiff, Nat.reduceEqDiff, Nat.reduceLT, Int.reduceLT, Int.reduceLE, Int.reduceEq, Int.reduceNeg, true_or, or_true, false_or, or_false, not_false_eq_true, not_true_eq_false, false_implies, true_implies, forall_const, implies_true, Nat.zero_le, Nat.le_refl]
    refine ⟨fun h2 => ?_, fun h2 => retI (Or.inr (Or.inl ⟨by omega, by omega, rfl, rfl⟩))⟩
    refine go_163_14 ?_
    simp only [sg_163_14, cl_I, cl_L, cl_R, e_aload_n, e_dupI, e_dupR, e_get0, e_get1, e_iadd, e_iastore, e_iconst, e_iload_n, e_iret0, e_nil, e_put0, l_ld1, l_ldA0, wRef_some, EE_n, EE_r69_20, EE_s69, EE_s81, lc_lt, lc_le, lc_gt, lc_ge, lc_eq, true_and, and_true, List.length_cons, List.length_nil, ab_ia, Nat.reduceAdd, Nat.reduceLeDiff, Nat.reduceEqDiff, Nat.reduceLT, Int.reduceLT, Int.reduceLE, Int.reduceEq, Int.reduceNeg, true_or, or_true, false_or, or_false, not_false_eq_true, not_true_eq_false, false_implies, true_implies, forall_const, implies_true, Nat.zero_le, Nat.le_refl]
    have e : ups D 81 (D 69 19).toNat b 69 19 = D 69 19 := ups_ne1 (by decide)
    refine ⟨by omega, ?_⟩
    rw [e]
    refine ⟨⟨by omega, by omega⟩, retI (Or.inr (Or.inr ⟨by omega, by omega, ups_self, rfl⟩))⟩
  · try simp only [lc_lt, lc_le, lc_gt, lc_ge, lc_eq, true_and, and_true, List.length_cons, List.length_nil, ab_ia, Nat.reduceAdd, Nat.reduceLeDiff, Nat.reduceEqDiff, Nat.reduceLT, Int.reduceLT, Int.reduceLE, Int.reduceEq, Int.reduceNeg, true_or, or_true, false_or, or_false, not_false_eq_true, not_true_eq_false, false_implies, true_implies, forall_const, implies_true, Nat.zero_le, Nat.le_refl]
    exact retI (Or.inl ⟨by omega, rfl, rfl⟩)
theorem p_calm : CI 88 [vR 0] (EE L, D) (fun r D' => r = D 59 1 ∧ D' = ups D 59 1 0) := by
  refine Sx.un (y := 88) (n := 0) (lo := [vR 0, vU]) (st := []) (u := (0, 0)) ?_
  refine go_88_0 ?_
  simp only [sg_88_0, cl_I, cl_L, cl_R, e_aload_n, e_get0, e_get1, e_iconst, e_iload_n, e_iret0, e_istore_n, e_nil, e_put0, l_ld1, l_ldA0, l_st1, wRef_some, EE_n, EE_r0_8, EE_s0, EE_s59, lc_lt, lc_le, lc_gt, lc_ge, lc_eq, true_and, and_true, List.length_cons, List.length_nil, ab_ia, Nat.reduceAdd, Nat.reduceLeDiff, Nat.reduceEqDiff, Nat.reduceLT, Int.reduceLT, Int.reduceLE, Int.reduceEq, Int.reduceNeg, true_or, or_true, false_or, or_false, not_false_eq_true, not_true_eq_false, false_implies, true_implies, forall_const, implies_true, Nat.zero_le, Nat.le_refl]
  exact retI ⟨rfl, rfl⟩
theorem m_calm : CI 164 [vR 69] (EE L, D) (fun r D' => r = D 69 19 ∧ D' = ups D 69 19 0) := by
  refine Sx.un (y := 164) (n := 0) (lo := [vR 69, vU]) (st := []) (u := (0, 0)) ?_
  refine go_164_0 ?_
  simp only [sg_164_0, cl_I, cl_L, cl_R, e_aload_n, e_get0, e_iconst, e_iload_n, e_iret0, e_istore_n, e_nil, e_put0, l_ld1, l_ldA0, l_st1, wRef_some, EE_n, EE_s69, lc_lt, lc_le, lc_gt, lc_ge, lc_eq, true_and, and_true, List.length_cons, List.length_nil, ab_ia, Nat.reduceAdd, Nat.reduceLeDiff, Nat.reduceEqDiff, Nat.reduceLT, Int.reduceLT, Int.reduceLE, Int.reduceEq, Int.reduceNeg, true_or, or_true, false_or, or_false, not_false_eq_true, not_true_eq_false, false_implies, true_implies, forall_const, implies_true, Nat.zero_le, Nat.le_refl]
  exact retI ⟨rfl, rfl⟩
/-- what wet answers -/
def wetA (r : Int) (f : Nat → Int) (feet n up : Int) : Int :=
  if ¬ ((0 ≤ feet ∧ feet ≤ 21) ∧ 1 ≤ n ∧ n ≤ 6) then -2 else if r = 0 then -3 else
  if up = 0 then ipw r n.toNat / ig (wetU r f feet n) (ipw r n.toNat) else wetU r f feet n / ig (wetU r f feet n) (ipw r n.toNat)
theorem p_wet {feet n up : Int} (hr : 0 ≤ D 59 1 ∧ D 59 1 ≤ 8) : CL 89 [vR 0, vI feet, vI n, vI up] (EE L, D) (fun r D' => r = wetA (D 59 1) (D 60) feet n up ∧ D' = D) := by
  refine Sx.un (y := 89) (n := 0) (lo := [vR 0, vI feet, vI n, vI up, vU, vU, vU, vU, vU, vU]) (st := []) (u := (0, 0)) ?_
  have out : ¬ ((0 ≤ feet ∧ feet ≤ 21) ∧ 1 ≤ n ∧ n ≤ 6) → ∃ x D', (some (Sum.inr (Sum.inl (-((2 : Nat) : Int)))) : Option ab_V) = some (Sum.inr (Sum.inl x)) ∧ (EE L, D) = (EE L, D') ∧ (x = wetA (D 59 1) (D 60) feet n up ∧ D' = D) := fun q => retL (P := fun x D' => x = wetA (D 59 1) (D 60) feet n up ∧ D' = D) ⟨by unfold wetA; rw [if_pos q]; rfl, rfl⟩
  refine go_89_0 ?_
  simp only [sg_89_0, cl_I, cl_L, cl_R, e_bipush, e_icmp_gt, e_icmp_le, e_icmp_lt, e_iconst, e_if_lt, e_iload_n, e_ldc2m, e_lret, e_nil, l_ld1, l_ld2, lc_lt, lc_le, lc_gt, lc_ge, lc_eq, true_and, and_true, List.length_cons, List.length_nil, ab_ia, Nat.reduceAdd, Nat.reduceLeDiff, Nat.reduceEqDiff, Nat.reduceLT, Int.reduceLT, Int.reduceLE, Int.reduceEq, Int.reduceNeg, true_or, or_true, false_or, or_false, not_false_eq_true, not_true_eq_false, false_implies, true_implies, forall_const, implies_true, Nat.zero_le, Nat.le_refl]
  refine ⟨fun h1 => ?_, fun h1 => ⟨fun h2 => ?_, fun h2 => ⟨fun h3 => ?_, fun h3 => ⟨fun h4 => ?_, fun h4 => out (by omega)⟩⟩⟩⟩
  · refine go_89_11 ?_
    simp only [sg_89_11, cl_I, cl_L, cl_R, e_ldc2m, e_lret, e_nil, lc_lt, lc_le, lc_gt, lc_ge, lc_eq, true_and, and_true, List.length_cons, List.length_nil, ab_ia, Nat.reduceAdd, Nat.reduceLeDiff, Nat.reduceEqDiff, Nat.reduceLT, Int.reduceLT, Int.reduceLE, Int.reduceEq, Int.reduceNeg, true_or, or_true, false_or, or_false, not_false_eq_true, not_true_eq_false, false_implies, true_implies, forall_const, implies_true, Nat.zero_le, Nat.le_refl]
    exact out (by omega)
  · refine go_89_11 ?_
    simp only [sg_89_11, cl_I, cl_L, cl_R, e_ldc2m, e_lret, e_nil, lc_lt, lc_le, lc_gt, lc_ge, lc_eq, true_and, and_true, List.length_cons, List.length_nil, ab_ia, Nat.reduceAdd, Nat.reduceLeDiff, Nat.reduceEqDiff, Nat.reduceLT, Int.reduceLT, Int.reduceLE, Int.reduceEq, Int.reduceNeg, true_or, or_true, false_or, or_false, not_false_eq_true, not_true_eq_false, false_implies, true_implies, forall_const, implies_true, Nat.zero_le, Nat.le_refl]
    exact out (by omega)
  · refine go_89_11 ?_
    simp only [sg_89_11, cl_I, cl_L, cl_R, e_ldc2m, e_lret, e_nil, lc_lt, lc_le, lc_gt, lc_ge, lc_eq, true_and, and_true, List.length_cons, List.length_nil, ab_ia, Nat.reduceAdd, Nat.reduceLeDiff, Nat.reduceEqDiff, Nat.reduceLT, Int.reduceLT, Int.reduceLE, Int.reduceEq, Int.reduceNeg, true_or, or_true, false_or, or_false, not_false_eq_true, not_true_eq_false, false_implies, true_implies, forall_const, implies_true, Nat.zero_le, Nat.le_refl]
    exact out (by omega)
  · refine go_89_13 ?_
    simp only [sg_89_13, cl_I, cl_L, cl_R, e_aload_n, e_get0, e_get1, e_if_ne, e_ldc2m, e_lret, e_nil, l_ldA0, wRef_some, EE_n, EE_r0_8, EE_s0, EE_s59, lc_lt, lc_le, lc_gt, lc_ge, lc_eq, true_and, and_true, List.length_cons, List.length_nil, ab_ia, Nat.reduceAdd, Nat.reduceLeDiff, Nat.reduceEqDiff, Nat.reduceLT, Int.reduceLT, Int.reduceLE, Int.reduceEq, Int.reduceNeg, true_or, or_true, false_or, or_false, not_false_eq_true, not_true_eq_false, false_implies, true_implies, forall_const, implies_true, Nat.zero_le, Nat.le_refl]
    have hin : (0 ≤ feet ∧ feet ≤ 21) ∧ 1 ≤ n ∧ n ≤ 6 := by omega
    refine ⟨fun h5 => ?_, fun h5 => retL ⟨by unfold wetA; rw [if_neg (fun q => q hin), if_pos (by omega)]; rfl, rfl⟩⟩
    have hb := wetU_bd (r := D 59 1) (f := D 60) (floor := feet) (n := n) (by omega) (by omega)
    have hg := ig_pos (a := wetU (D 59 1) (D 60) feet n) (b := ipw (D 59 1) n.toNat) hb.1 (by omega)
    refine go_89_19 ?_
    simp only [sg_89_19, cl_I, cl_L, cl_R, e_aload_n, e_cs2, e_cv2, e_cv3, e_get1, e_goto, e_if_eq, e_iload_n, e_ldiv, e_lload, e_lstore, e_nil, fl_0, fl_I, fl_L, fl_R, l_ld1, l_ld2, l_ld3, l_ldA0, l_ldL4, l_ldL6, l_ldL8, l_stL4, l_stL6, l_stL8, rk_2, wRef_some, EE_n, EE_r0_8, EE_s0, EE_s59, lc_lt, lc_le, lc_gt, lc_ge, lc_eq, true_and, and_true, List.length_cons, List.length_nil, ab_ia, Nat.reduceAdd, Nat.reduceLeDiff, Nat.reduceEqDiff, Nat.reduceLT, Int.reduceLT, Int.reduceLE, Int.reduceEq, Int.reduceNeg, true_or, or_true, false_or, or_false, not_false_eq_true, not_true_eq_false, false_implies, true_implies, forall_const, implies_true, Nat.zero_le, Nat.le_refl]
    refine CL.use (w_above hr (by omega)) ?_
    refine CL.use (w_below hr (by omega)) ?_
    refine CL.use (p_gcd (by omega) (by omega)) ?_
    refine ⟨fun h6 => ?_, fun h6 => ⟨by omega, ?_⟩⟩
    · refine go_89_40 ?_
      simp only [sg_89_40, cl_I, cl_L, cl_R, e_ldiv, e_lload, e_lret, e_nil, l_ldL6, l_ldL8, lc_lt, lc_le, lc_gt, lc_ge, lc_eq, true_and, and_true, List.length_cons, List.length_nil, ab_ia, Nat.reduceAdd, Nat.reduceLeDiff, Nat.reduceEqDiff, Nat.reduceLT, Int.reduceLT, Int.reduceLE, Int.reduceEq, Int.reduceNeg, true_or, or_true, false_or, or_false, not_false_eq_true, not_true_eq_false, false_implies, true_implies, forall_const, implies_true, Nat.zero_le, Nat.le_refl]
      refine ⟨by omega, retL ⟨?_, rfl⟩⟩
      unfold wetA
      rw [if_neg (fun q => q hin), if_neg (by omega), if_pos h6]
    · refine go_89_43 ?_
      simp only [sg_89_43, cl_I, cl_L, cl_R, e_lret, e_nil, lc_lt, lc_le, lc_gt, lc_ge, lc_eq, true_and, and_true, List.length_cons, List.length_nil, ab_ia, Nat.reduceAdd, Nat.reduceLeDiff, Nat.reduceEqDiff, Nat.reduceLT, Int.reduceLT, Int.reduceLE, Int.reduceEq, Int.reduceNeg, true_or, or_true, false_or, or_false, not_false_eq_true, not_true_eq_false, false_implies, true_implies, forall_const, implies_true, Nat.zero_le, Nat.le_refl]
      refine retL ⟨?_, rfl⟩
      unfold wetA
      rw [if_neg (fun q => q hin), if_neg (by omega), if_neg h6]
theorem m_wet_loop {Q : Option ab_V → ab_H → Prop} {feet n up g : Int} {h : ab_H} (hq : ∀ (x8 x9 : ab_V), Sx 167 42 [vR 69, vI feet, vI n, vI up, vL g, vU, vL 0, vU, x8, x9] [] h (0, 0) Q) :
    ∀ (t : Nat) (a b : Int) (x8 x9 : ab_V), 0 ≤ a → 0 ≤ b → b ≤ t → ig a b = g → Sx 167 29 [vR 69, vI feet, vI n, vI up, vL a, vU, vL b, vU, x8, x9] [] h (0, 0) Q := by
  intro t
  induction t with
  | zero =>
    intro a b x8 x9 ha hb hb2 hgg
    have : b = 0 := by omega
    subst this
    rw [ig_0 ha] at hgg
    subst hgg
    refine go_167_29 ?_
    simp only [sg_167_29, cl_I, cl_L, cl_R, e_goto, e_if_eq, e_lcmp, e_lconst, e_lload, e_lrem, e_lstore, e_nil, l_ldL4, l_ldL6, l_ldL8, l_stL4, l_stL6, l_stL8, lc_lt, lc_le, lc_gt, lc_ge, lc_eq, true_and, and_true, List.length_cons, List.length_nil, ab_ia, Nat.reduceAdd, Nat.reduceLeDiff, Nat.reduceEqDiff, Nat.reduceLT, Int.reduceLT, Int.reduceLE, Int.reduceEq, Int.reduceNeg, true_or, or_true, false_or, or_false, not_false_eq_true, not_true_eq_false, false_implies, true_implies, forall_const, implies_true, Nat.zero_le, Nat.le_refl]
    exact ⟨fun _ => hq _ _, fun hc => absurd rfl hc⟩
  | succ t ih =>
    intro a b x8 x9 ha hb hb2 hgg
    by_cases hb0 : b = 0
    · subst hb0
      rw [ig_0 ha] at hgg
      subst hgg
      refine go_167_29 ?_
      simp only [sg_167_29, cl_I, cl_L, cl_R, e_goto, e_if_eq, e_lcmp, e_lconst, e_lload, e_lrem, e_lstore, e_nil, l_ldL4, l_ldL6, l_ldL8, l_stL4, l_stL6, l_stL8, lc_lt, lc_le, lc_gt, lc_ge, lc_eq, true_and, and_true, List.length_cons, List.length_nil, ab_ia, Nat.reduceAdd, Nat.reduceLeDiff, Nat.reduceEqDiff, Nat.reduceLT, Int.reduceLT, Int.reduceLE, Int.reduceEq, Int.reduceNeg, true_or, or_true, false_or, or_false, not_false_eq_true, not_true_eq_false, false_implies, true_implies, forall_const, implies_true, Nat.zero_le, Nat.le_refl]
      exact ⟨fun _ => hq _ _, fun hc => absurd rfl hc⟩
    · have hr1 := Int.emod_nonneg a (show b ≠ 0 by omega)
      have hr2 := Int.emod_lt_of_pos a (show 0 < b by omega)
      rw [ig_step ha (by omega)] at hgg
      refine go_167_29 ?_
      simp only [sg_167_29, cl_I, cl_L, cl_R, e_goto, e_if_eq, e_lcmp, e_lconst, e_lload, e_lrem, e_lstore, e_nil, l_ldL4, l_ldL6, l_ldL8, l_stL4, l_stL6, l_stL8, lc_lt, lc_le, lc_gt, lc_ge, lc_eq, true_and, and_true, List.length_cons, List.length_nil, ab_ia, Nat.reduceAdd, Nat.reduceLeDiff, Nat.reduceEqDiff, Nat.reduceLT, Int.reduceLT, Int.reduceLE, Int.reduceEq, Int.reduceNeg, true_or, or_true, false_or, or_false, not_false_eq_true, not_true_eq_false, false_implies, true_implies, forall_const, implies_true, Nat.zero_le, Nat.le_refl]
      refine ⟨fun hc => absurd hc (by simpa using hb0), fun _ => ⟨by omega, ?_⟩⟩
      exact ih b (a % b) _ _ (by omega) (by omega) (by omega) hgg
theorem m_wet {feet n up : Int} (hr : 0 ≤ D 69 19 ∧ D 69 19 ≤ 8) : CL 167 [vR 69, vI feet, vI n, vI up] (EE L, D) (fun r D' => r = wetA (D 69 19) (D 81) feet n up ∧ D' = D) := by
  refine Sx.un (y := 167) (n := 0) (lo := [vR 69, vI feet, vI n, vI up, vU, vU, vU, vU, vU, vU]) (st := []) (u := (0, 0)) ?_
  have out : ¬ ((0 ≤ feet ∧ feet ≤ 21) ∧ 1 ≤ n ∧ n ≤ 6) → ∃ x D', (some (Sum.inr (Sum.inl (-((2 : Nat) : Int)))) : Option ab_V) = some (Sum.inr (Sum.inl x)) ∧ (EE L, D) = (EE L, D') ∧ (x = wetA (D 69 19) (D 81) feet n up ∧ D' = D) := fun q => retL (P := fun x D' => x = wetA (D 69 19) (D 81) feet n up ∧ D' = D) ⟨by unfold wetA; rw [if_pos q]; rfl, rfl⟩
  refine go_167_0 ?_
  simp only [sg_167_0, cl_I, cl_L, cl_R, e_cs3, e_i2l, e_if_eq, e_if_ne, e_iload_n, e_lconst, e_ldc2, e_ldc2m, e_lret, e_nil, fl_0, fl_I, fl_L, fl_R, l_ld1, l_ld2, rk_1, lc_lt, lc_le, lc_gt, lc_ge, lc_eq, true_and, and_true, List.length_cons, List.length_nil, ab_ia, Nat.reduceAdd, Nat.reduceLeDiff, Nat.reduceEqDiff, Nat.reduceLT, Int.reduceLT, Int.reduceLE, Int.reduceEq, Int.reduceNeg, true_or, or_true, false_or, or_false, not_false_eq_true, not_true_eq_false, false_implies, true_implies, forall_const, implies_true, Nat.zero_le, Nat.le_refl]
  refine CB.use m_in (fun h1 => ?_) (fun h1 => ?_)
  · try simp only [lc_lt, lc_le, lc_gt, lc_ge, lc_eq, true_and, and_true, List.length_cons, List.length_nil, ab_ia, Nat.reduceAdd, Nat.reduceLeDiff, Nat.reduceEqDiff, Nat.reduceLT, Int.reduceLT, Int.reduceLE, Int.reduceEq, Int.reduceNeg, true_or, or_true, false_or, or_false, not_false_eq_true, not_true_eq_false, false_implies, true_implies, forall_const, implies_true, Nat.zero_le, Nat.le_refl]
    refine CB.use m_in (fun h2 => ?_) (fun h2 => ?_)
    · try simp only [lc_lt, lc_le, lc_gt, lc_ge, lc_eq, true_and, and_true, List.length_cons, List.length_nil, ab_ia, Nat.reduceAdd, Nat.reduceLeDiff, Nat.reduceEqDiff, Nat.reduceLT, Int.reduceLT, Int.reduceLE, Int.reduceEq, Int.reduceNeg, true_or, or_true, false_or, or_false, not_false_eq_true, not_true_eq_false, false_implies, true_implies, forall_const, implies_true, Nat.zero_le, Nat.le_refl]
      refine go_167_14 ?_
      simp only [sg_167_14, cl_I, cl_L, cl_R, e_aload_n, e_get0, e_if_ne, e_ldc2m, e_lret, e_nil, l_ldA0, wRef_some, EE_n, EE_s69, lc_lt, lc_le, lc_gt, lc_ge, lc_eq, true_and, and_true, List.length_cons, List.length_nil, ab_ia, Nat.reduceAdd, Nat.reduceLeDiff, Nat.reduceEqDiff, Nat.reduceLT, Int.reduceLT, Int.reduceLE, Int.reduceEq, Int.reduceNeg, true_or, or_true, false_or, or_false, not_false_eq_true, not_true_eq_false, false_implies, true_implies, forall_const, implies_true, Nat.zero_le, Nat.le_refl]
      have hin : (0 ≤ feet ∧ feet ≤ 21) ∧ 1 ≤ n ∧ n ≤ 6 := by omega
      refine ⟨fun h5 => ?_, fun h5 => retL ⟨by unfold wetA; rw [if_neg (fun q => q hin), if_pos (by omega)]; rfl, rfl⟩⟩
      have hb := wetU_bd (r := D 69 19) (f := D 81) (floor := feet) (n := n) (by omega) (by omega)
      have hg := ig_pos (a := wetU (D 69 19) (D 81) feet n) (b := ipw (D 69 19) n.toNat) hb.1 (by omega)
      refine go_167_19 ?_
      simp only [sg_167_19, cl_I, cl_L, cl_R, e_aload_n, e_cs2, e_cv3, e_get0, e_iload_n, e_lstore, e_nil, fl_0, fl_I, fl_L, fl_R, l_ld1, l_ld2, l_ldA0, l_stL4, l_stL6, rk_2, wRef_some, EE_n, EE_s69, lc_lt, lc_le, lc_gt, lc_ge, lc_eq, true_and, and_true, List.length_cons, List.length_nil, ab_ia, Nat.reduceAdd, Nat.reduceLeDiff, Nat.reduceEqDiff, Nat.reduceLT, Int.reduceLT, Int.reduceLE, Int.reduceEq, Int.reduceNeg, true_or, or_true, false_or, or_false, not_false_eq_true, not_true_eq_false, false_implies, true_implies, forall_const, implies_true, Nat.zero_le, Nat.le_refl]
      refine CL.use (m_wetOf hr (by omega)) ?_
      refine CL.use (m_power (by omega) (by omega)) ?_
      refine m_wet_loop (g := ig (wetU (D 69 19) (D 81) feet n) (ipw (D 69 19) n.toNat)) (fun x8 x9 => ?_) (ipw (D 69 19) n.toNat).toNat _ _ _ _ hb.1 (by omega) (by omega) rfl
      refine go_167_42 ?_
      simp only [sg_167_42, cl_I, cl_L, cl_R, e_aload_n, e_cv3, e_goto, e_if_eq, e_iload_n, e_ldiv, e_lload, e_nil, fl_0, fl_I, fl_L, fl_R, l_ld1, l_ld2, l_ld3, l_ldA0, l_ldL4, rk_2, EE_n, EE_s69, lc_lt, lc_le, lc_gt, lc_ge, lc_eq, true_and, and_true, List.length_cons, List.length_nil, ab_ia, Nat.reduceAdd, Nat.reduceLeDiff, Nat.reduceEqDiff, Nat.reduceLT, Int.reduceLT, Int.reduceLE, Int.reduceEq, Int.reduceNeg, true_or, or_true, false_or, or_false, not_false_eq_true, not_true_eq_false, false_implies, true_implies, forall_const, implies_true, Nat.zero_le, Nat.le_refl]
      refine ⟨fun h6 => ?_, fun h6 => ?_⟩
      · refine go_167_51 ?_
        simp only [sg_167_51, cl_I, cl_L, cl_R, e_aload_n, e_cs2, e_get0, e_iload_n, e_ldiv, e_lload, e_lret, e_nil, fl_0, fl_I, fl_L, fl_R, l_ld2, l_ldA0, l_ldL4, rk_2, wRef_some, EE_n, EE_s69, lc_lt, lc_le, lc_gt, lc_ge, lc_eq, true_and, and_true, List.length_cons, List.length_nil, ab_ia, Nat.reduceAdd, Nat.reduceLeDiff, Nat.reduceEqDiff, Nat.reduceLT, Int.reduceLT, Int.reduceLE, Int.reduceEq, Int.reduceNeg, true_or, or_true, false_or, or_false, not_false_eq_true, not_true_eq_false, false_implies, true_implies, forall_const, implies_true, Nat.zero_le, Nat.le_refl]
        refine CL.use (m_power (by omega) (by omega)) ?_
        refine ⟨by omega, retL ⟨?_, rfl⟩⟩
        unfold wetA
        rw [if_neg (fun q => q hin), if_neg (by omega), if_pos h6]
      · refine CL.use (m_wetOf hr (by omega)) ?_
        refine ⟨by omega, ?_⟩
        refine go_167_57 ?_
        simp only [sg_167_57, cl_I, cl_L, cl_R, e_lret, e_nil, lc_lt, lc_le, lc_gt, lc_ge, lc_eq, true_and, and_true, List.length_cons, List.length_nil, ab_ia, Nat.reduceAdd, Nat.reduceLeDiff, Nat.reduceEqDiff, Nat.reduceLT, Int.reduceLT, Int.reduceLE, Int.reduceEq, Int.reduceNeg, true_or, or_true, false_or, or_false, not_false_eq_true, not_true_eq_false, false_implies, true_implies, forall_const, implies_true, Nat.zero_le, Nat.le_refl]
        refine retL ⟨?_, rfl⟩
        unfold wetA
        rw [if_neg (fun q => q hin), if_neg (by omega), if_neg h6]
    · try simp only [lc_lt, lc_le, lc_gt, lc_ge, lc_eq, true_and, and_true, List.length_cons, List.length_nil, ab_ia, Nat.reduceAdd, Nat.reduceLeDiff, Nat.reduceEqDiff, Nat.reduceLT, Int.reduceLT, Int.reduceLE, Int.reduceEq, Int.reduceNeg, true_or, or_true, false_or, or_false, not_false_eq_true, not_true_eq_false, false_implies, true_implies, forall_const, implies_true, Nat.zero_le, Nat.le_refl]
      exact out (by omega)
  · try simp only [lc_lt, lc_le, lc_gt, lc_ge, lc_eq, true_and, and_true, List.length_cons, List.length_nil, ab_ia, Nat.reduceAdd, Nat.reduceLeDiff, Nat.reduceEqDiff, Nat.reduceLT, Int.reduceLT, Int.reduceLE, Int.reduceEq, Int.reduceNeg, true_or, or_true, false_or, or_false, not_false_eq_true, not_true_eq_false, false_implies, true_implies, forall_const, implies_true, Nat.zero_le, Nat.le_refl]
    refine go_167_12 ?_
    simp only [sg_167_12, cl_I, cl_L, cl_R, e_ldc2m, e_lret, e_nil, lc_lt, lc_le, lc_gt, lc_ge, lc_eq, true_and, and_true, List.length_cons, List.length_nil, ab_ia, Nat.reduceAdd, Nat.reduceLeDiff, Nat.reduceEqDiff, Nat.reduceLT, Int.reduceLT, Int.reduceLE, Int.reduceEq, Int.reduceNeg, true_or, or_true, false_or, or_false, not_false_eq_true, not_true_eq_false, false_implies, true_implies, forall_const, implies_true, Nat.zero_le, Nat.le_refl]
    exact out (by omega)
/-- the least feet that are dry enough -/
def isDry (r : Int) (f : Nat → Int) (n x d : Int) : Prop := 0 ≤ d ∧ d ≤ 21 ∧ (∀ e, 0 ≤ e → e < d → x * ipw r n.toNat < 100 * wetU r f e n) ∧ (d ≤ 20 → 100 * wetU r f d n ≤ x * ipw r n.toNat)
theorem isDry_uniq {r : Int} {f : Nat → Int} {n x d d' : Int} (h : isDry r f n x d) (h' : isDry r f n x d') : d = d' := by
  obtain ⟨a1, a2, a3, a4⟩ := h
  obtain ⟨b1, b2, b3, b4⟩ := h'
  rcases Int.lt_trichotomy d d' with q | q | q
  · have := b3 d a1 q
    have := a4 (by omega)
    omega
  · exact q
  · have := a3 d' b1 q
    have := b4 (by omega)
    omega
theorem dry_bd {r x n : Int} (hr : 1 ≤ r ∧ r ≤ 8) (hx : 0 ≤ x ∧ x ≤ 100) (hn : 0 ≤ n ∧ n ≤ 6) : 0 ≤ x * ipw r n.toNat ∧ x * ipw r n.toNat ≤ 26214400 := by
  have h := wetU_bd (r := r) (f := fun _ => 0) (floor := 0) (n := n) hr hn
  constructor
  · exact Int.mul_nonneg hx.1 (by omega)
  · have := Int.mul_le_mul hx.2 h.2.2.2 (by omega) (by decide)
    omega
theorem p_dry_loop {Q : Option ab_V → ab_H → Prop} {n x : Int} (hr : 1 ≤ D 59 1 ∧ D 59 1 ≤ 8) (hn : 1 ≤ n ∧ n ≤ 6) (hx : 0 ≤ x ∧ x ≤ 100) (hq : ∀ d, isDry (D 59 1) (D 60) n x d → Q (some (.inl d)) (EE L, D)) :
    ∀ (j : Nat) (feet : Int), 0 ≤ feet → feet + j = 21 → (∀ e, 0 ≤ e → e < feet → x * ipw (D 59 1) n.toNat < 100 * wetU (D 59 1) (D 60) e n) → Sx 90 21 [vR 0, vI n, vI x, vI feet] [] (EE L, D) (0, 0) Q := by
  intro j
  induction j with
  | zero =>
    intro feet h0 hj hi
    refine go_90_21 ?_
    simp only [sg_90_21, cl_I, cl_L, cl_R, e_aload_n, e_bipush, e_cv2, e_cv3, e_get1, e_goto, e_i2l, e_icmp_gt, e_if_le, e_iinc, e_iload_n, e_lcmp, e_ldc2, e_lmul, e_nil, fl_0, fl_I, fl_L, fl_R, l_inc3, l_ld1, l_ld2, l_ld3, l_ldA0, rk_2, wRef_some, EE_n, EE_r0_8, EE_s0, EE_s59, lc_lt, lc_le, lc_gt, lc_ge, lc_eq, true_and, and_true, List.length_cons, List.length_nil, ab_ia, Nat.reduceAdd, Nat.reduceLeDiff, Nat.reduceEqDiff, Nat.reduceLT, Int.reduceLT, Int.reduceLE, Int.reduceEq, Int.reduceNeg, true_or, or_true, false_or, or_false, not_false_eq_true, not_true_eq_false, false_implies, true_implies, forall_const, implies_true, Nat.zero_le, Nat.le_refl]
    refine ⟨fun _ => ?_, fun hc => absurd hc (by omega)⟩
    refine go_90_42 ?_
    simp only [sg_90_42, cl_I, cl_L, cl_R, e_iload_n, e_iret0, e_nil, l_ld3, lc_lt, lc_le, lc_gt, lc_ge, lc_eq, true_and, and_true, List.length_cons, List.length_nil, ab_ia, Nat.reduceAdd, Nat.reduceLeDiff, Nat.reduceEqDiff, Nat.reduceLT, Int.reduceLT, Int.reduceLE, Int.reduceEq, Int.reduceNeg, true_or, or_true, false_or, or_false, not_false_eq_true, not_true_eq_false, false_implies, true_implies, forall_const, implies_true, Nat.zero_le, Nat.le_refl]
    exact hq feet ⟨h0, by omega, hi, fun q => absurd q (by omega)⟩
  | succ j ih =>
    intro feet h0 hj hi
    have hb := wetU_bd (r := D 59 1) (f := D 60) (floor := feet) (n := n) hr (by omega)
    have hd := dry_bd hr hx (n := n) (by omega)
    refine go_90_21 ?_
    simp only [sg_90_21, cl_I, cl_L, cl_R, e_aload_n, e_bipush, e_cv2, e_cv3, e_get1, e_goto, e_i2l, e_icmp_gt, e_if_le, e_iinc, e_iload_n, e_lcmp, e_ldc2, e_lmul, e_nil, fl_0, fl_I, fl_L, fl_R, l_inc3, l_ld1, l_ld2, l_ld3, l_ldA0, rk_2, wRef_some, EE_n, EE_r0_8, EE_s0, EE_s59, lc_lt, lc_le, lc_gt, lc_ge, lc_eq, true_and, and_true, List.length_cons, List.length_nil, ab_ia, Nat.reduceAdd, Nat.reduceLeDiff, Nat.reduceEqDiff, Nat.reduceLT, Int.reduceLT, Int.reduceLE, Int.reduceEq, Int.reduceNeg, true_or, or_true, false_or, or_false, not_false_eq_true, not_true_eq_false, false_implies, true_implies, forall_const, implies_true, Nat.zero_le, Nat.le_refl]
    refine ⟨fun hc => absurd hc (by omega), fun _ => ?_⟩
    refine CL.use (w_above (by omega) (by omega)) ?_
    refine ⟨⟨by omega, by omega⟩, ?_⟩
    refine CL.use (w_below (by omega) (by omega)) ?_
    have e1 : ipw (D 59 1) n.toNat * x = x * ipw (D 59 1) n.toNat := Int.mul_comm _ _
    rw [e1]
    refine ⟨⟨by omega, by omega⟩, fun hc => ?_, fun hc => ⟨⟨by omega, by omega⟩, ?_⟩⟩
    · refine go_90_42 ?_
      simp only [sg_90_42, cl_I, cl_L, cl_R, e_iload_n, e_iret0, e_nil, l_ld3, lc_lt, lc_le, lc_gt, lc_ge, lc_eq, true_and, and_true, List.length_cons, List.length_nil, ab_ia, Nat.reduceAdd, Nat.reduceLeDiff, Nat.reduceEqDiff, Nat.reduceLT, Int.reduceLT, Int.reduceLE, Int.reduceEq, Int.reduceNeg, true_or, or_true, false_or, or_false, not_false_eq_true, not_true_eq_false, false_implies, true_implies, forall_const, implies_true, Nat.zero_le, Nat.le_refl]
      exact hq feet ⟨h0, by omega, hi, fun _ => by omega⟩
    · refine ih (feet + 1) (by omega) (by omega) (fun e q1 q2 => ?_)
      by_cases he : e = feet
      · subst he; omega
      · exact hi e q1 (by omega)
def dryP (n x : Int) : Prop := (1 ≤ n ∧ n ≤ 6) ∧ 0 ≤ x ∧ x ≤ 100
theorem p_dry {n x : Int} (hr : 0 ≤ D 59 1 ∧ D 59 1 ≤ 8) : CI 90 [vR 0, vI n, vI x] (EE L, D) (fun r D' => ((¬ dryP n x ∧ r = -2) ∨ (dryP n x ∧ D 59 1 = 0 ∧ r = -3) ∨ (dryP n x ∧ 1 ≤ D 59 1 ∧ isDry (D 59 1) (D 60) n x r)) ∧ D' = D) := by
  refine Sx.un (y := 90) (n := 0) (lo := [vR 0, vI n, vI x, vU]) (st := []) (u := (0, 0)) ?_
  refine go_90_0 ?_
  simp only [sg_90_0, cl_I, cl_L, cl_R, e_bipush, e_icmp_gt, e_icmp_le, e_icmp_lt, e_iconst, e_if_lt, e_iload_n, e_iret0, e_nil, l_ld1, l_ld2, lc_lt, lc_le, lc_gt, lc_ge, lc_eq, true_and, and_true, List.length_cons, List.length_nil, ab_ia, Nat.reduceAdd, Nat.reduceLeDiff, Nat.reduceEqDiff, Nat.reduceLT, Int.reduceLT, Int.reduceLE, Int.reduceEq, Int.reduceNeg, true_or, or_true, false_or, or_false, not_false_eq_true, not_true_eq_false, false_implies, true_implies, forall_const, implies_true, Nat.zero_le, Nat.le_refl]
  unfold dryP
  refine ⟨fun h1 => ?_, fun h1 => ⟨fun h2 => ?_, fun h2 => ⟨fun h3 => ?_, fun h3 => ⟨fun h4 => ?_, fun h4 => retI ⟨Or.inl ⟨by omega, rfl⟩, rfl⟩⟩⟩⟩⟩
  · refine go_90_11 ?_
    simp only [sg_90_11, cl_I, cl_L, cl_R, e_bipush, e_iret0, e_nil, lc_lt, lc_le, lc_gt, lc_ge, lc_eq, true_and, and_true, List.length_cons, List.length_nil, ab_ia, Nat.reduceAdd, Nat.reduceLeDiff, Nat.reduceEqDiff, Nat.reduceLT, Int.reduceLT, Int.reduceLE, Int.reduceEq, Int.reduceNeg, true_or, or_true, false_or, or_false, not_false_eq_true, not_true_eq_false, false_implies, true_implies, forall_const, implies_true, Nat.zero_le, Nat.le_refl]
    exact retI ⟨Or.inl ⟨by omega, rfl⟩, rfl⟩
  · refine go_90_11 ?_
    simp only [sg_90_11, cl_I, cl_L, cl_R, e_bipush, e_iret0, e_nil, lc_lt, lc_le, lc_gt, lc_ge, lc_eq, true_and, and_true, List.length_cons, List.length_nil, ab_ia, Nat.reduceAdd, Nat.reduceLeDiff, Nat.reduceEqDiff, Nat.reduceLT, Int.reduceLT, Int.reduceLE, Int.reduceEq, Int.reduceNeg, true_or, or_true, false_or, or_false, not_false_eq_true, not_true_eq_false, false_implies, true_implies, forall_const, implies_true, Nat.zero_le, Nat.le_refl]
    exact retI ⟨Or.inl ⟨by omega, rfl⟩, rfl⟩
  · refine go_90_11 ?_
    simp only [sg_90_11, cl_I, cl_L, cl_R, e_bipush, e_iret0, e_nil, lc_lt, lc_le, lc_gt, lc_ge, lc_eq, true_and, and_true, List.length_cons, List.length_nil, ab_ia, Nat.reduceAdd, Nat.reduceLeDiff, Nat.reduceEqDiff, Nat.reduceLT, Int.reduceLT, Int.reduceLE, Int.reduceEq, Int.reduceNeg, true_or, or_true, false_or, or_false, not_false_eq_true, not_true_eq_false, false_implies, true_implies, forall_const, implies_true, Nat.zero_le, Nat.le_refl]
    exact retI ⟨Or.inl ⟨by omega, rfl⟩, rfl⟩
  · refine go_90_13 ?_
    simp only [sg_90_13, cl_I, cl_L, cl_R, e_aload_n, e_bipush, e_get0, e_get1, e_if_ne, e_iret0, e_nil, l_ldA0, wRef_some, EE_n, EE_r0_8, EE_s0, EE_s59, lc_lt, lc_le, lc_gt, lc_ge, lc_eq, true_and, and_true, List.length_cons, List.length_nil, ab_ia, Nat.reduceAdd, Nat.reduceLeDiff, Nat.reduceEqDiff, Nat.reduceLT, Int.reduceLT, Int.reduceLE, Int.reduceEq, Int.reduceNeg, true_or, or_true, false_or, or_false, not_false_eq_true, not_true_eq_false, false_implies, true_implies, forall_const, implies_true, Nat.zero_le, Nat.le_refl]
    refine ⟨fun h5 => ?_, fun h5 => retI ⟨Or.inr (Or.inl ⟨by omega, by omega, rfl⟩), rfl⟩⟩
    refine go_90_19 ?_
    simp only [sg_90_19, cl_I, cl_L, cl_R, e_iconst, e_istore_n, e_nil, l_st3, lc_lt, lc_le, lc_gt, lc_ge, lc_eq, true_and, and_true, List.length_cons, List.length_nil, ab_ia, Nat.reduceAdd, Nat.reduceLeDiff, Nat.reduceEqDiff, Nat.reduceLT, Int.reduceLT, Int.reduceLE, Int.reduceEq, Int.reduceNeg, true_or, or_true, false_or, or_false, not_false_eq_true, not_true_eq_false, false_implies, true_implies, forall_const, implies_true, Nat.zero_le, Nat.le_refl]
    exact p_dry_loop (by omega) (by omega) (by omega) (fun d hd => retI ⟨Or.inr (Or.inr ⟨by omega, by omega, hd⟩), rfl⟩) 21 0 (by omega) (by omega) (fun e q1 q2 => by omega)
theorem m_dry_loop {Q : Option ab_V → ab_H → Prop} {n x : Int} (hr : 1 ≤ D 69 19 ∧ D 69 19 ≤ 8) (hf : ∀ k : Nat, (k : Int) < D 69 19 → D 81 k ≤ 20) (hn : 1 ≤ n ∧ n ≤ 6) (hx : 0 ≤ x ∧ x ≤ 100) (hq : ∀ d, isDry (D 69 19) (D 81) n x d → Q (some (.inl d)) (EE L, D)) :
    ∀ (j : Nat) (feet : Int), 0 ≤ feet → feet + j = 21 → (∀ e, 0 ≤ e → e < feet → x * ipw (D 69 19) n.toNat < 100 * wetU (D 69 19) (D 81) e n) → Sx 168 21 [vR 69, vI n, vI x, vI feet] [] (EE L, D) (0, 0) Q := by
  intro j
  induction j with
  | zero =>
    intro feet h0 hj hi
    have h21 : feet = 21 := by omega
    subst h21
    have hd := dry_bd hr hx (n := n) (by omega)
    have e0 : wetU (D 69 19) (D 81) 21 n = 0 := by
      unfold wetU
      have : ∀ k : Nat, (k : Int) ≤ D 69 19 → cnt (undr (D 81) 21) k = k := by
        intro k
        induction k with
        | zero => intro _; rfl
        | succ k ihk =>
          intro hk
          simp only [cnt]
          rw [ihk (by omega)]
          have := hf k (by omega)
          rw [if_pos (by simp [undr]; omega)]
          rfl
      rw [this (D 69 19).toNat (by omega), show ((D 69 19).toNat : Int) = D 69 19 by omega]
      omega
    refine go_168_21 ?_
    simp only [sg_168_21, cl_I, cl_L, cl_R, e_aload_n, e_cs2, e_cv3, e_get0, e_goto, e_i2l, e_if_le, e_iinc, e_iload_n, e_lcmp, e_ldc2, e_lmul, e_nil, fl_0, fl_I, fl_L, fl_R, l_inc3, l_ld1, l_ld2, l_ld3, l_ldA0, rk_2, wRef_some, EE_n, EE_s69, lc_lt, lc_le, lc_gt, lc_ge, lc_eq, true_and, and_true, List.length_cons, List.length_nil, ab_ia, Nat.reduceAdd, Nat.reduceLeDiff, Nat.reduceEqDiff, Nat.reduceLT, Int.reduceLT, Int.reduceLE, Int.reduceEq, Int.reduceNeg, true_or, or_true, false_or, or_false, not_false_eq_true, not_true_eq_false, false_implies, true_implies, forall_const, implies_true, Nat.zero_le, Nat.le_refl]
    refine CL.use (m_wetOf (by omega) (by omega)) ?_
    rw [e0]
    refine ⟨⟨by decide, by decide⟩, ?_⟩
    refine CL.use (m_power (by omega) (by omega)) ?_
    refine ⟨⟨by omega, by omega⟩, fun hc => ?_, fun hc => absurd (show ((100 : Nat) : Int) * 0 ≤ x * ipw (D 69 19) n.toNat by omega) hc⟩
    refine go_168_38 ?_
    simp only [sg_168_38, cl_I, cl_L, cl_R, e_iload_n, e_iret0, e_nil, l_ld3, lc_lt, lc_le, lc_gt, lc_ge, lc_eq, true_and, and_true, List.length_cons, List.length_nil, ab_ia, Nat.reduceAdd, Nat.reduceLeDiff, Nat.reduceEqDiff, Nat.reduceLT, Int.reduceLT, Int.reduceLE, Int.reduceEq, Int.reduceNeg, true_or, or_true, false_or, or_false, not_false_eq_true, not_true_eq_false, false_implies, true_implies, forall_const, implies_true, Nat.zero_le, Nat.le_refl]
    exact hq 21 ⟨h0, by omega, hi, fun q => absurd q (by omega)⟩
  | succ j ih =>
    intro feet h0 hj hi
    have hb := wetU_bd (r := D 69 19) (f := D 81) (floor := feet) (n := n) hr (by omega)
    have hd := dry_bd hr hx (n := n) (by omega)
    refine go_168_21 ?_
    simp only [sg_168_21, cl_I, cl_L, cl_R, e_aload_n, e_cs2, e_cv3, e_get0, e_goto, e_i2l, e_if_le, e_iinc, e_iload_n, e_lcmp, e_ldc2, e_lmul, e_nil, fl_0, fl_I, fl_L, fl_R, l_inc3, l_ld1, l_ld2, l_ld3, l_ldA0, rk_2, wRef_some, EE_n, EE_s69, lc_lt, lc_le, lc_gt, lc_ge, lc_eq, true_and, and_true, List.length_cons, List.length_nil, ab_ia, Nat.reduceAdd, Nat.reduceLeDiff, Nat.reduceEqDiff, Nat.reduceLT, Int.reduceLT, Int.reduceLE, Int.reduceEq, Int.reduceNeg, true_or, or_true, false_or, or_false, not_false_eq_true, not_true_eq_false, false_implies, true_implies, forall_const, implies_true, Nat.zero_le, Nat.le_refl]
    refine CL.use (m_wetOf (by omega) (by omega)) ?_
    refine ⟨⟨by omega, by omega⟩, ?_⟩
    refine CL.use (m_power (by omega) (by omega)) ?_
    refine ⟨⟨by omega, by omega⟩, fun hc => ?_, fun hc => ⟨⟨by omega, by omega⟩, ?_⟩⟩
    · refine go_168_38 ?_
      simp only [sg_168_38, cl_I, cl_L, cl_R, e_iload_n, e_iret0, e_nil, l_ld3, lc_lt, lc_le, lc_gt, lc_ge, lc_eq, true_and, and_true, List.length_cons, List.length_nil, ab_ia, Nat.reduceAdd, Nat.reduceLeDiff, Nat.reduceEqDiff, Nat.reduceLT, Int.reduceLT, Int.reduceLE, Int.reduceEq, Int.reduceNeg, true_or, or_true, false_or, or_false, not_false_eq_true, not_true_eq_false, false_implies, true_implies, forall_const, implies_true, Nat.zero_le, Nat.le_refl]
      exact hq feet ⟨h0, by omega, hi, fun _ => by omega⟩
    · refine ih (feet + 1) (by omega) (by omega) (fun e q1 q2 => ?_)
      by_cases he : e = feet
      · subst he; omega
      · exact hi e q1 (by omega)
theorem m_dry {n x : Int} (hr : 0 ≤ D 69 19 ∧ D 69 19 ≤ 8) (hf : ∀ k : Nat, (k : Int) < D 69 19 → D 81 k ≤ 20) : CI 168 [vR 69, vI n, vI x] (EE L, D) (fun r D' => ((¬ dryP n x ∧ r = -2) ∨ (dryP n x ∧ D 69 19 = 0 ∧ r = -3) ∨ (dryP n x ∧ 1 ≤ D 69 19 ∧ isDry (D 69 19) (D 81) n x r)) ∧ D' = D) := by
  refine Sx.un (y := 168) (n := 0) (lo := [vR 69, vI n, vI x, vU]) (st := []) (u := (0, 0)) ?_
  refine go_168_0 ?_
  simp only [sg_168_0, cl_I, cl_L, cl_R, e_bipush, e_cs3, e_i2l, e_if_eq, e_if_ne, e_iload_n, e_iret0, e_lconst, e_ldc2, e_nil, fl_0, fl_I, fl_L, fl_R, l_ld1, l_ld2, rk_1, lc_lt, lc_le, lc_gt, lc_ge, lc_eq, true_and, and_true, List.length_cons, List.length_nil, ab_ia, Nat.reduceAdd, Nat.reduceLeDiff, Nat.reduceEqDiff, Nat.reduceLT, Int.reduceLT, Int.reduceLE, Int.reduceEq, Int.reduceNeg, true_or, or_true, false_or, or_false, not_false_eq_true, not_true_eq_false, false_implies, true_implies, forall_const, implies_true, Nat.zero_le, Nat.le_refl]
  unfold dryP
  refine CB.use m_in (fun h1 => ?_) (fun h1 => ?_)
  · try simp only [lc_lt, lc_le, lc_gt, lc_ge, lc_eq, true_and, and_true, List.length_cons, List.length_nil, ab_ia, Nat.reduceAdd, Nat.reduceLeDiff, Nat.reduceEqDiff, Nat.reduceLT, Int.reduceLT, Int.reduceLE, Int.reduceEq, Int.reduceNeg, true_or, or_true, false_or, or_false, not_false_eq_true, not_true_eq_false, false_implies, true_implies, forall_const, implies_true, Nat.zero_le, Nat.le_refl]
    refine CB.use m_in (fun h2 => ?_) (fun h2 => ?_)
    · try simp only [lc_lt, lc_le, lc_gt, lc_ge, lc_eq, true_and, and_true, List.length_cons, List.length_nil, ab_ia, Nat.reduceAdd, Nat.reduceLeDiff, Nat.reduceEqDiff, Nat.reduceLT, Int.reduceLT, Int.reduceLE, Int.reduceEq, Int.reduceNeg, true_or, or_true, false_or, or_false, not_false_eq_true, not_true_eq_false, false_implies, true_implies, forall_const, implies_true, Nat.zero_le, Nat.le_refl]
      refine go_168_14 ?_
      simp only [sg_168_14, cl_I, cl_L, cl_R, e_aload_n, e_bipush, e_get0, e_if_ne, e_iret0, e_nil, l_ldA0, wRef_some, EE_n, EE_s69, lc_lt, lc_le, lc_gt, lc_ge, lc_eq, true_and, and_true, List.length_cons, List.length_nil, ab_ia, Nat.reduceAdd, Nat.reduceLeDiff, Nat.reduceEqDiff, Nat.reduceLT, Int.reduceLT, Int.reduceLE, Int.reduceEq, Int.reduceNeg, true_or, or_true, false_or, or_false, not_false_eq_true, not_true_eq_false, false_implies, true_implies, forall_const, implies_true, Nat.zero_le, Nat.le_refl]
      refine ⟨fun h5 => ?_, fun h5 => retI ⟨Or.inr (Or.inl ⟨by omega, by omega, rfl⟩), rfl⟩⟩
      refine go_168_19 ?_
      simp only [sg_168_19, cl_I, cl_L, cl_R, e_iconst, e_istore_n, e_nil, l_st3, lc_lt, lc_le, lc_gt, lc_ge, lc_eq, true_and, and_true, List.length_cons, List.length_nil, ab_ia, Nat.reduceAdd, Nat.reduceLeDiff, Nat.reduceEqDiff, Nat.reduceLT, Int.reduceLT, Int.reduceLE, Int.reduceEq, Int.reduceNeg, true_or, or_true, false_or, or_false, not_false_eq_true, not_true_eq_false, false_implies, true_implies, forall_const, implies_true, Nat.zero_le, Nat.le_refl]
      exact m_dry_loop (by omega) hf (by omega) (by omega) (fun d hd => retI ⟨Or.inr (Or.inr ⟨by omega, by omega, hd⟩), rfl⟩) 21 0 (by omega) (by omega) (fun e q1 q2 => by omega)
    · try simp only [lc_lt, lc_le, lc_gt, lc_ge, lc_eq, true_and, and_true, List.length_cons, List.length_nil, ab_ia, Nat.reduceAdd, Nat.reduceLeDiff, Nat.reduceEqDiff, Nat.reduceLT, Int.reduceLT, Int.reduceLE, Int.reduceEq, Int.reduceNeg, true_or, or_true, false_or, or_false, not_false_eq_true, not_true_eq_false, false_implies, true_implies, forall_const, implies_true, Nat.zero_le, Nat.le_refl]
      exact retI ⟨Or.inl ⟨by omega, rfl⟩, rfl⟩
  · try simp only [lc_lt, lc_le, lc_gt, lc_ge, lc_eq, true_and, and_true, List.length_cons, List.length_nil, ab_ia, Nat.reduceAdd, Nat.reduceLeDiff, Nat.reduceEqDiff, Nat.reduceLT, Int.reduceLT, Int.reduceLE, Int.reduceEq, Int.reduceNeg, true_or, or_true, false_or, or_false, not_false_eq_true, not_true_eq_false, false_implies, true_implies, forall_const, implies_true, Nat.zero_le, Nat.le_refl]
    refine go_168_12 ?_
    simp only [sg_168_12, cl_I, cl_L, cl_R, e_bipush, e_iret0, e_nil, lc_lt, lc_le, lc_gt, lc_ge, lc_eq, true_and, and_true, List.length_cons, List.length_nil, ab_ia, Nat.reduceAdd, Nat.reduceLeDiff, Nat.reduceEqDiff, Nat.reduceLT, Int.reduceLT, Int.reduceLE, Int.reduceEq, Int.reduceNeg, true_or, or_true, false_or, or_false, not_false_eq_true, not_true_eq_false, false_implies, true_implies, forall_const, implies_true, Nat.zero_le, Nat.le_refl]
    exact retI ⟨Or.inl ⟨by omega, rfl⟩, rfl⟩
end Water2
