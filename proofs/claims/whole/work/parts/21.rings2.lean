/-! rings: the reference's, and the calls -/
section Rings2
variable {L : Nat} {D : ab_D} {E : ab_E}
theorem m_in {v a b : Int} : CB 117 [vL v, vL a, vL b] E D (a ≤ v ∧ v ≤ b) := by
  refine Sx.un (y := 117) (n := 0) (lo := [vL v, vU, vL a, vU, vL b, vU]) (st := []) (u := (0, 0)) ?_
  refine go_117_0 ?_
  simp only [sg_117_0, cl_I, cl_L, cl_R, e_goto, e_iconst, e_if_gt, e_if_lt, e_lcmp, e_lload, e_lload_n, e_nil, l_ldL0, l_ldL2, l_ldL4, lc_lt, lc_le, lc_gt, lc_ge, lc_eq, true_and, and_true, List.length_cons, List.length_nil, ab_ia, Nat.reduceAdd, Nat.reduceLeDiff, Nat.reduceEqDiff, Nat.reduceLT, Int.reduceLT, Int.reduceLE, Int.reduceEq, Int.reduceNeg, true_or, or_true, false_or, or_false, not_false_eq_true, not_true_eq_false, false_implies, true_implies, forall_const, implies_true, Nat.zero_le, Nat.le_refl]
  repeat' first | refine And.intro ?_ ?_ | intro _ | (refine go_117_10 ?_; simp only [sg_117_10, cl_I, cl_L, cl_R, e_iconst, e_iret1, e_nil, lc_lt, lc_le, lc_gt, lc_ge, lc_eq, true_and, and_true, List.length_cons, List.length_nil, ab_ia, Nat.reduceAdd, Nat.reduceLeDiff, Nat.reduceEqDiff, Nat.reduceLT, Int.reduceLT, Int.reduceLE, Int.reduceEq, Int.reduceNeg, true_or, or_true, false_or, or_false, not_false_eq_true, not_true_eq_false, false_implies, true_implies, forall_const, implies_true, Nat.zero_le, Nat.le_refl]) | (refine go_117_11 ?_; simp only [sg_117_11, cl_I, cl_L, cl_R, e_iret1, e_nil, lc_lt, lc_le, lc_gt, lc_ge, lc_eq, true_and, and_true, List.length_cons, List.length_nil, ab_ia, Nat.reduceAdd, Nat.reduceLeDiff, Nat.reduceEqDiff, Nat.reduceLT, Int.reduceLT, Int.reduceLE, Int.reduceEq, Int.reduceNeg, true_or, or_true, false_or, or_false, not_false_eq_true, not_true_eq_false, false_implies, true_implies, forall_const, implies_true, Nat.zero_le, Nat.le_refl])
  all_goals first | exact retB1 (by omega) | exact retB0 (by omega)
theorem p_isRingYear {y : Int} : CB 110 [vI y] E D (0 ≤ y ∧ y < 60) := by
  refine Sx.un (y := 110) (n := 0) (lo := [vI y]) (st := []) (u := (0, 0)) ?_
  refine go_110_0 ?_
  simp only [sg_110_0, cl_I, cl_L, cl_R, e_bipush, e_goto, e_icmp_ge, e_iconst, e_if_lt, e_iload_n, e_nil, l_ld0, lc_lt, lc_le, lc_gt, lc_ge, lc_eq, true_and, and_true, List.length_cons, List.length_nil, ab_ia, Nat.reduceAdd, Nat.reduceLeDiff, Nat.reduceEqDiff, Nat.reduceLT, Int.reduceLT, Int.reduceLE, Int.reduceEq, Int.reduceNeg, true_or, or_true, false_or, or_false, not_false_eq_true, not_true_eq_false, false_implies, true_implies, forall_const, implies_true, Nat.zero_le, Nat.le_refl]
  repeat' first | refine And.intro ?_ ?_ | intro _ | (refine go_110_7 ?_; simp only [sg_110_7, cl_I, cl_L, cl_R, e_iconst, e_iret1, e_nil, lc_lt, lc_le, lc_gt, lc_ge, lc_eq, true_and, and_true, List.length_cons, List.length_nil, ab_ia, Nat.reduceAdd, Nat.reduceLeDiff, Nat.reduceEqDiff, Nat.reduceLT, Int.reduceLT, Int.reduceLE, Int.reduceEq, Int.reduceNeg, true_or, or_true, false_or, or_false, not_false_eq_true, not_true_eq_false, false_implies, true_implies, forall_const, implies_true, Nat.zero_le, Nat.le_refl]) | (refine go_110_8 ?_; simp only [sg_110_8, cl_I, cl_L, cl_R, e_iret1, e_nil, lc_lt, lc_le, lc_gt, lc_ge, lc_eq, true_and, and_true, List.length_cons, List.length_nil, ab_ia, Nat.reduceAdd, Nat.reduceLeDiff, Nat.reduceEqDiff, Nat.reduceLT, Int.reduceLT, Int.reduceLE, Int.reduceEq, Int.reduceNeg, true_or, or_true, false_or, or_false, not_false_eq_true, not_true_eq_false, false_implies, true_implies, forall_const, implies_true, Nat.zero_le, Nat.le_refl])
  all_goals first | exact retB1 (by omega) | exact retB0 (by omega)
def isSmp (n v : Int) : Prop := 1 ≤ n ∧ n ≤ 9 ∧ 0 ≤ v ∧ v < ipw 10 n.toNat
theorem p_isSample {n v : Int} (hT : ∀ j, j < 10 → D 1002 j = ipw 10 j) : CB 111 [vI n, vI v] (EE L) D (isSmp n v) := by
  refine Sx.un (y := 111) (n := 0) (lo := [vI n, vI v]) (st := []) (u := (0, 0)) ?_
  refine go_111_0 ?_
  simp only [sg_111_0, cl_I, cl_L, cl_R, e_bipush, e_gets, e_goto, e_iaload, e_icmp_ge, e_icmp_gt, e_icmp_lt, e_iconst, e_if_lt, e_iload_n, e_nil, l_ld0, l_ld1, EE_n, EE_s1001, EE_s1002, lc_lt, lc_le, lc_gt, lc_ge, lc_eq, true_and, and_true, List.length_cons, List.length_nil, ab_ia, Nat.reduceAdd, Nat.reduceLeDiff, Nat.reduceEqDiff, Nat.reduceLT, Int.reduceLT, Int.reduceLE, Int.reduceEq, Int.reduceNeg, true_or, or_true, false_or, or_false, not_false_eq_true, not_true_eq_false, false_implies, true_implies, forall_const, implies_true, Nat.zero_le, Nat.le_refl]
  refine ⟨fun _ => ?_, fun h1 => ⟨fun _ => ?_, fun h2 => ⟨fun _ => ?_, fun h3 => ?_⟩⟩⟩
  · refine go_111_15 ?_
    simp only [sg_111_15, cl_I, cl_L, cl_R, e_iconst, e_iret1, e_nil, lc_lt, lc_le, lc_gt, lc_ge, lc_eq, true_and, and_true, List.length_cons, List.length_nil, ab_ia, Nat.reduceAdd, Nat.reduceLeDiff, Nat.reduceEqDiff, Nat.reduceLT, Int.reduceLT, Int.reduceLE, Int.reduceEq, Int.reduceNeg, true_or, or_true, false_or, or_false, not_false_eq_true, not_true_eq_false, false_implies, true_implies, forall_const, implies_true, Nat.zero_le, Nat.le_refl]
    exact retB0 (fun q => by have := q.1; omega)
  · refine go_111_15 ?_
    simp only [sg_111_15, cl_I, cl_L, cl_R, e_iconst, e_iret1, e_nil, lc_lt, lc_le, lc_gt, lc_ge, lc_eq, true_and, and_true, List.length_cons, List.length_nil, ab_ia, Nat.reduceAdd, Nat.reduceLeDiff, Nat.reduceEqDiff, Nat.reduceLT, Int.reduceLT, Int.reduceLE, Int.reduceEq, Int.reduceNeg, true_or, or_true, false_or, or_false, not_false_eq_true, not_true_eq_false, false_implies, true_implies, forall_const, implies_true, Nat.zero_le, Nat.le_refl]
    exact retB0 (fun q => by have := q.2.1; omega)
  · refine go_111_15 ?_
    simp only [sg_111_15, cl_I, cl_L, cl_R, e_iconst, e_iret1, e_nil, lc_lt, lc_le, lc_gt, lc_ge, lc_eq, true_and, and_true, List.length_cons, List.length_nil, ab_ia, Nat.reduceAdd, Nat.reduceLeDiff, Nat.reduceEqDiff, Nat.reduceLT, Int.reduceLT, Int.reduceLE, Int.reduceEq, Int.reduceNeg, true_or, or_true, false_or, or_false, not_false_eq_true, not_true_eq_false, false_implies, true_implies, forall_const, implies_true, Nat.zero_le, Nat.le_refl]
    exact retB0 (fun q => by have := q.2.2.1; omega)
  · have e := hT n.toNat (by omega)
    refine ⟨by omega, fun hc => ?_, fun hc => ?_⟩
    · refine go_111_15 ?_
      simp only [sg_111_15, cl_I, cl_L, cl_R, e_iconst, e_iret1, e_nil, lc_lt, lc_le, lc_gt, lc_ge, lc_eq, true_and, and_true, List.length_cons, List.length_nil, ab_ia, Nat.reduceAdd, Nat.reduceLeDiff, Nat.reduceEqDiff, Nat.reduceLT, Int.reduceLT, Int.reduceLE, Int.reduceEq, Int.reduceNeg, true_or, or_true, false_or, or_false, not_false_eq_true, not_true_eq_false, false_implies, true_implies, forall_const, implies_true, Nat.zero_le, Nat.le_refl]
      exact retB0 (fun q => by have := q.2.2.2; omega)
    · refine go_111_16 ?_
      simp only [sg_111_16, cl_I, cl_L, cl_R, e_iret1, e_nil, lc_lt, lc_le, lc_gt, lc_ge, lc_eq, true_and, and_true, List.length_cons, List.length_nil, ab_ia, Nat.reduceAdd, Nat.reduceLeDiff, Nat.reduceEqDiff, Nat.reduceLT, Int.reduceLT, Int.reduceLE, Int.reduceEq, Int.reduceNeg, true_or, or_true, false_or, or_false, not_false_eq_true, not_true_eq_false, false_implies, true_implies, forall_const, implies_true, Nat.zero_le, Nat.le_refl]
      exact retB1 ⟨by omega, by omega, by omega, by omega⟩
theorem m_power_loop {b n : Int} {Q : Option ab_V → ab_H → Prop} {h : ab_H} (hb : 0 ≤ b ∧ b ≤ 10) (hn : n ≤ 9) (hq : Q (some (.inr (.inl (ipw b n.toNat)))) h) :
    ∀ (j : Nat) (k : Int), 0 ≤ k → n = k + j → Sx 165 4 [vI b, vI n, vL (ipw b k.toNat), vU, vI k] [] h (0, 0) Q := by
  intro j
  induction j with
  | zero =>
    intro k h0 hk
    refine go_165_4 ?_
    simp only [sg_165_4, cl_I, cl_L, cl_R, e_goto, e_i2l, e_icmp_ge, e_iinc, e_iload, e_iload_n, e_lload_n, e_lmul, e_lstore_n, e_nil, l_inc4, l_ld0, l_ld1, l_ld4, l_ldL2, l_stL2, lc_lt, lc_le, lc_gt, lc_ge, lc_eq, true_and, and_true, List.length_cons, List.length_nil, ab_ia, Nat.reduceAdd, Nat.reduceLeDiff, Nat.reduceEqDiff, Nat.reduceLT, Int.reduceLT, Int.reduceLE, Int.reduceEq, Int.reduceNeg, true_or, or_true, false_or, or_false, not_false_eq_true, not_true_eq_false, false_implies, true_implies, forall_const, implies_true, Nat.zero_le, Nat.le_refl]
    refine ⟨fun _ => ?_, fun hc => absurd hc (by omega)⟩
    refine go_165_14 ?_
    simp only [sg_165_14, cl_I, cl_L, cl_R, e_lload_n, e_lret, e_nil, l_ldL2, lc_lt, lc_le, lc_gt, lc_ge, lc_eq, true_and, and_true, List.length_cons, List.length_nil, ab_ia, Nat.reduceAdd, Nat.reduceLeDiff, Nat.reduceEqDiff, Nat.reduceLT, Int.reduceLT, Int.reduceLE, Int.reduceEq, Int.reduceNeg, true_or, or_true, false_or, or_false, not_false_eq_true, not_true_eq_false, false_implies, true_implies, forall_const, implies_true, Nat.zero_le, Nat.le_refl]
    rw [show k.toNat = n.toNat by omega]
    exact hq
  | succ j ih =>
    intro k h0 hk
    have h1 := ipw_mono hb.1 hb.2 (k + 1).toNat
    have h2 := ipw_10 (k := (k + 1).toNat) (by omega)
    have e : ipw b k.toNat * b = ipw b (k + 1).toNat := by rw [show (k + 1).toNat = k.toNat + 1 by omega]; rfl
    refine go_165_4 ?_
    simp only [sg_165_4, cl_I, cl_L, cl_R, e_goto, e_i2l, e_icmp_ge, e_iinc, e_iload, e_iload_n, e_lload_n, e_lmul, e_lstore_n, e_nil, l_inc4, l_ld0, l_ld1, l_ld4, l_ldL2, l_stL2, lc_lt, lc_le, lc_gt, lc_ge, lc_eq, true_and, and_true, List.length_cons, List.length_nil, ab_ia, Nat.reduceAdd, Nat.reduceLeDiff, Nat.reduceEqDiff, Nat.reduceLT, Int.reduceLT, Int.reduceLE, Int.reduceEq, Int.reduceNeg, true_or, or_true, false_or, or_false, not_false_eq_true, not_true_eq_false, false_implies, true_implies, forall_const, implies_true, Nat.zero_le, Nat.le_refl]
    refine ⟨fun hc => absurd hc (by omega), fun _ => ⟨⟨by rw [e]; omega, by rw [e]; omega⟩, ⟨by omega, by omega⟩, ?_⟩⟩
    rw [e]
    exact ih (k + 1) (by omega) (by omega)
theorem m_power {b n : Int} {E : ab_E} (hb : 0 ≤ b ∧ b ≤ 10) (hn : 0 ≤ n ∧ n ≤ 9) : CL 165 [vI b, vI n] (E, D) (fun r D' => r = ipw b n.toNat ∧ D' = D) := by
  refine Sx.un (y := 165) (n := 0) (lo := [vI b, vI n, vU, vU, vU]) (st := []) (u := (0, 0)) ?_
  refine go_165_0 ?_
  simp only [sg_165_0, cl_I, cl_L, cl_R, e_iconst, e_istore, e_lconst, e_lstore_n, e_nil, l_st4, l_stL2, lc_lt, lc_le, lc_gt, lc_ge, lc_eq, true_and, and_true, List.length_cons, List.length_nil, ab_ia, Nat.reduceAdd, Nat.reduceLeDiff, Nat.reduceEqDiff, Nat.reduceLT, Int.reduceLT, Int.reduceLE, Int.reduceEq, Int.reduceNeg, true_or, or_true, false_or, or_false, not_false_eq_true, not_true_eq_false, false_implies, true_implies, forall_const, implies_true, Nat.zero_le, Nat.le_refl]
  exact m_power_loop (k := 0) hb hn.2 (retL ⟨rfl, rfl⟩) n.toNat (by omega) (by omega)
theorem m_isSample {n v : Int} : CB 170 [vI n, vI v] (EE L) D (isSmp n v) := by
  refine Sx.un (y := 170) (n := 0) (lo := [vI n, vI v]) (st := []) (u := (0, 0)) ?_
  refine go_170_0 ?_
  simp only [sg_170_0, cl_I, cl_L, cl_R, e_bipush, e_cs2, e_cs3, e_goto, e_i2l, e_iconst, e_if_eq, e_if_ge, e_if_lt, e_iload_n, e_lcmp, e_lconst, e_ldc2, e_nil, fl_0, fl_I, fl_L, fl_R, l_ld0, l_ld1, rk_1, rk_2, lc_lt, lc_le, lc_gt, lc_ge, lc_eq, true_and, and_true, List.length_cons, List.length_nil, ab_ia, Nat.reduceAdd, Nat.reduceLeDiff, Nat.reduceEqDiff, Nat.reduceLT, Int.reduceLT, Int.reduceLE, Int.reduceEq, Int.reduceNeg, true_or, or_true, false_or, or_false, not_false_eq_true, not_true_eq_false, false_implies, true_implies, forall_const, implies_true, Nat.zero_le, Nat.le_refl]
  refine CB.use m_in (fun h1 => ?_) (fun h1 => ?_)
  · try simp only [lc_lt, lc_le, lc_gt, lc_ge, lc_eq, true_and, and_true, List.length_cons, List.length_nil, ab_ia, Nat.reduceAdd, Nat.reduceLeDiff, Nat.reduceEqDiff, Nat.reduceLT, Int.reduceLT, Int.reduceLE, Int.reduceEq, Int.reduceNeg, true_or, or_true, false_or, or_false, not_false_eq_true, not_true_eq_false, false_implies, true_implies, forall_const, implies_true, Nat.zero_le, Nat.le_refl]
    refine ⟨fun _ => ?_, fun h3 => ?_⟩
    · refine go_170_17 ?_
      simp only [sg_170_17, cl_I, cl_L, cl_R, e_iconst, e_iret1, e_nil, lc_lt, lc_le, lc_gt, lc_ge, lc_eq, true_and, and_true, List.length_cons, List.length_nil, ab_ia, Nat.reduceAdd, Nat.reduceLeDiff, Nat.reduceEqDiff, Nat.reduceLT, Int.reduceLT, Int.reduceLE, Int.reduceEq, Int.reduceNeg, true_or, or_true, false_or, or_false, not_false_eq_true, not_true_eq_false, false_implies, true_implies, forall_const, implies_true, Nat.zero_le, Nat.le_refl]
      exact retB0 (fun q => by have := q.2.2.1; omega)
    · refine CL.use (m_power (by decide) (by omega)) ?_
      try simp only [lc_lt, lc_le, lc_gt, lc_ge, lc_eq, true_and, and_true, List.length_cons, List.length_nil, ab_ia, Nat.reduceAdd, Nat.reduceLeDiff, Nat.reduceEqDiff, Nat.reduceLT, Int.reduceLT, Int.reduceLE, Int.reduceEq, Int.reduceNeg, true_or, or_true, false_or, or_false, not_false_eq_true, not_true_eq_false, false_implies, true_implies, forall_const, implies_true, Nat.zero_le, Nat.le_refl]
      refine ⟨fun hc => ?_, fun hc => ?_⟩
      · refine go_170_17 ?_
        simp only [sg_170_17, cl_I, cl_L, cl_R, e_iconst, e_iret1, e_nil, lc_lt, lc_le, lc_gt, lc_ge, lc_eq, true_and, and_true, List.length_cons, List.length_nil, ab_ia, Nat.reduceAdd, Nat.reduceLeDiff, Nat.reduceEqDiff, Nat.reduceLT, Int.reduceLT, Int.reduceLE, Int.reduceEq, Int.reduceNeg, true_or, or_true, false_or, or_false, not_false_eq_true, not_true_eq_false, false_implies, true_implies, forall_const, implies_true, Nat.zero_le, Nat.le_refl]
        exact retB0 (fun q => by have := q.2.2.2; omega)
      · refine go_170_18 ?_
        simp only [sg_170_18, cl_I, cl_L, cl_R, e_iret1, e_nil, lc_lt, lc_le, lc_gt, lc_ge, lc_eq, true_and, and_true, List.length_cons, List.length_nil, ab_ia, Nat.reduceAdd, Nat.reduceLeDiff, Nat.reduceEqDiff, Nat.reduceLT, Int.reduceLT, Int.reduceLE, Int.reduceEq, Int.reduceNeg, true_or, or_true, false_or, or_false, not_false_eq_true, not_true_eq_false, false_implies, true_implies, forall_const, implies_true, Nat.zero_le, Nat.le_refl]
        exact retB1 ⟨by omega, by omega, by omega, by omega⟩
  · try simp only [lc_lt, lc_le, lc_gt, lc_ge, lc_eq, true_and, and_true, List.length_cons, List.length_nil, ab_ia, Nat.reduceAdd, Nat.reduceLeDiff, Nat.reduceEqDiff, Nat.reduceLT, Int.reduceLT, Int.reduceLE, Int.reduceEq, Int.reduceNeg, true_or, or_true, false_or, or_false, not_false_eq_true, not_true_eq_false, false_implies, true_implies, forall_const, implies_true, Nat.zero_le, Nat.le_refl]
    refine go_170_17 ?_
    simp only [sg_170_17, cl_I, cl_L, cl_R, e_iconst, e_iret1, e_nil, lc_lt, lc_le, lc_gt, lc_ge, lc_eq, true_and, and_true, List.length_cons, List.length_nil, ab_ia, Nat.reduceAdd, Nat.reduceLeDiff, Nat.reduceEqDiff, Nat.reduceLT, Int.reduceLT, Int.reduceLE, Int.reduceEq, Int.reduceNeg, true_or, or_true, false_or, or_false, not_false_eq_true, not_true_eq_false, false_implies, true_implies, forall_const, implies_true, Nat.zero_le, Nat.le_refl]
    exact retB0 (fun q => h1 ⟨q.1, q.2.1⟩)
/-- in a sample the figures fit an int -/
theorem smp_bd {n v : Int} (h : isSmp n v) : (1 ≤ n ∧ n ≤ 9) ∧ 0 ≤ v ∧ v < 2147483648 := by
  have := ipw_10 (k := n.toNat) (by have := h.2.1; omega)
  exact ⟨⟨h.1, h.2.1⟩, h.2.2.1, by have := h.2.2.2; omega⟩
theorem uS_step {w : Nat → Int} {k : Nat} {r l : Int} : uS w (k + 1) r l = iabs (w l.toNat - r % 10) + uS w k (r / 10) (l - 1) := rfl
theorem m_match_loop {Q : Option ab_V → ab_H → Prop} {n v y : Int} (hw : rgW (D 82)) (hn : 1 ≤ n ∧ n ≤ 9) (hl : n - 1 ≤ y ∧ y < 60) :
    ∀ (j : Nat) (sum left k : Int) (x7 : ab_V), n = k + j → 0 ≤ k → (0 ≤ left ∧ left < 2147483648) → (0 ≤ sum ∧ sum ≤ 9 * k) → Q (some (.inl (sum + uS (D 82) j left (y - k)))) (EE L, D) → Sx 171 6 [vR 69, vI n, vI v, vI y, vI sum, vI left, vI k, x7] [] (EE L, D) (0, 0) Q := by
  intro j
  induction j with
  | zero =>
    intro sum left k x7 hk h0 hr hs hq
    refine go_171_6 ?_
    simp only [sg_171_6, cl_I, cl_L, cl_R, e_aload_n, e_bipush, e_get1, e_goto, e_iaload, e_icmp_ge, e_if_ge, e_iload, e_iload_n, e_ineg, e_irem, e_istore, e_isub, e_nil, l_ld1, l_ld3, l_ld4, l_ld5, l_ld6, l_ld7, l_ldA0, l_st7, wRef_some, EE_n, EE_r69_21, EE_s69, EE_s82, lc_lt, lc_le, lc_gt, lc_ge, lc_eq, true_and, and_true, List.length_cons, List.length_nil, ab_ia, Nat.reduceAdd, Nat.reduceLeDiff, Nat.reduceEqDiff, Nat.reduceLT, Int.reduceLT, Int.reduceLE, Int.reduceEq, Int.reduceNeg, true_or, or_true, false_or, or_false, not_false_eq_true, not_true_eq_false, false_implies, true_implies, forall_const, implies_true, Nat.zero_le, Nat.le_refl]
    refine ⟨fun _ => ?_, fun hc => absurd hc (by omega)⟩
    refine go_171_35 ?_
    simp only [sg_171_35, cl_I, cl_L, cl_R, e_iload, e_iret0, e_nil, l_ld4, lc_lt, lc_le, lc_gt, lc_ge, lc_eq, true_and, and_true, List.length_cons, List.length_nil, ab_ia, Nat.reduceAdd, Nat.reduceLeDiff, Nat.reduceEqDiff, Nat.reduceLT, Int.reduceLT, Int.reduceLE, Int.reduceEq, Int.reduceNeg, true_or, or_true, false_or, or_false, not_false_eq_true, not_true_eq_false, false_implies, true_implies, forall_const, implies_true, Nat.zero_le, Nat.le_refl]
    simpa [uS] using hq
  | succ j ih =>
    intro sum left k x7 hk h0 hr hs hq
    have hw1 := hw (y - k).toNat (by omega)
    have hab := iabs_le (a := D 82 (y - k).toNat - left % 10) (n := 9) (by omega) (by omega)
    have fin : ∀ (d : Int) (x7 : ab_V), d = iabs (D 82 (y - k).toNat - left % 10) → Sx 171 27 [vR 69, vI n, vI v, vI y, vI sum, vI left, vI k, x7] [vI d, vI sum] (EE L, D) (0, 0) Q := by
      intro d x7 hd
      refine go_171_27 ?_
      simp only [sg_171_27, cl_I, cl_L, cl_R, e_bipush, e_goto, e_iadd, e_idiv, e_iinc, e_iload, e_istore, e_nil, l_inc6, l_ld5, l_st4, l_st5, lc_lt, lc_le, lc_gt, lc_ge, lc_eq, true_and, and_true, List.length_cons, List.length_nil, ab_ia, Nat.reduceAdd, Nat.reduceLeDiff, Nat.reduceEqDiff, Nat.reduceLT, Int.reduceLT, Int.reduceLE, Int.reduceEq, Int.reduceNeg, true_or, or_true, false_or, or_false, not_false_eq_true, not_true_eq_false, false_implies, true_implies, forall_const, implies_true, Nat.zero_le, Nat.le_refl]
      refine ⟨⟨by omega, by omega⟩, by omega, ⟨by omega, by omega⟩, ?_⟩
      refine ih _ _ _ _ (by omega) (by omega) (by omega) (by omega) ?_
      rw [uS_step] at hq
      rw [hd, Int.add_assoc, show y - (k + 1) = y - k - 1 by omega]
      exact hq
    refine go_171_6 ?_
    simp only [sg_171_6, cl_I, cl_L, cl_R, e_aload_n, e_bipush, e_get1, e_goto, e_iaload, e_icmp_ge, e_if_ge, e_iload, e_iload_n, e_ineg, e_irem, e_istore, e_isub, e_nil, l_ld1, l_ld3, l_ld4, l_ld5, l_ld6, l_ld7, l_ldA0, l_st7, wRef_some, EE_n, EE_r69_21, EE_s69, EE_s82, lc_lt, lc_le, lc_gt, lc_ge, lc_eq, true_and, and_true, List.length_cons, List.length_nil, ab_ia, Nat.reduceAdd, Nat.reduceLeDiff, Nat.reduceEqDiff, Nat.reduceLT, Int.reduceLT, Int.reduceLE, Int.reduceEq, Int.reduceNeg, true_or, or_true, false_or, or_false, not_false_eq_true, not_true_eq_false, false_implies, true_implies, forall_const, implies_true, Nat.zero_le, Nat.le_refl]
    refine ⟨fun hc => absurd hc (by omega), fun _ => ⟨by omega, ⟨by omega, by omega⟩, by omega, ⟨by omega, by omega⟩, fun h3 => ?_, fun h3 => ⟨⟨by omega, by omega⟩, ?_⟩⟩⟩
    · refine go_171_26 ?_
      simp only [sg_171_26, cl_I, cl_L, cl_R, e_bipush, e_goto, e_iadd, e_idiv, e_iinc, e_iload, e_istore, e_nil, l_inc6, l_ld5, l_ld7, l_st4, l_st5, lc_lt, lc_le, lc_gt, lc_ge, lc_eq, true_and, and_true, List.length_cons, List.length_nil, ab_ia, Nat.reduceAdd, Nat.reduceLeDiff, Nat.reduceEqDiff, Nat.reduceLT, Int.reduceLT, Int.reduceLE, Int.reduceEq, Int.reduceNeg, true_or, or_true, false_or, or_false, not_false_eq_true, not_true_eq_false, false_implies, true_implies, forall_const, implies_true, Nat.zero_le, Nat.le_refl]
      refine ⟨⟨by omega, by omega⟩, by omega, ⟨by omega, by omega⟩, ?_⟩
      refine ih _ _ _ _ (by omega) (by omega) (by omega) (by omega) ?_
      rw [uS_step] at hq
      have hd : left % 10 - D 82 (y - k).toNat = iabs (D 82 (y - k).toNat - left % 10) := by
        unfold iabs
        split <;> omega
      rw [hd, Int.add_assoc, show y - (k + 1) = y - k - 1 by omega]
      exact hq
    · refine fin _ _ ?_
      unfold iabs
      split <;> omega
theorem m_matchOf {n v y : Int} (hw : rgW (D 82)) (hn : 1 ≤ n ∧ n ≤ 9) (hl : n - 1 ≤ y ∧ y < 60) (hr : 0 ≤ v ∧ v < 2147483648) : CI 171 [vR 69, vI n, vI v, vI y] (EE L, D) (fun r D' => r = uS (D 82) n.toNat v y ∧ D' = D) := by
  refine Sx.un (y := 171) (n := 0) (lo := [vR 69, vI n, vI v, vI y, vU, vU, vU, vU]) (st := []) (u := (0, 0)) ?_
  refine go_171_0 ?_
  simp only [sg_171_0, cl_I, cl_L, cl_R, e_iconst, e_iload_n, e_istore, e_nil, l_ld2, l_st4, l_st5, l_st6, lc_lt, lc_le, lc_gt, lc_ge, lc_eq, true_and, and_true, List.length_cons, List.length_nil, ab_ia, Nat.reduceAdd, Nat.reduceLeDiff, Nat.reduceEqDiff, Nat.reduceLT, Int.reduceLT, Int.reduceLE, Int.reduceEq, Int.reduceNeg, true_or, or_true, false_or, or_false, not_false_eq_true, not_true_eq_false, false_implies, true_implies, forall_const, implies_true, Nat.zero_le, Nat.le_refl]
  refine m_match_loop hw hn hl n.toNat 0 v 0 _ (by omega) (by omega) hr (by omega) ?_
  exact ⟨_, _, rfl, rfl, by simp, rfl⟩
theorem m_dated_loop {Q : Option ab_V → ab_H → Prop} {n v : Int} (hw : rgW (D 82)) (hn : 1 ≤ n ∧ n ≤ 9) (hr : 0 ≤ v ∧ v < 2147483648) (hq : ∀ b, isArg (fun y => uS (D 82) n.toNat v y) (n - 1) 60 (-9) b → Q (some (.inl b)) (EE L, D)) :
    ∀ (j : Nat) (best y : Int), y + j = 60 → isArg (fun y => uS (D 82) n.toNat v y) (n - 1) y (-9) best → Sx 173 6 [vR 69, vI n, vI v, vI best, vI y] [] (EE L, D) (0, 0) Q := by
  intro j
  induction j with
  | zero =>
    intro best y hy hi
    refine go_173_6 ?_
    simp only [sg_173_6, cl_I, cl_L, cl_R, e_aload_n, e_bipush, e_cv4, e_goto, e_icmp_ge, e_iload, e_iload_n, e_nil, fl_0, fl_I, fl_L, fl_R, l_ld1, l_ld2, l_ld3, l_ld4, l_ldA0, rk_1, EE_n, EE_s69, lc_lt, lc_le, lc_gt, lc_ge, lc_eq, true_and, and_true, List.length_cons, List.length_nil, ab_ia, Nat.reduceAdd, Nat.reduceLeDiff, Nat.reduceEqDiff, Nat.reduceLT, Int.reduceLT, Int.reduceLE, Int.reduceEq, Int.reduceNeg, true_or, or_true, false_or, or_false, not_false_eq_true, not_true_eq_false, false_implies, true_implies, forall_const, implies_true, Nat.zero_le, Nat.le_refl]
    refine ⟨fun _ => ?_, fun hc => absurd hc (by omega)⟩
    refine go_173_26 ?_
    simp only [sg_173_26, cl_I, cl_L, cl_R, e_iload_n, e_iret0, e_nil, l_ld3, lc_lt, lc_le, lc_gt, lc_ge, lc_eq, true_and, and_true, List.length_cons, List.length_nil, ab_ia, Nat.reduceAdd, Nat.reduceLeDiff, Nat.reduceEqDiff, Nat.reduceLT, Int.reduceLT, Int.reduceLE, Int.reduceEq, Int.reduceNeg, true_or, or_true, false_or, or_false, not_false_eq_true, not_true_eq_false, false_implies, true_implies, forall_const, implies_true, Nat.zero_le, Nat.le_refl]
    have : y = 60 := by omega
    subst this
    exact hq best hi
  | succ j ih =>
    intro best y hy hi
    obtain ⟨⟨g1, g2, g3⟩, g4⟩ := hi
    refine go_173_6 ?_
    simp only [sg_173_6, cl_I, cl_L, cl_R, e_aload_n, e_bipush, e_cv4, e_goto, e_icmp_ge, e_iload, e_iload_n, e_nil, fl_0, fl_I, fl_L, fl_R, l_ld1, l_ld2, l_ld3, l_ld4, l_ldA0, rk_1, EE_n, EE_s69, lc_lt, lc_le, lc_gt, lc_ge, lc_eq, true_and, and_true, List.length_cons, List.length_nil, ab_ia, Nat.reduceAdd, Nat.reduceLeDiff, Nat.reduceEqDiff, Nat.reduceLT, Int.reduceLT, Int.reduceLE, Int.reduceEq, Int.reduceNeg, true_or, or_true, false_or, or_false, not_false_eq_true, not_true_eq_false, false_implies, true_implies, forall_const, implies_true, Nat.zero_le, Nat.le_refl]
    refine ⟨fun hc => absurd hc (by omega), fun _ => ?_⟩
    refine CI.use (m_matchOf hw hn ⟨by omega, by omega⟩ hr) ?_
    refine CI.use (m_matchOf hw hn ⟨by omega, by omega⟩ hr) ?_
    refine ⟨fun hc => ?_, fun hc => ?_⟩
    · refine go_173_22 ?_
      simp only [sg_173_22, cl_I, cl_L, cl_R, e_goto, e_iinc, e_iload_n, e_istore_n, e_nil, l_inc4, l_ld3, l_st3, lc_lt, lc_le, lc_gt, lc_ge, lc_eq, true_and, and_true, List.length_cons, List.length_nil, ab_ia, Nat.reduceAdd, Nat.reduceLeDiff, Nat.reduceEqDiff, Nat.reduceLT, Int.reduceLT, Int.reduceLE, Int.reduceEq, Int.reduceNeg, true_or, or_true, false_or, or_false, not_false_eq_true, not_true_eq_false, false_implies, true_implies, forall_const, implies_true, Nat.zero_le, Nat.le_refl]
      refine ⟨⟨by omega, by omega⟩, ih _ _ (by omega) ⟨⟨g1, by omega, g3⟩, fun z q1 q2 q3 => ?_⟩⟩
      by_cases hz : z = y
      · subst hz
        exact ⟨hc, fun q => absurd q (by omega)⟩
      · exact g4 z q1 (by omega) q3
    · refine go_173_23 ?_
      simp only [sg_173_23, cl_I, cl_L, cl_R, e_goto, e_iinc, e_istore_n, e_nil, l_inc4, l_st3, lc_lt, lc_le, lc_gt, lc_ge, lc_eq, true_and, and_true, List.length_cons, List.length_nil, ab_ia, Nat.reduceAdd, Nat.reduceLeDiff, Nat.reduceEqDiff, Nat.reduceLT, Int.reduceLT, Int.reduceLE, Int.reduceEq, Int.reduceNeg, true_or, or_true, false_or, or_false, not_false_eq_true, not_true_eq_false, false_implies, true_implies, forall_const, implies_true, Nat.zero_le, Nat.le_refl]
      refine ⟨⟨by omega, by omega⟩, ih _ _ (by omega) ⟨⟨by omega, by omega, by omega⟩, fun z q1 q2 q3 => ?_⟩⟩
      by_cases hz : z = y
      · subst hz
        exact ⟨by omega, fun q => absurd q (by omega)⟩
      · have := (g4 z q1 (by omega) q3).1
        simp only at this ⊢
        exact ⟨by omega, fun _ => by omega⟩
theorem m_datedOf {n v : Int} (hw : rgW (D 82)) (hn : 1 ≤ n ∧ n ≤ 9) (hr : 0 ≤ v ∧ v < 2147483648) : CI 173 [vR 69, vI n, vI v] (EE L, D) (fun r D' => isArg (fun y => uS (D 82) n.toNat v y) (n - 1) 60 (-9) r ∧ D' = D) := by
  refine Sx.un (y := 173) (n := 0) (lo := [vR 69, vI n, vI v, vU, vU]) (st := []) (u := (0, 0)) ?_
  refine go_173_0 ?_
  simp only [sg_173_0, cl_I, cl_L, cl_R, e_iconst, e_iload_n, e_istore, e_istore_n, e_isub, e_nil, l_ld1, l_st3, l_st4, lc_lt, lc_le, lc_gt, lc_ge, lc_eq, true_and, and_true, List.length_cons, List.length_nil, ab_ia, Nat.reduceAdd, Nat.reduceLeDiff, Nat.reduceEqDiff, Nat.reduceLT, Int.reduceLT, Int.reduceLE, Int.reduceEq, Int.reduceNeg, true_or, or_true, false_or, or_false, not_false_eq_true, not_true_eq_false, false_implies, true_implies, forall_const, implies_true, Nat.zero_le, Nat.le_refl]
  refine ⟨⟨by omega, by omega⟩, m_dated_loop hw hn hr (fun b hb => ⟨_, _, rfl, rfl, hb, rfl⟩) (60 - n).toNat _ _ (by omega) ⟨⟨by omega, by omega, by omega⟩, fun z q1 q2 q3 => ?_⟩⟩
  rw [show z = n - 1 by omega]
  exact ⟨by omega, fun q => absurd q (by omega)⟩
/-! the calls -/
theorem p_match {n v y : Int} (hT : ∀ j, j < 10 → D 1002 j = ipw 10 j) (hw : rgW (D 62)) : CI 92 [vR 0, vI n, vI v, vI y] (EE L, D) (fun r D' => ((¬ isSmp n v ∧ r = -2) ∨ (isSmp n v ∧ ¬ (n - 1 ≤ y ∧ y < 60) ∧ r = -1) ∨ (isSmp n v ∧ (n - 1 ≤ y ∧ y < 60) ∧ r = uS (D 62) n.toNat v y)) ∧ D' = D) := by
  refine Sx.un (y := 92) (n := 0) (lo := [vR 0, vI n, vI v, vI y]) (st := []) (u := (0, 0)) ?_
  refine go_92_0 ?_
  simp only [sg_92_0, cl_I, cl_L, cl_R, e_bipush, e_cs2, e_if_ne, e_iload_n, e_iret0, e_nil, fl_0, fl_I, fl_L, fl_R, l_ld1, l_ld2, rk_1, lc_lt, lc_le, lc_gt, lc_ge, lc_eq, true_and, and_true, List.length_cons, List.length_nil, ab_ia, Nat.reduceAdd, Nat.reduceLeDiff, Nat.reduceEqDiff, Nat.reduceLT, Int.reduceLT, Int.reduceLE, Int.reduceEq, Int.reduceNeg, true_or, or_true, false_or, or_false, not_false_eq_true, not_true_eq_false, false_implies, true_implies, forall_const, implies_true, Nat.zero_le, Nat.le_refl]
  refine CB.use (p_isSample hT) (fun h1 => ?_) (fun h1 => ?_)
  · obtain ⟨b1, b2⟩ := smp_bd h1
    try simp only [lc_lt, lc_le, lc_gt, lc_ge, lc_eq, true_and, and_true, List.length_cons, List.length_nil, ab_ia, Nat.reduceAdd, Nat.reduceLeDiff, Nat.reduceEqDiff, Nat.reduceLT, Int.reduceLT, Int.reduceLE, Int.reduceEq, Int.reduceNeg, true_or, or_true, false_or, or_false, not_false_eq_true, not_true_eq_false, false_implies, true_implies, forall_const, implies_true, Nat.zero_le, Nat.le_refl]
    refine go_92_6 ?_
    simp only [sg_92_6, cl_I, cl_L, cl_R, e_cs1, e_icmp_lt, e_iconst, e_if_ne, e_iload_n, e_iret0, e_isub, e_nil, fl_0, fl_I, fl_L, fl_R, l_ld1, l_ld3, rk_1, lc_lt, lc_le, lc_gt, lc_ge, lc_eq, true_and, and_true, List.length_cons, List.length_nil, ab_ia, Nat.reduceAdd, Nat.reduceLeDiff, Nat.reduceEqDiff, Nat.reduceLT, Int.reduceLT, Int.reduceLE, Int.reduceEq, Int.reduceNeg, true_or, or_true, false_or, or_false, not_false_eq_true, not_true_eq_false, false_implies, true_implies, forall_const, implies_true, Nat.zero_le, Nat.le_refl]
    refine ⟨⟨by omega, by omega⟩, fun h2 => ?_, fun h2 => ?_⟩
    · refine go_92_14 ?_
      simp only [sg_92_14, cl_I, cl_L, cl_R, e_iconst, e_iret0, e_nil, lc_lt, lc_le, lc_gt, lc_ge, lc_eq, true_and, and_true, List.length_cons, List.length_nil, ab_ia, Nat.reduceAdd, Nat.reduceLeDiff, Nat.reduceEqDiff, Nat.reduceLT, Int.reduceLT, Int.reduceLE, Int.reduceEq, Int.reduceNeg, true_or, or_true, false_or, or_false, not_false_eq_true, not_true_eq_false, false_implies, true_implies, forall_const, implies_true, Nat.zero_le, Nat.le_refl]
      exact retI ⟨Or.inr (Or.inl ⟨h1, by omega, rfl⟩), rfl⟩
    · refine CB.use p_isRingYear (fun h3 => ?_) (fun h3 => ?_)
      · try simp only [lc_lt, lc_le, lc_gt, lc_ge, lc_eq, true_and, and_true, List.length_cons, List.length_nil, ab_ia, Nat.reduceAdd, Nat.reduceLeDiff, Nat.reduceEqDiff, Nat.reduceLT, Int.reduceLT, Int.reduceLE, Int.reduceEq, Int.reduceNeg, true_or, or_true, false_or, or_false, not_false_eq_true, not_true_eq_false, false_implies, true_implies, forall_const, implies_true, Nat.zero_le, Nat.le_refl]
        refine go_92_16 ?_
        simp only [sg_92_16, cl_I, cl_L, cl_R, e_aload_n, e_cv4, e_get1, e_iload_n, e_iret0, e_nil, fl_0, fl_I, fl_L, fl_R, l_ld1, l_ld2, l_ld3, l_ldA0, rk_1, wRef_some, EE_n, EE_r0_9, EE_s0, EE_s61, lc_lt, lc_le, lc_gt, lc_ge, lc_eq, true_and, and_true, List.length_cons, List.length_nil, ab_ia, Nat.reduceAdd, Nat.reduceLeDiff, Nat.reduceEqDiff, Nat.reduceLT, Int.reduceLT, Int.reduceLE, Int.reduceEq, Int.reduceNeg, true_or, or_true, false_or, or_false, not_false_eq_true, not_true_eq_false, false_implies, true_implies, forall_const, implies_true, Nat.zero_le, Nat.le_refl]
        refine CI.use (lr_unlike hw b1 ⟨by omega, by omega⟩ b2) ?_
        exact retI ⟨Or.inr (Or.inr ⟨h1, by omega, rfl⟩), rfl⟩
      · try simp only [lc_lt, lc_le, lc_gt, lc_ge, lc_eq, true_and, and_true, List.length_cons, List.length_nil, ab_ia, Nat.reduceAdd, Nat.reduceLeDiff, Nat.reduceEqDiff, Nat.reduceLT, Int.reduceLT, Int.reduceLE, Int.reduceEq, Int.reduceNeg, true_or, or_true, false_or, or_false, not_false_eq_true, not_true_eq_false, false_implies, true_implies, forall_const, implies_true, Nat.zero_le, Nat.le_refl]
        exact retI ⟨Or.inr (Or.inl ⟨h1, by omega, rfl⟩), rfl⟩
  · try simp only [lc_lt, lc_le, lc_gt, lc_ge, lc_eq, true_and, and_true, List.length_cons, List.length_nil, ab_ia, Nat.reduceAdd, Nat.reduceLeDiff, Nat.reduceEqDiff, Nat.reduceLT, Int.reduceLT, Int.reduceLE, Int.reduceEq, Int.reduceNeg, true_or, or_true, false_or, or_false, not_false_eq_true, not_true_eq_false, false_implies, true_implies, forall_const, implies_true, Nat.zero_le, Nat.le_refl]
    exact retI ⟨Or.inl ⟨h1, rfl⟩, rfl⟩
theorem m_match {n v y : Int} (hw : rgW (D 82)) : CI 172 [vR 69, vI n, vI v, vI y] (EE L, D) (fun r D' => ((¬ isSmp n v ∧ r = -2) ∨ (isSmp n v ∧ ¬ (n - 1 ≤ y ∧ y < 60) ∧ r = -1) ∨ (isSmp n v ∧ (n - 1 ≤ y ∧ y < 60) ∧ r = uS (D 82) n.toNat v y)) ∧ D' = D) := by
  refine Sx.un (y := 172) (n := 0) (lo := [vR 69, vI n, vI v, vI y]) (st := []) (u := (0, 0)) ?_
  refine go_172_0 ?_
  simp only [sg_172_0, cl_I, cl_L, cl_R, e_bipush, e_cs2, e_if_ne, e_iload_n, e_iret0, e_nil, fl_0, fl_I, fl_L, fl_R, l_ld1, l_ld2, rk_1, lc_lt, lc_le, lc_gt, lc_ge, lc_eq, true_and, and_true, List.length_cons, List.length_nil, ab_ia, Nat.reduceAdd, Nat.reduceLeDiff, Nat.reduceEqDiff, Nat.reduceLT, Int.reduceLT, Int.reduceLE, Int.reduceEq, Int.reduceNeg, true_or, or_true, false_or, or_false, not_false_eq_true, not_true_eq_false, false_implies, true_implies, forall_const, implies_true, Nat.zero_le, Nat.le_refl]
  refine CB.use m_isSample (fun h1 => ?_) (fun h1 => ?_)
  · obtain ⟨b1, b2⟩ := smp_bd h1
    try simp only [lc_lt, lc_le, lc_gt, lc_ge, lc_eq, true_and, and_true, List.length_cons, List.length_nil, ab_ia, Nat.reduceAdd, Nat.reduceLeDiff, Nat.reduceEqDiff, Nat.reduceLT, Int.reduceLT, Int.reduceLE, Int.reduceEq, Int.reduceNeg, true_or, or_true, false_or, or_false, not_false_eq_true, not_true_eq_false, false_implies, true_implies, forall_const, implies_true, Nat.zero_le, Nat.le_refl]
    refine go_172_6 ?_
    simp only [sg_172_6, cl_I, cl_L, cl_R, e_aload_n, e_cs3, e_cv4, e_goto, e_i2l, e_iconst, e_if_eq, e_iload_n, e_isub, e_ldc2, e_nil, fl_0, fl_I, fl_L, fl_R, l_ld1, l_ld2, l_ld3, l_ldA0, rk_1, EE_n, EE_s69, lc_lt, lc_le, lc_gt, lc_ge, lc_eq, true_and, and_true, List.length_cons, List.length_nil, ab_ia, Nat.reduceAdd, Nat.reduceLeDiff, Nat.reduceEqDiff, Nat.reduceLT, Int.reduceLT, Int.reduceLE, Int.reduceEq, Int.reduceNeg, true_or, or_true, false_or, or_false, not_false_eq_true, not_true_eq_false, false_implies, true_implies, forall_const, implies_true, Nat.zero_le, Nat.le_refl]
    refine ⟨⟨by omega, by omega⟩, ?_⟩
    refine CB.use m_in (fun h3 => ?_) (fun h3 => ?_)
    · try simp only [lc_lt, lc_le, lc_gt, lc_ge, lc_eq, true_and, and_true, List.length_cons, List.length_nil, ab_ia, Nat.reduceAdd, Nat.reduceLeDiff, Nat.reduceEqDiff, Nat.reduceLT, Int.reduceLT, Int.reduceLE, Int.reduceEq, Int.reduceNeg, true_or, or_true, false_or, or_false, not_false_eq_true, not_true_eq_false, false_implies, true_implies, forall_const, implies_true, Nat.zero_le, Nat.le_refl]
      refine CI.use (m_matchOf hw b1 ⟨by omega, by omega⟩ b2) ?_
      refine go_172_22 ?_
      simp only [sg_172_22, cl_I, cl_L, cl_R, e_iret0, e_nil, lc_lt, lc_le, lc_gt, lc_ge, lc_eq, true_and, and_true, List.length_cons, List.length_nil, ab_ia, Nat.reduceAdd, Nat.reduceLeDiff, Nat.reduceEqDiff, Nat.reduceLT, Int.reduceLT, Int.reduceLE, Int.reduceEq, Int.reduceNeg, true_or, or_true, false_or, or_false, not_false_eq_true, not_true_eq_false, false_implies, true_implies, forall_const, implies_true, Nat.zero_le, Nat.le_refl]
      exact retI ⟨Or.inr (Or.inr ⟨h1, by omega, rfl⟩), rfl⟩
    · try simp only [lc_lt, lc_le, lc_gt, lc_ge, lc_eq, true_and, and_true, List.length_cons, List.length_nil, ab_ia, Nat.reduceAdd, Nat.reduceLeDiff, Nat.reduceEqDiff, Nat.reduceLT, Int.reduceLT, Int.reduceLE, Int.reduceEq, Int.reduceNeg, true_or, or_true, false_or, or_false, not_false_eq_true, not_true_eq_false, false_implies, true_implies, forall_const, implies_true, Nat.zero_le, Nat.le_refl]
      refine go_172_21 ?_
      simp only [sg_172_21, cl_I, cl_L, cl_R, e_iconst, e_iret0, e_nil, lc_lt, lc_le, lc_gt, lc_ge, lc_eq, true_and, and_true, List.length_cons, List.length_nil, ab_ia, Nat.reduceAdd, Nat.reduceLeDiff, Nat.reduceEqDiff, Nat.reduceLT, Int.reduceLT, Int.reduceLE, Int.reduceEq, Int.reduceNeg, true_or, or_true, false_or, or_false, not_false_eq_true, not_true_eq_false, false_implies, true_implies, forall_const, implies_true, Nat.zero_le, Nat.le_refl]
      exact retI ⟨Or.inr (Or.inl ⟨h1, by omega, rfl⟩), rfl⟩
  · try simp only [lc_lt, lc_le, lc_gt, lc_ge, lc_eq, true_and, and_true, List.length_cons, List.length_nil, ab_ia, Nat.reduceAdd, Nat.reduceLeDiff, Nat.reduceEqDiff, Nat.reduceLT, Int.reduceLT, Int.reduceLE, Int.reduceEq, Int.reduceNeg, true_or, or_true, false_or, or_false, not_false_eq_true, not_true_eq_false, false_implies, true_implies, forall_const, implies_true, Nat.zero_le, Nat.le_refl]
    exact retI ⟨Or.inl ⟨h1, rfl⟩, rfl⟩
end Rings2
