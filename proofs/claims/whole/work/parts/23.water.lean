/-! water -/
section Water
variable {L : Nat} {D : ab_D}
theorem w_power_loop {b n : Int} {Q : Option ab_V → ab_H → Prop} {h : ab_H} (hb : 0 ≤ b ∧ b ≤ 10) (hn : n ≤ 9) (hq : Q (some (.inr (.inl (ipw b n.toNat)))) h) :
    ∀ (j : Nat) (k : Int), 0 ≤ k → n = k + j → Sx 68 4 [vI b, vI n, vL (ipw b k.toNat), vU, vI k] [] h (0, 0) Q := by
  intro j
  induction j with
  | zero =>
    intro k h0 hk
    refine go_68_4 ?_
    simp only [sg_68_4, cl_I, cl_L, cl_R, e_goto, e_i2l, e_icmp_ge, e_iinc, e_iload, e_iload_n, e_lload_n, e_lmul, e_lstore_n, e_nil, l_inc4, l_ld0, l_ld1, l_ld4, l_ldL2, l_stL2, lc_lt, lc_le, lc_gt, lc_ge, lc_eq, true_and, and_true, List.length_cons, List.length_nil, ab_ia, Nat.reduceAdd, Nat.reduceLeDiff, Nat.reduceEqDiff, Nat.reduceLT, Int.reduceLT, Int.reduceLE, Int.reduceEq, Int.reduceNeg, true_or, or_true, false_or, or_false, not_false_eq_true, not_true_eq_false, false_implies, true_implies, forall_const, implies_true, Nat.zero_le, Nat.le_refl]
    refine ⟨fun _ => ?_, fun hc => absurd hc (by omega)⟩
    refine go_68_14 ?_
    simp only [sg_68_14, cl_I, cl_L, cl_R, e_lload_n, e_lret, e_nil, l_ldL2, lc_lt, lc_le, lc_gt, lc_ge, lc_eq, true_and, and_true, List.length_cons, List.length_nil, ab_ia, Nat.reduceAdd, Nat.reduceLeDiff, Nat.reduceEqDiff, Nat.reduceLT, Int.reduceLT, Int.reduceLE, Int.reduceEq, Int.reduceNeg, true_or, or_true, false_or, or_false, not_false_eq_true, not_true_eq_false, false_implies, true_implies, forall_const, implies_true, Nat.zero_le, Nat.le_refl]
    rw [show k.toNat = n.toNat by omega]
    exact hq
  | succ j ih =>
    intro k h0 hk
    have h1 := ipw_mono hb.1 hb.2 (k + 1).toNat
    have h2 := ipw_10 (k := (k + 1).toNat) (by omega)
    have e : ipw b k.toNat * b = ipw b (k + 1).toNat := by rw [show (k + 1).toNat = k.toNat + 1 by omega]; rfl
    refine go_68_4 ?_
    simp only [sg_68_4, cl_I, cl_L, cl_R, e_goto, e_i2l, e_icmp_ge, e_iinc, e_iload, e_iload_n, e_lload_n, e_lmul, e_lstore_n, e_nil, l_inc4, l_ld0, l_ld1, l_ld4, l_ldL2, l_stL2, lc_lt, lc_le, lc_gt, lc_ge, lc_eq, true_and, and_true, List.length_cons, List.length_nil, ab_ia, Nat.reduceAdd, Nat.reduceLeDiff, Nat.reduceEqDiff, Nat.reduceLT, Int.reduceLT, Int.reduceLE, Int.reduceEq, Int.reduceNeg, true_or, or_true, false_or, or_false, not_false_eq_true, not_true_eq_false, false_implies, true_implies, forall_const, implies_true, Nat.zero_le, Nat.le_refl]
    refine ⟨fun hc => absurd hc (by omega), fun _ => ⟨⟨by rw [e]; omega, by rw [e]; omega⟩, ⟨by omega, by omega⟩, ?_⟩⟩
    rw [e]
    exact ih (k + 1) (by omega) (by omega)
theorem w_power {b n : Int} {E : ab_E} (hb : 0 ≤ b ∧ b ≤ 10) (hn : 0 ≤ n ∧ n ≤ 9) : CL 68 [vI b, vI n] (E, D) (fun r D' => r = ipw b n.toNat ∧ D' = D) := by
  refine Sx.un (y := 68) (n := 0) (lo := [vI b, vI n, vU, vU, vU]) (st := []) (u := (0, 0)) ?_
  refine go_68_0 ?_
  simp only [sg_68_0, cl_I, cl_L, cl_R, e_iconst, e_istore, e_lconst, e_lstore_n, e_nil, l_st4, l_stL2, lc_lt, lc_le, lc_gt, lc_ge, lc_eq, true_and, and_true, List.length_cons, List.length_nil, ab_ia, Nat.reduceAdd, Nat.reduceLeDiff, Nat.reduceEqDiff, Nat.reduceLT, Int.reduceLT, Int.reduceLE, Int.reduceEq, Int.reduceNeg, true_or, or_true, false_or, or_false, not_false_eq_true, not_true_eq_false, false_implies, true_implies, forall_const, implies_true, Nat.zero_le, Nat.le_refl]
  exact w_power_loop (k := 0) hb hn.2 (retL ⟨rfl, rfl⟩) n.toNat (by omega) (by omega)
def undr (f : Nat → Int) (floor : Int) : Nat → Bool := fun k => decide (f k < floor)
theorem w_above_loop {Q : Option ab_V → ab_H → Prop} {floor n : Int} (hr : 0 ≤ D 59 1 ∧ D 59 1 ≤ 8) (hn : 0 ≤ n ∧ n ≤ 6) (hq : Q (some (.inr (.inl (ipw (D 59 1) n.toNat - ipw (cnt (undr (D 60) floor) (D 59 1).toNat) n.toNat)))) (EE L, D)) :
    ∀ (j : Nat) (k : Int), 0 ≤ k → D 59 1 = k + j → Sx 66 4 [vR 59, vI floor, vI n, vI (cnt (undr (D 60) floor) k.toNat), vI k] [] (EE L, D) (0, 0) Q := by
  intro j
  induction j with
  | zero =>
    intro k h0 hk
    have hc0 := cnt_bd (undr (D 60) floor) k.toNat
    refine go_66_4 ?_
    simp only [sg_66_4, cl_I, cl_L, cl_R, e_aload_n, e_get0, e_get1, e_goto, e_iaload, e_icmp_ge, e_iinc, e_iload, e_iload_n, e_nil, l_inc3, l_inc4, l_ld1, l_ld4, l_ldA0, wRef_some, EE_n, EE_r59_0, EE_s59, EE_s60, lc_lt, lc_le, lc_gt, lc_ge, lc_eq, true_and, and_true, List.length_cons, List.length_nil, ab_ia, Nat.reduceAdd, Nat.reduceLeDiff, Nat.reduceEqDiff, Nat.reduceLT, Int.reduceLT, Int.reduceLE, Int.reduceEq, Int.reduceNeg, true_or, or_true, false_or, or_false, not_false_eq_true, not_true_eq_false, false_implies, true_implies, forall_const, implies_true, Nat.zero_le, Nat.le_refl]
    refine ⟨fun _ => ?_, fun hc => absurd hc (by omega)⟩
    refine go_66_17 ?_
    simp only [sg_66_17, cl_I, cl_L, cl_R, e_aload_n, e_cs2, e_cv2, e_iload_n, e_lret, e_lsub, e_nil, fl_0, fl_I, fl_L, fl_R, l_ld2, l_ld3, l_ldA0, rk_2, EE_n, EE_s59, lc_lt, lc_le, lc_gt, lc_ge, lc_eq, true_and, and_true, List.length_cons, List.length_nil, ab_ia, Nat.reduceAdd, Nat.reduceLeDiff, Nat.reduceEqDiff, Nat.reduceLT, Int.reduceLT, Int.reduceLE, Int.reduceEq, Int.reduceNeg, true_or, or_true, false_or, or_false, not_false_eq_true, not_true_eq_false, false_implies, true_implies, forall_const, implies_true, Nat.zero_le, Nat.le_refl]
    have e0 : CL 67 [vR 59, vI n] (EE L, D) (fun r D' => r = ipw (D 59 1) n.toNat ∧ D' = D) := by
      refine Sx.un (y := 67) (n := 0) (lo := [vR 59, vI n]) (st := []) (u := (0, 0)) ?_
      refine go_67_0 ?_
      simp only [sg_67_0, cl_I, cl_L, cl_R, e_aload_n, e_cs2, e_get0, e_iload_n, e_lret, e_nil, fl_0, fl_I, fl_L, fl_R, l_ld1, l_ldA0, rk_2, wRef_some, EE_n, EE_s59, lc_lt, lc_le, lc_gt, lc_ge, lc_eq, true_and, and_true, List.length_cons, List.length_nil, ab_ia, Nat.reduceAdd, Nat.reduceLeDiff, Nat.reduceEqDiff, Nat.reduceLT, Int.reduceLT, Int.reduceLE, Int.reduceEq, Int.reduceNeg, true_or, or_true, false_or, or_false, not_false_eq_true, not_true_eq_false, false_implies, true_implies, forall_const, implies_true, Nat.zero_le, Nat.le_refl]
      refine CL.use (w_power (by omega) (by omega)) ?_
      exact retL ⟨rfl, rfl⟩
    refine CL.use e0 ?_
    refine CL.use (w_power (by omega) (by omega)) ?_
    have h1 := ipw_mono (b := D 59 1) (c := 10) (by omega) (by omega) n.toNat
    have h2 := ipw_mono (b := cnt (undr (D 60) floor) k.toNat) (c := 10) (by omega) (by omega) n.toNat
    have h3 := ipw_10 (k := n.toNat) (by omega)
    refine ⟨⟨by omega, by omega⟩, ?_⟩
    rw [show k.toNat = (D 59 1).toNat by omega]
    exact hq
  | succ j ih =>
    intro k h0 hk
    have hc0 := cnt_bd (undr (D 60) floor) k.toNat
    have e : cnt (undr (D 60) floor) (k + 1).toNat = cnt (undr (D 60) floor) k.toNat + if D 60 k.toNat < floor then 1 else 0 := by
      rw [show (k + 1).toNat = k.toNat + 1 by omega]
      simp [cnt, undr]
    have ihk := ih (k + 1) (by omega) (by omega)
    refine go_66_4 ?_
    simp only [sg_66_4, cl_I, cl_L, cl_R, e_aload_n, e_get0, e_get1, e_goto, e_iaload, e_icmp_ge, e_iinc, e_iload, e_iload_n, e_nil, l_inc3, l_inc4, l_ld1, l_ld4, l_ldA0, wRef_some, EE_n, EE_r59_0, EE_s59, EE_s60, lc_lt, lc_le, lc_gt, lc_ge, lc_eq, true_and, and_true, List.length_cons, List.length_nil, ab_ia, Nat.reduceAdd, Nat.reduceLeDiff, Nat.reduceEqDiff, Nat.reduceLT, Int.reduceLT, Int.reduceLE, Int.reduceEq, Int.reduceNeg, true_or, or_true, false_or, or_false, not_false_eq_true, not_true_eq_false, false_implies, true_implies, forall_const, implies_true, Nat.zero_le, Nat.le_refl]
    refine ⟨fun hc => absurd hc (by omega), fun _ => ⟨by omega, fun h1 => ?_, fun h1 => ⟨⟨by omega, by omega⟩, ⟨by omega, by omega⟩, ?_⟩⟩⟩
    · refine go_66_15 ?_
      simp only [sg_66_15, cl_I, cl_L, cl_R, e_goto, e_iinc, e_nil, l_inc4, lc_lt, lc_le, lc_gt, lc_ge, lc_eq, true_and, and_true, List.length_cons, List.length_nil, ab_ia, Nat.reduceAdd, Nat.reduceLeDiff, Nat.reduceEqDiff, Nat.reduceLT, Int.reduceLT, Int.reduceLE, Int.reduceEq, Int.reduceNeg, true_or, or_true, false_or, or_false, not_false_eq_true, not_true_eq_false, false_implies, true_implies, forall_const, implies_true, Nat.zero_le, Nat.le_refl]
      rw [if_neg (by omega), Int.add_zero] at e
      rw [e] at ihk
      exact ⟨⟨by omega, by omega⟩, ihk⟩
    · rw [if_pos (by omega)] at e
      rw [e] at ihk
      exact ihk
theorem w_below {n : Int} (hr : 0 ≤ D 59 1 ∧ D 59 1 ≤ 8) (hn : 0 ≤ n ∧ n ≤ 6) : CL 67 [vR 59, vI n] (EE L, D) (fun r D' => r = ipw (D 59 1) n.toNat ∧ D' = D) := by
  refine Sx.un (y := 67) (n := 0) (lo := [vR 59, vI n]) (st := []) (u := (0, 0)) ?_
  refine go_67_0 ?_
  simp only [sg_67_0, cl_I, cl_L, cl_R, e_aload_n, e_cs2, e_get0, e_iload_n, e_lret, e_nil, fl_0, fl_I, fl_L, fl_R, l_ld1, l_ldA0, rk_2, wRef_some, EE_n, EE_s59, lc_lt, lc_le, lc_gt, lc_ge, lc_eq, true_and, and_true, List.length_cons, List.length_nil, ab_ia, Nat.reduceAdd, Nat.reduceLeDiff, Nat.reduceEqDiff, Nat.reduceLT, Int.reduceLT, Int.reduceLE, Int.reduceEq, Int.reduceNeg, true_or, or_true, false_or, or_false, not_false_eq_true, not_true_eq_false, false_implies, true_implies, forall_const, implies_true, Nat.zero_le, Nat.le_refl]
  refine CL.use (w_power (by omega) (by omega)) ?_
  exact retL ⟨rfl, rfl⟩
/-- of all runs of n years those in which the floor is reached -/
def wetU (r : Int) (f : Nat → Int) (floor n : Int) : Int := ipw r n.toNat - ipw (cnt (undr f floor) r.toNat) n.toNat
theorem w_above {floor n : Int} (hr : 0 ≤ D 59 1 ∧ D 59 1 ≤ 8) (hn : 0 ≤ n ∧ n ≤ 6) : CL 66 [vR 59, vI floor, vI n] (EE L, D) (fun r D' => r = wetU (D 59 1) (D 60) floor n ∧ D' = D) := by
  refine Sx.un (y := 66) (n := 0) (lo := [vR 59, vI floor, vI n, vU, vU]) (st := []) (u := (0, 0)) ?_
  refine go_66_0 ?_
  simp only [sg_66_0, cl_I, cl_L, cl_R, e_iconst, e_istore, e_istore_n, e_nil, l_st3, l_st4, lc_lt, lc_le, lc_gt, lc_ge, lc_eq, true_and, and_true, List.length_cons, List.length_nil, ab_ia, Nat.reduceAdd, Nat.reduceLeDiff, Nat.reduceEqDiff, Nat.reduceLT, Int.reduceLT, Int.reduceLE, Int.reduceEq, Int.reduceNeg, true_or, or_true, false_or, or_false, not_false_eq_true, not_true_eq_false, false_implies, true_implies, forall_const, implies_true, Nat.zero_le, Nat.le_refl]
  exact w_above_loop hr hn (retL ⟨rfl, rfl⟩) (D 59 1).toNat 0 (by omega) (by omega)
theorem m_wetOf_loop {Q : Option ab_V → ab_H → Prop} {floor n : Int} (hr : 0 ≤ D 69 19 ∧ D 69 19 ≤ 8) (hn : 0 ≤ n ∧ n ≤ 6) (hq : Q (some (.inr (.inl (wetU (D 69 19) (D 81) floor n)))) (EE L, D)) :
    ∀ (j : Nat) (k : Int), 0 ≤ k → D 69 19 = k + j → Sx 166 4 [vR 69, vI floor, vI n, vI (cnt (undr (D 81) floor) k.toNat), vI k] [] (EE L, D) (0, 0) Q := by
  intro j
  induction j with
  | zero =>
    intro k h0 hk
    have hc0 := cnt_bd (undr (D 81) floor) k.toNat
    refine go_166_4 ?_
    simp only [sg_166_4, cl_I, cl_L, cl_R, e_aload_n, e_get0, e_get1, e_goto, e_iaload, e_icmp_ge, e_iconst, e_iload, e_iload_n, e_nil, l_ld1, l_ld3, l_ld4, l_ldA0, wRef_some, EE_n, EE_r69_20, EE_s69, EE_s81, lc_lt, lc_le, lc_gt, lc_ge, lc_eq, true_and, and_true, List.length_cons, List.length_nil, ab_ia, Nat.reduceAdd, Nat.reduceLeDiff, Nat.reduceEqDiff, Nat.reduceLT, Int.reduceLT, Int.reduceLE, Int.reduceEq, Int.reduceNeg, true_or, or_true, false_or, or_false, not_false_eq_true, not_true_eq_false, false_implies, true_implies, forall_const, implies_true, Nat.zero_le, Nat.le_refl]
    refine ⟨fun _ => ?_, fun hc => absurd hc (by omega)⟩
    refine go_166_22 ?_
    simp only [sg_166_22, cl_I, cl_L, cl_R, e_aload_n, e_cs2, e_get0, e_iload_n, e_lret, e_lsub, e_nil, fl_0, fl_I, fl_L, fl_R, l_ld2, l_ld3, l_ldA0, rk_2, wRef_some, EE_n, EE_s69, lc_lt, lc_le, lc_gt, lc_ge, lc_eq, true_and, and_true, List.length_cons, List.length_nil, ab_ia, Nat.reduceAdd, Nat.reduceLeDiff, Nat.reduceEqDiff, Nat.reduceLT, Int.reduceLT, Int.reduceLE, Int.reduceEq, Int.reduceNeg, true_or, or_true, false_or, or_false, not_false_eq_true, not_true_eq_false, false_implies, true_implies, forall_const, implies_true, Nat.zero_le, Nat.le_refl]
    refine CL.use (m_power (by omega) (by omega)) ?_
    refine CL.use (m_power (by omega) (by omega)) ?_
    have h1 := ipw_mono (b := D 69 19) (c := 10) (by omega) (by omega) n.toNat
    have h2 := ipw_mono (b := cnt (undr (D 81) floor) k.toNat) (c := 10) (by omega) (by omega) n.toNat
    have h3 := ipw_10 (k := n.toNat) (by omega)
    refine ⟨⟨by omega, by omega⟩, ?_⟩
    unfold wetU at hq
    rw [show k.toNat = (D 69 19).toNat by omega]
    exact hq
  | succ j ih =>
    intro k h0 hk
    have hc0 := cnt_bd (undr (D 81) floor) k.toNat
    have e : cnt (undr (D 81) floor) (k + 1).toNat = cnt (undr (D 81) floor) k.toNat + if D 81 k.toNat < floor then 1 else 0 := by
      rw [show (k + 1).toNat = k.toNat + 1 by omega]
      simp [cnt, undr]
    have ihk := ih (k + 1) (by omega) (by omega)
    refine go_166_4 ?_
    simp only [sg_166_4, cl_I, cl_L, cl_R, e_aload_n, e_get0, e_get1, e_goto, e_iaload, e_icmp_ge, e_iconst, e_iload, e_iload_n, e_nil, l_ld1, l_ld3, l_ld4, l_ldA0, wRef_some, EE_n, EE_r69_20, EE_s69, EE_s81, lc_lt, lc_le, lc_gt, lc_ge, lc_eq, true_and, and_true, List.length_cons, List.length_nil, ab_ia, Nat.reduceAdd, Nat.reduceLeDiff, Nat.reduceEqDiff, Nat.reduceLT, Int.reduceLT, Int.reduceLE, Int.reduceEq, Int.reduceNeg, true_or, or_true, false_or, or_false, not_false_eq_true, not_true_eq_false, false_implies, true_implies, forall_const, implies_true, Nat.zero_le, Nat.le_refl]
    refine ⟨fun hc => absurd hc (by omega), fun _ => ⟨by omega, fun h1 => ?_, fun h1 => ?_⟩⟩
    · refine go_166_17 ?_
      simp only [sg_166_17, cl_I, cl_L, cl_R, e_goto, e_iadd, e_iconst, e_iinc, e_istore_n, e_nil, l_inc4, l_st3, lc_lt, lc_le, lc_gt, lc_ge, lc_eq, true_and, and_true, List.length_cons, List.length_nil, ab_ia, Nat.reduceAdd, Nat.reduceLeDiff, Nat.reduceEqDiff, Nat.reduceLT, Int.reduceLT, Int.reduceLE, Int.reduceEq, Int.reduceNeg, true_or, or_true, false_or, or_false, not_false_eq_true, not_true_eq_false, false_implies, true_implies, forall_const, implies_true, Nat.zero_le, Nat.le_refl]
      rw [if_neg (by omega)] at e
      rw [e] at ihk
      exact ⟨⟨by omega, by omega⟩, ⟨by omega, by omega⟩, ihk⟩
    · refine go_166_18 ?_
      simp only [sg_166_18, cl_I, cl_L, cl_R, e_goto, e_iadd, e_iinc, e_istore_n, e_nil, l_inc4, l_st3, lc_lt, lc_le, lc_gt, lc_ge, lc_eq, true_and, and_true, List.length_cons, List.length_nil, ab_ia, Nat.reduceAdd, Nat.reduceLeDiff, Nat.reduceEqDiff, Nat.reduceLT, Int.reduceLT, Int.reduceLE, Int.reduceEq, Int.reduceNeg, true_or, or_true, false_or, or_false, not_false_eq_true, not_true_eq_false, false_implies, true_implies, forall_const, implies_true, Nat.zero_le, Nat.le_refl]
      rw [if_pos (by omega)] at e
      rw [e] at ihk
      exact ⟨⟨by omega, by omega⟩, ⟨by omega, by omega⟩, ihk⟩
theorem m_wetOf {floor n : Int} (hr : 0 ≤ D 69 19 ∧ D 69 19 ≤ 8) (hn : 0 ≤ n ∧ n ≤ 6) : CL 166 [vR 69, vI floor, vI n] (EE L, D) (fun r D' => r = wetU (D 69 19) (D 81) floor n ∧ D' = D) := by
  refine Sx.un (y := 166) (n := 0) (lo := [vR 69, vI floor, vI n, vU, vU]) (st := []) (u := (0, 0)) ?_
  refine go_166_0 ?_
  simp only [sg_166_0, cl_I, cl_L, cl_R, e_iconst, e_istore, e_istore_n, e_nil, l_st3, l_st4, lc_lt, lc_le, lc_gt, lc_ge, lc_eq, true_and, and_true, List.length_cons, List.length_nil, ab_ia, Nat.reduceAdd, Nat.reduceLeDiff, Nat.reduceEqDiff, Nat.reduceLT, Int.reduceLT, Int.reduceLE, Int.reduceEq, Int.reduceNeg, true_or, or_true, false_or, or_false, not_false_eq_true, not_true_eq_false, false_implies, true_implies, forall_const, implies_true, Nat.zero_le, Nat.le_refl]
  exact m_wetOf_loop hr hn (retL ⟨rfl, rfl⟩) (D 69 19).toNat 0 (by omega) (by omega)
theorem wetU_bd {r floor n : Int} {f : Nat → Int} (hr : 1 ≤ r ∧ r ≤ 8) (hn : 0 ≤ n ∧ n ≤ 6) : 0 ≤ wetU r f floor n ∧ wetU r f floor n ≤ ipw r n.toNat ∧ 1 ≤ ipw r n.toNat ∧ ipw r n.toNat ≤ 262144 := by
  have h0 := cnt_bd (undr f floor) r.toNat
  have h1 := ipw_mono (b := cnt (undr f floor) r.toNat) (c := r) (by omega) (by omega) n.toNat
  have h2 := ipw_mono (b := r) (c := 8) (by omega) (by omega) n.toNat
  have h3 := ipw_8 (k := n.toNat) (by omega)
  have h4 := ipw_pos hr.1 n.toNat
  unfold wetU
  omega
/-! the greatest common divisor -/
def ig (a b : Int) : Int := (Nat.gcd b.toNat a.toNat : Int)
theorem ig_0 {a : Int} (ha : 0 ≤ a) : ig a 0 = a := by
  unfold ig
  rw [show (0 : Int).toNat = 0 from rfl, Nat.gcd_zero_left]
  omega
theorem ig_step {a b : Int} (ha : 0 ≤ a) (hb : 0 < b) : ig a b = ig b (a % b) := by
  unfold ig
  have h1 : (a % b).toNat = a.toNat % b.toNat := by
    have := Int.toNat_emod ha (Int.le_of_lt hb)
    exact this
  rw [h1, Nat.gcd_rec]
theorem ig_pos {a b : Int} (ha : 0 ≤ a) (hb : 0 < b) : 1 ≤ ig a b := by
  unfold ig
  have := Nat.gcd_pos_of_pos_left a.toNat (show 0 < b.toNat by omega)
  omega
theorem p_gcd_loop {Q : Option ab_V → ab_H → Prop} {h : ab_H} {o1 o2 g : Int} (hg : 1 ≤ g) (hq : Q (some (.inr (.inl g))) h) :
    ∀ (t : Nat) (a b k : Int) (x9 x10 : ab_V), 0 ≤ a → a < 9223372036854775808 → 0 ≤ b → b < ipw 2 t → 0 ≤ k → k + 2 * t ≤ 100 → ig a b = g → Sx 115 6 [vL o1, vU, vL o2, vU, vL a, vU, vL b, vU, vI k, x9, x10] [] h (0, 0) Q := by
  have stop : ∀ (a k : Int) (x9 x10 : ab_V), 0 ≤ a → ig a 0 = g → Sx 115 6 [vL o1, vU, vL o2, vU, vL a, vU, vL 0, vU, vI k, x9, x10] [] h (0, 0) Q := by
    intro a k x9 x10 ha hgg
    rw [ig_0 ha] at hgg
    have fin : Sx 115 23 [vL o1, vU, vL o2, vU, vL a, vU, vL 0, vU, vI k, x9, x10] [] h (0, 0) Q := by
      refine go_115_23 ?_
      simp only [sg_115_23, cl_I, cl_L, cl_R, e_lconst, e_lload, e_lret, e_maxL, e_nil, l_ldL4, lc_lt, lc_le, lc_gt, lc_ge, lc_eq, true_and, and_true, List.length_cons, List.length_nil, ab_ia, Nat.reduceAdd, Nat.reduceLeDiff, Nat.reduceEqDiff, Nat.reduceLT, Int.reduceLT, Int.reduceLE, Int.reduceEq, Int.reduceNeg, true_or, or_true, false_or, or_false, not_false_eq_true, not_true_eq_false, false_implies, true_implies, forall_const, implies_true, Nat.zero_le, Nat.le_refl]
      by_cases h1 : (1 : Int) < a
      · rw [if_pos (by simpa using h1), hgg]
        exact hq
      · rw [if_neg (by simpa using h1)]
        rw [show ((1 : Nat) : Int) = g by omega]
        exact hq
    refine go_115_6 ?_
    simp only [sg_115_6, cl_I, cl_L, cl_R, e_bipush, e_goto, e_icmp_ge, e_if_eq, e_iinc, e_iload, e_lcmp, e_lconst, e_lload, e_lrem, e_lstore, e_nil, l_inc8, l_ld8, l_ldL4, l_ldL6, l_ldL9, l_stL4, l_stL6, l_stL9, lc_lt, lc_le, lc_gt, lc_ge, lc_eq, true_and, and_true, List.length_cons, List.length_nil, ab_ia, Nat.reduceAdd, Nat.reduceLeDiff, Nat.reduceEqDiff, Nat.reduceLT, Int.reduceLT, Int.reduceLE, Int.reduceEq, Int.reduceNeg, true_or, or_true, false_or, or_false, not_false_eq_true, not_true_eq_false, false_implies, true_implies, forall_const, implies_true, Nat.zero_le, Nat.le_refl]
    exact ⟨fun _ => fin, fun _ => ⟨fun _ => fin, fun hc => absurd rfl hc⟩⟩
  have step : ∀ (a b k : Int) (x9 x10 : ab_V), 0 ≤ a → 0 < b → b < 9223372036854775808 → 0 ≤ k → k < 100 → (∀ x9 x10 : ab_V, Sx 115 6 [vL o1, vU, vL o2, vU, vL b, vU, vL (a % b), vU, vI (k + 1), x9, x10] [] h (0, 0) Q) → Sx 115 6 [vL o1, vU, vL o2, vU, vL a, vU, vL b, vU, vI k, x9, x10] [] h (0, 0) Q := by
    intro a b k x9 x10 ha hb hb2 hk0 hk kk
    refine go_115_6 ?_
    simp only [sg_115_6, cl_I, cl_L, cl_R, e_bipush, e_goto, e_icmp_ge, e_if_eq, e_iinc, e_iload, e_lcmp, e_lconst, e_lload, e_lrem, e_lstore, e_nil, l_inc8, l_ld8, l_ldL4, l_ldL6, l_ldL9, l_stL4, l_stL6, l_stL9, lc_lt, lc_le, lc_gt, lc_ge, lc_eq, true_and, and_true, List.length_cons, List.length_nil, ab_ia, Nat.reduceAdd, Nat.reduceLeDiff, Nat.reduceEqDiff, Nat.reduceLT, Int.reduceLT, Int.reduceLE, Int.reduceEq, Int.reduceNeg, true_or, or_true, false_or, or_false, not_false_eq_true, not_true_eq_false, false_implies, true_implies, forall_const, implies_true, Nat.zero_le, Nat.le_refl]
    exact ⟨fun hc => absurd hc (by omega), fun _ => ⟨fun hc => absurd hc (by simpa using (by omega : b ≠ 0)), fun _ => ⟨by omega, ⟨by omega, by omega⟩, kk _ _⟩⟩⟩
  intro t
  induction t with
  | zero =>
    intro a b k x9 x10 ha ha2 hb hb2 hk hk2 hgg
    have : b = 0 := by simp [ipw] at hb2; omega
    subst this
    exact stop a k x9 x10 ha hgg
  | succ t ih =>
    intro a b k x9 x10 ha ha2 hb hb2 hk hk2 hgg
    have e2 : ipw 2 (t + 1) = ipw 2 t * 2 := rfl
    by_cases hb0 : b = 0
    · subst hb0
      exact stop a k x9 x10 ha hgg
    · have hbb : b < 9223372036854775808 := by
        have h1 : ∀ t : Nat, t ≤ 50 → ipw 2 t ≤ 1125899906842624 := by decide
        have := h1 (t + 1) (by omega)
        omega
      have hr1 := Int.emod_nonneg a (show b ≠ 0 by omega)
      have hr2 := Int.emod_lt_of_pos a (show 0 < b by omega)
      rw [ig_step ha (by omega)] at hgg
      refine step a b k x9 x10 ha (by omega) hbb hk (by omega) (fun x9 x10 => ?_)
      by_cases hr0 : a % b = 0
      · rw [hr0] at hgg ⊢
        exact stop b (k + 1) x9 x10 (by omega) hgg
      · rw [ig_step (by omega) (by omega)] at hgg
        refine step b (a % b) (k + 1) x9 x10 (by omega) (by omega) (by omega) (by omega) (by omega) (fun x9 x10 => ?_)
        have hs1 := Int.emod_nonneg b (show a % b ≠ 0 by omega)
        have hs2 := Int.emod_lt_of_pos b (show 0 < a % b by omega)
        have hs3 : b % (a % b) < ipw 2 t := by
          have h6 := Int.mul_ediv_add_emod b (a % b)
          have h7 : 1 ≤ b / (a % b) := by
            rw [Int.le_ediv_iff_mul_le (by omega)]
            omega
          have h8 : a % b * 1 ≤ a % b * (b / (a % b)) := Int.mul_le_mul_of_nonneg_left h7 (by omega)
          omega
        exact ih (a % b) (b % (a % b)) (k + 1 + 1) x9 x10 (by omega) (by omega) (by omega) hs3 (by omega) (by omega) hgg
theorem p_gcd {a b : Int} {E : ab_E} (ha : 0 ≤ a ∧ a < 9223372036854775808) (hb : 0 < b ∧ b ≤ 262144) : CL 115 [vL a, vL b] (E, D) (fun r D' => r = ig a b ∧ D' = D) := by
  refine Sx.un (y := 115) (n := 0) (lo := [vL a, vU, vL b, vU, vU, vU, vU, vU, vU, vU, vU]) (st := []) (u := (0, 0)) ?_
  refine go_115_0 ?_
  simp only [sg_115_0, cl_I, cl_L, cl_R, e_iconst, e_istore, e_lload_n, e_lstore, e_nil, l_ldL0, l_ldL2, l_st8, l_stL4, l_stL6, lc_lt, lc_le, lc_gt, lc_ge, lc_eq, true_and, and_true, List.length_cons, List.length_nil, ab_ia, Nat.reduceAdd, Nat.reduceLeDiff, Nat.reduceEqDiff, Nat.reduceLT, Int.reduceLT, Int.reduceLE, Int.reduceEq, Int.reduceNeg, true_or, or_true, false_or, or_false, not_false_eq_true, not_true_eq_false, false_implies, true_implies, forall_const, implies_true, Nat.zero_le, Nat.le_refl]
  have h1 : ipw 2 20 = 1048576 := by decide
  exact p_gcd_loop (ig_pos ha.1 hb.1) (retL ⟨rfl, rfl⟩) 20 a b 0 _ _ ha.1 ha.2 (by omega) (by omega) (by omega) (by omega) rfl
end Water
