/-! the reference's village -/
section RefVil
variable {L : Nat} {D : ab_D} {G : Gr} {V : Vil}
theorem gM_fr {D' : ab_D} (hf : frM D D') (hg : gM D G) : gM D' G := hg.congr (hf.1 71 (by decide) (by decide) (by decide) (by decide))
theorem vM_dep {q z : Int} (hV : vM D V) (h0 : 0 ≤ q) : vM (ups D 74 (8 * q + 2).toNat z) (V.setP q 2 z) := by
  obtain ⟨⟨a1, a2, a3⟩, b, c⟩ := hV
  refine ⟨⟨?_, ?_, ?_⟩, fun p p0 p1 => ?_, fun h h0 h1 => ?_⟩
  · rw [ups_ne1 (by omega)]; exact a1
  · rw [ups_ne1 (by omega)]; exact a2
  · rw [ups_ne1 (by omega)]; exact a3
  · obtain ⟨b0, b1, b2, b3, b4, b5, b6, b7⟩ := b p p0 p1
    rw [setP_ne (show (0 : Int) ≠ 2 by decide), setP_ne (show (1 : Int) ≠ 2 by decide), setP_ne (show (3 : Int) ≠ 2 by decide), setP_ne (show (4 : Int) ≠ 2 by decide), setP_ne (show (5 : Int) ≠ 2 by decide), setP_ne (show (7 : Int) ≠ 2 by decide)]
    by_cases z : p = q
    · subst z
      simp (disch := omega) only [ups_ne2, ups_self, setP_self]
      exact ⟨b0, b1, trivial, b3, b4, b5, b6, b7⟩
    · simp (disch := omega) only [ups_ne2, setP_nep]
      exact ⟨b0, b1, b2, b3, b4, b5, b6, b7⟩
  · rw [ups_ne1 (by omega), ups_ne1 (by omega), ups_ne1 (by omega), ups_ne1 (by omega)]; exact c h h0 h1
theorem vM_fel {q z : Int} (hV : vM D V) (h0 : 0 ≤ q) (hz : z ≠ -9) : vM (ups (ups D 74 (8 * q + 6).toNat 0) 74 (8 * q + 7).toNat z) (V.setP q 7 z) := by
  obtain ⟨⟨a1, a2, a3⟩, b, c⟩ := hV
  refine ⟨⟨?_, ?_, ?_⟩, fun p p0 p1 => ?_, fun h h0 h1 => ?_⟩
  · simp (disch := omega) only [ups_ne1]; exact a1
  · simp (disch := omega) only [ups_ne1]; exact a2
  · simp (disch := omega) only [ups_ne1]; exact a3
  · obtain ⟨b0, b1, b2, b3, b4, b5, b6, b7⟩ := b p p0 p1
    rw [setP_ne (show (0 : Int) ≠ 7 by decide), setP_ne (show (1 : Int) ≠ 7 by decide), setP_ne (show (2 : Int) ≠ 7 by decide), setP_ne (show (3 : Int) ≠ 7 by decide), setP_ne (show (4 : Int) ≠ 7 by decide), setP_ne (show (5 : Int) ≠ 7 by decide)]
    by_cases z : p = q
    · subst z
      simp (disch := omega) only [ups_ne2, ups_self, setP_self, if_neg hz]
      exact ⟨b0, b1, b2, b3, b4, b5, trivial, trivial⟩
    · simp (disch := omega) only [ups_ne2, setP_nep]
      exact ⟨b0, b1, b2, b3, b4, b5, b6, b7⟩
  · simp (disch := omega) only [ups_ne1]; exact c h h0 h1
theorem vM_dwn {q z : Int} (hV : vM D V) (h0 : 0 ≤ q) : vM (ups D 75 (4 * q + 3).toNat z) (V.setH q 3 z) := by
  obtain ⟨⟨a1, a2, a3⟩, b, c⟩ := hV
  refine ⟨⟨?_, ?_, ?_⟩, fun p p0 p1 => ?_, fun h h0 h1 => ?_⟩
  · rw [ups_ne1 (by omega)]; exact a1
  · rw [ups_ne1 (by omega)]; exact a2
  · rw [ups_ne1 (by omega)]; exact a3
  · simp (disch := omega) only [ups_ne1]
    exact b p p0 p1
  · obtain ⟨c0, c1, c2, c3⟩ := c h h0 h1
    rw [setH_ne (show (0 : Int) ≠ 3 by decide), setH_ne (show (1 : Int) ≠ 3 by decide), setH_ne (show (2 : Int) ≠ 3 by decide)]
    by_cases z : h = q
    · subst z
      simp (disch := omega) only [ups_ne2, ups_self, setH_self]
      exact ⟨c0, c1, c2, trivial⟩
    · simp (disch := omega) only [ups_ne2, setH_nep]
      exact ⟨c0, c1, c2, c3⟩
theorem vM_tick {z : Int} (hV : vM D V) (hz : z = V.yr + 1) : vM (ups D 69 12 z) V.tick := by
  obtain ⟨⟨a1, a2, a3⟩, b, c⟩ := hV
  refine ⟨⟨?_, ?_, ?_⟩, fun p p0 p1 => ?_, fun h h0 h1 => ?_⟩
  · rw [ups_ne2 (by omega)]; exact a1
  · rw [ups_ne2 (by omega)]; exact a2
  · rw [ups_self]; exact hz
  · simp (disch := omega) only [ups_ne1]
    exact b p p0 p1
  · simp (disch := omega) only [ups_ne1]
    exact c h h0 h1
theorem m_holds {p : Int} (g : gOK G) (hg : gM D G) (hV : vM D V) (k : vOK G V) (h0 : 0 ≤ p) (h1 : p < V.np) : CI 136 [vR 69, vI p] (EE L, D) (fun r D' => r = hlP G V p ∧ D' = D) := by
  obtain ⟨e0, e1, e2, e3, e4, e5, e6, e7⟩ := hV.2.1 p h0 h1
  obtain ⟨q0, q1, q2, q3, q4, q5, q7⟩ := k.2.1 p h0 h1
  have := k.1
  refine Sx.un (y := 136) (n := 0) (lo := [vR 69, vI p]) (st := []) (u := (0, 0)) ?_
  refine go_136_0 ?_
  simp only [sg_136_0, cl_I, cl_L, cl_R, e_aload_n, e_bipush, e_cv4, e_get1, e_iadd, e_iaload, e_iconst, e_iload_n, e_imul, e_iret0, e_nil, fl_0, fl_I, fl_L, fl_R, l_ld1, l_ldA0, rk_1, wRef_some, EE_n, EE_r69_9, EE_s69, EE_s74, e0, e2, e4, lc_lt, lc_le, lc_gt, lc_ge, lc_eq, true_and, and_true, List.length_cons, List.length_nil, ab_ia, Nat.reduceAdd, Nat.reduceLeDiff, Nat.reduceEqDiff, Nat.reduceLT, Int.reduceLT, Int.reduceLE, Int.reduceEq, Int.reduceNeg, true_or, or_true, false_or, or_false, not_false_eq_true, not_true_eq_false, false_implies, true_implies, forall_const, implies_true, Nat.zero_le, Nat.le_refl]
  refine ⟨⟨by omega, by omega⟩, by omega, ⟨by omega, by omega⟩, ⟨by omega, by omega⟩, by omega, ⟨by omega, by omega⟩, ⟨by omega, by omega⟩, by omega, ?_⟩
  refine CI.use (m_holdsOf g hg (k.cl g h0 h1) q2 q4) ?_
  exact retI ⟨rfl, rfl⟩
theorem m_covers {h c : Int} (hV : vM D V) (k : vOK G V) (j0 : 0 ≤ h) (j1 : h < V.nh) (hc : 0 ≤ c ∧ c < 1000) : CB 140 [vR 69, vI h, vI c] (EE L) D (cov (V.h h 0) (V.h h 1) c) := by
  obtain ⟨e0, e1, e2, e3⟩ := hV.2.2 h j0 j1
  obtain ⟨q0, q1, q2, q3⟩ := k.2.2.1 h j0 j1
  have := k.1
  unfold isCl at q0 q1
  refine Sx.un (y := 140) (n := 0) (lo := [vR 69, vI h, vI c, vU, vU]) (st := []) (u := (0, 0)) ?_
  refine go_140_0 ?_
  simp only [sg_140_0, cl_I, cl_L, cl_R, e_aload_n, e_bipush, e_cs3, e_get1, e_goto, e_i2l, e_iadd, e_iaload, e_iconst, e_idiv, e_if_eq, e_iload, e_iload_n, e_imul, e_irem, e_istore, e_istore_n, e_nil, fl_0, fl_I, fl_L, fl_R, l_ld1, l_ld2, l_ld3, l_ld4, l_ldA0, l_st3, l_st4, rk_1, wRef_some, EE_n, EE_r69_11, EE_s69, EE_s75, e0, e1, lc_lt, lc_le, lc_gt, lc_ge, lc_eq, true_and, and_true, List.length_cons, List.length_nil, ab_ia, Nat.reduceAdd, Nat.reduceLeDiff, Nat.reduceEqDiff, Nat.reduceLT, Int.reduceLT, Int.reduceLE, Int.reduceEq, Int.reduceNeg, true_or, or_true, false_or, or_false, not_false_eq_true, not_true_eq_false, false_implies, true_implies, forall_const, implies_true, Nat.zero_le, Nat.le_refl]
  refine ⟨⟨by omega, by omega⟩, by omega, ⟨by omega, by omega⟩, ⟨by omega, by omega⟩, by omega, by omega, by omega, by omega, ?_⟩
  refine CB.use m_in (fun h2 => ?_) (fun h2 => ?_)
  · try simp only [lc_lt, lc_le, lc_gt, lc_ge, lc_eq, true_and, and_true, List.length_cons, List.length_nil, ab_ia, Nat.reduceAdd, Nat.reduceLeDiff, Nat.reduceEqDiff, Nat.reduceLT, Int.reduceLT, Int.reduceLE, Int.reduceEq, Int.reduceNeg, true_or, or_true, false_or, or_false, not_false_eq_true, not_true_eq_false, false_implies, true_implies, forall_const, implies_true, Nat.zero_le, Nat.le_refl]
    refine ⟨by omega, by omega, by omega, ?_⟩
    refine CB.use m_in (fun h3 => ?_) (fun h3 => ?_)
    · try simp only [lc_lt, lc_le, lc_gt, lc_ge, lc_eq, true_and, and_true, List.length_cons, List.length_nil, ab_ia, Nat.reduceAdd, Nat.reduceLeDiff, Nat.reduceEqDiff, Nat.reduceLT, Int.reduceLT, Int.reduceLE, Int.reduceEq, Int.reduceNeg, true_or, or_true, false_or, or_false, not_false_eq_true, not_true_eq_false, false_implies, true_implies, forall_const, implies_true, Nat.zero_le, Nat.le_refl]
      refine go_140_47 ?_
      simp only [sg_140_47, cl_I, cl_L, cl_R, e_iret1, e_nil, lc_lt, lc_le, lc_gt, lc_ge, lc_eq, true_and, and_true, List.length_cons, List.length_nil, ab_ia, Nat.reduceAdd, Nat.reduceLeDiff, Nat.reduceEqDiff, Nat.reduceLT, Int.reduceLT, Int.reduceLE, Int.reduceEq, Int.reduceNeg, true_or, or_true, false_or, or_false, not_false_eq_true, not_true_eq_false, false_implies, true_implies, forall_const, implies_true, Nat.zero_le, Nat.le_refl]
      exact retB1 ⟨h2, h3⟩
    · try simp only [lc_lt, lc_le, lc_gt, lc_ge, lc_eq, true_and, and_true, List.length_cons, List.length_nil, ab_ia, Nat.reduceAdd, Nat.reduceLeDiff, Nat.reduceEqDiff, Nat.reduceLT, Int.reduceLT, Int.reduceLE, Int.reduceEq, Int.reduceNeg, true_or, or_true, false_or, or_false, not_false_eq_true, not_true_eq_false, false_implies, true_implies, forall_const, implies_true, Nat.zero_le, Nat.le_refl]
      refine go_140_46 ?_
      simp only [sg_140_46, cl_I, cl_L, cl_R, e_iconst, e_iret1, e_nil, lc_lt, lc_le, lc_gt, lc_ge, lc_eq, true_and, and_true, List.length_cons, List.length_nil, ab_ia, Nat.reduceAdd, Nat.reduceLeDiff, Nat.reduceEqDiff, Nat.reduceLT, Int.reduceLT, Int.reduceLE, Int.reduceEq, Int.reduceNeg, true_or, or_true, false_or, or_false, not_false_eq_true, not_true_eq_false, false_implies, true_implies, forall_const, implies_true, Nat.zero_le, Nat.le_refl]
      exact retB0 (fun q => h3 q.2)
  · try simp only [lc_lt, lc_le, lc_gt, lc_ge, lc_eq, true_and, and_true, List.length_cons, List.length_nil, ab_ia, Nat.reduceAdd, Nat.reduceLeDiff, Nat.reduceEqDiff, Nat.reduceLT, Int.reduceLT, Int.reduceLE, Int.reduceEq, Int.reduceNeg, true_or, or_true, false_or, or_false, not_false_eq_true, not_true_eq_false, false_implies, true_implies, forall_const, implies_true, Nat.zero_le, Nat.le_refl]
    refine go_140_46 ?_
    simp only [sg_140_46, cl_I, cl_L, cl_R, e_iconst, e_iret1, e_nil, lc_lt, lc_le, lc_gt, lc_ge, lc_eq, true_and, and_true, List.length_cons, List.length_nil, ab_ia, Nat.reduceAdd, Nat.reduceLeDiff, Nat.reduceEqDiff, Nat.reduceLT, Int.reduceLT, Int.reduceLE, Int.reduceEq, Int.reduceNeg, true_or, or_true, false_or, or_false, not_false_eq_true, not_true_eq_false, false_implies, true_implies, forall_const, implies_true, Nat.zero_le, Nat.le_refl]
    exact retB0 (fun q => h2 q.1)
theorem m_isOf {h p : Int} (g : gOK G) (hV : vM D V) (k : vOK G V) (h0 : 0 ≤ p) (h1 : p < V.np) (j0 : 0 ≤ h) (j1 : h < V.nh) : CB 142 [vR 69, vI p, vI h] (EE L) D (isPl V h p) := by
  obtain ⟨e0, e1, e2, e3, e4, e5, e6, e7⟩ := hV.2.1 p h0 h1
  have hc := k.cl g h0 h1
  unfold isCl at hc
  have := k.1
  refine Sx.un (y := 142) (n := 0) (lo := [vR 69, vI p, vI h]) (st := []) (u := (0, 0)) ?_
  refine go_142_0 ?_
  simp only [sg_142_0, cl_I, cl_L, cl_R, e_aload_n, e_bipush, e_cv3, e_get1, e_goto, e_iadd, e_iaload, e_icmp_ne, e_iconst, e_if_eq, e_iload_n, e_imul, e_nil, fl_0, fl_I, fl_L, fl_R, l_ld1, l_ld2, l_ldA0, rk_1, wRef_some, EE_n, EE_r69_9, EE_s69, EE_s74, e0, e6, lc_lt, lc_le, lc_gt, lc_ge, lc_eq, true_and, and_true, List.length_cons, List.length_nil, ab_ia, Nat.reduceAdd, Nat.reduceLeDiff, Nat.reduceEqDiff, Nat.reduceLT, Int.reduceLT, Int.reduceLE, Int.reduceEq, Int.reduceNeg, true_or, or_true, false_or, or_false, not_false_eq_true, not_true_eq_false, false_implies, true_implies, forall_const, implies_true, Nat.zero_le, Nat.le_refl]
  refine ⟨⟨by omega, by omega⟩, ⟨by omega, by omega⟩, by omega, fun h2 => ?_, fun h2 => ⟨⟨by omega, by omega⟩, by omega, ?_⟩⟩
  · refine go_142_22 ?_
    simp only [sg_142_22, cl_I, cl_L, cl_R, e_iconst, e_iret1, e_nil, lc_lt, lc_le, lc_gt, lc_ge, lc_eq, true_and, and_true, List.length_cons, List.length_nil, ab_ia, Nat.reduceAdd, Nat.reduceLeDiff, Nat.reduceEqDiff, Nat.reduceLT, Int.reduceLT, Int.reduceLE, Int.reduceEq, Int.reduceNeg, true_or, or_true, false_or, or_false, not_false_eq_true, not_true_eq_false, false_implies, true_implies, forall_const, implies_true, Nat.zero_le, Nat.le_refl]
    refine retB0 (fun q => h2 ?_)
    rw [if_pos q.1]
  · have hs : V.p p 7 = -9 := by
      by_cases q : V.p p 7 = -9
      · exact q
      · rw [if_neg q] at h2; omega
    refine CB.use (m_covers hV k j0 j1 (by omega)) (fun h3 => ?_) (fun h3 => ?_)
    · try simp only [lc_lt, lc_le, lc_gt, lc_ge, lc_eq, true_and, and_true, List.length_cons, List.length_nil, ab_ia, Nat.reduceAdd, Nat.reduceLeDiff, Nat.reduceEqDiff, Nat.reduceLT, Int.reduceLT, Int.reduceLE, Int.reduceEq, Int.reduceNeg, true_or, or_true, false_or, or_false, not_false_eq_true, not_true_eq_false, false_implies, true_implies, forall_const, implies_true, Nat.zero_le, Nat.le_refl]
      refine go_142_23 ?_
      simp only [sg_142_23, cl_I, cl_L, cl_R, e_iret1, e_nil, lc_lt, lc_le, lc_gt, lc_ge, lc_eq, true_and, and_true, List.length_cons, List.length_nil, ab_ia, Nat.reduceAdd, Nat.reduceLeDiff, Nat.reduceEqDiff, Nat.reduceLT, Int.reduceLT, Int.reduceLE, Int.reduceEq, Int.reduceNeg, true_or, or_true, false_or, or_false, not_false_eq_true, not_true_eq_false, false_implies, true_implies, forall_const, implies_true, Nat.zero_le, Nat.le_refl]
      exact retB1 ⟨hs, h3⟩
    · try simp only [lc_lt, lc_le, lc_gt, lc_ge, lc_eq, true_and, and_true, List.length_cons, List.length_nil, ab_ia, Nat.reduceAdd, Nat.reduceLeDiff, Nat.reduceEqDiff, Nat.reduceLT, Int.reduceLT, Int.reduceLE, Int.reduceEq, Int.reduceNeg, true_or, or_true, false_or, or_false, not_false_eq_true, not_true_eq_false, false_implies, true_implies, forall_const, implies_true, Nat.zero_le, Nat.le_refl]
      refine go_142_22 ?_
      simp only [sg_142_22, cl_I, cl_L, cl_R, e_iconst, e_iret1, e_nil, lc_lt, lc_le, lc_gt, lc_ge, lc_eq, true_and, and_true, List.length_cons, List.length_nil, ab_ia, Nat.reduceAdd, Nat.reduceLeDiff, Nat.reduceEqDiff, Nat.reduceLT, Int.reduceLT, Int.reduceLE, Int.reduceEq, Int.reduceNeg, true_or, or_true, false_or, or_false, not_false_eq_true, not_true_eq_false, false_implies, true_implies, forall_const, implies_true, Nat.zero_le, Nat.le_refl]
      exact retB0 (fun q => h3 q.2)
theorem m_plsOf_loop {Q : Option ab_V → ab_H → Prop} {h : Int} (g : gOK G) (hV : vM D V) (k : vOK G V) (j0 : 0 ≤ h) (j1 : h < V.nh) (hq : Q (some (.inl (plsOf V h))) (EE L, D)) :
    ∀ (t : Nat) (p : Int), 0 ≤ p → p + t = V.np → Sx 143 4 [vR 69, vI h, vI (cnt (fun p => plb V h p) p.toNat), vI p] [] (EE L, D) (0, 0) Q := by
  have e1 := hV.1.1
  have := k.1
  intro t
  induction t with
  | zero =>
    intro p h0 ht
    refine go_143_4 ?_
    simp only [sg_143_4, cl_I, cl_L, cl_R, e_aload_n, e_cv3, e_get0, e_goto, e_icmp_ge, e_iconst, e_if_eq, e_iload_n, e_nil, fl_0, fl_I, fl_L, fl_R, l_ld1, l_ld2, l_ld3, l_ldA0, rk_1, wRef_some, EE_n, EE_s69, e1, lc_lt, lc_le, lc_gt, lc_ge, lc_eq, true_and, and_true, List.length_cons, List.length_nil, ab_ia, Nat.reduceAdd, Nat.reduceLeDiff, Nat.reduceEqDiff, Nat.reduceLT, Int.reduceLT, Int.reduceLE, Int.reduceEq, Int.reduceNeg, true_or, or_true, false_or, or_false, not_false_eq_true, not_true_eq_false, false_implies, true_implies, forall_const, implies_true, Nat.zero_le, Nat.le_refl]
    refine ⟨fun _ => ?_, fun hc => absurd hc (by omega)⟩
    refine go_143_21 ?_
    simp only [sg_143_21, cl_I, cl_L, cl_R, e_iload_n, e_iret0, e_nil, l_ld2, lc_lt, lc_le, lc_gt, lc_ge, lc_eq, true_and, and_true, List.length_cons, List.length_nil, ab_ia, Nat.reduceAdd, Nat.reduceLeDiff, Nat.reduceEqDiff, Nat.reduceLT, Int.reduceLT, Int.reduceLE, Int.reduceEq, Int.reduceNeg, true_or, or_true, false_or, or_false, not_false_eq_true, not_true_eq_false, false_implies, true_implies, forall_const, implies_true, Nat.zero_le, Nat.le_refl]
    rw [show p.toNat = V.np.toNat by omega]
    exact hq
  | succ t ih =>
    intro p h0 ht
    have hb := cnt_bd (fun p => plb V h p) p.toNat
    have ihk := ih (p + 1) (by omega) (by omega)
    rw [show (p + 1).toNat = p.toNat + 1 by omega, cnt] at ihk
    have ep : ((p.toNat : Nat) : Int) = p := by omega
    simp only [ep] at ihk
    refine go_143_4 ?_
    simp only [sg_143_4, cl_I, cl_L, cl_R, e_aload_n, e_cv3, e_get0, e_goto, e_icmp_ge, e_iconst, e_if_eq, e_iload_n, e_nil, fl_0, fl_I, fl_L, fl_R, l_ld1, l_ld2, l_ld3, l_ldA0, rk_1, wRef_some, EE_n, EE_s69, e1, lc_lt, lc_le, lc_gt, lc_ge, lc_eq, true_and, and_true, List.length_cons, List.length_nil, ab_ia, Nat.reduceAdd, Nat.reduceLeDiff, Nat.reduceEqDiff, Nat.reduceLT, Int.reduceLT, Int.reduceLE, Int.reduceEq, Int.reduceNeg, true_or, or_true, false_or, or_false, not_false_eq_true, not_true_eq_false, false_implies, true_implies, forall_const, implies_true, Nat.zero_le, Nat.le_refl]
    refine ⟨fun hc => absurd hc (by omega), fun _ => ?_⟩
    refine CB.use (m_isOf g hV k h0 (by omega) j0 j1) (fun h2 => ?_) (fun h2 => ?_)
    · try simp only [lc_lt, lc_le, lc_gt, lc_ge, lc_eq, true_and, and_true, List.length_cons, List.length_nil, ab_ia, Nat.reduceAdd, Nat.reduceLeDiff, Nat.reduceEqDiff, Nat.reduceLT, Int.reduceLT, Int.reduceLE, Int.reduceEq, Int.reduceNeg, true_or, or_true, false_or, or_false, not_false_eq_true, not_true_eq_false, false_implies, true_implies, forall_const, implies_true, Nat.zero_le, Nat.le_refl]
      simp only [plb_t h2, if_true] at ihk
      refine go_143_17 ?_
      simp only [sg_143_17, cl_I, cl_L, cl_R, e_goto, e_iadd, e_iinc, e_istore_n, e_nil, l_inc3, l_st2, lc_lt, lc_le, lc_gt, lc_ge, lc_eq, true_and, and_true, List.length_cons, List.length_nil, ab_ia, Nat.reduceAdd, Nat.reduceLeDiff, Nat.reduceEqDiff, Nat.reduceLT, Int.reduceLT, Int.reduceLE, Int.reduceEq, Int.reduceNeg, true_or, or_true, false_or, or_false, not_false_eq_true, not_true_eq_false, false_implies, true_implies, forall_const, implies_true, Nat.zero_le, Nat.le_refl]
      exact ⟨⟨by omega, by omega⟩, ⟨by omega, by omega⟩, ihk⟩
    · try simp only [lc_lt, lc_le, lc_gt, lc_ge, lc_eq, true_and, and_true, List.length_cons, List.length_nil, ab_ia, Nat.reduceAdd, Nat.reduceLeDiff, Nat.reduceEqDiff, Nat.reduceLT, Int.reduceLT, Int.reduceLE, Int.reduceEq, Int.reduceNeg, true_or, or_true, false_or, or_false, not_false_eq_true, not_true_eq_false, false_implies, true_implies, forall_const, implies_true, Nat.zero_le, Nat.le_refl]
      simp only [plb_f h2, Bool.false_eq_true, if_false] at ihk
      refine go_143_16 ?_
      simp only [sg_143_16, cl_I, cl_L, cl_R, e_goto, e_iadd, e_iconst, e_iinc, e_istore_n, e_nil, l_inc3, l_st2, lc_lt, lc_le, lc_gt, lc_ge, lc_eq, true_and, and_true, List.length_cons, List.length_nil, ab_ia, Nat.reduceAdd, Nat.reduceLeDiff, Nat.reduceEqDiff, Nat.reduceLT, Int.reduceLT, Int.reduceLE, Int.reduceEq, Int.reduceNeg, true_or, or_true, false_or, or_false, not_false_eq_true, not_true_eq_false, false_implies, true_implies, forall_const, implies_true, Nat.zero_le, Nat.le_refl]
      exact ⟨⟨by omega, by omega⟩, ⟨by omega, by omega⟩, ihk⟩
theorem m_plsOf {h : Int} (g : gOK G) (hV : vM D V) (k : vOK G V) (j0 : 0 ≤ h) (j1 : h < V.nh) : CI 143 [vR 69, vI h] (EE L, D) (fun r D' => r = plsOf V h ∧ D' = D) := by
  refine Sx.un (y := 143) (n := 0) (lo := [vR 69, vI h, vU, vU]) (st := []) (u := (0, 0)) ?_
  refine go_143_0 ?_
  simp only [sg_143_0, cl_I, cl_L, cl_R, e_iconst, e_istore_n, e_nil, l_st2, l_st3, lc_lt, lc_le, lc_gt, lc_ge, lc_eq, true_and, and_true, List.length_cons, List.length_nil, ab_ia, Nat.reduceAdd, Nat.reduceLeDiff, Nat.reduceEqDiff, Nat.reduceLT, Int.reduceLT, Int.reduceLE, Int.reduceEq, Int.reduceNeg, true_or, or_true, false_or, or_false, not_false_eq_true, not_true_eq_false, false_implies, true_implies, forall_const, implies_true, Nat.zero_le, Nat.le_refl]
  exact m_plsOf_loop g hV k j0 j1 (retI ⟨rfl, rfl⟩) V.np.toNat 0 (by omega) (by have := k.1; omega)
theorem m_shr {h : Int} (g : gOK G) (hV : vM D V) (k : vOK G V) (j0 : 0 ≤ h) (j1 : h < V.nh) : CI 144 [vR 69, vI h] (EE L, D) (fun r D' => r = shr V h ∧ D' = D) := by
  obtain ⟨e0, e1, e2, e3⟩ := hV.2.2 h j0 j1
  obtain ⟨q0, q1, q2, q3⟩ := k.2.2.1 h j0 j1
  have := k.1
  have b := plsOf_bd k h
  refine Sx.un (y := 144) (n := 0) (lo := [vR 69, vI h, vU]) (st := []) (u := (0, 0)) ?_
  refine go_144_0 ?_
  simp only [sg_144_0, cl_I, cl_L, cl_R, e_aload_n, e_cv2, e_get1, e_goto, e_iadd, e_iaload, e_icmp_ne, e_iconst, e_if_eq, e_iload_n, e_imul, e_istore_n, e_nil, fl_0, fl_I, fl_L, fl_R, l_ld1, l_ld2, l_ldA0, l_st2, rk_1, wRef_some, EE_n, EE_r69_11, EE_s69, EE_s75, lc_lt, lc_le, lc_gt, lc_ge, lc_eq, true_and, and_true, List.length_cons, List.length_nil, ab_ia, Nat.reduceAdd, Nat.reduceLeDiff, Nat.reduceEqDiff, Nat.reduceLT, Int.reduceLT, Int.reduceLE, Int.reduceEq, Int.reduceNeg, true_or, or_true, false_or, or_false, not_false_eq_true, not_true_eq_false, false_implies, true_implies, forall_const, implies_true, Nat.zero_le, Nat.le_refl]
  refine CI.use (m_plsOf g hV k j0 j1) ?_
  try simp only [EE_n, EE_s75, e3, lc_lt, lc_le, lc_gt, lc_ge, lc_eq, true_and, and_true, List.length_cons, List.length_nil, ab_ia, Nat.reduceAdd, Nat.reduceLeDiff, Nat.reduceEqDiff, Nat.reduceLT, Int.reduceLT, Int.reduceLE, Int.reduceEq, Int.reduceNeg, true_or, or_true, false_or, or_false, not_false_eq_true, not_true_eq_false, false_implies, true_implies, forall_const, implies_true, Nat.zero_le, Nat.le_refl]
  refine ⟨fun h2 => ?_, fun h2 => ⟨⟨by omega, by omega⟩, ⟨by omega, by omega⟩, by omega, fun h3 => ?_, fun h3 => ?_⟩⟩
  · refine go_144_16 ?_
    simp only [sg_144_16, cl_I, cl_L, cl_R, e_goto, e_iconst, e_nil, lc_lt, lc_le, lc_gt, lc_ge, lc_eq, true_and, and_true, List.length_cons, List.length_nil, ab_ia, Nat.reduceAdd, Nat.reduceLeDiff, Nat.reduceEqDiff, Nat.reduceLT, Int.reduceLT, Int.reduceLE, Int.reduceEq, Int.reduceNeg, true_or, or_true, false_or, or_false, not_false_eq_true, not_true_eq_false, false_implies, true_implies, forall_const, implies_true, Nat.zero_le, Nat.le_refl]
    refine go_144_32 ?_
    simp only [sg_144_32, cl_I, cl_L, cl_R, e_iret0, e_nil, lc_lt, lc_le, lc_gt, lc_ge, lc_eq, true_and, and_true, List.length_cons, List.length_nil, ab_ia, Nat.reduceAdd, Nat.reduceLeDiff, Nat.reduceEqDiff, Nat.reduceLT, Int.reduceLT, Int.reduceLE, Int.reduceEq, Int.reduceNeg, true_or, or_true, false_or, or_false, not_false_eq_true, not_true_eq_false, false_implies, true_implies, forall_const, implies_true, Nat.zero_le, Nat.le_refl]
    exact retI ⟨by unfold shr; rw [if_pos (Or.inl h2)], rfl⟩
  · refine go_144_18 ?_
    simp only [sg_144_18, cl_I, cl_L, cl_R, e_aload_n, e_get1, e_iadd, e_iaload, e_iconst, e_idiv, e_iload_n, e_imul, e_iret0, e_isub, e_nil, l_ld1, l_ld2, l_ldA0, wRef_some, EE_n, EE_r69_11, EE_s69, EE_s75, e2, lc_lt, lc_le, lc_gt, lc_ge, lc_eq, true_and, and_true, List.length_cons, List.length_nil, ab_ia, Nat.reduceAdd, Nat.reduceLeDiff, Nat.reduceEqDiff, Nat.reduceLT, Int.reduceLT, Int.reduceLE, Int.reduceEq, Int.reduceNeg, true_or, or_true, false_or, or_false, not_false_eq_true, not_true_eq_false, false_implies, true_implies, forall_const, implies_true, Nat.zero_le, Nat.le_refl]
    refine ⟨⟨by omega, by omega⟩, ⟨by omega, by omega⟩, by omega, ⟨by omega, by omega⟩, ⟨by omega, by omega⟩, by omega, retI ⟨?_, rfl⟩⟩
    unfold shr
    rw [if_neg (by omega)]
  · refine go_144_32 ?_
    simp only [sg_144_32, cl_I, cl_L, cl_R, e_iret0, e_nil, lc_lt, lc_le, lc_gt, lc_ge, lc_eq, true_and, and_true, List.length_cons, List.length_nil, ab_ia, Nat.reduceAdd, Nat.reduceLeDiff, Nat.reduceEqDiff, Nat.reduceLT, Int.reduceLT, Int.reduceLE, Int.reduceEq, Int.reduceNeg, true_or, or_true, false_or, or_false, not_false_eq_true, not_true_eq_false, false_implies, true_implies, forall_const, implies_true, Nat.zero_le, Nat.le_refl]
    exact retI ⟨by unfold shr; rw [if_pos (Or.inr (by omega))], rfl⟩
theorem m_off_loop {Q : Option ab_V → ab_H → Prop} {h : Int} (g : gOK G) (hV : vM D V) (k : vOK G V) (j0 : 0 ≤ h) (j1 : h < V.nh) (hq : Q (some (.inl (offv V h))) (EE L, D)) :
    ∀ (t : Nat) (p : Int) (x5 : ab_V), 0 ≤ p → p + t = V.np → (-100 ≤ ofM V h p.toNat ∧ ofM V h p.toNat ≤ 15) ∧ (-15 ≤ ofm V h p.toNat ∧ ofm V h p.toNat ≤ 100) → Sx 145 6 [vR 69, vI h, vI (ofM V h p.toNat), vI (ofm V h p.toNat), vI p, x5] [] (EE L, D) (0, 0) Q := by
  have kk := k.1
  have e1 := hV.1.1
  intro t
  induction t with
  | zero =>
    intro p x5 h0 ht hi
    refine go_145_6 ?_
    simp only [sg_145_6, cl_I, cl_L, cl_R, e_aload_n, e_bipush, e_cv3, e_get0, e_get1, e_goto, e_iadd, e_iaload, e_icmp_ge, e_icmp_le, e_iconst, e_if_eq, e_iload, e_iload_n, e_imul, e_istore, e_isub, e_nil, fl_0, fl_I, fl_L, fl_R, l_ld1, l_ld2, l_ld4, l_ld5, l_ldA0, l_st5, rk_1, wRef_some, EE_n, EE_r69_9, EE_s69, EE_s74, e1, lc_lt, lc_le, lc_gt, lc_ge, lc_eq, true_and, and_true, List.length_cons, List.length_nil, ab_ia, Nat.reduceAdd, Nat.reduceLeDiff, Nat.reduceEqDiff, Nat.reduceLT, Int.reduceLT, Int.reduceLE, Int.reduceEq, Int.reduceNeg, true_or, or_true, false_or, or_false, not_false_eq_true, not_true_eq_false, false_implies, true_implies, forall_const, implies_true, Nat.zero_le, Nat.le_refl]
    refine ⟨fun _ => ?_, fun hc => absurd hc (by omega)⟩
    rw [show p.toNat = V.np.toNat by omega] at hi ⊢
    refine go_145_49 ?_
    simp only [sg_145_49, cl_I, cl_L, cl_R, e_goto, e_icmp_ge, e_iconst, e_iload_n, e_nil, l_ld2, l_ld3, lc_lt, lc_le, lc_gt, lc_ge, lc_eq, true_and, and_true, List.length_cons, List.length_nil, ab_ia, Nat.reduceAdd, Nat.reduceLeDiff, Nat.reduceEqDiff, Nat.reduceLT, Int.reduceLT, Int.reduceLE, Int.reduceEq, Int.reduceNeg, true_or, or_true, false_or, or_false, not_false_eq_true, not_true_eq_false, false_implies, true_implies, forall_const, implies_true, Nat.zero_le, Nat.le_refl]
    unfold offv at hq
    refine ⟨fun h1 => ?_, fun h1 => ?_⟩
    · refine go_145_54 ?_
      simp only [sg_145_54, cl_I, cl_L, cl_R, e_iload_n, e_iret0, e_isub, e_nil, l_ld2, l_ld3, lc_lt, lc_le, lc_gt, lc_ge, lc_eq, true_and, and_true, List.length_cons, List.length_nil, ab_ia, Nat.reduceAdd, Nat.reduceLeDiff, Nat.reduceEqDiff, Nat.reduceLT, Int.reduceLT, Int.reduceLE, Int.reduceEq, Int.reduceNeg, true_or, or_true, false_or, or_false, not_false_eq_true, not_true_eq_false, false_implies, true_implies, forall_const, implies_true, Nat.zero_le, Nat.le_refl]
      rw [if_neg (by omega)] at hq
      exact ⟨⟨by omega, by omega⟩, hq⟩
    · refine go_145_57 ?_
      simp only [sg_145_57, cl_I, cl_L, cl_R, e_iret0, e_nil, lc_lt, lc_le, lc_gt, lc_ge, lc_eq, true_and, and_true, List.length_cons, List.length_nil, ab_ia, Nat.reduceAdd, Nat.reduceLeDiff, Nat.reduceEqDiff, Nat.reduceLT, Int.reduceLT, Int.reduceLE, Int.reduceEq, Int.reduceNeg, true_or, or_true, false_or, or_false, not_false_eq_true, not_true_eq_false, false_implies, true_implies, forall_const, implies_true, Nat.zero_le, Nat.le_refl]
      rw [if_pos (by omega)] at hq
      exact hq
  | succ t ih =>
    intro p x5 h0 ht hi
    obtain ⟨w0, w1, w2, w3, w4, w5, w6, w7⟩ := hV.2.1 p h0 (by omega)
    obtain ⟨q0, q1, q2, q3, q4, q5, q7⟩ := k.2.1 p h0 (by omega)
    have ep : ((p.toNat : Nat) : Int) = p := by omega
    have eM : ofM V h (p + 1).toNat = if plb V h p = true then (if ofM V h p.toNat < V.p p 2 - V.p p 3 then V.p p 2 - V.p p 3 else ofM V h p.toNat) else ofM V h p.toNat := by
      rw [show (p + 1).toNat = p.toNat + 1 by omega, ofM, ep]
    have em : ofm V h (p + 1).toNat = if plb V h p = true then (if V.p p 2 - V.p p 3 < ofm V h p.toNat then V.p p 2 - V.p p 3 else ofm V h p.toNat) else ofm V h p.toNat := by
      rw [show (p + 1).toNat = p.toNat + 1 by omega, ofm, ep]
    have ihk := fun x5 => ih (p + 1) x5 (by omega) (by omega)
    generalize ofM V h p.toNat = M at *
    generalize ofm V h p.toNat = m at *
    refine go_145_6 ?_
    simp only [sg_145_6, cl_I, cl_L, cl_R, e_aload_n, e_bipush, e_cv3, e_get0, e_get1, e_goto, e_iadd, e_iaload, e_icmp_ge, e_icmp_le, e_iconst, e_if_eq, e_iload, e_iload_n, e_imul, e_istore, e_isub, e_nil, fl_0, fl_I, fl_L, fl_R, l_ld1, l_ld2, l_ld4, l_ld5, l_ldA0, l_st5, rk_1, wRef_some, EE_n, EE_r69_9, EE_s69, EE_s74, e1, lc_lt, lc_le, lc_gt, lc_ge, lc_eq, true_and, and_true, List.length_cons, List.length_nil, ab_ia, Nat.reduceAdd, Nat.reduceLeDiff, Nat.reduceEqDiff, Nat.reduceLT, Int.reduceLT, Int.reduceLE, Int.reduceEq, Int.reduceNeg, true_or, or_true, false_or, or_false, not_false_eq_true, not_true_eq_false, false_implies, true_implies, forall_const, implies_true, Nat.zero_le, Nat.le_refl]
    refine ⟨fun hc => absurd hc (by omega), fun _ => ?_⟩
    refine CB.use (m_isOf g hV k h0 (by omega) j0 j1) (fun h2 => ?_) (fun h2 => ?_)
    · try simp only [EE_n, EE_s74, w2, w3, lc_lt, lc_le, lc_gt, lc_ge, lc_eq, true_and, and_true, List.length_cons, List.length_nil, ab_ia, Nat.reduceAdd, Nat.reduceLeDiff, Nat.reduceEqDiff, Nat.reduceLT, Int.reduceLT, Int.reduceLE, Int.reduceEq, Int.reduceNeg, true_or, or_true, false_or, or_false, not_false_eq_true, not_true_eq_false, false_implies, true_implies, forall_const, implies_true, Nat.zero_le, Nat.le_refl]
      rw [if_pos (plb_t h2)] at eM em
      rw [eM, em] at ihk
      have lst : ∀ M' : Int, M' = (if M < V.p p 2 - V.p p 3 then V.p p 2 - V.p p 3 else M) → Sx 145 39 [vR 69, vI h, vI M, vI m, vI p, vI (V.p p 2 - V.p p 3)] [vI M'] (EE L, D) (0, 0) Q := by
        intro M' hM
        rw [← hM] at ihk
        have hMb : -100 ≤ M' ∧ M' ≤ 15 := by rw [hM]; split <;> omega
        refine go_145_39 ?_
        simp only [sg_145_39, cl_I, cl_L, cl_R, e_goto, e_icmp_ge, e_iload, e_iload_n, e_istore_n, e_nil, l_ld3, l_ld5, l_st2, lc_lt, lc_le, lc_gt, lc_ge, lc_eq, true_and, and_true, List.length_cons, List.length_nil, ab_ia, Nat.reduceAdd, Nat.reduceLeDiff, Nat.reduceEqDiff, Nat.reduceLT, Int.reduceLT, Int.reduceLE, Int.reduceEq, Int.reduceNeg, true_or, or_true, false_or, or_false, not_false_eq_true, not_true_eq_false, false_implies, true_implies, forall_const, implies_true, Nat.zero_le, Nat.le_refl]
        refine ⟨fun h3 => ?_, fun h3 => ?_⟩
        · refine go_145_45 ?_
          simp only [sg_145_45, cl_I, cl_L, cl_R, e_goto, e_iinc, e_iload_n, e_istore_n, e_nil, l_inc4, l_ld3, l_st3, lc_lt, lc_le, lc_gt, lc_ge, lc_eq, true_and, and_true, List.length_cons, List.length_nil, ab_ia, Nat.reduceAdd, Nat.reduceLeDiff, Nat.reduceEqDiff, Nat.reduceLT, Int.reduceLT, Int.reduceLE, Int.reduceEq, Int.reduceNeg, true_or, or_true, false_or, or_false, not_false_eq_true, not_true_eq_false, false_implies, true_implies, forall_const, implies_true, Nat.zero_le, Nat.le_refl]
          rw [if_neg (by omega)] at ihk
          exact ⟨⟨by omega, by omega⟩, ihk _ (by omega)⟩
        · refine go_145_46 ?_
          simp only [sg_145_46, cl_I, cl_L, cl_R, e_goto, e_iinc, e_istore_n, e_nil, l_inc4, l_st3, lc_lt, lc_le, lc_gt, lc_ge, lc_eq, true_and, and_true, List.length_cons, List.length_nil, ab_ia, Nat.reduceAdd, Nat.reduceLeDiff, Nat.reduceEqDiff, Nat.reduceLT, Int.reduceLT, Int.reduceLE, Int.reduceEq, Int.reduceNeg, true_or, or_true, false_or, or_false, not_false_eq_true, not_true_eq_false, false_implies, true_implies, forall_const, implies_true, Nat.zero_le, Nat.le_refl]
          rw [if_pos (by omega)] at ihk
          exact ⟨⟨by omega, by omega⟩, ihk _ (by omega)⟩
      refine ⟨⟨by omega, by omega⟩, ⟨by omega, by omega⟩, by omega, ⟨by omega, by omega⟩, ⟨by omega, by omega⟩, by omega, ⟨by omega, by omega⟩, fun h3 => ?_, fun h3 => ?_⟩
      · rw [if_neg (by omega)] at ihk
        refine go_145_38 ?_
        simp only [sg_145_38, cl_I, cl_L, cl_R, e_goto, e_icmp_ge, e_iload, e_iload_n, e_istore_n, e_nil, l_ld2, l_ld3, l_ld5, l_st2, lc_lt, lc_le, lc_gt, lc_ge, lc_eq, true_and, and_true, List.length_cons, List.length_nil, ab_ia, Nat.reduceAdd, Nat.reduceLeDiff, Nat.reduceEqDiff, Nat.reduceLT, Int.reduceLT, Int.reduceLE, Int.reduceEq, Int.reduceNeg, true_or, or_true, false_or, or_false, not_false_eq_true, not_true_eq_false, false_implies, true_implies, forall_const, implies_true, Nat.zero_le, Nat.le_refl]
        refine ⟨fun h3 => ?_, fun h3 => ?_⟩
        · refine go_145_45 ?_
          simp only [sg_145_45, cl_I, cl_L, cl_R, e_goto, e_iinc, e_iload_n, e_istore_n, e_nil, l_inc4, l_ld3, l_st3, lc_lt, lc_le, lc_gt, lc_ge, lc_eq, true_and, and_true, List.length_cons, List.length_nil, ab_ia, Nat.reduceAdd, Nat.reduceLeDiff, Nat.reduceEqDiff, Nat.reduceLT, Int.reduceLT, Int.reduceLE, Int.reduceEq, Int.reduceNeg, true_or, or_true, false_or, or_false, not_false_eq_true, not_true_eq_false, false_implies, true_implies, forall_const, implies_true, Nat.zero_le, Nat.le_refl]
          rw [if_neg (by omega)] at ihk
          exact ⟨⟨by omega, by omega⟩, ihk _ (by omega)⟩
        · refine go_145_46 ?_
          simp only [sg_145_46, cl_I, cl_L, cl_R, e_goto, e_iinc, e_istore_n, e_nil, l_inc4, l_st3, lc_lt, lc_le, lc_gt, lc_ge, lc_eq, true_and, and_true, List.length_cons, List.length_nil, ab_ia, Nat.reduceAdd, Nat.reduceLeDiff, Nat.reduceEqDiff, Nat.reduceLT, Int.reduceLT, Int.reduceLE, Int.reduceEq, Int.reduceNeg, true_or, or_true, false_or, or_false, not_false_eq_true, not_true_eq_false, false_implies, true_implies, forall_const, implies_true, Nat.zero_le, Nat.le_refl]
          rw [if_pos (by omega)] at ihk
          exact ⟨⟨by omega, by omega⟩, ihk _ (by omega)⟩
      · exact lst _ (by rw [if_pos (by omega)])
    · try simp only [lc_lt, lc_le, lc_gt, lc_ge, lc_eq, true_and, and_true, List.length_cons, List.length_nil, ab_ia, Nat.reduceAdd, Nat.reduceLeDiff, Nat.reduceEqDiff, Nat.reduceLT, Int.reduceLT, Int.reduceLE, Int.reduceEq, Int.reduceNeg, true_or, or_true, false_or, or_false, not_false_eq_true, not_true_eq_false, false_implies, true_implies, forall_const, implies_true, Nat.zero_le, Nat.le_refl]
      refine go_145_47 ?_
      simp only [sg_145_47, cl_I, cl_L, cl_R, e_goto, e_iinc, e_nil, l_inc4, lc_lt, lc_le, lc_gt, lc_ge, lc_eq, true_and, and_true, List.length_cons, List.length_nil, ab_ia, Nat.reduceAdd, Nat.reduceLeDiff, Nat.reduceEqDiff, Nat.reduceLT, Int.reduceLT, Int.reduceLE, Int.reduceEq, Int.reduceNeg, true_or, or_true, false_or, or_false, not_false_eq_true, not_true_eq_false, false_implies, true_implies, forall_const, implies_true, Nat.zero_le, Nat.le_refl]
      rw [if_neg (fun q => h2 (isPl_plb.mpr q))] at eM em
      rw [eM, em] at ihk
      exact ⟨⟨by omega, by omega⟩, ihk _ hi⟩
theorem m_off {h : Int} (g : gOK G) (hV : vM D V) (k : vOK G V) (j0 : 0 ≤ h) (j1 : h < V.nh) : CI 145 [vR 69, vI h] (EE L, D) (fun r D' => r = offv V h ∧ D' = D) := by
  refine Sx.un (y := 145) (n := 0) (lo := [vR 69, vI h, vU, vU, vU, vU]) (st := []) (u := (0, 0)) ?_
  refine go_145_0 ?_
  simp only [sg_145_0, cl_I, cl_L, cl_R, e_bipush, e_iconst, e_istore, e_istore_n, e_nil, l_st2, l_st3, l_st4, lc_lt, lc_le, lc_gt, lc_ge, lc_eq, true_and, and_true, List.length_cons, List.length_nil, ab_ia, Nat.reduceAdd, Nat.reduceLeDiff, Nat.reduceEqDiff, Nat.reduceLT, Int.reduceLT, Int.reduceLE, Int.reduceEq, Int.reduceNeg, true_or, or_true, false_or, or_false, not_false_eq_true, not_true_eq_false, false_implies, true_implies, forall_const, implies_true, Nat.zero_le, Nat.le_refl]
  exact m_off_loop g hV k j0 j1 (retI ⟨rfl, rfl⟩) V.np.toNat 0 vU (by omega) (by have := k.1; omega) (by show (-100 ≤ (-100 : Int) ∧ (-100 : Int) ≤ 15) ∧ (-15 ≤ (100 : Int) ∧ (100 : Int) ≤ 100); omega)
theorem m_falls {p : Int} (hV : vM D V) (h0 : 0 ≤ p) (h1 : p < 24) : CI 147 [vR 69, vI p] (EE L, D) (fun r D' => r = 1 ∧ D' = ups (ups D 74 (8 * p + 6).toNat 0) 74 (8 * p + 7).toNat V.yr) := by
  have e := hV.1.2.2
  refine Sx.un (y := 147) (n := 0) (lo := [vR 69, vI p]) (st := []) (u := (0, 0)) ?_
  refine go_147_0 ?_
  simp only [sg_147_0, cl_I, cl_L, cl_R, e_aload_n, e_bipush, e_get0, e_get1, e_iadd, e_iastore, e_iconst, e_iload_n, e_imul, e_iret0, e_nil, l_ld1, l_ldA0, wRef_some, EE_n, EE_r69_9, EE_s69, EE_s74, lc_lt, lc_le, lc_gt, lc_ge, lc_eq, true_and, and_true, List.length_cons, List.length_nil, ab_ia, Nat.reduceAdd, Nat.reduceLeDiff, Nat.reduceEqDiff, Nat.reduceLT, Int.reduceLT, Int.reduceLE, Int.reduceEq, Int.reduceNeg, true_or, or_true, false_or, or_false, not_false_eq_true, not_true_eq_false, false_implies, true_implies, forall_const, implies_true, Nat.zero_le, Nat.le_refl]
  simp (disch := omega) only [ups_ne1, e]
  exact ⟨⟨by omega, by omega⟩, ⟨by omega, by omega⟩, by omega, ⟨by omega, by omega⟩, ⟨by omega, by omega⟩, by omega, retI ⟨rfl, rfl⟩⟩
theorem m_standing_loop {Q : Option ab_V → ab_H → Prop} (hV : vM D V) (k : vOK G V) (hq : Q (some (.inl (stdg V))) (EE L, D)) :
    ∀ (t : Nat) (p : Int), 0 ≤ p → p + t = V.np → Sx 185 4 [vR 69, vI (cnt (fun p => decide (V.p p 7 = -9)) p.toNat), vI p] [] (EE L, D) (0, 0) Q := by
  have e1 := hV.1.1
  have := k.1
  intro t
  induction t with
  | zero =>
    intro p h0 ht
    refine go_185_4 ?_
    simp only [sg_185_4, cl_I, cl_L, cl_R, e_aload_n, e_bipush, e_get0, e_get1, e_goto, e_iadd, e_iaload, e_icmp_ge, e_iinc, e_iload_n, e_imul, e_istore_n, e_nil, l_inc2, l_ld1, l_ld2, l_ldA0, l_st1, wRef_some, EE_n, EE_r69_9, EE_s69, EE_s74, e1, lc_lt, lc_le, lc_gt, lc_ge, lc_eq, true_and, and_true, List.length_cons, List.length_nil, ab_ia, Nat.reduceAdd, Nat.reduceLeDiff, Nat.reduceEqDiff, Nat.reduceLT, Int.reduceLT, Int.reduceLE, Int.reduceEq, Int.reduceNeg, true_or, or_true, false_or, or_false, not_false_eq_true, not_true_eq_false, false_implies, true_implies, forall_const, implies_true, Nat.zero_le, Nat.le_refl]
    refine ⟨fun _ => ?_, fun hc => absurd hc (by omega)⟩
    refine go_185_21 ?_
    simp only [sg_185_21, cl_I, cl_L, cl_R, e_iload_n, e_iret0, e_nil, l_ld1, lc_lt, lc_le, lc_gt, lc_ge, lc_eq, true_and, and_true, List.length_cons, List.length_nil, ab_ia, Nat.reduceAdd, Nat.reduceLeDiff, Nat.reduceEqDiff, Nat.reduceLT, Int.reduceLT, Int.reduceLE, Int.reduceEq, Int.reduceNeg, true_or, or_true, false_or, or_false, not_false_eq_true, not_true_eq_false, false_implies, true_implies, forall_const, implies_true, Nat.zero_le, Nat.le_refl]
    rw [show p.toNat = V.np.toNat by omega]
    exact hq
  | succ t ih =>
    intro p h0 ht
    obtain ⟨w0, w1, w2, w3, w4, w5, w6, w7⟩ := hV.2.1 p h0 (by omega)
    have hb := cnt_bd (fun p => decide (V.p p 7 = -9)) p.toNat
    have ihk := ih (p + 1) (by omega) (by omega)
    rw [show (p + 1).toNat = p.toNat + 1 by omega, cnt] at ihk
    have ep : ((p.toNat : Nat) : Int) = p := by omega
    simp only [ep, decide_eq_true_eq] at ihk
    refine go_185_4 ?_
    simp only [sg_185_4, cl_I, cl_L, cl_R, e_aload_n, e_bipush, e_get0, e_get1, e_goto, e_iadd, e_iaload, e_icmp_ge, e_iinc, e_iload_n, e_imul, e_istore_n, e_nil, l_inc2, l_ld1, l_ld2, l_ldA0, l_st1, wRef_some, EE_n, EE_r69_9, EE_s69, EE_s74, e1, w6, lc_lt, lc_le, lc_gt, lc_ge, lc_eq, true_and, and_true, List.length_cons, List.length_nil, ab_ia, Nat.reduceAdd, Nat.reduceLeDiff, Nat.reduceEqDiff, Nat.reduceLT, Int.reduceLT, Int.reduceLE, Int.reduceEq, Int.reduceNeg, true_or, or_true, false_or, or_false, not_false_eq_true, not_true_eq_false, false_implies, true_implies, forall_const, implies_true, Nat.zero_le, Nat.le_refl]
    have hb2 : (if V.p p 7 = -9 then (1 : Int) else 0) = 0 ∨ (if V.p p 7 = -9 then (1 : Int) else 0) = 1 := by split <;> omega
    refine ⟨fun hc => absurd hc (by omega), fun _ => ⟨⟨by omega, by omega⟩, ⟨by omega, by omega⟩, by omega, ⟨by omega, by omega⟩, ⟨by omega, by omega⟩, ihk⟩⟩
theorem m_standing (hV : vM D V) (k : vOK G V) : CI 185 [vR 69] (EE L, D) (fun r D' => r = stdg V ∧ D' = D) := by
  refine Sx.un (y := 185) (n := 0) (lo := [vR 69, vU, vU]) (st := []) (u := (0, 0)) ?_
  refine go_185_0 ?_
  simp only [sg_185_0, cl_I, cl_L, cl_R, e_iconst, e_istore_n, e_nil, l_st1, l_st2, lc_lt, lc_le, lc_gt, lc_ge, lc_eq, true_and, and_true, List.length_cons, List.length_nil, ab_ia, Nat.reduceAdd, Nat.reduceLeDiff, Nat.reduceEqDiff, Nat.reduceLT, Int.reduceLT, Int.reduceLE, Int.reduceEq, Int.reduceNeg, true_or, or_true, false_or, or_false, not_false_eq_true, not_true_eq_false, false_implies, true_implies, forall_const, implies_true, Nat.zero_le, Nat.le_refl]
  exact m_standing_loop hV k (retI ⟨rfl, rfl⟩) V.np.toNat 0 (by omega) (by have := k.1; omega)
end RefVil
