/-! the reference: a year -/
section RefYear
variable {L : Nat} {D : ab_D} {G : Gr} {V : Vil}
theorem m_ice_loop {Q : Option ab_V → ab_H → Prop} (g : gOK G) (hg : gM D G) (k : vOK G V)
    (hq : ∀ D', frM D D' → vM D' (iceV G V V.np.toNat) → Sx 148 57 [vR 69, vI (iceC G V V.np.toNat), vI V.np, vU, vU, vU] [] (EE L, D') (0, 0) Q) :
    ∀ (t : Nat) (p : Int) (D1 : ab_D), 0 ≤ p → p + t = V.np → frM D D1 → vM D1 (iceV G V p.toNat) → Sx 148 4 [vR 69, vI (iceC G V p.toNat), vI p, vU, vU, vU] [] (EE L, D1) (0, 0) Q := by
  have kk := k.1
  intro t
  induction t with
  | zero =>
    intro p D1 h0 ht hf hV
    have e1 : D1 69 8 = V.np := by rw [hV.1.1, np_of iceV_1.1]
    refine go_148_4 ?_
    simp only [sg_148_4, cl_I, cl_L, cl_R, e_aload_n, e_bipush, e_cv2, e_dup2, e_get0, e_get1, e_goto, e_iadd, e_iaload, e_iastore, e_icmp_ge, e_icmp_ne, e_iconst, e_if_ne, e_iload_n, e_imul, e_isub, e_nil, fl_0, fl_I, fl_L, fl_R, l_ld1, l_ld2, l_ldA0, rk_1, wRef_some, EE_n, EE_r69_1, EE_r69_9, EE_s69, EE_s71, EE_s74, e1, lc_lt, lc_le, lc_gt, lc_ge, lc_eq, true_and, and_true, List.length_cons, List.length_nil, ab_ia, Nat.reduceAdd, Nat.reduceLeDiff, Nat.reduceEqDiff, Nat.reduceLT, Int.reduceLT, Int.reduceLE, Int.reduceEq, Int.reduceNeg, true_or, or_true, false_or, or_false, not_false_eq_true, not_true_eq_false, false_implies, true_implies, forall_const, implies_true, Nat.zero_le, Nat.le_refl]
    refine ⟨fun _ => ?_, fun hc => absurd hc (by omega)⟩
    have e : p = V.np := by omega
    subst e
    exact hq D1 hf hV
  | succ t ih =>
    intro p D1 h0 ht hf hV
    have e1 : D1 69 8 = V.np := by rw [hV.1.1, np_of iceV_1.1]
    have hn : (iceV G V p.toNat).np = V.np := np_of iceV_1.1
    have kW : vOK G (iceV G V p.toNat) := iceV_ok k (by omega)
    have hg1 := gM_fr hf hg
    have ihk := fun D' => ih (p + 1) D' (by omega) (by omega)
    rw [show (p + 1).toNat = p.toNat + 1 by omega, iceV, iceC] at ihk
    rw [show ((p.toNat : Nat) : Int) = p by omega] at ihk
    have hb := iceC_bd (G := G) (V := V) (k := p.toNat)
    generalize iceV G V p.toNat = W at *
    generalize iceC G V p.toNat = C at *
    obtain ⟨w0, w1, w2, w3, w4, w5, w6, w7⟩ := hV.2.1 p h0 (by omega)
    obtain ⟨q0, q1, q2, q3, q4, q5, q7⟩ := kW.2.1 p h0 (by omega)
    have kw := kW.1
    have ei : D1 71 4 = G.i := hg1.1.2.2.2.2
    have skip : iceS G W p = W → iceF G W p = 0 → Sx 148 55 [vR 69, vI C, vI p, vU, vU, vU] [] (EE L, D1) (0, 0) Q := by
      intro eS eF
      rw [eS, eF, Int.add_zero] at ihk
      refine go_148_55 ?_
      simp only [sg_148_55, cl_I, cl_L, cl_R, e_goto, e_iinc, e_nil, l_inc2, lc_lt, lc_le, lc_gt, lc_ge, lc_eq, true_and, and_true, List.length_cons, List.length_nil, ab_ia, Nat.reduceAdd, Nat.reduceLeDiff, Nat.reduceEqDiff, Nat.reduceLT, Int.reduceLT, Int.reduceLE, Int.reduceEq, Int.reduceNeg, true_or, or_true, false_or, or_false, not_false_eq_true, not_true_eq_false, false_implies, true_implies, forall_const, implies_true, Nat.zero_le, Nat.le_refl]
      exact ⟨⟨by omega, by omega⟩, ihk _ hf hV⟩
    refine go_148_4 ?_
    simp only [sg_148_4, cl_I, cl_L, cl_R, e_aload_n, e_bipush, e_cv2, e_dup2, e_get0, e_get1, e_goto, e_iadd, e_iaload, e_iastore, e_icmp_ge, e_icmp_ne, e_iconst, e_if_ne, e_iload_n, e_imul, e_isub, e_nil, fl_0, fl_I, fl_L, fl_R, l_ld1, l_ld2, l_ldA0, rk_1, wRef_some, EE_n, EE_r69_1, EE_r69_9, EE_s69, EE_s71, EE_s74, e1, w6, lc_lt, lc_le, lc_gt, lc_ge, lc_eq, true_and, and_true, List.length_cons, List.length_nil, ab_ia, Nat.reduceAdd, Nat.reduceLeDiff, Nat.reduceEqDiff, Nat.reduceLT, Int.reduceLT, Int.reduceLE, Int.reduceEq, Int.reduceNeg, true_or, or_true, false_or, or_false, not_false_eq_true, not_true_eq_false, false_implies, true_implies, forall_const, implies_true, Nat.zero_le, Nat.le_refl]
    refine ⟨fun hc => absurd hc (by omega), fun _ => ⟨⟨by omega, by omega⟩, ⟨by omega, by omega⟩, by omega, fun h2 => ?_, fun h2 => ?_⟩⟩
    · have h2 : ¬ W.p p 7 = -9 := fun q => h2 (by rw [if_pos q])
      exact skip (by unfold iceS; rw [if_neg h2]) (by unfold iceF; rw [if_neg (fun q => h2 q.1)])
    · have h2 : W.p p 7 = -9 := by
        by_cases q : W.p p 7 = -9
        · exact q
        · rw [if_neg q] at h2; omega
      have hd := q7 h2
      refine CI.use (m_holds g hg1 hV kW h0 (by omega)) ?_
      try simp only [EE_n, EE_s71, EE_s74, Int.reduceToNat, ei, w2, ups_self, lc_lt, lc_le, lc_gt, lc_ge, lc_eq, true_and, and_true, List.length_cons, List.length_nil, ab_ia, Nat.reduceAdd, Nat.reduceLeDiff, Nat.reduceEqDiff, Nat.reduceLT, Int.reduceLT, Int.reduceLE, Int.reduceEq, Int.reduceNeg, true_or, or_true, false_or, or_false, not_false_eq_true, not_true_eq_false, false_implies, true_implies, forall_const, implies_true, Nat.zero_le, Nat.le_refl]
      refine ⟨by omega, fun h3 => ?_, fun h3 => ?_⟩
      · have eD : iceD G W p = W.p p 2 := by
          unfold iceD bi
          rw [if_neg]
          unfold hlP at h3
          omega
        refine skip ?_ ?_
        · unfold iceS
          rw [if_pos h2, eD, if_neg (by omega), setP_id]
        · unfold iceF
          rw [eD, if_neg (by omega)]
      · have eD : iceD G W p = W.p p 2 - 1 := by
          unfold iceD bi
          rw [if_pos]
          unfold hlP at h3
          omega
        have hV2 := vM_dep (z := W.p p 2 - 1) hV h0
        have hf2 : frM D (ups D1 74 (8 * p + 2).toNat (W.p p 2 - 1)) := frM_ups (by omega) hf
        refine ⟨⟨by omega, by omega⟩, ⟨by omega, by omega⟩, by omega, ⟨by omega, by omega⟩, by omega, ⟨by omega, by omega⟩, ⟨by omega, by omega⟩, by omega, fun h4 => ?_, fun h4 => ?_⟩
        · have eS : iceS G W p = W.setP p 2 (W.p p 2 - 1) := by unfold iceS; rw [if_pos h2, eD, if_neg h4]
          have eF : iceF G W p = 0 := by unfold iceF; rw [eD, if_neg (fun q => h4 q.2)]
          rw [eS, eF] at ihk
          refine go_148_52 ?_
          simp only [sg_148_52, cl_I, cl_L, cl_R, e_goto, e_iadd, e_iconst, e_iinc, e_istore_n, e_nil, l_inc2, l_st1, lc_lt, lc_le, lc_gt, lc_ge, lc_eq, true_and, and_true, List.length_cons, List.length_nil, ab_ia, Nat.reduceAdd, Nat.reduceLeDiff, Nat.reduceEqDiff, Nat.reduceLT, Int.reduceLT, Int.reduceLE, Int.reduceEq, Int.reduceNeg, true_or, or_true, false_or, or_false, not_false_eq_true, not_true_eq_false, false_implies, true_implies, forall_const, implies_true, Nat.zero_le, Nat.le_refl]
          exact ⟨⟨by omega, by omega⟩, ⟨by omega, by omega⟩, ihk _ hf2 hV2⟩
        · have eS : iceS G W p = (W.setP p 2 (W.p p 2 - 1)).setP p 7 W.yr := by unfold iceS; rw [if_pos h2, eD, if_pos (by omega)]
          have eF : iceF G W p = 1 := by unfold iceF; rw [eD, if_pos ⟨h2, by omega⟩]
          rw [eS, eF] at ihk
          refine CI.use (m_falls hV2 h0 (by omega)) ?_
          refine go_148_53 ?_
          simp only [sg_148_53, cl_I, cl_L, cl_R, e_goto, e_iadd, e_iinc, e_istore_n, e_nil, l_inc2, l_st1, lc_lt, lc_le, lc_gt, lc_ge, lc_eq, true_and, and_true, List.length_cons, List.length_nil, ab_ia, Nat.reduceAdd, Nat.reduceLeDiff, Nat.reduceEqDiff, Nat.reduceLT, Int.reduceLT, Int.reduceLE, Int.reduceEq, Int.reduceNeg, true_or, or_true, false_or, or_false, not_false_eq_true, not_true_eq_false, false_implies, true_implies, forall_const, implies_true, Nat.zero_le, Nat.le_refl]
          exact ⟨⟨by omega, by omega⟩, ⟨by omega, by omega⟩, ihk _ (frM_ups (by omega) (frM_ups (by omega) hf2)) (vM_fel hV2 h0 (by rw [setP_yr]; omega))⟩
theorem m_shares_loop {Q : Option ab_V → ab_H → Prop} {C : Int} (g : gOK G) (k : vOK G V)
    (hq : ∀ D', frM D D' → vM D' V → (∀ h, 0 ≤ h → h < V.nh → D' 76 h.toNat = shr V h) → Sx 148 72 [vR 69, vI C, vI V.nh, vU, vU, vU] [] (EE L, D') (0, 0) Q) :
    ∀ (t : Nat) (h : Int) (D1 : ab_D), 0 ≤ h → h + t = V.nh → frM D D1 → vM D1 V → (∀ j, 0 ≤ j → j < h → D1 76 j.toNat = shr V j) → Sx 148 59 [vR 69, vI C, vI h, vU, vU, vU] [] (EE L, D1) (0, 0) Q := by
  have kk := k.1
  intro t
  induction t with
  | zero =>
    intro h D1 h0 ht hf hV hi
    have e1 : D1 69 10 = V.nh := hV.1.2.1
    refine go_148_59 ?_
    simp only [sg_148_59, cl_I, cl_L, cl_R, e_aload_n, e_cv2, e_get0, e_get1, e_goto, e_iastore, e_icmp_ge, e_iinc, e_iload_n, e_nil, fl_0, fl_I, fl_L, fl_R, l_inc2, l_ld2, l_ldA0, rk_1, wRef_some, EE_n, EE_r69_13, EE_s69, EE_s76, e1, lc_lt, lc_le, lc_gt, lc_ge, lc_eq, true_and, and_true, List.length_cons, List.length_nil, ab_ia, Nat.reduceAdd, Nat.reduceLeDiff, Nat.reduceEqDiff, Nat.reduceLT, Int.reduceLT, Int.reduceLE, Int.reduceEq, Int.reduceNeg, true_or, or_true, false_or, or_false, not_false_eq_true, not_true_eq_false, false_implies, true_implies, forall_const, implies_true, Nat.zero_le, Nat.le_refl]
    refine ⟨fun _ => ?_, fun hc => absurd hc (by omega)⟩
    have e : h = V.nh := by omega
    subst e
    exact hq D1 hf hV hi
  | succ t ih =>
    intro h D1 h0 ht hf hV hi
    have e1 : D1 69 10 = V.nh := hV.1.2.1
    refine go_148_59 ?_
    simp only [sg_148_59, cl_I, cl_L, cl_R, e_aload_n, e_cv2, e_get0, e_get1, e_goto, e_iastore, e_icmp_ge, e_iinc, e_iload_n, e_nil, fl_0, fl_I, fl_L, fl_R, l_inc2, l_ld2, l_ldA0, rk_1, wRef_some, EE_n, EE_r69_13, EE_s69, EE_s76, e1, lc_lt, lc_le, lc_gt, lc_ge, lc_eq, true_and, and_true, List.length_cons, List.length_nil, ab_ia, Nat.reduceAdd, Nat.reduceLeDiff, Nat.reduceEqDiff, Nat.reduceLT, Int.reduceLT, Int.reduceLE, Int.reduceEq, Int.reduceNeg, true_or, or_true, false_or, or_false, not_false_eq_true, not_true_eq_false, false_implies, true_implies, forall_const, implies_true, Nat.zero_le, Nat.le_refl]
    refine ⟨fun hc => absurd hc (by omega), fun _ => ?_⟩
    refine CI.use (m_shr g hV k h0 (by omega)) ?_
    try simp only [EE_n, EE_s76, lc_lt, lc_le, lc_gt, lc_ge, lc_eq, true_and, and_true, List.length_cons, List.length_nil, ab_ia, Nat.reduceAdd, Nat.reduceLeDiff, Nat.reduceEqDiff, Nat.reduceLT, Int.reduceLT, Int.reduceLE, Int.reduceEq, Int.reduceNeg, true_or, or_true, false_or, or_false, not_false_eq_true, not_true_eq_false, false_implies, true_implies, forall_const, implies_true, Nat.zero_le, Nat.le_refl]
    refine ⟨by omega, ⟨by omega, by omega⟩, ih (h + 1) _ (by omega) (by omega) (frM_ups (by omega) hf) ?_ (fun j j0 j1 => ?_)⟩
    · obtain ⟨⟨a1, a2, a3⟩, b, c⟩ := hV
      refine ⟨⟨?_, ?_, ?_⟩, fun p p0 p1 => ?_, fun h h0 h1 => ?_⟩
      · rw [ups_ne1 (by omega)]; exact a1
      · rw [ups_ne1 (by omega)]; exact a2
      · rw [ups_ne1 (by omega)]; exact a3
      · simp (disch := omega) only [ups_ne1]
        exact b p p0 p1
      · simp (disch := omega) only [ups_ne1]
        exact c h h0 h1
    · by_cases z : j = h
      · subst z; rw [ups_self]
      · rw [ups_ne2 (by omega)]; exact hi j j0 (by omega)
theorem m_sink_in {Q : Option ab_V → ab_H → Prop} {C p : Int} (g : gOK G) (hg : gM D G) (k : vOK G V) (p0 : 0 ≤ p) (p1 : p < V.np)
    (hq : ∀ (D' : ab_D) (f : Int → Int) (x3 x4 x5 : ab_V), frM D D' → vM D' (V.dep f) → (∀ h, 0 ≤ h → h < V.nh → D' 76 h.toNat = shr V h) → (∀ q, 0 ≤ q → f q = if q < p + 1 then snf G V q V.nh.toNat else V.p q 2) → Sx 148 74 [vR 69, vI C, vI (p + 1), x3, x4, x5] [] (EE L, D') (0, 0) Q) :
    ∀ (t : Nat) (h : Int) (D1 : ab_D) (f : Int → Int) (x4 x5 : ab_V), 0 ≤ h → h + t = V.nh → frM D D1 → vM D1 (V.dep f) → (∀ h, 0 ≤ h → h < V.nh → D1 76 h.toNat = shr V h) → (∀ q, 0 ≤ q → f q = if q < p then snf G V q V.nh.toNat else if q = p then snf G V q h.toNat else V.p q 2) → Sx 148 80 [vR 69, vI C, vI p, vI h, x4, x5] [] (EE L, D1) (0, 0) Q := by
  have kk := k.1
  intro t
  induction t with
  | zero =>
    intro h D1 f x4 x5 h0 ht hf hV hs hff
    have e1 : D1 69 10 = V.nh := hV.1.2.1
    refine go_148_80 ?_
    simp only [sg_148_80, cl_I, cl_L, cl_R, e_aload_n, e_cv2, e_cv3, e_get0, e_get1, e_goto, e_iadd, e_iaload, e_icmp_ge, e_iconst, e_if_eq, e_if_ne, e_iload_n, e_imul, e_isub, e_nil, fl_0, fl_I, fl_L, fl_R, l_ld2, l_ld3, l_ldA0, rk_1, wRef_some, EE_n, EE_r69_11, EE_r69_13, EE_s69, EE_s75, EE_s76, e1, lc_lt, lc_le, lc_gt, lc_ge, lc_eq, true_and, and_true, List.length_cons, List.length_nil, ab_ia, Nat.reduceAdd, Nat.reduceLeDiff, Nat.reduceEqDiff, Nat.reduceLT, Int.reduceLT, Int.reduceLE, Int.reduceEq, Int.reduceNeg, true_or, or_true, false_or, or_false, not_false_eq_true, not_true_eq_false, false_implies, true_implies, forall_const, implies_true, Nat.zero_le, Nat.le_refl]
    refine ⟨fun _ => ?_, fun hc => absurd hc (by omega)⟩
    refine go_148_142 ?_
    simp only [sg_148_142, cl_I, cl_L, cl_R, e_goto, e_iinc, e_nil, l_inc2, lc_lt, lc_le, lc_gt, lc_ge, lc_eq, true_and, and_true, List.length_cons, List.length_nil, ab_ia, Nat.reduceAdd, Nat.reduceLeDiff, Nat.reduceEqDiff, Nat.reduceLT, Int.reduceLT, Int.reduceLE, Int.reduceEq, Int.reduceNeg, true_or, or_true, false_or, or_false, not_false_eq_true, not_true_eq_false, false_implies, true_implies, forall_const, implies_true, Nat.zero_le, Nat.le_refl]
    refine ⟨⟨by omega, by omega⟩, hq D1 f _ _ _ hf hV hs (fun q q0 => ?_)⟩
    rw [hff q q0, show h.toNat = V.nh.toNat by omega]
    by_cases z : q < p
    · rw [if_pos z, if_pos (by omega)]
    · by_cases z2 : q = p
      · rw [if_neg z, if_pos z2, if_pos (by omega)]
      · rw [if_neg z, if_neg z2, if_neg (by omega)]
  | succ t ih =>
    intro h D1 f x4 x5 h0 ht hf hV hs hff
    have e1 : D1 69 10 = V.nh := hV.1.2.1
    have hh : ((h.toNat : Nat) : Int) = h := by omega
    have hg1 := gM_fr hf hg
    have hlh : h < V.nh := by omega
    have kW : vOK G (V.dep f) := dep_ok k (fun q q0 q1 => by
      rw [hff q q0]
      have a2 := (k.2.1 q q0 q1).2.2.1
      split
      · exact snf_bd g k q0 q1
      · split
        · exact snf_bd g k q0 q1
        · omega)
    have hfp : f p = snf G V p h.toNat := by rw [hff p p0, if_neg (by omega), if_pos rfl]
    have esn : snf G V p (h.toNat + 1) = if plb V h p = true then snk G V h p else snf G V p h.toNat := by rw [snf, hh]
    obtain ⟨w0, w1, w2, w3, w4, w5, w6, w7⟩ := hV.2.1 p p0 p1
    obtain ⟨c0, c1, c2, c3⟩ := hV.2.2 h h0 hlh
    rw [dep_h] at c3
    obtain ⟨q0, q1, q2, q3, q4, q5, q7⟩ := k.2.1 p p0 p1
    have ihk := fun D' f x4 x5 => ih (h + 1) D' f x4 x5 (by omega) (by omega)
    rw [show (h + 1).toNat = h.toNat + 1 by omega] at ihk
    have skip : snf G V p (h.toNat + 1) = snf G V p h.toNat → ∀ x4 x5 : ab_V, Sx 148 140 [vR 69, vI C, vI p, vI h, x4, x5] [] (EE L, D1) (0, 0) Q := by
      intro hes x4 x5
      refine go_148_140 ?_
      simp only [sg_148_140, cl_I, cl_L, cl_R, e_goto, e_iinc, e_nil, l_inc3, lc_lt, lc_le, lc_gt, lc_ge, lc_eq, true_and, and_true, List.length_cons, List.length_nil, ab_ia, Nat.reduceAdd, Nat.reduceLeDiff, Nat.reduceEqDiff, Nat.reduceLT, Int.reduceLT, Int.reduceLE, Int.reduceEq, Int.reduceNeg, true_or, or_true, false_or, or_false, not_false_eq_true, not_true_eq_false, false_implies, true_implies, forall_const, implies_true, Nat.zero_le, Nat.le_refl]
      refine ⟨⟨by omega, by omega⟩, ihk D1 f _ _ hf hV hs (fun q q0 => ?_)⟩
      rw [hff q q0]
      by_cases z : q < p
      · rw [if_pos z, if_pos z]
      · by_cases z2 : q = p
        · rw [if_neg z, if_pos z2, if_neg z, if_pos z2, z2, hes]
        · rw [if_neg z, if_neg z2, if_neg z, if_neg z2]
    have zer : snf G V p (h.toNat + 1) = snf G V p h.toNat → ∀ x4 x5 : ab_V, Sx 148 107 [vR 69, vI C, vI p, vI h, x4, x5] [] (EE L, D1) (0, 0) Q := by
      intro hes x4 x5
      refine go_148_107 ?_
      simp only [sg_148_107, cl_I, cl_L, cl_R, e_aload_n, e_bipush, e_get1, e_goto, e_iadd, e_iaload, e_icmp_le, e_iconst, e_idiv, e_if_le, e_iload, e_iload_n, e_imul, e_istore, e_nil, l_ld2, l_ld4, l_ld5, l_ldA0, l_st4, l_st5, wRef_some, EE_n, EE_r69_9, EE_s69, EE_s74, lc_lt, lc_le, lc_gt, lc_ge, lc_eq, true_and, and_true, List.length_cons, List.length_nil, ab_ia, Nat.reduceAdd, Nat.reduceLeDiff, Nat.reduceEqDiff, Nat.reduceLT, Int.reduceLT, Int.reduceLE, Int.reduceEq, Int.reduceNeg, true_or, or_true, false_or, or_false, not_false_eq_true, not_true_eq_false, false_implies, true_implies, forall_const, implies_true, Nat.zero_le, Nat.le_refl]
      exact skip hes _ _
    refine go_148_80 ?_
    simp only [sg_148_80, cl_I, cl_L, cl_R, e_aload_n, e_cv2, e_cv3, e_get0, e_get1, e_goto, e_iadd, e_iaload, e_icmp_ge, e_iconst, e_if_eq, e_if_ne, e_iload_n, e_imul, e_isub, e_nil, fl_0, fl_I, fl_L, fl_R, l_ld2, l_ld3, l_ldA0, rk_1, wRef_some, EE_n, EE_r69_11, EE_r69_13, EE_s69, EE_s75, EE_s76, e1, lc_lt, lc_le, lc_gt, lc_ge, lc_eq, true_and, and_true, List.length_cons, List.length_nil, ab_ia, Nat.reduceAdd, Nat.reduceLeDiff, Nat.reduceEqDiff, Nat.reduceLT, Int.reduceLT, Int.reduceLE, Int.reduceEq, Int.reduceNeg, true_or, or_true, false_or, or_false, not_false_eq_true, not_true_eq_false, false_implies, true_implies, forall_const, implies_true, Nat.zero_le, Nat.le_refl]
    refine ⟨fun hc => absurd hc (by omega), fun _ => ?_⟩
    refine CB.use (m_isOf g hV kW p0 p1 h0 hlh) (fun h2 => ?_) (fun h2 => ?_)
    · try simp only [EE_n, EE_s75, EE_s69, c3, lc_lt, lc_le, lc_gt, lc_ge, lc_eq, true_and, and_true, List.length_cons, List.length_nil, ab_ia, Nat.reduceAdd, Nat.reduceLeDiff, Nat.reduceEqDiff, Nat.reduceLT, Int.reduceLT, Int.reduceLE, Int.reduceEq, Int.reduceNeg, true_or, or_true, false_or, or_false, not_false_eq_true, not_true_eq_false, false_implies, true_implies, forall_const, implies_true, Nat.zero_le, Nat.le_refl]
      have h2 := isPl_dep.mp h2
      have own : snf G V p h.toNat = V.p p 2 := snf_own k h0 hlh (by omega) h2
      rw [if_pos (plb_t h2)] at esn
      have ehl : hlP G (V.dep f) p = hlP G V p := by rw [hlP_dep, hfp, own]; rfl
      have hhl := k.hl g p0 p1
      have hsb := shr_bd k h0 hlh
      refine ⟨⟨by omega, by omega⟩, ⟨by omega, by omega⟩, by omega, fun h3 => ?_, fun h3 => ⟨by omega, ?_⟩⟩
      · refine zer ?_ _ _
        rw [esn, own]
        unfold snk
        have e0 : shr V h = 0 := by
          have := (k.2.2.1 h h0 hlh).2.2.2
          unfold shr
          rw [if_pos (Or.inr (by omega))]
        rw [if_neg (by omega)]
      · refine CI.use (m_holds g hg1 hV kW p0 p1) ?_
        rw [ehl]
        try simp only [hs h h0 hlh, lc_lt, lc_le, lc_gt, lc_ge, lc_eq, true_and, and_true, List.length_cons, List.length_nil, ab_ia, Nat.reduceAdd, Nat.reduceLeDiff, Nat.reduceEqDiff, Nat.reduceLT, Int.reduceLT, Int.reduceLE, Int.reduceEq, Int.reduceNeg, true_or, or_true, false_or, or_false, not_false_eq_true, not_true_eq_false, false_implies, true_implies, forall_const, implies_true, Nat.zero_le, Nat.le_refl]
        refine ⟨⟨by omega, by omega⟩, ?_⟩
        have ed : D1 74 (8 * p + 2).toNat = V.p p 2 := by rw [w2, dep_2, hfp, own]
        refine go_148_108 ?_
        simp only [sg_148_108, cl_I, cl_L, cl_R, e_aload_n, e_bipush, e_get1, e_goto, e_iadd, e_iaload, e_icmp_le, e_iconst, e_idiv, e_if_le, e_iload, e_iload_n, e_imul, e_istore, e_nil, l_ld2, l_ld4, l_ld5, l_ldA0, l_st4, l_st5, wRef_some, EE_n, EE_r69_9, EE_s69, EE_s74, ed, lc_lt, lc_le, lc_gt, lc_ge, lc_eq, true_and, and_true, List.length_cons, List.length_nil, ab_ia, Nat.reduceAdd, Nat.reduceLeDiff, Nat.reduceEqDiff, Nat.reduceLT, Int.reduceLT, Int.reduceLE, Int.reduceEq, Int.reduceNeg, true_or, or_true, false_or, or_false, not_false_eq_true, not_true_eq_false, false_implies, true_implies, forall_const, implies_true, Nat.zero_le, Nat.le_refl]
        refine ⟨fun h4 => ?_, fun h4 => ?_⟩
        · refine skip ?_ _ _
          rw [esn, own]
          unfold snk
          rw [if_neg (by omega)]
        · have esk : snk G V h p = if V.p p 2 + (shr V h - hlP G V p + 4) / 5 < 15 then V.p p 2 + (shr V h - hlP G V p + 4) / 5 else 15 := by
            unfold snk
            rw [if_pos (by omega)]
          have fin : ∀ z, z = snk G V h p → ∀ x4 x5 : ab_V, Sx 148 80 [vR 69, vI C, vI p, vI (h + 1), x4, x5] [] (EE L, ups D1 74 (8 * p + 2).toNat z) (0, 0) Q := by
            intro z hz x4 x5
            refine ihk _ (fun q => if q = p then z else f q) _ _ (frM_ups (by omega) hf) ?_ ?_ (fun q q0 => ?_)
            · rw [← dep_set]
              exact vM_dep hV p0
            · intro j j0 j1
              rw [ups_ne1 (by decide)]
              exact hs j j0 j1
            · show (if q = p then z else f q) = _
              by_cases z2 : q = p
              · subst z2; rw [if_pos rfl, if_neg (by omega), if_pos rfl, hz, esn]
              · rw [if_neg z2, hff q q0]
                by_cases z : q < p
                · rw [if_pos z, if_pos z]
                · rw [if_neg z, if_neg z2, if_neg z, if_neg z2]
          refine ⟨⟨by omega, by omega⟩, ⟨by omega, by omega⟩, by omega, ⟨by omega, by omega⟩, by omega, ⟨by omega, by omega⟩, ⟨by omega, by omega⟩, ⟨by omega, by omega⟩, fun h5 => ?_, fun h5 => ?_⟩
          · refine go_148_138 ?_
            simp only [sg_148_138, cl_I, cl_L, cl_R, e_goto, e_iastore, e_iinc, e_iload, e_nil, l_inc3, l_ld5, EE_n, EE_s74, lc_lt, lc_le, lc_gt, lc_ge, lc_eq, true_and, and_true, List.length_cons, List.length_nil, ab_ia, Nat.reduceAdd, Nat.reduceLeDiff, Nat.reduceEqDiff, Nat.reduceLT, Int.reduceLT, Int.reduceLE, Int.reduceEq, Int.reduceNeg, true_or, or_true, false_or, or_false, not_false_eq_true, not_true_eq_false, false_implies, true_implies, forall_const, implies_true, Nat.zero_le, Nat.le_refl]
            refine ⟨by omega, ⟨by omega, by omega⟩, fin _ ?_ _ _⟩
            rw [esk]
            split <;> omega
          · refine go_148_139 ?_
            simp only [sg_148_139, cl_I, cl_L, cl_R, e_goto, e_iastore, e_iinc, e_nil, l_inc3, EE_n, EE_s74, lc_lt, lc_le, lc_gt, lc_ge, lc_eq, true_and, and_true, List.length_cons, List.length_nil, ab_ia, Nat.reduceAdd, Nat.reduceLeDiff, Nat.reduceEqDiff, Nat.reduceLT, Int.reduceLT, Int.reduceLE, Int.reduceEq, Int.reduceNeg, true_or, or_true, false_or, or_false, not_false_eq_true, not_true_eq_false, false_implies, true_implies, forall_const, implies_true, Nat.zero_le, Nat.le_refl]
            refine ⟨by omega, ⟨by omega, by omega⟩, fin _ ?_ _ _⟩
            rw [esk]
            split <;> omega
    · try simp only [lc_lt, lc_le, lc_gt, lc_ge, lc_eq, true_and, and_true, List.length_cons, List.length_nil, ab_ia, Nat.reduceAdd, Nat.reduceLeDiff, Nat.reduceEqDiff, Nat.reduceLT, Int.reduceLT, Int.reduceLE, Int.reduceEq, Int.reduceNeg, true_or, or_true, false_or, or_false, not_false_eq_true, not_true_eq_false, false_implies, true_implies, forall_const, implies_true, Nat.zero_le, Nat.le_refl]
      refine zer ?_ _ _
      rw [esn, if_neg]
      intro q
      exact h2 (isPl_dep.mpr (isPl_plb.mpr q))
theorem m_sink_out {Q : Option ab_V → ab_H → Prop} {C : Int} (g : gOK G) (hg : gM D G) (k : vOK G V)
    (hq : ∀ (D' : ab_D) (x3 x4 x5 : ab_V), frM D D' → vM D' (sinkV G V) → Sx 148 144 [vR 69, vI C, vI V.np, x3, x4, x5] [] (EE L, D') (0, 0) Q) :
    ∀ (t : Nat) (p : Int) (D1 : ab_D) (f : Int → Int) (x3 x4 x5 : ab_V), 0 ≤ p → p + t = V.np → frM D D1 → vM D1 (V.dep f) → (∀ h, 0 ≤ h → h < V.nh → D1 76 h.toNat = shr V h) → (∀ q, 0 ≤ q → f q = if q < p then snf G V q V.nh.toNat else V.p q 2) → Sx 148 74 [vR 69, vI C, vI p, x3, x4, x5] [] (EE L, D1) (0, 0) Q := by
  have kk := k.1
  intro t
  induction t with
  | zero =>
    intro p D1 f x3 x4 x5 h0 ht hf hV hs hff
    have e1 : D1 69 8 = V.np := hV.1.1
    refine go_148_74 ?_
    simp only [sg_148_74, cl_I, cl_L, cl_R, e_aload_n, e_get0, e_icmp_ge, e_iconst, e_iload_n, e_istore_n, e_nil, l_ld2, l_ldA0, l_st3, wRef_some, EE_n, EE_s69, e1, lc_lt, lc_le, lc_gt, lc_ge, lc_eq, true_and, and_true, List.length_cons, List.length_nil, ab_ia, Nat.reduceAdd, Nat.reduceLeDiff, Nat.reduceEqDiff, Nat.reduceLT, Int.reduceLT, Int.reduceLE, Int.reduceEq, Int.reduceNeg, true_or, or_true, false_or, or_false, not_false_eq_true, not_true_eq_false, false_implies, true_implies, forall_const, implies_true, Nat.zero_le, Nat.le_refl]
    refine ⟨fun _ => ?_, fun hc => absurd hc (by omega)⟩
    have e : p = V.np := by omega
    subst e
    refine hq D1 _ _ _ hf ⟨hV.1, fun q q0 q1 => ?_, hV.2.2⟩
    obtain ⟨b0, b1, b2, b3, b4, b5, b6, b7⟩ := hV.2.1 q q0 q1
    refine ⟨b0, b1, ?_, b3, b4, b5, b6, b7⟩
    have q1 : q < V.np := q1
    rw [b2, dep_2, hff q q0, if_pos q1]
    unfold sinkV
    rw [dep_2]
  | succ t ih =>
    intro p D1 f x3 x4 x5 h0 ht hf hV hs hff
    have e1 : D1 69 8 = V.np := hV.1.1
    refine go_148_74 ?_
    simp only [sg_148_74, cl_I, cl_L, cl_R, e_aload_n, e_get0, e_icmp_ge, e_iconst, e_iload_n, e_istore_n, e_nil, l_ld2, l_ldA0, l_st3, wRef_some, EE_n, EE_s69, e1, lc_lt, lc_le, lc_gt, lc_ge, lc_eq, true_and, and_true, List.length_cons, List.length_nil, ab_ia, Nat.reduceAdd, Nat.reduceLeDiff, Nat.reduceEqDiff, Nat.reduceLT, Int.reduceLT, Int.reduceLE, Int.reduceEq, Int.reduceNeg, true_or, or_true, false_or, or_false, not_false_eq_true, not_true_eq_false, false_implies, true_implies, forall_const, implies_true, Nat.zero_le, Nat.le_refl]
    refine ⟨fun hc => absurd hc (by omega), fun _ => ?_⟩
    refine m_sink_in g hg k h0 (by omega) (fun D' f x3 x4 x5 q1 q2 q3 q4 => ih (p + 1) D' f x3 x4 x5 (by omega) (by omega) q1 q2 q3 q4) V.nh.toNat 0 D1 f x4 x5 (by omega) (by omega) hf hV hs (fun q q0 => ?_)
    rw [hff q q0]
    by_cases z : q < p
    · rw [if_pos z, if_pos z]
    · rw [if_neg z, if_neg z]
      split <;> rfl
theorem m_rot_loop {Q : Option ab_V → ab_H → Prop} {C : Int} {x4 x5 : ab_V} (g : gOK G) (hg : gM D G) (k : vOK G V) (hC : 0 ≤ C ∧ C ≤ 100)
    (hq : ∀ (D' : ab_D) (x3 : ab_V), frM D D' → vM D' (rotV G V V.np.toNat) → Sx 148 203 [vR 69, vI (C + rotC G V V.np.toNat), vI V.np, x3, x4, x5] [] (EE L, D') (0, 0) Q) :
    ∀ (t : Nat) (p : Int) (D1 : ab_D) (x3 : ab_V), 0 ≤ p → p + t = V.np → frM D D1 → vM D1 (rotV G V p.toNat) → Sx 148 146 [vR 69, vI (C + rotC G V p.toNat), vI p, x3, x4, x5] [] (EE L, D1) (0, 0) Q := by
  have kk := k.1
  intro t
  induction t with
  | zero =>
    intro p D1 x3 h0 ht hf hV
    have e1 : D1 69 8 = V.np := by rw [hV.1.1, np_of rotV_1.1]
    refine go_148_146 ?_
    simp only [sg_148_146, cl_I, cl_L, cl_R, e_aload_n, e_bipush, e_get0, e_get1, e_goto, e_iadd, e_iaload, e_icmp_ge, e_icmp_lt, e_iconst, e_iload_n, e_imul, e_isub, e_nil, l_ld2, l_ldA0, wRef_some, EE_n, EE_r69_1, EE_r69_9, EE_s69, EE_s71, EE_s74, e1, lc_lt, lc_le, lc_gt, lc_ge, lc_eq, true_and, and_true, List.length_cons, List.length_nil, ab_ia, Nat.reduceAdd, Nat.reduceLeDiff, Nat.reduceEqDiff, Nat.reduceLT, Int.reduceLT, Int.reduceLE, Int.reduceEq, Int.reduceNeg, true_or, or_true, false_or, or_false, not_false_eq_true, not_true_eq_false, false_implies, true_implies, forall_const, implies_true, Nat.zero_le, Nat.le_refl]
    refine ⟨fun _ => ?_, fun hc => absurd hc (by omega)⟩
    have e : p = V.np := by omega
    subst e
    exact hq D1 _ hf hV
  | succ t ih =>
    intro p D1 x3 h0 ht hf hV
    have e1 : D1 69 8 = V.np := by rw [hV.1.1, np_of rotV_1.1]
    have hn : (rotV G V p.toNat).np = V.np := np_of rotV_1.1
    have kW : vOK G (rotV G V p.toNat) := rotV_ok k (by omega)
    have hg1 := gM_fr hf hg
    have ihk := fun D' x3 => ih (p + 1) D' x3 (by omega) (by omega)
    rw [show (p + 1).toNat = p.toNat + 1 by omega, rotV, rotC] at ihk
    rw [show ((p.toNat : Nat) : Int) = p by omega] at ihk
    have hb := rotC_bd (G := G) (V := V) (k := p.toNat)
    generalize rotV G V p.toNat = W at *
    generalize rotC G V p.toNat = R at *
    obtain ⟨w0, w1, w2, w3, w4, w5, w6, w7⟩ := hV.2.1 p h0 (by omega)
    obtain ⟨q0, q1, q2, q3, q4, q5, q7⟩ := kW.2.1 p h0 (by omega)
    have eyr := hV.1.2.2
    have kw := kW.1
    have ela := hg1.2.1 (W.p p 1) q1
    have no : ¬ (W.p p 7 = -9 ∧ G.la (W.p p 1) ≤ W.yr - W.p p 5 + 1) → ∀ x3 : ab_V, Sx 148 198 [vR 69, vI (C + R), vI p, x3, x4, x5] [vI (C + R)] (EE L, D1) (0, 0) Q := by
      intro hno x3
      have eS : rotS G W p = W := by unfold rotS; rw [if_neg hno]
      have eF : rotF G W p = 0 := by unfold rotF; rw [if_neg hno]
      rw [eS, eF] at ihk
      refine go_148_198 ?_
      simp only [sg_148_198, cl_I, cl_L, cl_R, e_goto, e_iadd, e_iconst, e_iinc, e_istore_n, e_nil, l_inc2, l_st1, lc_lt, lc_le, lc_gt, lc_ge, lc_eq, true_and, and_true, List.length_cons, List.length_nil, ab_ia, Nat.reduceAdd, Nat.reduceLeDiff, Nat.reduceEqDiff, Nat.reduceLT, Int.reduceLT, Int.reduceLE, Int.reduceEq, Int.reduceNeg, true_or, or_true, false_or, or_false, not_false_eq_true, not_true_eq_false, false_implies, true_implies, forall_const, implies_true, Nat.zero_le, Nat.le_refl]
      rw [Int.add_assoc]
      exact ⟨⟨by omega, by omega⟩, ⟨by omega, by omega⟩, ihk _ _ hf hV⟩
    have yes : (W.p p 7 = -9 ∧ G.la (W.p p 1) ≤ W.yr - W.p p 5 + 1) → ∀ (x3 : ab_V) (P : Int → ab_D → Prop), (P 1 (ups (ups D1 74 (8 * p + 6).toNat 0) 74 (8 * p + 7).toNat W.yr)) → CI 147 [vR 69, vI p] (EE L, D1) P := by
      intro hy x3 P hP
      exact CI.use (m_falls hV h0 (by omega)) hP
    have fin : (W.p p 7 = -9 ∧ G.la (W.p p 1) ≤ W.yr - W.p p 5 + 1) → ∀ (x3 : ab_V), Sx 148 199 [vR 69, vI (C + R), vI p, x3, x4, x5] [vI 1, vI (C + R)] (EE L, ups (ups D1 74 (8 * p + 6).toNat 0) 74 (8 * p + 7).toNat W.yr) (0, 0) Q := by
      intro hy x3
      have eS : rotS G W p = W.setP p 7 W.yr := by unfold rotS; rw [if_pos hy]
      have eF : rotF G W p = 1 := by unfold rotF; rw [if_pos hy]
      rw [eS, eF] at ihk
      refine go_148_199 ?_
      simp only [sg_148_199, cl_I, cl_L, cl_R, e_goto, e_iadd, e_iinc, e_istore_n, e_nil, l_inc2, l_st1, lc_lt, lc_le, lc_gt, lc_ge, lc_eq, true_and, and_true, List.length_cons, List.length_nil, ab_ia, Nat.reduceAdd, Nat.reduceLeDiff, Nat.reduceEqDiff, Nat.reduceLT, Int.reduceLT, Int.reduceLE, Int.reduceEq, Int.reduceNeg, true_or, or_true, false_or, or_false, not_false_eq_true, not_true_eq_false, false_implies, true_implies, forall_const, implies_true, Nat.zero_le, Nat.le_refl]
      rw [Int.add_assoc]
      exact ⟨⟨by omega, by omega⟩, ⟨by omega, by omega⟩, ihk _ _ (frM_ups (by omega) (frM_ups (by omega) hf)) (vM_fel hV h0 (by omega))⟩
    have std : ¬ (if W.p p 7 = -9 then (1 : Int) else 0) = 1 → ¬ W.p p 7 = -9 := fun q q2 => q (by rw [if_pos q2])
    have std' : ¬ ¬ (if W.p p 7 = -9 then (1 : Int) else 0) = 1 → W.p p 7 = -9 := by
      intro q
      by_cases z : W.p p 7 = -9
      · exact z
      · rw [if_neg z] at q; omega
    refine go_148_146 ?_
    simp only [sg_148_146, cl_I, cl_L, cl_R, e_aload_n, e_bipush, e_get0, e_get1, e_goto, e_iadd, e_iaload, e_icmp_ge, e_icmp_lt, e_iconst, e_iload_n, e_imul, e_isub, e_nil, l_ld2, l_ldA0, wRef_some, EE_n, EE_r69_1, EE_r69_9, EE_s69, EE_s71, EE_s74, e1, eyr, w5, w1, ela, lc_lt, lc_le, lc_gt, lc_ge, lc_eq, true_and, and_true, List.length_cons, List.length_nil, ab_ia, Nat.reduceAdd, Nat.reduceLeDiff, Nat.reduceEqDiff, Nat.reduceLT, Int.reduceLT, Int.reduceLE, Int.reduceEq, Int.reduceNeg, true_or, or_true, false_or, or_false, not_false_eq_true, not_true_eq_false, false_implies, true_implies, forall_const, implies_true, Nat.zero_le, Nat.le_refl]
    refine ⟨fun hc => absurd hc (by omega), fun _ => ⟨⟨by omega, by omega⟩, ⟨by omega, by omega⟩, by omega, ⟨by omega, by omega⟩, ⟨by omega, by omega⟩, ⟨by omega, by omega⟩, ⟨by omega, by omega⟩, by omega, ⟨by omega, by omega⟩, by omega, fun h2 => ?_, fun h2 => ?_⟩⟩
    · refine go_148_179 ?_
      simp only [sg_148_179, cl_I, cl_L, cl_R, e_aload_n, e_bipush, e_cv2, e_get1, e_goto, e_iadd, e_iaload, e_icmp_ne, e_iconst, e_if_eq, e_iload_n, e_imul, e_istore_n, e_nil, fl_0, fl_I, fl_L, fl_R, l_ld1, l_ld2, l_ld3, l_ldA0, l_st3, rk_1, wRef_some, EE_n, EE_r69_9, EE_s69, EE_s74, w6, lc_lt, lc_le, lc_gt, lc_ge, lc_eq, true_and, and_true, List.length_cons, List.length_nil, ab_ia, Nat.reduceAdd, Nat.reduceLeDiff, Nat.reduceEqDiff, Nat.reduceLT, Int.reduceLT, Int.reduceLE, Int.reduceEq, Int.reduceNeg, true_or, or_true, false_or, or_false, not_false_eq_true, not_true_eq_false, false_implies, true_implies, forall_const, implies_true, Nat.zero_le, Nat.le_refl]
      refine ⟨⟨by omega, by omega⟩, ⟨by omega, by omega⟩, by omega, fun h3 => ?_, fun h3 => ?_⟩
      · exact no (fun q => std h3 q.1) _
      · exact no (fun q => absurd q.2 (by omega)) _
    · refine go_148_180 ?_
      simp only [sg_148_180, cl_I, cl_L, cl_R, e_aload_n, e_bipush, e_cv2, e_get1, e_goto, e_iadd, e_iaload, e_icmp_ne, e_iconst, e_if_eq, e_iload_n, e_imul, e_istore_n, e_nil, fl_0, fl_I, fl_L, fl_R, l_ld1, l_ld2, l_ld3, l_ldA0, l_st3, rk_1, wRef_some, EE_n, EE_r69_9, EE_s69, EE_s74, w6, lc_lt, lc_le, lc_gt, lc_ge, lc_eq, true_and, and_true, List.length_cons, List.length_nil, ab_ia, Nat.reduceAdd, Nat.reduceLeDiff, Nat.reduceEqDiff, Nat.reduceLT, Int.reduceLT, Int.reduceLE, Int.reduceEq, Int.reduceNeg, true_or, or_true, false_or, or_false, not_false_eq_true, not_true_eq_false, false_implies, true_implies, forall_const, implies_true, Nat.zero_le, Nat.le_refl]
      refine ⟨⟨by omega, by omega⟩, ⟨by omega, by omega⟩, by omega, fun h3 => ?_, fun h3 => ?_⟩
      · exact no (fun q => std h3 q.1) _
      · have hy : W.p p 7 = -9 ∧ G.la (W.p p 1) ≤ W.yr - W.p p 5 + 1 := ⟨std' h3, by omega⟩
        exact yes hy vU _ (fin hy _)
theorem m_dwn_loop {Q : Option ab_V → ab_H → Prop} {C : Int} {x3 x4 x5 : ab_V} (g : gOK G) (k : vOK G V)
    (hq : ∀ (D' : ab_D), frM D D' → vM D' (dwnV V V.nh.toNat) → Sx 148 233 [vR 69, vI C, vI V.nh, x3, x4, x5] [] (EE L, D') (0, 0) Q) :
    ∀ (t : Nat) (h : Int) (D1 : ab_D), 0 ≤ h → h + t = V.nh → frM D D1 → vM D1 (dwnV V h.toNat) → Sx 148 205 [vR 69, vI C, vI h, x3, x4, x5] [] (EE L, D1) (0, 0) Q := by
  have kk := k.1
  intro t
  induction t with
  | zero =>
    intro h D1 h0 ht hf hV
    have e1 : D1 69 10 = V.nh := by rw [hV.1.2.1, nh_of dwnV_1.1]
    refine go_148_205 ?_
    simp only [sg_148_205, cl_I, cl_L, cl_R, e_aload_n, e_cv2, e_get0, e_get1, e_goto, e_iadd, e_icmp_ge, e_iconst, e_if_ne, e_iload_n, e_imul, e_nil, fl_0, fl_I, fl_L, fl_R, l_ld2, l_ldA0, rk_1, wRef_some, EE_n, EE_r69_11, EE_s69, EE_s75, e1, lc_lt, lc_le, lc_gt, lc_ge, lc_eq, true_and, and_true, List.length_cons, List.length_nil, ab_ia, Nat.reduceAdd, Nat.reduceLeDiff, Nat.reduceEqDiff, Nat.reduceLT, Int.reduceLT, Int.reduceLE, Int.reduceEq, Int.reduceNeg, true_or, or_true, false_or, or_false, not_false_eq_true, not_true_eq_false, false_implies, true_implies, forall_const, implies_true, Nat.zero_le, Nat.le_refl]
    refine ⟨fun _ => ?_, fun hc => absurd hc (by omega)⟩
    have e : h = V.nh := by omega
    subst e
    exact hq D1 hf hV
  | succ t ih =>
    intro h D1 h0 ht hf hV
    have hn : (dwnV V h.toNat).nh = V.nh := nh_of dwnV_1.1
    have e1 : D1 69 10 = V.nh := by rw [hV.1.2.1, hn]
    have kW : vOK G (dwnV V h.toNat) := dwnV_ok k
    have ihk := fun D' => ih (h + 1) D' (by omega) (by omega)
    rw [show (h + 1).toNat = h.toNat + 1 by omega, dwnV, show ((h.toNat : Nat) : Int) = h by omega] at ihk
    generalize dwnV V h.toNat = W at *
    have c3 := (hV.2.2 h h0 (by omega)).2.2.2
    refine go_148_205 ?_
    simp only [sg_148_205, cl_I, cl_L, cl_R, e_aload_n, e_cv2, e_get0, e_get1, e_goto, e_iadd, e_icmp_ge, e_iconst, e_if_ne, e_iload_n, e_imul, e_nil, fl_0, fl_I, fl_L, fl_R, l_ld2, l_ldA0, rk_1, wRef_some, EE_n, EE_r69_11, EE_s69, EE_s75, e1, lc_lt, lc_le, lc_gt, lc_ge, lc_eq, true_and, and_true, List.length_cons, List.length_nil, ab_ia, Nat.reduceAdd, Nat.reduceLeDiff, Nat.reduceEqDiff, Nat.reduceLT, Int.reduceLT, Int.reduceLE, Int.reduceEq, Int.reduceNeg, true_or, or_true, false_or, or_false, not_false_eq_true, not_true_eq_false, false_implies, true_implies, forall_const, implies_true, Nat.zero_le, Nat.le_refl]
    refine ⟨fun hc => absurd hc (by omega), fun _ => ⟨⟨by omega, by omega⟩, ⟨by omega, by omega⟩, ?_⟩⟩
    refine CI.use (m_plsOf g hV kW h0 (by omega)) ?_
    try simp only [lc_lt, lc_le, lc_gt, lc_ge, lc_eq, true_and, and_true, List.length_cons, List.length_nil, ab_ia, Nat.reduceAdd, Nat.reduceLeDiff, Nat.reduceEqDiff, Nat.reduceLT, Int.reduceLT, Int.reduceLE, Int.reduceEq, Int.reduceNeg, true_or, or_true, false_or, or_false, not_false_eq_true, not_true_eq_false, false_implies, true_implies, forall_const, implies_true, Nat.zero_le, Nat.le_refl]
    refine ⟨fun h2 => ?_, fun h2 => ?_⟩
    · have eS : dwnS W h = W := by unfold dwnS; rw [if_neg h2]
      rw [eS] at ihk
      refine go_148_222 ?_
      simp only [sg_148_222, cl_I, cl_L, cl_R, e_aload_n, e_get1, e_goto, e_iadd, e_iaload, e_iastore, e_iconst, e_iinc, e_iload_n, e_imul, e_nil, l_inc2, l_ld2, l_ldA0, wRef_some, EE_n, EE_r69_11, EE_s69, EE_s75, c3, lc_lt, lc_le, lc_gt, lc_ge, lc_eq, true_and, and_true, List.length_cons, List.length_nil, ab_ia, Nat.reduceAdd, Nat.reduceLeDiff, Nat.reduceEqDiff, Nat.reduceLT, Int.reduceLT, Int.reduceLE, Int.reduceEq, Int.reduceNeg, true_or, or_true, false_or, or_false, not_false_eq_true, not_true_eq_false, false_implies, true_implies, forall_const, implies_true, Nat.zero_le, Nat.le_refl]
      refine ⟨⟨by omega, by omega⟩, ⟨by omega, by omega⟩, by omega, by omega, ⟨by omega, by omega⟩, ihk _ (frM_ups (by omega) hf) ?_⟩
      have := vM_dwn (z := W.h h 3) hV h0
      rw [setH_id] at this
      exact this
    · have eS : dwnS W h = W.setH h 3 1 := by unfold dwnS; rw [if_pos (by omega)]
      rw [eS] at ihk
      refine go_148_230 ?_
      simp only [sg_148_230, cl_I, cl_L, cl_R, e_goto, e_iastore, e_iinc, e_nil, l_inc2, EE_n, EE_s75, lc_lt, lc_le, lc_gt, lc_ge, lc_eq, true_and, and_true, List.length_cons, List.length_nil, ab_ia, Nat.reduceAdd, Nat.reduceLeDiff, Nat.reduceEqDiff, Nat.reduceLT, Int.reduceLT, Int.reduceLE, Int.reduceEq, Int.reduceNeg, true_or, or_true, false_or, or_false, not_false_eq_true, not_true_eq_false, false_implies, true_implies, forall_const, implies_true, Nat.zero_le, Nat.le_refl]
      exact ⟨by omega, ⟨by omega, by omega⟩, ihk _ (frM_ups (by omega) hf) (vM_dwn hV h0)⟩
theorem m_goBy (g : gOK G) (hg : gM D G) (hV : vM D V) (k : vOK G V) (hy : V.yr < 1000000) : CI 148 [vR 69] (EE L, D) (fun r D' => r = yearC G V ∧ frM D D' ∧ vM D' (yearV G V)) := by
  have kk := k.1
  have k1 := yr1_ok k
  have n1 : (yr1 G V).np = V.np := np_of yr1_1.1
  have m1 : (yr1 G V).nh = V.nh := nh_of yr1_1.1
  have ks := sinkV_ok g k1
  have k3 := yr3_ok g k
  have m3 : (yr3 G V).nh = V.nh := nh_of yr3_1.1
  have y3 : (yr3 G V).yr = V.yr := yr_of yr3_1.1
  have es : (sinkV G (yr1 G V)).np = V.np := n1
  have b1 := iceC_bd (G := G) (V := V) (k := V.np.toNat)
  have b2 := rotC_bd (G := G) (V := sinkV G (yr1 G V)) (k := V.np.toNat)
  refine Sx.un (y := 148) (n := 0) (lo := [vR 69, vU, vU, vU, vU, vU]) (st := []) (u := (0, 0)) ?_
  refine go_148_0 ?_
  simp only [sg_148_0, cl_I, cl_L, cl_R, e_iconst, e_istore_n, e_nil, l_st1, l_st2, lc_lt, lc_le, lc_gt, lc_ge, lc_eq, true_and, and_true, List.length_cons, List.length_nil, ab_ia, Nat.reduceAdd, Nat.reduceLeDiff, Nat.reduceEqDiff, Nat.reduceLT, Int.reduceLT, Int.reduceLE, Int.reduceEq, Int.reduceNeg, true_or, or_true, false_or, or_false, not_false_eq_true, not_true_eq_false, false_implies, true_implies, forall_const, implies_true, Nat.zero_le, Nat.le_refl]
  refine m_ice_loop g hg k (fun D1 hf1 hV1 => ?_) V.np.toNat 0 D (by omega) (by omega) frM.refl hV
  have hV1 : vM D1 (yr1 G V) := hV1
  refine go_148_57 ?_
  simp only [sg_148_57, cl_I, cl_L, cl_R, e_iconst, e_istore_n, e_nil, l_st2, lc_lt, lc_le, lc_gt, lc_ge, lc_eq, true_and, and_true, List.length_cons, List.length_nil, ab_ia, Nat.reduceAdd, Nat.reduceLeDiff, Nat.reduceEqDiff, Nat.reduceLT, Int.reduceLT, Int.reduceLE, Int.reduceEq, Int.reduceNeg, true_or, or_true, false_or, or_false, not_false_eq_true, not_true_eq_false, false_implies, true_implies, forall_const, implies_true, Nat.zero_le, Nat.le_refl]
  refine m_shares_loop (D := D1) g k1 (fun D2 hf2 hV2 hs => ?_) V.nh.toNat 0 D1 (by omega) (by omega) frM.refl hV1 (fun j j0 j1 => absurd j1 (by omega))
  have hf2 := hf1.trans hf2
  refine go_148_72 ?_
  simp only [sg_148_72, cl_I, cl_L, cl_R, e_iconst, e_istore_n, e_nil, l_st2, lc_lt, lc_le, lc_gt, lc_ge, lc_eq, true_and, and_true, List.length_cons, List.length_nil, ab_ia, Nat.reduceAdd, Nat.reduceLeDiff, Nat.reduceEqDiff, Nat.reduceLT, Int.reduceLT, Int.reduceLE, Int.reduceEq, Int.reduceNeg, true_or, or_true, false_or, or_false, not_false_eq_true, not_true_eq_false, false_implies, true_implies, forall_const, implies_true, Nat.zero_le, Nat.le_refl]
  refine m_sink_out (D := D2) g (gM_fr hf2 hg) k1 (fun D3 x3 x4 x5 hf3 hV3 => ?_) V.np.toNat 0 D2 (fun p => (yr1 G V).p p 2) vU vU vU (by omega) (by omega) frM.refl (by rw [dep_id]; exact hV2) hs (fun q q0 => ?_)
  · have hf3 := hf2.trans hf3
    refine go_148_144 ?_
    simp only [sg_148_144, cl_I, cl_L, cl_R, e_iconst, e_istore_n, e_nil, l_st2, lc_lt, lc_le, lc_gt, lc_ge, lc_eq, true_and, and_true, List.length_cons, List.length_nil, ab_ia, Nat.reduceAdd, Nat.reduceLeDiff, Nat.reduceEqDiff, Nat.reduceLT, Int.reduceLT, Int.reduceLE, Int.reduceEq, Int.reduceNeg, true_or, or_true, false_or, or_false, not_false_eq_true, not_true_eq_false, false_implies, true_implies, forall_const, implies_true, Nat.zero_le, Nat.le_refl]
    have ez : iceC G V V.np.toNat + rotC G (sinkV G (yr1 G V)) (0 : Int).toNat = iceC G V V.np.toNat := Int.add_zero _
    rw [← ez]
    refine m_rot_loop (C := iceC G V V.np.toNat) (D := D3) (V := sinkV G (yr1 G V)) g (gM_fr hf3 hg) ks (by omega) (fun D4 x3 hf4 hV4 => ?_) V.np.toNat 0 D3 x3 (by omega) (by omega) frM.refl hV3
    have hf4 := hf3.trans hf4
    rw [es] at hV4 ⊢
    have hV4 : vM D4 (yr3 G V) := hV4
    refine go_148_203 ?_
    simp only [sg_148_203, cl_I, cl_L, cl_R, e_iconst, e_istore_n, e_nil, l_st2, lc_lt, lc_le, lc_gt, lc_ge, lc_eq, true_and, and_true, List.length_cons, List.length_nil, ab_ia, Nat.reduceAdd, Nat.reduceLeDiff, Nat.reduceEqDiff, Nat.reduceLT, Int.reduceLT, Int.reduceLE, Int.reduceEq, Int.reduceNeg, true_or, or_true, false_or, or_false, not_false_eq_true, not_true_eq_false, false_implies, true_implies, forall_const, implies_true, Nat.zero_le, Nat.le_refl]
    refine m_dwn_loop (D := D4) (V := yr3 G V) g k3 (fun D5 hf5 hV5 => ?_) V.nh.toNat 0 D4 (by omega) (by omega) frM.refl hV4
    have hf5 := hf4.trans hf5
    rw [m3] at hV5
    have ey : D5 69 12 = V.yr := by rw [hV5.1.2.2, yr_of dwnV_1.1, y3]
    refine go_148_233 ?_
    simp only [sg_148_233, cl_I, cl_L, cl_R, e_aload_n, e_dupI, e_dupR, e_get0, e_iadd, e_iconst, e_iload_n, e_iret0, e_nil, e_put0, l_ld1, l_ldA0, wRef_some, EE_n, EE_s69, ey, lc_lt, lc_le, lc_gt, lc_ge, lc_eq, true_and, and_true, List.length_cons, List.length_nil, ab_ia, Nat.reduceAdd, Nat.reduceLeDiff, Nat.reduceEqDiff, Nat.reduceLT, Int.reduceLT, Int.reduceLE, Int.reduceEq, Int.reduceNeg, true_or, or_true, false_or, or_false, not_false_eq_true, not_true_eq_false, false_implies, true_implies, forall_const, implies_true, Nat.zero_le, Nat.le_refl]
    refine ⟨⟨by omega, by omega⟩, retI ⟨rfl, frM_ups (by omega) hf5, vM_tick hV5 ?_⟩⟩
    rw [yr_of dwnV_1.1, y3]
  · show (yr1 G V).p q 2 = _
    rw [if_neg (by omega)]
end RefYear
