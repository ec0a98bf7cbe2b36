/-! the class: a year -/
section VilYear
variable {L v : Nat} {D : ab_D} {G : Gr} {V : Vil}
theorem gP_fr {D' : ab_D} (hv : isV L v) (hf : fr v D D') (hg : gP D G) : gP D' G := by
  have := hv.1
  exact hg.congr (hf 7 (by omega)) (hf 8 (by omega))
theorem vP_dep {q z : Int} (hV : vP D v V) (h0 : 0 ≤ q) : vP (ups D (v + 3) q.toNat z) v (V.setP q 2 z) := by
  obtain ⟨⟨a1, a2, a3⟩, b, c, d⟩ := hV
  refine ⟨⟨?_, ?_, ?_⟩, fun p p0 p1 => ?_, fun h h0 h1 => ?_, fun a a0 a1 => ?_⟩
  · rw [ups_ne1 (by omega)]; exact a1
  · rw [ups_ne1 (by omega)]; exact a2
  · rw [ups_ne1 (by omega)]; exact a3
  · obtain ⟨b0, b1, b2, b3, b4, b5, b7⟩ := b p p0 p1
    refine ⟨?_, ?_, ?_, ?_, ?_, ?_, ?_⟩
    · rw [ups_ne1 (by omega), setP_ne (by decide)]; exact b0
    · rw [ups_ne1 (by omega), setP_ne (by decide)]; exact b1
    · by_cases z : p = q
      · subst z; rw [ups_self, setP_self]
      · rw [ups_ne2 (by omega), setP_nep z]; exact b2
    · rw [ups_ne1 (by omega), setP_ne (by decide)]; exact b3
    · rw [ups_ne1 (by omega), setP_ne (by decide)]; exact b4
    · rw [ups_ne1 (by omega), setP_ne (by decide)]; exact b5
    · rw [ups_ne1 (by omega), setP_ne (by decide)]; exact b7
  · rw [ups_ne1 (by omega), ups_ne1 (by omega), ups_ne1 (by omega)]; exact c h h0 h1
  · rw [ups_ne1 (by omega)]; exact d a a0 a1
theorem vP_fel {q z : Int} (hV : vP D v V) (h0 : 0 ≤ q) : vP (ups D (v + 7) q.toNat z) v (V.setP q 7 z) := by
  obtain ⟨⟨a1, a2, a3⟩, b, c, d⟩ := hV
  refine ⟨⟨?_, ?_, ?_⟩, fun p p0 p1 => ?_, fun h h0 h1 => ?_, fun a a0 a1 => ?_⟩
  · rw [ups_ne1 (by omega)]; exact a1
  · rw [ups_ne1 (by omega)]; exact a2
  · rw [ups_ne1 (by omega)]; exact a3
  · obtain ⟨b0, b1, b2, b3, b4, b5, b7⟩ := b p p0 p1
    refine ⟨?_, ?_, ?_, ?_, ?_, ?_, ?_⟩
    · rw [ups_ne1 (by omega), setP_ne (by decide)]; exact b0
    · rw [ups_ne1 (by omega), setP_ne (by decide)]; exact b1
    · rw [ups_ne1 (by omega), setP_ne (by decide)]; exact b2
    · rw [ups_ne1 (by omega), setP_ne (by decide)]; exact b3
    · rw [ups_ne1 (by omega), setP_ne (by decide)]; exact b4
    · rw [ups_ne1 (by omega), setP_ne (by decide)]; exact b5
    · by_cases z : p = q
      · subst z; rw [ups_self, setP_self]
      · rw [ups_ne2 (by omega), setP_nep z]; exact b7
  · rw [ups_ne1 (by omega), ups_ne1 (by omega), ups_ne1 (by omega)]; exact c h h0 h1
  · rw [ups_ne1 (by omega)]; exact d a a0 a1
theorem vP_dwn {q z : Int} (hV : vP D v V) (h0 : 0 ≤ q) : vP (ups D (v + 10) q.toNat z) v (V.setH q 3 z) := by
  obtain ⟨⟨a1, a2, a3⟩, b, c, d⟩ := hV
  refine ⟨⟨?_, ?_, ?_⟩, fun p p0 p1 => ?_, fun h h0 h1 => ?_, fun a a0 a1 => ?_⟩
  · rw [ups_ne1 (by omega)]; exact a1
  · rw [ups_ne1 (by omega)]; exact a2
  · rw [ups_ne1 (by omega)]; exact a3
  · rw [ups_ne1 (by omega), ups_ne1 (by omega), ups_ne1 (by omega), ups_ne1 (by omega), ups_ne1 (by omega), ups_ne1 (by omega), ups_ne1 (by omega)]
    exact b p p0 p1
  · obtain ⟨c0, c2, c3⟩ := c h h0 h1
    refine ⟨?_, ?_, ?_⟩
    · rw [ups_ne1 (by omega), setH_ne (by decide)]; exact c0
    · rw [ups_ne1 (by omega), setH_ne (by decide)]; exact c2
    · by_cases z : h = q
      · subst z; rw [ups_self, setH_self]
      · rw [ups_ne2 (by omega), setH_nep z]; exact c3
  · rw [ups_ne1 (by omega)]
    simp only [setH_ne (show (0 : Int) ≠ 3 by decide), setH_ne (show (1 : Int) ≠ 3 by decide)]
    exact d a a0 a1
theorem vP_tick {z : Int} (hV : vP D v V) (hz : z = V.yr + 1) : vP (ups D v 14 z) v V.tick := by
  obtain ⟨⟨a1, a2, a3⟩, b, c, d⟩ := hV
  refine ⟨⟨?_, ?_, ?_⟩, fun p p0 p1 => ?_, fun h h0 h1 => ?_, fun a a0 a1 => ?_⟩
  · rw [ups_ne2 (by omega)]; exact a1
  · rw [ups_ne2 (by omega)]; exact a2
  · rw [ups_self]; exact hz
  · rw [ups_ne1 (by omega), ups_ne1 (by omega), ups_ne1 (by omega), ups_ne1 (by omega), ups_ne1 (by omega), ups_ne1 (by omega), ups_ne1 (by omega)]
    exact b p p0 p1
  · rw [ups_ne1 (by omega), ups_ne1 (by omega), ups_ne1 (by omega)]; exact c h h0 h1
  · rw [ups_ne1 (by omega)]; exact d a a0 a1
theorem v_ice_loop {Q : Option ab_V → ab_H → Prop} (hv : isV L v) (g : gOK G) (hg : gP D G) (k : vOK G V)
    (hq : ∀ D', fr v D D' → vP D' v (iceV G V V.np.toNat) → Q (some (.inl (iceC G V V.np.toNat))) (EE L, D')) :
    ∀ (t : Nat) (p : Int) (D1 : ab_D), 0 ≤ p → p + t = V.np → fr v D D1 → vP D1 v (iceV G V p.toNat) → Sx 57 4 [vR v, vI (iceC G V p.toNat), vI p] [] (EE L, D1) (0, 0) Q := by
  have hv' := hv
  obtain ⟨⟨zz, zz0, zz1, zz2, zz3, zz4, zz5, zz6, zz7, zz8, zz9, zz10, zz11⟩, ⟨zr0, zr2, zr3, zr4, zr5, zr6, zr7, zr8, zr10, zr11, zr12, zr13⟩, zs0, zs1, zs2, zs3, zs4, zs5, zs6, zs7, zs8, zs9, zs10, zs11⟩ := hv
  have kk := k.1
  intro t
  induction t with
  | zero =>
    intro p D1 h0 ht hf hV
    have e1 : D1 v 1 = V.np := by rw [hV.1.1, np_of iceV_1.1]
    refine go_57_4 ?_
    simp only [sg_57_4, cl_I, cl_L, cl_R, e_aload_n, e_baload, e_cv2, e_cv4, e_get0, e_get1, e_goto, e_iaload, e_iastore, e_icmp_ge, e_if_eq, e_if_ne, e_iinc, e_iload_n, e_nil, fl_0, fl_I, fl_L, fl_R, l_inc1, l_inc2, l_ld2, l_ldA0, rk_1, wRef_some, EE_n, EE_s6, zr0, zr2, zr4, zr6, zr8, zs0, zs1, zs3, zs5, zs7, zz0, zz1, zz3, zz5, zz7, e1, lc_lt, lc_le, lc_gt, lc_ge, lc_eq, true_and, and_true, List.length_cons, List.length_nil, ab_ia, Nat.reduceAdd, Nat.reduceLeDiff, Nat.reduceEqDiff, Nat.reduceLT, Int.reduceLT, Int.reduceLE, Int.reduceEq, Int.reduceNeg, true_or, or_true, false_or, or_false, not_false_eq_true, not_true_eq_false, false_implies, true_implies, forall_const, implies_true, Nat.zero_le, Nat.le_refl]
    refine ⟨fun _ => ?_, fun hc => absurd hc (by omega)⟩
    refine go_57_45 ?_
    simp only [sg_57_45, cl_I, cl_L, cl_R, e_iload_n, e_iret0, e_nil, l_ld1, lc_lt, lc_le, lc_gt, lc_ge, lc_eq, true_and, and_true, List.length_cons, List.length_nil, ab_ia, Nat.reduceAdd, Nat.reduceLeDiff, Nat.reduceEqDiff, Nat.reduceLT, Int.reduceLT, Int.reduceLE, Int.reduceEq, Int.reduceNeg, true_or, or_true, false_or, or_false, not_false_eq_true, not_true_eq_false, false_implies, true_implies, forall_const, implies_true, Nat.zero_le, Nat.le_refl]
    rw [show p.toNat = V.np.toNat by omega] at hV ⊢
    exact hq D1 hf hV
  | succ t ih =>
    intro p D1 h0 ht hf hV
    have e1 : D1 v 1 = V.np := by rw [hV.1.1, np_of iceV_1.1]
    have hn : (iceV G V p.toNat).np = V.np := np_of iceV_1.1
    have kW : vOK G (iceV G V p.toNat) := iceV_ok k (by omega)
    have hg1 := gP_fr hv' hf hg
    have ihk := fun D' => ih (p + 1) D' (by omega) (by omega)
    rw [show (p + 1).toNat = p.toNat + 1 by omega, iceV, iceC] at ihk
    rw [show ((p.toNat : Nat) : Int) = p by omega] at ihk
    have hb := iceC_bd (G := G) (V := V) (k := p.toNat)
    generalize iceV G V p.toNat = W at *
    generalize iceC G V p.toNat = C at *
    obtain ⟨w0, w1, w2, w3, w4, w5, w7⟩ := hV.2.1 p h0 (by omega)
    obtain ⟨q0, q1, q2, q3, q4, q5, q7⟩ := kW.2.1 p h0 (by omega)
    have hcl := kW.cl g h0 (by omega)
    have eyr := hV.1.2.2
    have r14 : ∀ z j, ups D1 (v + 3) p.toNat z v j = D1 v j := fun z j => ups_ne1 (by omega)
    refine go_57_4 ?_
    simp only [sg_57_4, cl_I, cl_L, cl_R, e_aload_n, e_baload, e_cv2, e_cv4, e_get0, e_get1, e_goto, e_iaload, e_iastore, e_icmp_ge, e_if_eq, e_if_ne, e_iinc, e_iload_n, e_nil, fl_0, fl_I, fl_L, fl_R, l_inc1, l_inc2, l_ld2, l_ldA0, rk_1, wRef_some, EE_n, EE_s6, zr0, zr2, zr4, zr6, zr8, zs0, zs1, zs3, zs5, zs7, zz0, zz1, zz3, zz5, zz7, e1, lc_lt, lc_le, lc_gt, lc_ge, lc_eq, true_and, and_true, List.length_cons, List.length_nil, ab_ia, Nat.reduceAdd, Nat.reduceLeDiff, Nat.reduceEqDiff, Nat.reduceLT, Int.reduceLT, Int.reduceLE, Int.reduceEq, Int.reduceNeg, true_or, or_true, false_or, or_false, not_false_eq_true, not_true_eq_false, false_implies, true_implies, forall_const, implies_true, Nat.zero_le, Nat.le_refl]
    refine ⟨fun hc => absurd hc (by omega), fun _ => ?_⟩
    refine CB.use (v_stands hv' hV kW h0 (by omega)) (fun h2 => ?_) (fun h2 => ?_)
    · try simp only [EE_n, EE_s6, zz0, zz1, zz2, zz3, zz4, zz5, zz6, zz7, zz8, zz9, zz10, zz11, zs0, zs1, zs2, zs3, zs4, zs5, zs6, zs7, zs8, zs9, zs10, zs11, zr0, zr2, zr3, zr4, zr5, zr6, zr7, zr8, zr10, zr11, zr12, zr13, w0, w2, w4, lc_lt, lc_le, lc_gt, lc_ge, lc_eq, true_and, and_true, List.length_cons, List.length_nil, ab_ia, Nat.reduceAdd, Nat.reduceLeDiff, Nat.reduceEqDiff, Nat.reduceLT, Int.reduceLT, Int.reduceLE, Int.reduceEq, Int.reduceNeg, true_or, or_true, false_or, or_false, not_false_eq_true, not_true_eq_false, false_implies, true_implies, forall_const, implies_true, Nat.zero_le, Nat.le_refl]
      refine ⟨by omega, by omega, by omega, ?_⟩
      refine CI.use (g_ice g hg1 hcl q2 q4) ?_
      try simp only [EE_n, EE_s6, zz0, zz1, zz2, zz3, zz4, zz5, zz6, zz7, zz8, zz9, zz10, zz11, zs0, zs1, zs2, zs3, zs4, zs5, zs6, zs7, zs8, zs9, zs10, zs11, zr0, zr2, zr3, zr4, zr5, zr6, zr7, zr8, zr10, zr11, zr12, zr13, ups_self, r14, eyr, lc_lt, lc_le, lc_gt, lc_ge, lc_eq, true_and, and_true, List.length_cons, List.length_nil, ab_ia, Nat.reduceAdd, Nat.reduceLeDiff, Nat.reduceEqDiff, Nat.reduceLT, Int.reduceLT, Int.reduceLE, Int.reduceEq, Int.reduceNeg, true_or, or_true, false_or, or_false, not_false_eq_true, not_true_eq_false, false_implies, true_implies, forall_const, implies_true, Nat.zero_le, Nat.le_refl]
      have eD : bi G (W.p p 0) (W.p p 2) (W.p p 4) = iceD G W p := rfl
      rw [eD]
      have hV3 := vP_dep (z := iceD G W p) hV h0
      have hf3 : fr v D (ups D1 (v + 3) p.toNat (iceD G W p)) := fr_ups (by omega) hf
      refine ⟨by omega, by omega, fun h3 => ?_, fun h3 => ?_⟩
      · refine go_57_43 ?_
        simp only [sg_57_43, cl_I, cl_L, cl_R, e_goto, e_iinc, e_nil, l_inc2, lc_lt, lc_le, lc_gt, lc_ge, lc_eq, true_and, and_true, List.length_cons, List.length_nil, ab_ia, Nat.reduceAdd, Nat.reduceLeDiff, Nat.reduceEqDiff, Nat.reduceLT, Int.reduceLT, Int.reduceLE, Int.reduceEq, Int.reduceNeg, true_or, or_true, false_or, or_false, not_false_eq_true, not_true_eq_false, false_implies, true_implies, forall_const, implies_true, Nat.zero_le, Nat.le_refl]
        have eS : iceS G W p = W.setP p 2 (iceD G W p) := by unfold iceS; rw [if_pos h2, if_neg h3]
        have eF : iceF G W p = 0 := by unfold iceF; rw [if_neg (fun q => h3 q.2)]
        rw [eS, eF, Int.add_zero] at ihk
        exact ⟨⟨by omega, by omega⟩, ihk _ hf3 hV3⟩
      · have h3 : iceD G W p = 0 := by omega
        have eS : iceS G W p = (W.setP p 2 (iceD G W p)).setP p 7 W.yr := by unfold iceS; rw [if_pos h2, if_pos h3]
        have eF : iceF G W p = 1 := by unfold iceF; rw [if_pos ⟨h2, h3⟩]
        rw [eS, eF] at ihk
        refine ⟨by omega, ⟨by omega, by omega⟩, ⟨by omega, by omega⟩, ihk _ (fr_ups (by omega) hf3) (vP_fel hV3 h0)⟩
    · try simp only [lc_lt, lc_le, lc_gt, lc_ge, lc_eq, true_and, and_true, List.length_cons, List.length_nil, ab_ia, Nat.reduceAdd, Nat.reduceLeDiff, Nat.reduceEqDiff, Nat.reduceLT, Int.reduceLT, Int.reduceLE, Int.reduceEq, Int.reduceNeg, true_or, or_true, false_or, or_false, not_false_eq_true, not_true_eq_false, false_implies, true_implies, forall_const, implies_true, Nat.zero_le, Nat.le_refl]
      refine go_57_43 ?_
      simp only [sg_57_43, cl_I, cl_L, cl_R, e_goto, e_iinc, e_nil, l_inc2, lc_lt, lc_le, lc_gt, lc_ge, lc_eq, true_and, and_true, List.length_cons, List.length_nil, ab_ia, Nat.reduceAdd, Nat.reduceLeDiff, Nat.reduceEqDiff, Nat.reduceLT, Int.reduceLT, Int.reduceLE, Int.reduceEq, Int.reduceNeg, true_or, or_true, false_or, or_false, not_false_eq_true, not_true_eq_false, false_implies, true_implies, forall_const, implies_true, Nat.zero_le, Nat.le_refl]
      have eS : iceS G W p = W := by unfold iceS; rw [if_neg h2]
      have eF : iceF G W p = 0 := by unfold iceF; rw [if_neg (fun q => h2 q.1)]
      rw [eS, eF, Int.add_zero] at ihk
      exact ⟨⟨by omega, by omega⟩, ihk _ hf hV⟩
theorem v_ice (hv : isV L v) (g : gOK G) (hg : gP D G) (hV : vP D v V) (k : vOK G V) : CI 57 [vR v] (EE L, D) (fun r D' => r = iceC G V V.np.toNat ∧ fr v D D' ∧ vP D' v (iceV G V V.np.toNat)) := by
  refine Sx.un (y := 57) (n := 0) (lo := [vR v, vU, vU]) (st := []) (u := (0, 0)) ?_
  refine go_57_0 ?_
  simp only [sg_57_0, cl_I, cl_L, cl_R, e_iconst, e_istore_n, e_nil, l_st1, l_st2, lc_lt, lc_le, lc_gt, lc_ge, lc_eq, true_and, and_true, List.length_cons, List.length_nil, ab_ia, Nat.reduceAdd, Nat.reduceLeDiff, Nat.reduceEqDiff, Nat.reduceLT, Int.reduceLT, Int.reduceLE, Int.reduceEq, Int.reduceNeg, true_or, or_true, false_or, or_false, not_false_eq_true, not_true_eq_false, false_implies, true_implies, forall_const, implies_true, Nat.zero_le, Nat.le_refl]
  exact v_ice_loop hv g hg k (fun D' h1 h2 => retI ⟨rfl, h1, h2⟩) V.np.toNat 0 D (by omega) (by have := k.1; omega) fr.refl hV
theorem v_rot_loop {Q : Option ab_V → ab_H → Prop} (hv : isV L v) (g : gOK G) (hg : gP D G) (k : vOK G V)
    (hq : ∀ D', fr v D D' → vP D' v (rotV G V V.np.toNat) → Q (some (.inl (rotC G V V.np.toNat))) (EE L, D')) :
    ∀ (t : Nat) (p : Int) (D1 : ab_D) (x3 : ab_V), 0 ≤ p → p + t = V.np → fr v D D1 → vP D1 v (rotV G V p.toNat) → Sx 59 4 [vR v, vI (rotC G V p.toNat), vI p, x3] [] (EE L, D1) (0, 0) Q := by
  have hv' := hv
  obtain ⟨⟨zz, zz0, zz1, zz2, zz3, zz4, zz5, zz6, zz7, zz8, zz9, zz10, zz11⟩, ⟨zr0, zr2, zr3, zr4, zr5, zr6, zr7, zr8, zr10, zr11, zr12, zr13⟩, zs0, zs1, zs2, zs3, zs4, zs5, zs6, zs7, zs8, zs9, zs10, zs11⟩ := hv
  have kk := k.1
  intro t
  induction t with
  | zero =>
    intro p D1 x3 h0 ht hf hV
    have e1 : D1 v 1 = V.np := by rw [hV.1.1, np_of rotV_1.1]
    refine go_59_4 ?_
    simp only [sg_59_4, cl_I, cl_L, cl_R, e_aload_n, e_cv2, e_get0, e_get1, e_goto, e_iadd, e_iaload, e_iastore, e_icmp_ge, e_icmp_lt, e_iconst, e_if_eq, e_iinc, e_iload_n, e_istore_n, e_isub, e_nil, fl_0, fl_I, fl_L, fl_R, l_inc1, l_inc2, l_ld2, l_ld3, l_ldA0, l_st3, rk_1, wRef_some, EE_n, EE_s6, zr0, zr3, zr7, zr8, zs0, zs2, zs6, zs7, zz0, zz2, zz6, zz7, e1, lc_lt, lc_le, lc_gt, lc_ge, lc_eq, true_and, and_true, List.length_cons, List.length_nil, ab_ia, Nat.reduceAdd, Nat.reduceLeDiff, Nat.reduceEqDiff, Nat.reduceLT, Int.reduceLT, Int.reduceLE, Int.reduceEq, Int.reduceNeg, true_or, or_true, false_or, or_false, not_false_eq_true, not_true_eq_false, false_implies, true_implies, forall_const, implies_true, Nat.zero_le, Nat.le_refl]
    refine ⟨fun _ => ?_, fun hc => absurd hc (by omega)⟩
    refine go_59_40 ?_
    simp only [sg_59_40, cl_I, cl_L, cl_R, e_iload_n, e_iret0, e_nil, l_ld1, lc_lt, lc_le, lc_gt, lc_ge, lc_eq, true_and, and_true, List.length_cons, List.length_nil, ab_ia, Nat.reduceAdd, Nat.reduceLeDiff, Nat.reduceEqDiff, Nat.reduceLT, Int.reduceLT, Int.reduceLE, Int.reduceEq, Int.reduceNeg, true_or, or_true, false_or, or_false, not_false_eq_true, not_true_eq_false, false_implies, true_implies, forall_const, implies_true, Nat.zero_le, Nat.le_refl]
    rw [show p.toNat = V.np.toNat by omega] at hV ⊢
    exact hq D1 hf hV
  | succ t ih =>
    intro p D1 x3 h0 ht hf hV
    have e1 : D1 v 1 = V.np := by rw [hV.1.1, np_of rotV_1.1]
    have hn : (rotV G V p.toNat).np = V.np := np_of rotV_1.1
    have kW : vOK G (rotV G V p.toNat) := rotV_ok k (by omega)
    have hg1 := gP_fr hv' hf hg
    have ihk := fun D' x3 => ih (p + 1) D' x3 (by omega) (by omega)
    rw [show (p + 1).toNat = p.toNat + 1 by omega, rotV, rotC] at ihk
    rw [show ((p.toNat : Nat) : Int) = p by omega] at ihk
    have hb := rotC_bd (G := G) (V := V) (k := p.toNat)
    generalize rotV G V p.toNat = W at *
    generalize rotC G V p.toNat = C at *
    obtain ⟨w0, w1, w2, w3, w4, w5, w7⟩ := hV.2.1 p h0 (by omega)
    obtain ⟨q0, q1, q2, q3, q4, q5, q7⟩ := kW.2.1 p h0 (by omega)
    have eyr := hV.1.2.2
    have kw1 := kW.1
    have no : ¬ (W.p p 7 = -9 ∧ G.la (W.p p 1) ≤ W.yr - W.p p 5 + 1) → ∀ x3 : ab_V, Sx 59 38 [vR v, vI C, vI p, x3] [] (EE L, D1) (0, 0) Q := by
      intro hno x3
      refine go_59_38 ?_
      simp only [sg_59_38, cl_I, cl_L, cl_R, e_goto, e_iinc, e_nil, l_inc2, lc_lt, lc_le, lc_gt, lc_ge, lc_eq, true_and, and_true, List.length_cons, List.length_nil, ab_ia, Nat.reduceAdd, Nat.reduceLeDiff, Nat.reduceEqDiff, Nat.reduceLT, Int.reduceLT, Int.reduceLE, Int.reduceEq, Int.reduceNeg, true_or, or_true, false_or, or_false, not_false_eq_true, not_true_eq_false, false_implies, true_implies, forall_const, implies_true, Nat.zero_le, Nat.le_refl]
      have eS : rotS G W p = W := by unfold rotS; rw [if_neg hno]
      have eF : rotF G W p = 0 := by unfold rotF; rw [if_neg hno]
      rw [eS, eF, Int.add_zero] at ihk
      exact ⟨⟨by omega, by omega⟩, ihk _ _ hf hV⟩
    refine go_59_4 ?_
    simp only [sg_59_4, cl_I, cl_L, cl_R, e_aload_n, e_cv2, e_get0, e_get1, e_goto, e_iadd, e_iaload, e_iastore, e_icmp_ge, e_icmp_lt, e_iconst, e_if_eq, e_iinc, e_iload_n, e_istore_n, e_isub, e_nil, fl_0, fl_I, fl_L, fl_R, l_inc1, l_inc2, l_ld2, l_ld3, l_ldA0, l_st3, rk_1, wRef_some, EE_n, EE_s6, zr0, zr3, zr7, zr8, zs0, zs2, zs6, zs7, zz0, zz2, zz6, zz7, e1, eyr, w5, lc_lt, lc_le, lc_gt, lc_ge, lc_eq, true_and, and_true, List.length_cons, List.length_nil, ab_ia, Nat.reduceAdd, Nat.reduceLeDiff, Nat.reduceEqDiff, Nat.reduceLT, Int.reduceLT, Int.reduceLE, Int.reduceEq, Int.reduceNeg, true_or, or_true, false_or, or_false, not_false_eq_true, not_true_eq_false, false_implies, true_implies, forall_const, implies_true, Nat.zero_le, Nat.le_refl]
    refine ⟨fun hc => absurd hc (by omega), fun _ => ⟨by omega, ⟨by omega, by omega⟩, ⟨by omega, by omega⟩, ?_⟩⟩
    refine CB.use (v_stands hv' hV kW h0 (by omega)) (fun h2 => ?_) (fun h2 => ?_)
    · try simp only [EE_n, EE_s6, zz0, zz1, zz2, zz3, zz4, zz5, zz6, zz7, zz8, zz9, zz10, zz11, zs0, zs1, zs2, zs3, zs4, zs5, zs6, zs7, zs8, zs9, zs10, zs11, zr0, zr2, zr3, zr4, zr5, zr6, zr7, zr8, zr10, zr11, zr12, zr13, w1, lc_lt, lc_le, lc_gt, lc_ge, lc_eq, true_and, and_true, List.length_cons, List.length_nil, ab_ia, Nat.reduceAdd, Nat.reduceLeDiff, Nat.reduceEqDiff, Nat.reduceLT, Int.reduceLT, Int.reduceLE, Int.reduceEq, Int.reduceNeg, true_or, or_true, false_or, or_false, not_false_eq_true, not_true_eq_false, false_implies, true_implies, forall_const, implies_true, Nat.zero_le, Nat.le_refl]
      refine ⟨by omega, ?_⟩
      refine CI.use (g_lasts hg1 q1) ?_
      try simp only [EE_n, EE_s6, zz0, zz1, zz2, zz3, zz4, zz5, zz6, zz7, zz8, zz9, zz10, zz11, zs0, zs1, zs2, zs3, zs4, zs5, zs6, zs7, zs8, zs9, zs10, zs11, zr0, zr2, zr3, zr4, zr5, zr6, zr7, zr8, zr10, zr11, zr12, zr13, eyr, lc_lt, lc_le, lc_gt, lc_ge, lc_eq, true_and, and_true, List.length_cons, List.length_nil, ab_ia, Nat.reduceAdd, Nat.reduceLeDiff, Nat.reduceEqDiff, Nat.reduceLT, Int.reduceLT, Int.reduceLE, Int.reduceEq, Int.reduceNeg, true_or, or_true, false_or, or_false, not_false_eq_true, not_true_eq_false, false_implies, true_implies, forall_const, implies_true, Nat.zero_le, Nat.le_refl]
      refine ⟨fun h3 => no (fun q => absurd q.2 (by omega)) _, fun h3 => ?_⟩
      have hyes : W.p p 7 = -9 ∧ G.la (W.p p 1) ≤ W.yr - W.p p 5 + 1 := ⟨h2, by omega⟩
      have eS : rotS G W p = W.setP p 7 W.yr := by unfold rotS; rw [if_pos hyes]
      have eF : rotF G W p = 1 := by unfold rotF; rw [if_pos hyes]
      rw [eS, eF] at ihk
      exact ⟨by omega, ⟨by omega, by omega⟩, ⟨by omega, by omega⟩, ihk _ _ (fr_ups (by omega) hf) (vP_fel hV h0)⟩
    · try simp only [lc_lt, lc_le, lc_gt, lc_ge, lc_eq, true_and, and_true, List.length_cons, List.length_nil, ab_ia, Nat.reduceAdd, Nat.reduceLeDiff, Nat.reduceEqDiff, Nat.reduceLT, Int.reduceLT, Int.reduceLE, Int.reduceEq, Int.reduceNeg, true_or, or_true, false_or, or_false, not_false_eq_true, not_true_eq_false, false_implies, true_implies, forall_const, implies_true, Nat.zero_le, Nat.le_refl]
      exact no (fun q => h2 q.1) _
theorem v_rot (hv : isV L v) (g : gOK G) (hg : gP D G) (hV : vP D v V) (k : vOK G V) : CI 59 [vR v] (EE L, D) (fun r D' => r = rotC G V V.np.toNat ∧ fr v D D' ∧ vP D' v (rotV G V V.np.toNat)) := by
  refine Sx.un (y := 59) (n := 0) (lo := [vR v, vU, vU, vU]) (st := []) (u := (0, 0)) ?_
  refine go_59_0 ?_
  simp only [sg_59_0, cl_I, cl_L, cl_R, e_iconst, e_istore_n, e_nil, l_st1, l_st2, lc_lt, lc_le, lc_gt, lc_ge, lc_eq, true_and, and_true, List.length_cons, List.length_nil, ab_ia, Nat.reduceAdd, Nat.reduceLeDiff, Nat.reduceEqDiff, Nat.reduceLT, Int.reduceLT, Int.reduceLE, Int.reduceEq, Int.reduceNeg, true_or, or_true, false_or, or_false, not_false_eq_true, not_true_eq_false, false_implies, true_implies, forall_const, implies_true, Nat.zero_le, Nat.le_refl]
  exact v_rot_loop hv g hg k (fun D' h1 h2 => retI ⟨rfl, h1, h2⟩) V.np.toNat 0 D vU (by omega) (by have := k.1; omega) fr.refl hV
theorem v_sink_loop {Q : Option ab_V → ab_H → Prop} {h : Int} (hv : isV L v) (g : gOK G) (hg : gP D G) (k : vOK G V) (j0 : 0 ≤ h) (j1 : h < V.nh)
    (hq : ∀ D', fr v D D' → vP D' v (V.dep (fun p => snf G V p (h.toNat + 1))) → Q none (EE L, D')) :
    ∀ (t : Nat) (p : Int) (D1 : ab_D) (x4 : ab_V), 0 ≤ p → p + t = V.np → fr v D D1 → (∃ f, (∀ q, 0 ≤ q → q < V.np → f q = if q < p then snf G V q (h.toNat + 1) else snf G V q h.toNat) ∧ vP D1 v (V.dep f)) → Sx 58 6 [vR v, vI h, vI (shr V h), vI p, x4] [] (EE L, D1) (0, 0) Q := by
  have hv' := hv
  obtain ⟨⟨zz, zz0, zz1, zz2, zz3, zz4, zz5, zz6, zz7, zz8, zz9, zz10, zz11⟩, ⟨zr0, zr2, zr3, zr4, zr5, zr6, zr7, zr8, zr10, zr11, zr12, zr13⟩, zs0, zs1, zs2, zs3, zs4, zs5, zs6, zs7, zs8, zs9, zs10, zs11⟩ := hv
  have kk := k.1
  have hh : ((h.toNat : Nat) : Int) = h := by omega
  intro t
  induction t with
  | zero =>
    rintro p D1 x4 h0 ht hf ⟨f, hff, hV⟩
    have e1 : D1 v 1 = V.np := hV.1.1
    refine go_58_6 ?_
    simp only [sg_58_6, cl_I, cl_L, cl_R, e_aload_n, e_bipush, e_cv2, e_cv3, e_get0, e_get1, e_goto, e_iadd, e_iaload, e_iastore, e_icmp_ge, e_iconst, e_idiv, e_if_eq, e_if_le, e_iinc, e_iload, e_iload_n, e_istore, e_isub, e_min, e_nil, fl_0, fl_I, fl_L, fl_R, l_inc3, l_ld1, l_ld2, l_ld3, l_ld4, l_ldA0, l_st4, rk_1, wRef_some, EE_n, zr4, zs0, zs3, zz0, zz3, e1, lc_lt, lc_le, lc_gt, lc_ge, lc_eq, true_and, and_true, List.length_cons, List.length_nil, ab_ia, Nat.reduceAdd, Nat.reduceLeDiff, Nat.reduceEqDiff, Nat.reduceLT, Int.reduceLT, Int.reduceLE, Int.reduceEq, Int.reduceNeg, true_or, or_true, false_or, or_false, not_false_eq_true, not_true_eq_false, false_implies, true_implies, forall_const, implies_true, Nat.zero_le, Nat.le_refl]
    refine ⟨fun _ => ?_, fun hc => absurd hc (by omega)⟩
    refine go_58_41 ?_
    simp only [sg_58_41, cl_I, cl_L, cl_R, e_nil, e_vret, lc_lt, lc_le, lc_gt, lc_ge, lc_eq, true_and, and_true, List.length_cons, List.length_nil, ab_ia, Nat.reduceAdd, Nat.reduceLeDiff, Nat.reduceEqDiff, Nat.reduceLT, Int.reduceLT, Int.reduceLE, Int.reduceEq, Int.reduceNeg, true_or, or_true, false_or, or_false, not_false_eq_true, not_true_eq_false, false_implies, true_implies, forall_const, implies_true, Nat.zero_le, Nat.le_refl]
    refine hq D1 hf ?_
    refine ⟨hV.1, fun q q0 q1 => ?_, hV.2.2⟩
    obtain ⟨b0, b1, b2, b3, b4, b5, b7⟩ := hV.2.1 q q0 q1
    refine ⟨b0, b1, ?_, b3, b4, b5, b7⟩
    rw [dep_2] at b2 ⊢
    have q1 : q < V.np := q1
    rw [b2, hff q q0 q1, if_pos (by omega)]
  | succ t ih =>
    rintro p D1 x4 h0 ht hf ⟨f, hff, hV⟩
    have e1 : D1 v 1 = V.np := hV.1.1
    have kW : vOK G (V.dep f) := dep_ok k (fun q q0 q1 => by
      rw [hff q q0 q1]
      split <;> exact snf_bd g k q0 q1)
    have hg1 := gP_fr hv' hf hg
    have hlp : p < V.np := by omega
    obtain ⟨w0, w1, w2, w3, w4, w5, w7⟩ := hV.2.1 p h0 hlp
    obtain ⟨q0, q1, q2, q3, q4, q5, q7⟩ := k.2.1 p h0 hlp
    have hs := shr_bd k j0 j1
    have hfp := hff p h0 hlp
    rw [if_neg (by omega)] at hfp
    have esn : snf G V p (h.toNat + 1) = if plb V h p = true then snk G V h p else snf G V p h.toNat := by rw [snf, hh]
    have skip : snf G V p (h.toNat + 1) = snf G V p h.toNat → ∀ x4 : ab_V, Sx 58 39 [vR v, vI h, vI (shr V h), vI p, x4] [] (EE L, D1) (0, 0) Q := by
      intro hes x4
      refine go_58_39 ?_
      simp only [sg_58_39, cl_I, cl_L, cl_R, e_goto, e_iinc, e_nil, l_inc3, lc_lt, lc_le, lc_gt, lc_ge, lc_eq, true_and, and_true, List.length_cons, List.length_nil, ab_ia, Nat.reduceAdd, Nat.reduceLeDiff, Nat.reduceEqDiff, Nat.reduceLT, Int.reduceLT, Int.reduceLE, Int.reduceEq, Int.reduceNeg, true_or, or_true, false_or, or_false, not_false_eq_true, not_true_eq_false, false_implies, true_implies, forall_const, implies_true, Nat.zero_le, Nat.le_refl]
      refine ⟨⟨by omega, by omega⟩, ih (p + 1) D1 _ (by omega) (by omega) hf ⟨f, fun q q0 q1 => ?_, hV⟩⟩
      rw [hff q q0 q1]
      by_cases z : q = p
      · subst z; rw [if_neg (by omega), if_pos (by omega), hes]
      · by_cases z2 : q < p
        · rw [if_pos z2, if_pos (by omega)]
        · rw [if_neg z2, if_neg (by omega)]
    refine go_58_6 ?_
    simp only [sg_58_6, cl_I, cl_L, cl_R, e_aload_n, e_bipush, e_cv2, e_cv3, e_get0, e_get1, e_goto, e_iadd, e_iaload, e_iastore, e_icmp_ge, e_iconst, e_idiv, e_if_eq, e_if_le, e_iinc, e_iload, e_iload_n, e_istore, e_isub, e_min, e_nil, fl_0, fl_I, fl_L, fl_R, l_inc3, l_ld1, l_ld2, l_ld3, l_ld4, l_ldA0, l_st4, rk_1, wRef_some, EE_n, zr4, zs0, zs3, zz0, zz3, e1, lc_lt, lc_le, lc_gt, lc_ge, lc_eq, true_and, and_true, List.length_cons, List.length_nil, ab_ia, Nat.reduceAdd, Nat.reduceLeDiff, Nat.reduceEqDiff, Nat.reduceLT, Int.reduceLT, Int.reduceLE, Int.reduceEq, Int.reduceNeg, true_or, or_true, false_or, or_false, not_false_eq_true, not_true_eq_false, false_implies, true_implies, forall_const, implies_true, Nat.zero_le, Nat.le_refl]
    refine ⟨fun hc => absurd hc (by omega), fun _ => ?_⟩
    refine CB.use (v_isPl hv' g hV kW h0 hlp j0 j1) (fun h2 => ?_) (fun h2 => ?_)
    · try simp only [EE_n, EE_s6, zz0, zz1, zz2, zz3, zz4, zz5, zz6, zz7, zz8, zz9, zz10, zz11, zs0, zs1, zs2, zs3, zs4, zs5, zs6, zs7, zs8, zs9, zs10, zs11, zr0, zr2, zr3, zr4, zr5, zr6, zr7, zr8, zr10, zr11, zr12, zr13, lc_lt, lc_le, lc_gt, lc_ge, lc_eq, true_and, and_true, List.length_cons, List.length_nil, ab_ia, Nat.reduceAdd, Nat.reduceLeDiff, Nat.reduceEqDiff, Nat.reduceLT, Int.reduceLT, Int.reduceLE, Int.reduceEq, Int.reduceNeg, true_or, or_true, false_or, or_false, not_false_eq_true, not_true_eq_false, false_implies, true_implies, forall_const, implies_true, Nat.zero_le, Nat.le_refl]
      have h2 := isPl_dep.mp h2
      have own : snf G V p h.toNat = V.p p 2 := snf_own k j0 j1 (by omega) h2
      rw [if_pos (plb_t h2)] at esn
      have ehl : hlP G (V.dep f) p = hlP G V p := by rw [hlP_dep, hfp, own]; rfl
      have hhl := k.hl g h0 hlp
      refine CI.use (v_holds hv' g hg1 hV kW h0 hlp) ?_
      rw [ehl]
      try simp only [EE_n, EE_s6, zz0, zz1, zz2, zz3, zz4, zz5, zz6, zz7, zz8, zz9, zz10, zz11, zs0, zs1, zs2, zs3, zs4, zs5, zs6, zs7, zs8, zs9, zs10, zs11, zr0, zr2, zr3, zr4, zr5, zr6, zr7, zr8, zr10, zr11, zr12, zr13, lc_lt, lc_le, lc_gt, lc_ge, lc_eq, true_and, and_true, List.length_cons, List.length_nil, ab_ia, Nat.reduceAdd, Nat.reduceLeDiff, Nat.reduceEqDiff, Nat.reduceLT, Int.reduceLT, Int.reduceLE, Int.reduceEq, Int.reduceNeg, true_or, or_true, false_or, or_false, not_false_eq_true, not_true_eq_false, false_implies, true_implies, forall_const, implies_true, Nat.zero_le, Nat.le_refl]
      refine ⟨⟨by omega, by omega⟩, fun h3 => ?_, fun h3 => ?_⟩
      · refine skip ?_ _
        rw [esn, own]
        unfold snk
        rw [if_neg (by omega)]
      · have ed : D1 (v + 3) p.toNat = V.p p 2 := by rw [w2, dep_2, hfp, own]
        have esk : snk G V h p = if V.p p 2 + (shr V h - hlP G V p + 4) / 5 < 15 then V.p p 2 + (shr V h - hlP G V p + 4) / 5 else 15 := by
          unfold snk
          rw [if_pos (by omega)]
        simp only [ed]
        rw [← esk]
        refine ⟨by omega, ⟨by omega, by omega⟩, by omega, ⟨by omega, by omega⟩, by omega, ⟨by omega, by omega⟩, ih (p + 1) _ _ (by omega) (by omega) (fr_ups (by omega) hf) ⟨fun q => if q = p then snk G V h p else f q, fun q q0 q1 => ?_, ?_⟩⟩
        · show (if q = p then snk G V h p else f q) = _
          by_cases z : q = p
          · subst z; rw [if_pos rfl, if_pos (by omega), esn]
          · rw [if_neg z, hff q q0 q1]
            by_cases z2 : q < p
            · rw [if_pos z2, if_pos (by omega)]
            · rw [if_neg z2, if_neg (by omega)]
        · rw [← dep_set]
          exact vP_dep hV h0
    · try simp only [lc_lt, lc_le, lc_gt, lc_ge, lc_eq, true_and, and_true, List.length_cons, List.length_nil, ab_ia, Nat.reduceAdd, Nat.reduceLeDiff, Nat.reduceEqDiff, Nat.reduceLT, Int.reduceLT, Int.reduceLE, Int.reduceEq, Int.reduceNeg, true_or, or_true, false_or, or_false, not_false_eq_true, not_true_eq_false, false_implies, true_implies, forall_const, implies_true, Nat.zero_le, Nat.le_refl]
      refine skip ?_ _
      rw [esn, if_neg]
      intro q
      exact h2 (isPl_dep.mpr (isPl_plb.mpr q))
theorem v_sink {h : Int} (hv : isV L v) (g : gOK G) (hg : gP D G) (k : vOK G V) (j0 : 0 ≤ h) (j1 : h < V.nh) (hV : vP D v (V.dep (fun p => snf G V p h.toNat))) : CV 58 [vR v, vI h] (EE L, D) (fun D' => fr v D D' ∧ vP D' v (V.dep (fun p => snf G V p (h.toNat + 1)))) := by
  have hv' := hv
  obtain ⟨⟨zz, zz0, zz1, zz2, zz3, zz4, zz5, zz6, zz7, zz8, zz9, zz10, zz11⟩, ⟨zr0, zr2, zr3, zr4, zr5, zr6, zr7, zr8, zr10, zr11, zr12, zr13⟩, zs0, zs1, zs2, zs3, zs4, zs5, zs6, zs7, zs8, zs9, zs10, zs11⟩ := hv
  have kW : vOK G (V.dep (fun p => snf G V p h.toNat)) := dep_ok k (fun q q0 q1 => snf_bd g k q0 q1)
  refine Sx.un (y := 58) (n := 0) (lo := [vR v, vI h, vU, vU, vU]) (st := []) (u := (0, 0)) ?_
  refine go_58_0 ?_
  simp only [sg_58_0, cl_I, cl_L, cl_R, e_aload_n, e_cv2, e_iconst, e_iload_n, e_istore_n, e_nil, fl_0, fl_I, fl_L, fl_R, l_ld1, l_ldA0, l_st2, l_st3, rk_1, EE_n, zs0, zz0, lc_lt, lc_le, lc_gt, lc_ge, lc_eq, true_and, and_true, List.length_cons, List.length_nil, ab_ia, Nat.reduceAdd, Nat.reduceLeDiff, Nat.reduceEqDiff, Nat.reduceLT, Int.reduceLT, Int.reduceLE, Int.reduceEq, Int.reduceNeg, true_or, or_true, false_or, or_false, not_false_eq_true, not_true_eq_false, false_implies, true_implies, forall_const, implies_true, Nat.zero_le, Nat.le_refl]
  refine CI.use (v_shr hv' g hV kW j0 j1) ?_
  rw [shr_dep]
  try simp only [lc_lt, lc_le, lc_gt, lc_ge, lc_eq, true_and, and_true, List.length_cons, List.length_nil, ab_ia, Nat.reduceAdd, Nat.reduceLeDiff, Nat.reduceEqDiff, Nat.reduceLT, Int.reduceLT, Int.reduceLE, Int.reduceEq, Int.reduceNeg, true_or, or_true, false_or, or_false, not_false_eq_true, not_true_eq_false, false_implies, true_implies, forall_const, implies_true, Nat.zero_le, Nat.le_refl]
  refine v_sink_loop hv' g hg k j0 j1 (fun D' h1 h2 => retV ⟨h1, h2⟩) V.np.toNat 0 D vU (by omega) (by have := k.1; omega) fr.refl ⟨_, fun q q0 q1 => ?_, hV⟩
  rw [if_neg (by omega)]
theorem v_year_l1 {Q : Option ab_V → ab_H → Prop} {C : Int} (hv : isV L v) (g : gOK G) (hg : gP D G) (k : vOK G V)
    (hq : ∀ D', fr v D D' → vP D' v (sinkV G V) → Sx 56 14 [vR v, vI C, vI V.nh] [] (EE L, D') (0, 0) Q) :
    ∀ (t : Nat) (h : Int) (D1 : ab_D), 0 ≤ h → h + t = V.nh → fr v D D1 → vP D1 v (V.dep (fun p => snf G V p h.toNat)) → Sx 56 5 [vR v, vI C, vI h] [] (EE L, D1) (0, 0) Q := by
  have hv' := hv
  obtain ⟨⟨zz, zz0, zz1, zz2, zz3, zz4, zz5, zz6, zz7, zz8, zz9, zz10, zz11⟩, ⟨zr0, zr2, zr3, zr4, zr5, zr6, zr7, zr8, zr10, zr11, zr12, zr13⟩, zs0, zs1, zs2, zs3, zs4, zs5, zs6, zs7, zs8, zs9, zs10, zs11⟩ := hv
  have kk := k.1
  intro t
  induction t with
  | zero =>
    intro h D1 h0 ht hf hV
    have e1 : D1 v 9 = V.nh := hV.1.2.1
    refine go_56_5 ?_
    simp only [sg_56_5, cl_I, cl_L, cl_R, e_aload_n, e_cv2, e_get0, e_goto, e_icmp_ge, e_iinc, e_iload_n, e_nil, fl_0, fl_I, fl_L, fl_R, l_inc2, l_ld2, l_ldA0, rk_0, wRef_some, EE_n, zs0, zz0, e1, lc_lt, lc_le, lc_gt, lc_ge, lc_eq, true_and, and_true, List.length_cons, List.length_nil, ab_ia, Nat.reduceAdd, Nat.reduceLeDiff, Nat.reduceEqDiff, Nat.reduceLT, Int.reduceLT, Int.reduceLE, Int.reduceEq, Int.reduceNeg, true_or, or_true, false_or, or_false, not_false_eq_true, not_true_eq_false, false_implies, true_implies, forall_const, implies_true, Nat.zero_le, Nat.le_refl]
    refine ⟨fun _ => ?_, fun hc => absurd hc (by omega)⟩
    have e : h = V.nh := by omega
    subst e
    exact hq D1 hf hV
  | succ t ih =>
    intro h D1 h0 ht hf hV
    have e1 : D1 v 9 = V.nh := hV.1.2.1
    have hg1 := gP_fr hv' hf hg
    refine go_56_5 ?_
    simp only [sg_56_5, cl_I, cl_L, cl_R, e_aload_n, e_cv2, e_get0, e_goto, e_icmp_ge, e_iinc, e_iload_n, e_nil, fl_0, fl_I, fl_L, fl_R, l_inc2, l_ld2, l_ldA0, rk_0, wRef_some, EE_n, zs0, zz0, e1, lc_lt, lc_le, lc_gt, lc_ge, lc_eq, true_and, and_true, List.length_cons, List.length_nil, ab_ia, Nat.reduceAdd, Nat.reduceLeDiff, Nat.reduceEqDiff, Nat.reduceLT, Int.reduceLT, Int.reduceLE, Int.reduceEq, Int.reduceNeg, true_or, or_true, false_or, or_false, not_false_eq_true, not_true_eq_false, false_implies, true_implies, forall_const, implies_true, Nat.zero_le, Nat.le_refl]
    refine ⟨fun hc => absurd hc (by omega), fun _ => ?_⟩
    refine (v_sink hv' g hg1 k h0 (by omega) hV).mono ?_
    rintro D2 ⟨hf2, hV2⟩
    refine ⟨⟨by omega, by omega⟩, ih (h + 1) D2 (by omega) (by omega) (hf.trans hf2) ?_⟩
    rw [show (h + 1).toNat = h.toNat + 1 by omega]
    exact hV2
theorem v_year_l2 {Q : Option ab_V → ab_H → Prop} {C : Int} (hv : isV L v) (g : gOK G) (k : vOK G V)
    (hq : ∀ D', fr v D D' → vP D' v (dwnV V V.nh.toNat) → Sx 56 36 [vR v, vI C, vI V.nh] [] (EE L, D') (0, 0) Q) :
    ∀ (t : Nat) (h : Int) (D1 : ab_D), 0 ≤ h → h + t = V.nh → fr v D D1 → vP D1 v (dwnV V h.toNat) → Sx 56 21 [vR v, vI C, vI h] [] (EE L, D1) (0, 0) Q := by
  have hv' := hv
  obtain ⟨⟨zz, zz0, zz1, zz2, zz3, zz4, zz5, zz6, zz7, zz8, zz9, zz10, zz11⟩, ⟨zr0, zr2, zr3, zr4, zr5, zr6, zr7, zr8, zr10, zr11, zr12, zr13⟩, zs0, zs1, zs2, zs3, zs4, zs5, zs6, zs7, zs8, zs9, zs10, zs11⟩ := hv
  have kk := k.1
  intro t
  induction t with
  | zero =>
    intro h D1 h0 ht hf hV
    have e1 : D1 v 9 = V.nh := by rw [hV.1.2.1, nh_of dwnV_1.1]
    refine go_56_21 ?_
    simp only [sg_56_21, cl_I, cl_L, cl_R, e_aload_n, e_bastore, e_cv2, e_get0, e_get1, e_goto, e_icmp_ge, e_iconst, e_if_ne, e_iinc, e_iload_n, e_nil, fl_0, fl_I, fl_L, fl_R, l_inc2, l_ld2, l_ldA0, rk_1, wRef_some, EE_n, zr12, zs0, zs10, zz0, zz10, e1, lc_lt, lc_le, lc_gt, lc_ge, lc_eq, true_and, and_true, List.length_cons, List.length_nil, ab_ia, Nat.reduceAdd, Nat.reduceLeDiff, Nat.reduceEqDiff, Nat.reduceLT, Int.reduceLT, Int.reduceLE, Int.reduceEq, Int.reduceNeg, true_or, or_true, false_or, or_false, not_false_eq_true, not_true_eq_false, false_implies, true_implies, forall_const, implies_true, Nat.zero_le, Nat.le_refl]
    refine ⟨fun _ => ?_, fun hc => absurd hc (by omega)⟩
    have e : h = V.nh := by omega
    subst e
    exact hq D1 hf hV
  | succ t ih =>
    intro h D1 h0 ht hf hV
    have hn : (dwnV V h.toNat).nh = V.nh := nh_of dwnV_1.1
    have e1 : D1 v 9 = V.nh := by rw [hV.1.2.1, hn]
    have kW : vOK G (dwnV V h.toNat) := dwnV_ok k
    have ihk := fun D' => ih (h + 1) D' (by omega) (by omega)
    rw [show (h + 1).toNat = h.toNat + 1 by omega, dwnV, show ((h.toNat : Nat) : Int) = h by omega] at ihk
    generalize dwnV V h.toNat = W at *
    refine go_56_21 ?_
    simp only [sg_56_21, cl_I, cl_L, cl_R, e_aload_n, e_bastore, e_cv2, e_get0, e_get1, e_goto, e_icmp_ge, e_iconst, e_if_ne, e_iinc, e_iload_n, e_nil, fl_0, fl_I, fl_L, fl_R, l_inc2, l_ld2, l_ldA0, rk_1, wRef_some, EE_n, zr12, zs0, zs10, zz0, zz10, e1, lc_lt, lc_le, lc_gt, lc_ge, lc_eq, true_and, and_true, List.length_cons, List.length_nil, ab_ia, Nat.reduceAdd, Nat.reduceLeDiff, Nat.reduceEqDiff, Nat.reduceLT, Int.reduceLT, Int.reduceLE, Int.reduceEq, Int.reduceNeg, true_or, or_true, false_or, or_false, not_false_eq_true, not_true_eq_false, false_implies, true_implies, forall_const, implies_true, Nat.zero_le, Nat.le_refl]
    refine ⟨fun hc => absurd hc (by omega), fun _ => ?_⟩
    refine CI.use (v_plsOf hv' g hV kW h0 (by omega)) ?_
    try simp only [EE_n, EE_s6, zz0, zz1, zz2, zz3, zz4, zz5, zz6, zz7, zz8, zz9, zz10, zz11, zs0, zs1, zs2, zs3, zs4, zs5, zs6, zs7, zs8, zs9, zs10, zs11, zr0, zr2, zr3, zr4, zr5, zr6, zr7, zr8, zr10, zr11, zr12, zr13, lc_lt, lc_le, lc_gt, lc_ge, lc_eq, true_and, and_true, List.length_cons, List.length_nil, ab_ia, Nat.reduceAdd, Nat.reduceLeDiff, Nat.reduceEqDiff, Nat.reduceLT, Int.reduceLT, Int.reduceLE, Int.reduceEq, Int.reduceNeg, true_or, or_true, false_or, or_false, not_false_eq_true, not_true_eq_false, false_implies, true_implies, forall_const, implies_true, Nat.zero_le, Nat.le_refl]
    refine ⟨fun h2 => ?_, fun h2 => ?_⟩
    · refine go_56_34 ?_
      simp only [sg_56_34, cl_I, cl_L, cl_R, e_goto, e_iinc, e_nil, l_inc2, lc_lt, lc_le, lc_gt, lc_ge, lc_eq, true_and, and_true, List.length_cons, List.length_nil, ab_ia, Nat.reduceAdd, Nat.reduceLeDiff, Nat.reduceEqDiff, Nat.reduceLT, Int.reduceLT, Int.reduceLE, Int.reduceEq, Int.reduceNeg, true_or, or_true, false_or, or_false, not_false_eq_true, not_true_eq_false, false_implies, true_implies, forall_const, implies_true, Nat.zero_le, Nat.le_refl]
      have eS : dwnS W h = W := by unfold dwnS; rw [if_neg h2]
      rw [eS] at ihk
      exact ⟨⟨by omega, by omega⟩, ihk _ hf hV⟩
    · have eS : dwnS W h = W.setH h 3 1 := by unfold dwnS; rw [if_pos (by omega)]
      rw [eS] at ihk
      exact ⟨by omega, ⟨by omega, by omega⟩, ihk _ (fr_ups (by omega) hf) (vP_dwn hV h0)⟩
theorem v_year (hv : isV L v) (g : gOK G) (hg : gP D G) (hV : vP D v V) (k : vOK G V) (hy : V.yr < 1000000) : CI 56 [vR v] (EE L, D) (fun r D' => r = yearC G V ∧ fr v D D' ∧ vP D' v (yearV G V)) := by
  have hv' := hv
  obtain ⟨⟨zz, zz0, zz1, zz2, zz3, zz4, zz5, zz6, zz7, zz8, zz9, zz10, zz11⟩, ⟨zr0, zr2, zr3, zr4, zr5, zr6, zr7, zr8, zr10, zr11, zr12, zr13⟩, zs0, zs1, zs2, zs3, zs4, zs5, zs6, zs7, zs8, zs9, zs10, zs11⟩ := hv
  have kk := k.1
  have k1 := yr1_ok k
  have n1 : (yr1 G V).np = V.np := np_of yr1_1.1
  have m1 : (yr1 G V).nh = V.nh := nh_of yr1_1.1
  have ks := sinkV_ok g k1
  have k3 := yr3_ok g k
  have m3 : (yr3 G V).nh = V.nh := nh_of yr3_1.1
  have y3 : (yr3 G V).yr = V.yr := yr_of yr3_1.1
  refine Sx.un (y := 56) (n := 0) (lo := [vR v, vU, vU]) (st := []) (u := (0, 0)) ?_
  refine go_56_0 ?_
  simp only [sg_56_0, cl_I, cl_L, cl_R, e_aload_n, e_cv1, e_iconst, e_istore_n, e_nil, fl_0, fl_I, fl_L, fl_R, l_ldA0, l_st1, l_st2, rk_1, EE_n, zs0, zz0, lc_lt, lc_le, lc_gt, lc_ge, lc_eq, true_and, and_true, List.length_cons, List.length_nil, ab_ia, Nat.reduceAdd, Nat.reduceLeDiff, Nat.reduceEqDiff, Nat.reduceLT, Int.reduceLT, Int.reduceLE, Int.reduceEq, Int.reduceNeg, true_or, or_true, false_or, or_false, not_false_eq_true, not_true_eq_false, false_implies, true_implies, forall_const, implies_true, Nat.zero_le, Nat.le_refl]
  refine (v_ice hv' g hg hV k).mono ?_
  rintro r1 D1 ⟨rfl, hf1, hV1⟩
  have hV1 : vP D1 v (yr1 G V) := hV1
  refine v_year_l1 (D := D1) hv' g (gP_fr hv' hf1 hg) k1 (fun D2 hf2 hV2 => ?_) V.nh.toNat 0 D1 (by omega) (by omega) fr.refl (by rw [← dep_id (V := yr1 G V)] at hV1; exact hV1)
  have hf2 := hf1.trans hf2
  have b1 := iceC_bd (G := G) (V := V) (k := V.np.toNat)
  refine go_56_14 ?_
  simp only [sg_56_14, cl_I, cl_L, cl_R, e_aload_n, e_cv1, e_iadd, e_iconst, e_iload_n, e_istore_n, e_nil, fl_0, fl_I, fl_L, fl_R, l_ld1, l_ldA0, l_st1, l_st2, rk_1, EE_n, zs0, zz0, lc_lt, lc_le, lc_gt, lc_ge, lc_eq, true_and, and_true, List.length_cons, List.length_nil, ab_ia, Nat.reduceAdd, Nat.reduceLeDiff, Nat.reduceEqDiff, Nat.reduceLT, Int.reduceLT, Int.reduceLE, Int.reduceEq, Int.reduceNeg, true_or, or_true, false_or, or_false, not_false_eq_true, not_true_eq_false, false_implies, true_implies, forall_const, implies_true, Nat.zero_le, Nat.le_refl]
  refine (v_rot hv' g (gP_fr hv' hf2 hg) hV2 ks).mono ?_
  rintro r2 D3 ⟨rfl, hf3, hV3⟩
  have hf3 := hf2.trans hf3
  have es : (sinkV G (yr1 G V)).np = V.np := n1
  rw [es] at hV3 ⊢
  have hV3 : vP D3 v (yr3 G V) := hV3
  have b2 := rotC_bd (G := G) (V := sinkV G (yr1 G V)) (k := V.np.toNat)
  refine ⟨⟨by omega, by omega⟩, ?_⟩
  refine v_year_l2 (D := D3) (V := yr3 G V) hv' g k3 (fun D4 hf4 hV4 => ?_) V.nh.toNat 0 D3 (by omega) (by omega) fr.refl hV3
  have hf4 := hf3.trans hf4
  rw [m3] at hV4
  have ey : D4 v 14 = V.yr := by rw [hV4.1.2.2, yr_of dwnV_1.1, y3]
  refine go_56_36 ?_
  simp only [sg_56_36, cl_I, cl_L, cl_R, e_aload_n, e_dupI, e_dupR, e_get0, e_iadd, e_iconst, e_iload_n, e_iret0, e_nil, e_put0, l_ld1, l_ldA0, wRef_some, EE_n, zs0, zz0, ey, lc_lt, lc_le, lc_gt, lc_ge, lc_eq, true_and, and_true, List.length_cons, List.length_nil, ab_ia, Nat.reduceAdd, Nat.reduceLeDiff, Nat.reduceEqDiff, Nat.reduceLT, Int.reduceLT, Int.reduceLE, Int.reduceEq, Int.reduceNeg, true_or, or_true, false_or, or_false, not_false_eq_true, not_true_eq_false, false_implies, true_implies, forall_const, implies_true, Nat.zero_le, Nat.le_refl]
  refine ⟨⟨by omega, by omega⟩, retI ⟨rfl, fr_ups (by omega) hf4, vP_tick hV4 ?_⟩⟩
  rw [yr_of dwnV_1.1, y3]
end VilYear
