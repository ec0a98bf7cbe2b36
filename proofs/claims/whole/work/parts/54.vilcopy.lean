/-! the class: floors that are off, villages copied, cleared, houses -/
section VilCopy
variable {L v : Nat} {D : ab_D} {G : Gr} {V : Vil}
/-- what has been seen of a floor -/
def offI (V : Vil) (h : Int) (p : Nat) (any gr le : Int) : Prop := (any = 0 ∧ gr = 0 ∧ le = 0 ∧ ofM V h p = -100 ∧ ofm V h p = 100) ∨ (any = 1 ∧ gr = ofM V h p ∧ le = ofm V h p ∧ -15 ≤ ofm V h p ∧ ofm V h p ≤ ofM V h p ∧ ofM V h p ≤ 15)
theorem v_off_loop {Q : Option ab_V → ab_H → Prop} {h : Int} (hv : isV L v) (g : gOK G) (hV : vP D v V) (k : vOK G V) (j0 : 0 ≤ h) (j1 : h < V.nh) (hq : Q (some (.inl (offv V h))) (EE L, D)) :
    ∀ (t : Nat) (p any gr le : Int) (x6 : ab_V), 0 ≤ p → p + t = V.np → offI V h p.toNat any gr le → Sx 55 8 [vR v, vI h, vI any, vI gr, vI le, vI p, x6] [] (EE L, D) (0, 0) Q := by
  have hv' := hv
  obtain ⟨⟨zz, zz0, zz1, zz2, zz3, zz4, zz5, zz6, zz7, zz8, zz9, zz10, zz11⟩, ⟨zr0, zr2, zr3, zr4, zr5, zr6, zr7, zr8, zr10, zr11, zr12, zr13⟩, zs0, zs1, zs2, zs3, zs4, zs5, zs6, zs7, zs8, zs9, zs10, zs11⟩ := hv
  have kk := k.1
  have e1 := hV.1.1
  intro t
  induction t with
  | zero =>
    intro p any gr le x6 h0 ht hi
    refine go_55_8 ?_
    simp only [sg_55_8, cl_I, cl_L, cl_R, e_aload_n, e_cv3, e_get0, e_get1, e_goto, e_iaload, e_icmp_ge, e_if_eq, e_iload, e_iload_n, e_istore, e_isub, e_max, e_nil, fl_0, fl_I, fl_L, fl_R, l_ld1, l_ld2, l_ld3, l_ld5, l_ld6, l_ldA0, l_st6, rk_1, wRef_some, EE_n, zr4, zr5, zs0, zs3, zs4, zz0, zz3, zz4, e1, lc_lt, lc_le, lc_gt, lc_ge, lc_eq, true_and, and_true, List.length_cons, List.length_nil, ab_ia, Nat.reduceAdd, Nat.reduceLeDiff, Nat.reduceEqDiff, Nat.reduceLT, Int.reduceLT, Int.reduceLE, Int.reduceEq, Int.reduceNeg, true_or, or_true, false_or, or_false, not_false_eq_true, not_true_eq_false, false_implies, true_implies, forall_const, implies_true, Nat.zero_le, Nat.le_refl]
    refine ⟨fun _ => ?_, fun hc => absurd hc (by omega)⟩
    refine go_55_47 ?_
    simp only [sg_55_47, cl_I, cl_L, cl_R, e_iload, e_iload_n, e_iret0, e_isub, e_nil, l_ld3, l_ld4, lc_lt, lc_le, lc_gt, lc_ge, lc_eq, true_and, and_true, List.length_cons, List.length_nil, ab_ia, Nat.reduceAdd, Nat.reduceLeDiff, Nat.reduceEqDiff, Nat.reduceLT, Int.reduceLT, Int.reduceLE, Int.reduceEq, Int.reduceNeg, true_or, or_true, false_or, or_false, not_false_eq_true, not_true_eq_false, false_implies, true_implies, forall_const, implies_true, Nat.zero_le, Nat.le_refl]
    rw [show p.toNat = V.np.toNat by omega] at hi
    have eo : offv V h = gr - le := by
      unfold offv
      rcases hi with ⟨i1, i2, i3, i4, i5⟩ | ⟨i1, i2, i3, i4, i5, i6⟩
      · rw [if_pos (by omega)]; omega
      · rw [if_neg (by omega)]; omega
    have hb : -15 ≤ gr ∧ gr ≤ 15 ∧ -15 ≤ le ∧ le ≤ 15 := by
      rcases hi with ⟨i1, i2, i3, i4, i5⟩ | ⟨i1, i2, i3, i4, i5, i6⟩ <;> omega
    rw [eo] at hq
    exact ⟨⟨by omega, by omega⟩, hq⟩
  | succ t ih =>
    intro p any gr le x6 h0 ht hi
    obtain ⟨w0, w1, w2, w3, w4, w5, w7⟩ := hV.2.1 p h0 (by omega)
    obtain ⟨q0, q1, q2, q3, q4, q5, q7⟩ := k.2.1 p h0 (by omega)
    have ep : ((p.toNat : Nat) : Int) = p := by omega
    have eM : ofM V h (p + 1).toNat = if plb V h p = true then (if ofM V h p.toNat < V.p p 2 - V.p p 3 then V.p p 2 - V.p p 3 else ofM V h p.toNat) else ofM V h p.toNat := by
      rw [show (p + 1).toNat = p.toNat + 1 by omega, ofM, ep]
    have em : ofm V h (p + 1).toNat = if plb V h p = true then (if V.p p 2 - V.p p 3 < ofm V h p.toNat then V.p p 2 - V.p p 3 else ofm V h p.toNat) else ofm V h p.toNat := by
      rw [show (p + 1).toNat = p.toNat + 1 by omega, ofm, ep]
    refine go_55_8 ?_
    simp only [sg_55_8, cl_I, cl_L, cl_R, e_aload_n, e_cv3, e_get0, e_get1, e_goto, e_iaload, e_icmp_ge, e_if_eq, e_iload, e_iload_n, e_istore, e_isub, e_max, e_nil, fl_0, fl_I, fl_L, fl_R, l_ld1, l_ld2, l_ld3, l_ld5, l_ld6, l_ldA0, l_st6, rk_1, wRef_some, EE_n, zr4, zr5, zs0, zs3, zs4, zz0, zz3, zz4, e1, lc_lt, lc_le, lc_gt, lc_ge, lc_eq, true_and, and_true, List.length_cons, List.length_nil, ab_ia, Nat.reduceAdd, Nat.reduceLeDiff, Nat.reduceEqDiff, Nat.reduceLT, Int.reduceLT, Int.reduceLE, Int.reduceEq, Int.reduceNeg, true_or, or_true, false_or, or_false, not_false_eq_true, not_true_eq_false, false_implies, true_implies, forall_const, implies_true, Nat.zero_le, Nat.le_refl]
    refine ⟨fun hc => absurd hc (by omega), fun _ => ?_⟩
    refine CB.use (v_isPl hv' g hV k h0 (by omega) j0 j1) (fun h2 => ?_) (fun h2 => ?_)
    · try simp only [EE_n, EE_s6, zz0, zz1, zz2, zz3, zz4, zz5, zz6, zz7, zz8, zz9, zz10, zz11, zs0, zs1, zs2, zs3, zs4, zs5, zs6, zs7, zs8, zs9, zs10, zs11, zr0, zr2, zr3, zr4, zr5, zr6, zr7, zr8, zr10, zr11, zr12, zr13, w2, w3, lc_lt, lc_le, lc_gt, lc_ge, lc_eq, true_and, and_true, List.length_cons, List.length_nil, ab_ia, Nat.reduceAdd, Nat.reduceLeDiff, Nat.reduceEqDiff, Nat.reduceLT, Int.reduceLT, Int.reduceLE, Int.reduceEq, Int.reduceNeg, true_or, or_true, false_or, or_false, not_false_eq_true, not_true_eq_false, false_implies, true_implies, forall_const, implies_true, Nat.zero_le, Nat.le_refl]
      rw [if_pos (plb_t h2)] at eM em
      refine ⟨by omega, by omega, ⟨by omega, by omega⟩, fun h3 => ?_, fun h3 => ?_⟩
      · refine go_55_33 ?_
        simp only [sg_55_33, cl_I, cl_L, cl_R, e_goto, e_if_eq, e_iload, e_iload_n, e_istore_n, e_min, e_nil, l_ld2, l_ld4, l_ld6, l_st3, lc_lt, lc_le, lc_gt, lc_ge, lc_eq, true_and, and_true, List.length_cons, List.length_nil, ab_ia, Nat.reduceAdd, Nat.reduceLeDiff, Nat.reduceEqDiff, Nat.reduceLT, Int.reduceLT, Int.reduceLE, Int.reduceEq, Int.reduceNeg, true_or, or_true, false_or, or_false, not_false_eq_true, not_true_eq_false, false_implies, true_implies, forall_const, implies_true, Nat.zero_le, Nat.le_refl]
        refine ⟨fun _ => ?_, fun h4 => absurd h3 h4⟩
        refine go_55_41 ?_
        simp only [sg_55_41, cl_I, cl_L, cl_R, e_goto, e_iconst, e_iinc, e_iload, e_istore, e_istore_n, e_nil, l_inc5, l_ld6, l_st2, l_st4, lc_lt, lc_le, lc_gt, lc_ge, lc_eq, true_and, and_true, List.length_cons, List.length_nil, ab_ia, Nat.reduceAdd, Nat.reduceLeDiff, Nat.reduceEqDiff, Nat.reduceLT, Int.reduceLT, Int.reduceLE, Int.reduceEq, Int.reduceNeg, true_or, or_true, false_or, or_false, not_false_eq_true, not_true_eq_false, false_implies, true_implies, forall_const, implies_true, Nat.zero_le, Nat.le_refl]
        refine ⟨⟨by omega, by omega⟩, ih (p + 1) _ _ _ _ (by omega) (by omega) (Or.inr ⟨rfl, ?_⟩)⟩
        rcases hi with ⟨i1, i2, i3, i4, i5⟩ | ⟨i1, i2, i3, i4, i5, i6⟩
        · rw [if_pos (by omega)] at eM em
          omega
        · omega
      · refine go_55_34 ?_
        simp only [sg_55_34, cl_I, cl_L, cl_R, e_goto, e_if_eq, e_iload, e_iload_n, e_istore_n, e_min, e_nil, l_ld2, l_ld4, l_ld6, l_st3, lc_lt, lc_le, lc_gt, lc_ge, lc_eq, true_and, and_true, List.length_cons, List.length_nil, ab_ia, Nat.reduceAdd, Nat.reduceLeDiff, Nat.reduceEqDiff, Nat.reduceLT, Int.reduceLT, Int.reduceLE, Int.reduceEq, Int.reduceNeg, true_or, or_true, false_or, or_false, not_false_eq_true, not_true_eq_false, false_implies, true_implies, forall_const, implies_true, Nat.zero_le, Nat.le_refl]
        refine ⟨fun h4 => absurd h4 h3, fun _ => ?_⟩
        refine go_55_42 ?_
        simp only [sg_55_42, cl_I, cl_L, cl_R, e_goto, e_iconst, e_iinc, e_istore, e_istore_n, e_nil, l_inc5, l_st2, l_st4, lc_lt, lc_le, lc_gt, lc_ge, lc_eq, true_and, and_true, List.length_cons, List.length_nil, ab_ia, Nat.reduceAdd, Nat.reduceLeDiff, Nat.reduceEqDiff, Nat.reduceLT, Int.reduceLT, Int.reduceLE, Int.reduceEq, Int.reduceNeg, true_or, or_true, false_or, or_false, not_false_eq_true, not_true_eq_false, false_implies, true_implies, forall_const, implies_true, Nat.zero_le, Nat.le_refl]
        refine ⟨⟨by omega, by omega⟩, ih (p + 1) _ _ _ _ (by omega) (by omega) (Or.inr ⟨rfl, ?_⟩)⟩
        rcases hi with ⟨i1, i2, i3, i4, i5⟩ | ⟨i1, i2, i3, i4, i5, i6⟩
        · omega
        · rw [eM, em, i2, i3]
          refine ⟨rfl, rfl, ?_⟩
          split <;> split <;> omega
    · try simp only [lc_lt, lc_le, lc_gt, lc_ge, lc_eq, true_and, and_true, List.length_cons, List.length_nil, ab_ia, Nat.reduceAdd, Nat.reduceLeDiff, Nat.reduceEqDiff, Nat.reduceLT, Int.reduceLT, Int.reduceLE, Int.reduceEq, Int.reduceNeg, true_or, or_true, false_or, or_false, not_false_eq_true, not_true_eq_false, false_implies, true_implies, forall_const, implies_true, Nat.zero_le, Nat.le_refl]
      refine go_55_45 ?_
      simp only [sg_55_45, cl_I, cl_L, cl_R, e_goto, e_iinc, e_nil, l_inc5, lc_lt, lc_le, lc_gt, lc_ge, lc_eq, true_and, and_true, List.length_cons, List.length_nil, ab_ia, Nat.reduceAdd, Nat.reduceLeDiff, Nat.reduceEqDiff, Nat.reduceLT, Int.reduceLT, Int.reduceLE, Int.reduceEq, Int.reduceNeg, true_or, or_true, false_or, or_false, not_false_eq_true, not_true_eq_false, false_implies, true_implies, forall_const, implies_true, Nat.zero_le, Nat.le_refl]
      rw [if_neg (fun q => h2 (isPl_plb.mpr q))] at eM em
      refine ⟨⟨by omega, by omega⟩, ih (p + 1) _ _ _ _ (by omega) (by omega) ?_⟩
      unfold offI
      rw [eM, em]
      exact hi
theorem v_off {h : Int} (hv : isV L v) (g : gOK G) (hV : vP D v V) (k : vOK G V) (j0 : 0 ≤ h) (j1 : h < V.nh) : CI 55 [vR v, vI h] (EE L, D) (fun r D' => r = offv V h ∧ D' = D) := by
  refine Sx.un (y := 55) (n := 0) (lo := [vR v, vI h, vU, vU, vU, vU, vU]) (st := []) (u := (0, 0)) ?_
  refine go_55_0 ?_
  simp only [sg_55_0, cl_I, cl_L, cl_R, e_iconst, e_istore, e_istore_n, e_nil, l_st2, l_st3, l_st4, l_st5, lc_lt, lc_le, lc_gt, lc_ge, lc_eq, true_and, and_true, List.length_cons, List.length_nil, ab_ia, Nat.reduceAdd, Nat.reduceLeDiff, Nat.reduceEqDiff, Nat.reduceLT, Int.reduceLT, Int.reduceLE, Int.reduceEq, Int.reduceNeg, true_or, or_true, false_or, or_false, not_false_eq_true, not_true_eq_false, false_implies, true_implies, forall_const, implies_true, Nat.zero_le, Nat.le_refl]
  exact v_off_loop hv g hV k j0 j1 (retI ⟨rfl, rfl⟩) V.np.toNat 0 0 0 0 vU (by omega) (by have := k.1; omega) (Or.inl ⟨rfl, rfl, rfl, rfl, rfl⟩)
/-- the rows of the first p poles -/
def cpP (D : ab_D) (v : Nat) (V : Vil) (n : Int) : Prop := ∀ p, 0 ≤ p → p < n → D (v + 1) p.toNat = V.p p 0 ∧ D (v + 2) p.toNat = V.p p 1 ∧ D (v + 3) p.toNat = V.p p 2 ∧ D (v + 4) p.toNat = V.p p 3 ∧ D (v + 5) p.toNat = V.p p 4 ∧ D (v + 6) p.toNat = V.p p 5 ∧ D (v + 7) p.toNat = V.p p 7
def cpH (D : ab_D) (v : Nat) (V : Vil) (n : Int) : Prop := ∀ h, 0 ≤ h → h < n → D (v + 8) h.toNat = V.h h 0 ∧ D (v + 9) h.toNat = V.h h 2 ∧ D (v + 10) h.toNat = V.h h 3
variable {u : Nat}
theorem v_copy_l1 {Q : Option ab_V → ab_H → Prop} (hv : isV L v) (hu : isV L u) (hd : v + 11 < u ∨ u + 11 < v) (hV : vP D u V) (k : vOK G V)
    (hq : ∀ D', fr v D D' → D' v 14 = V.yr → D' v 1 = V.np → cpP D' v V V.np → Sx 45 72 [vR v, vR u, vI V.np] [] (EE L, D') (0, 0) Q) :
    ∀ (t : Nat) (p : Int) (D1 : ab_D), 0 ≤ p → p + t = V.np → fr v D D1 → D1 v 14 = V.yr → D1 v 1 = V.np → cpP D1 v V p → Sx 45 10 [vR v, vR u, vI p] [] (EE L, D1) (0, 0) Q := by
  obtain ⟨⟨zz, zz0, zz1, zz2, zz3, zz4, zz5, zz6, zz7, zz8, zz9, zz10, zz11⟩, ⟨zr0, zr2, zr3, zr4, zr5, zr6, zr7, zr8, zr10, zr11, zr12, zr13⟩, zs0, zs1, zs2, zs3, zs4, zs5, zs6, zs7, zs8, zs9, zs10, zs11⟩ := hv
  obtain ⟨⟨yy, yy0, yy1, yy2, yy3, yy4, yy5, yy6, yy7, yy8, yy9, yy10, yy11⟩, ⟨yr0, yr2, yr3, yr4, yr5, yr6, yr7, yr8, yr10, yr11, yr12, yr13⟩, ys0, ys1, ys2, ys3, ys4, ys5, ys6, ys7, ys8, ys9, ys10, ys11⟩ := hu
  have kk := k.1
  intro t
  induction t with
  | zero =>
    intro p D1 h0 ht hf ey e1 hc
    refine go_45_10 ?_
    simp only [sg_45_10, cl_I, cl_L, cl_R, e_aload_n, e_baload, e_bastore, e_get0, e_get1, e_goto, e_iaload, e_iastore, e_icmp_ge, e_iinc, e_iload_n, e_nil, l_inc2, l_ld2, l_ldA0, l_ldA1, wRef_some, EE_n, zr2, zr3, zr4, zr5, zr6, zr7, zr8, zs0, zs1, zs2, zs3, zs4, zs5, zs6, zs7, zz0, zz1, zz2, zz3, zz4, zz5, zz6, zz7, e1, yy0, yy1, yy2, yy3, yy4, yy5, yy6, yy7, ys0, ys1, ys2, ys3, ys4, ys5, ys6, ys7, yr2, yr3, yr4, yr5, yr6, yr7, yr8, lc_lt, lc_le, lc_gt, lc_ge, lc_eq, true_and, and_true, List.length_cons, List.length_nil, ab_ia, Nat.reduceAdd, Nat.reduceLeDiff, Nat.reduceEqDiff, Nat.reduceLT, Int.reduceLT, Int.reduceLE, Int.reduceEq, Int.reduceNeg, true_or, or_true, false_or, or_false, not_false_eq_true, not_true_eq_false, false_implies, true_implies, forall_const, implies_true, Nat.zero_le, Nat.le_refl]
    refine ⟨fun _ => ?_, fun hc => absurd hc (by omega)⟩
    have e : p = V.np := by omega
    subst e
    exact hq D1 hf ey e1 hc
  | succ t ih =>
    intro p D1 h0 ht hf ey e1 hc
    obtain ⟨w0, w1, w2, w3, w4, w5, w7⟩ := hV.2.1 p h0 (by omega)
    have q4 := (k.2.1 p h0 (by omega)).2.2.2.2.1
    rw [← hf (u + 1) (by omega)] at w0
    rw [← hf (u + 2) (by omega)] at w1
    rw [← hf (u + 3) (by omega)] at w2
    rw [← hf (u + 4) (by omega)] at w3
    rw [← hf (u + 5) (by omega)] at w4
    rw [← hf (u + 6) (by omega)] at w5
    rw [← hf (u + 7) (by omega)] at w7
    refine go_45_10 ?_
    simp only [sg_45_10, cl_I, cl_L, cl_R, e_aload_n, e_baload, e_bastore, e_get0, e_get1, e_goto, e_iaload, e_iastore, e_icmp_ge, e_iinc, e_iload_n, e_nil, l_inc2, l_ld2, l_ldA0, l_ldA1, wRef_some, EE_n, zr2, zr3, zr4, zr5, zr6, zr7, zr8, zs0, zs1, zs2, zs3, zs4, zs5, zs6, zs7, zz0, zz1, zz2, zz3, zz4, zz5, zz6, zz7, e1, yy0, yy1, yy2, yy3, yy4, yy5, yy6, yy7, ys0, ys1, ys2, ys3, ys4, ys5, ys6, ys7, yr2, yr3, yr4, yr5, yr6, yr7, yr8, lc_lt, lc_le, lc_gt, lc_ge, lc_eq, true_and, and_true, List.length_cons, List.length_nil, ab_ia, Nat.reduceAdd, Nat.reduceLeDiff, Nat.reduceEqDiff, Nat.reduceLT, Int.reduceLT, Int.reduceLE, Int.reduceEq, Int.reduceNeg, true_or, or_true, false_or, or_false, not_false_eq_true, not_true_eq_false, false_implies, true_implies, forall_const, implies_true, Nat.zero_le, Nat.le_refl]
    simp (disch := omega) only [ups_ne1, w0, w1, w2, w3, w4, w5, w7]
    refine ⟨fun hc => absurd hc (by omega), fun _ => ⟨by omega, by omega, by omega, by omega, by omega, by omega, by omega, by omega, by omega, by omega, q4, by omega, by omega, by omega, by omega, ⟨by omega, by omega⟩, ih (p + 1) _ (by omega) (by omega) ?_ ?_ ?_ ?_⟩⟩
    · exact fr_ups (by omega) (fr_ups (by omega) (fr_ups (by omega) (fr_ups (by omega) (fr_ups (by omega) (fr_ups (by omega) (fr_ups (by omega) hf))))))
    · simp (disch := omega) only [ups_ne1]; exact ey
    · simp (disch := omega) only [ups_ne1]; exact e1
    · intro q q0 q1
      by_cases z : q = p
      · subst z
        simp (disch := omega) only [ups_ne1, ups_self, and_self]
      · simp (disch := omega) only [ups_ne1, ups_ne2]
        exact hc q q0 (by omega)
theorem v_copy_l2 {Q : Option ab_V → ab_H → Prop} (hv : isV L v) (hu : isV L u) (hd : v + 11 < u ∨ u + 11 < v) (hV : vP D u V) (k : vOK G V)
    (hq : ∀ D', fr v D D' → D' v 14 = V.yr → D' v 1 = V.np → D' v 9 = V.nh → cpP D' v V V.np → cpH D' v V V.nh → Sx 45 108 [vR v, vR u, vI V.nh] [] (EE L, D') (0, 0) Q) :
    ∀ (t : Nat) (p : Int) (D1 : ab_D), 0 ≤ p → p + t = V.nh → fr v D D1 → D1 v 14 = V.yr → D1 v 1 = V.np → D1 v 9 = V.nh → cpP D1 v V V.np → cpH D1 v V p → Sx 45 78 [vR v, vR u, vI p] [] (EE L, D1) (0, 0) Q := by
  obtain ⟨⟨zz, zz0, zz1, zz2, zz3, zz4, zz5, zz6, zz7, zz8, zz9, zz10, zz11⟩, ⟨zr0, zr2, zr3, zr4, zr5, zr6, zr7, zr8, zr10, zr11, zr12, zr13⟩, zs0, zs1, zs2, zs3, zs4, zs5, zs6, zs7, zs8, zs9, zs10, zs11⟩ := hv
  obtain ⟨⟨yy, yy0, yy1, yy2, yy3, yy4, yy5, yy6, yy7, yy8, yy9, yy10, yy11⟩, ⟨yr0, yr2, yr3, yr4, yr5, yr6, yr7, yr8, yr10, yr11, yr12, yr13⟩, ys0, ys1, ys2, ys3, ys4, ys5, ys6, ys7, ys8, ys9, ys10, ys11⟩ := hu
  have kk := k.1
  intro t
  induction t with
  | zero =>
    intro p D1 h0 ht hf ey e1 e9 hp hc
    refine go_45_78 ?_
    simp only [sg_45_78, cl_I, cl_L, cl_R, e_aload_n, e_baload, e_bastore, e_get0, e_get1, e_goto, e_iaload, e_iastore, e_icmp_ge, e_iinc, e_iload_n, e_nil, l_inc2, l_ld2, l_ldA0, l_ldA1, wRef_some, EE_n, zr10, zr11, zr12, zs0, zs10, zs8, zs9, zz0, zz10, zz8, zz9, e9, yy0, yy8, yy9, yy10, ys0, ys8, ys9, ys10, yr10, yr11, yr12, lc_lt, lc_le, lc_gt, lc_ge, lc_eq, true_and, and_true, List.length_cons, List.length_nil, ab_ia, Nat.reduceAdd, Nat.reduceLeDiff, Nat.reduceEqDiff, Nat.reduceLT, Int.reduceLT, Int.reduceLE, Int.reduceEq, Int.reduceNeg, true_or, or_true, false_or, or_false, not_false_eq_true, not_true_eq_false, false_implies, true_implies, forall_const, implies_true, Nat.zero_le, Nat.le_refl]
    refine ⟨fun _ => ?_, fun hc => absurd hc (by omega)⟩
    have e : p = V.nh := by omega
    subst e
    exact hq D1 hf ey e1 e9 hp hc
  | succ t ih =>
    intro p D1 h0 ht hf ey e1 e9 hp hc
    obtain ⟨w0, w1, w2⟩ := hV.2.2.1 p h0 (by omega)
    have q3 := (k.2.2.1 p h0 (by omega)).2.2.2
    rw [← hf (u + 8) (by omega)] at w0
    rw [← hf (u + 9) (by omega)] at w1
    rw [← hf (u + 10) (by omega)] at w2
    refine go_45_78 ?_
    simp only [sg_45_78, cl_I, cl_L, cl_R, e_aload_n, e_baload, e_bastore, e_get0, e_get1, e_goto, e_iaload, e_iastore, e_icmp_ge, e_iinc, e_iload_n, e_nil, l_inc2, l_ld2, l_ldA0, l_ldA1, wRef_some, EE_n, zr10, zr11, zr12, zs0, zs10, zs8, zs9, zz0, zz10, zz8, zz9, e9, yy0, yy8, yy9, yy10, ys0, ys8, ys9, ys10, yr10, yr11, yr12, lc_lt, lc_le, lc_gt, lc_ge, lc_eq, true_and, and_true, List.length_cons, List.length_nil, ab_ia, Nat.reduceAdd, Nat.reduceLeDiff, Nat.reduceEqDiff, Nat.reduceLT, Int.reduceLT, Int.reduceLE, Int.reduceEq, Int.reduceNeg, true_or, or_true, false_or, or_false, not_false_eq_true, not_true_eq_false, false_implies, true_implies, forall_const, implies_true, Nat.zero_le, Nat.le_refl]
    simp (disch := omega) only [ups_ne1, w0, w1, w2]
    refine ⟨fun hc => absurd hc (by omega), fun _ => ⟨by omega, by omega, by omega, by omega, by omega, by omega, q3, ⟨by omega, by omega⟩, ih (p + 1) _ (by omega) (by omega) ?_ ?_ ?_ ?_ ?_ ?_⟩⟩
    · exact fr_ups (by omega) (fr_ups (by omega) (fr_ups (by omega) hf))
    · simp (disch := omega) only [ups_ne1]; exact ey
    · simp (disch := omega) only [ups_ne1]; exact e1
    · simp (disch := omega) only [ups_ne1]; exact e9
    · intro q q0 q1
      simp (disch := omega) only [ups_ne1]
      exact hp q q0 q1
    · intro q q0 q1
      by_cases z : q = p
      · subst z
        simp (disch := omega) only [ups_ne1, ups_self, and_self]
      · simp (disch := omega) only [ups_ne1, ups_ne2]
        exact hc q q0 (by omega)
theorem v_copy_l3 {Q : Option ab_V → ab_H → Prop} (hv : isV L v) (hu : isV L u) (hd : v + 11 < u ∨ u + 11 < v) (hV : vP D u V) (k : vOK G V)
    (hq : ∀ D', fr v D D' → vP D' v V → Q none (EE L, D')) :
    ∀ (t : Nat) (p : Int) (D1 : ab_D), 0 ≤ p → p + t = 56 → fr v D D1 → D1 v 14 = V.yr → D1 v 1 = V.np → D1 v 9 = V.nh → cpP D1 v V V.np → cpH D1 v V V.nh → (∀ a, 0 ≤ a → a < p → D1 (v + 11) a.toNat = D (u + 11) a.toNat) → Sx 45 110 [vR v, vR u, vI p] [] (EE L, D1) (0, 0) Q := by
  obtain ⟨⟨zz, zz0, zz1, zz2, zz3, zz4, zz5, zz6, zz7, zz8, zz9, zz10, zz11⟩, ⟨zr0, zr2, zr3, zr4, zr5, zr6, zr7, zr8, zr10, zr11, zr12, zr13⟩, zs0, zs1, zs2, zs3, zs4, zs5, zs6, zs7, zs8, zs9, zs10, zs11⟩ := hv
  obtain ⟨⟨yy, yy0, yy1, yy2, yy3, yy4, yy5, yy6, yy7, yy8, yy9, yy10, yy11⟩, ⟨yr0, yr2, yr3, yr4, yr5, yr6, yr7, yr8, yr10, yr11, yr12, yr13⟩, ys0, ys1, ys2, ys3, ys4, ys5, ys6, ys7, ys8, ys9, ys10, ys11⟩ := hu
  intro t
  induction t with
  | zero =>
    intro p D1 h0 ht hf ey e1 e9 hp hh hc
    refine go_45_110 ?_
    simp only [sg_45_110, cl_I, cl_L, cl_R, e_aload_n, e_bipush, e_get1, e_goto, e_iaload, e_iastore, e_icmp_ge, e_iinc, e_iload_n, e_nil, l_inc2, l_ld2, l_ldA0, l_ldA1, wRef_some, EE_n, zr13, zs0, zs11, zz0, zz11, yy0, yy11, ys0, ys11, yr13, lc_lt, lc_le, lc_gt, lc_ge, lc_eq, true_and, and_true, List.length_cons, List.length_nil, ab_ia, Nat.reduceAdd, Nat.reduceLeDiff, Nat.reduceEqDiff, Nat.reduceLT, Int.reduceLT, Int.reduceLE, Int.reduceEq, Int.reduceNeg, true_or, or_true, false_or, or_false, not_false_eq_true, not_true_eq_false, false_implies, true_implies, forall_const, implies_true, Nat.zero_le, Nat.le_refl]
    refine ⟨fun _ => ?_, fun hc => absurd hc (by omega)⟩
    refine go_45_123 ?_
    simp only [sg_45_123, cl_I, cl_L, cl_R, e_nil, e_vret, lc_lt, lc_le, lc_gt, lc_ge, lc_eq, true_and, and_true, List.length_cons, List.length_nil, ab_ia, Nat.reduceAdd, Nat.reduceLeDiff, Nat.reduceEqDiff, Nat.reduceLT, Int.reduceLT, Int.reduceLE, Int.reduceEq, Int.reduceNeg, true_or, or_true, false_or, or_false, not_false_eq_true, not_true_eq_false, false_implies, true_implies, forall_const, implies_true, Nat.zero_le, Nat.le_refl]
    refine hq D1 hf ⟨⟨e1, e9, ey⟩, hp, hh, fun a a0 a1 => ?_⟩
    rw [hc a a0 (by omega)]
    exact hV.2.2.2 a a0 a1
  | succ t ih =>
    intro p D1 h0 ht hf ey e1 e9 hp hh hc
    have w := congrFun (hf (u + 11) (by omega)) p.toNat
    refine go_45_110 ?_
    simp only [sg_45_110, cl_I, cl_L, cl_R, e_aload_n, e_bipush, e_get1, e_goto, e_iaload, e_iastore, e_icmp_ge, e_iinc, e_iload_n, e_nil, l_inc2, l_ld2, l_ldA0, l_ldA1, wRef_some, EE_n, zr13, zs0, zs11, zz0, zz11, yy0, yy11, ys0, ys11, yr13, w, lc_lt, lc_le, lc_gt, lc_ge, lc_eq, true_and, and_true, List.length_cons, List.length_nil, ab_ia, Nat.reduceAdd, Nat.reduceLeDiff, Nat.reduceEqDiff, Nat.reduceLT, Int.reduceLT, Int.reduceLE, Int.reduceEq, Int.reduceNeg, true_or, or_true, false_or, or_false, not_false_eq_true, not_true_eq_false, false_implies, true_implies, forall_const, implies_true, Nat.zero_le, Nat.le_refl]
    refine ⟨fun hc => absurd hc (by omega), fun _ => ⟨by omega, by omega, ⟨by omega, by omega⟩, ih (p + 1) _ (by omega) (by omega) ?_ ?_ ?_ ?_ ?_ ?_ ?_⟩⟩
    · exact fr_ups (by omega) hf
    · simp (disch := omega) only [ups_ne1]; exact ey
    · simp (disch := omega) only [ups_ne1]; exact e1
    · simp (disch := omega) only [ups_ne1]; exact e9
    · intro q q0 q1
      simp (disch := omega) only [ups_ne1]
      exact hp q q0 q1
    · intro q q0 q1
      simp (disch := omega) only [ups_ne1]
      exact hh q q0 q1
    · intro q q0 q1
      by_cases z : q = p
      · subst z
        rw [ups_self]
      · rw [ups_ne2 (by omega)]
        exact hc q q0 (by omega)
theorem v_copy (hv : isV L v) (hu : isV L u) (hd : v + 11 < u ∨ u + 11 < v) (hV : vP D u V) (k : vOK G V) : CV 45 [vR v, vR u] (EE L, D) (fun D' => fr v D D' ∧ vP D' v V) := by
  have hv' := hv
  have hu' := hu
  obtain ⟨⟨zz, zz0, zz1, zz2, zz3, zz4, zz5, zz6, zz7, zz8, zz9, zz10, zz11⟩, ⟨zr0, zr2, zr3, zr4, zr5, zr6, zr7, zr8, zr10, zr11, zr12, zr13⟩, zs0, zs1, zs2, zs3, zs4, zs5, zs6, zs7, zs8, zs9, zs10, zs11⟩ := hv
  obtain ⟨⟨yy, yy0, yy1, yy2, yy3, yy4, yy5, yy6, yy7, yy8, yy9, yy10, yy11⟩, ⟨yr0, yr2, yr3, yr4, yr5, yr6, yr7, yr8, yr10, yr11, yr12, yr13⟩, ys0, ys1, ys2, ys3, ys4, ys5, ys6, ys7, ys8, ys9, ys10, ys11⟩ := hu
  have kk := k.1
  obtain ⟨e1, e9, e14⟩ := hV.1
  refine Sx.un (y := 45) (n := 0) (lo := [vR v, vR u, vU]) (st := []) (u := (0, 0)) ?_
  refine go_45_0 ?_
  simp only [sg_45_0, cl_I, cl_L, cl_R, e_aload_n, e_get0, e_iconst, e_istore_n, e_nil, e_put0, l_ldA0, l_ldA1, l_st2, wRef_some, EE_n, zs0, zz0, yy0, ys0, e14, lc_lt, lc_le, lc_gt, lc_ge, lc_eq, true_and, and_true, List.length_cons, List.length_nil, ab_ia, Nat.reduceAdd, Nat.reduceLeDiff, Nat.reduceEqDiff, Nat.reduceLT, Int.reduceLT, Int.reduceLE, Int.reduceEq, Int.reduceNeg, true_or, or_true, false_or, or_false, not_false_eq_true, not_true_eq_false, false_implies, true_implies, forall_const, implies_true, Nat.zero_le, Nat.le_refl]
  simp (disch := omega) only [ups_ne1, e1]
  refine v_copy_l1 hv' hu' hd hV k (fun D2 hf2 ey2 e2 hp2 => ?_) V.np.toNat 0 _ (by omega) (by omega) (fr_ups (by omega) (fr_ups (by omega) fr.refl)) ?_ ?_ (fun q q0 q1 => absurd q1 (by omega))
  · have e9' : D2 u 9 = V.nh := by rw [hf2 u (by omega)]; exact e9
    refine go_45_72 ?_
    simp only [sg_45_72, cl_I, cl_L, cl_R, e_aload_n, e_get0, e_iconst, e_istore_n, e_nil, e_put0, l_ldA0, l_ldA1, l_st2, wRef_some, EE_n, zs0, zz0, yy0, ys0, e9', lc_lt, lc_le, lc_gt, lc_ge, lc_eq, true_and, and_true, List.length_cons, List.length_nil, ab_ia, Nat.reduceAdd, Nat.reduceLeDiff, Nat.reduceEqDiff, Nat.reduceLT, Int.reduceLT, Int.reduceLE, Int.reduceEq, Int.reduceNeg, true_or, or_true, false_or, or_false, not_false_eq_true, not_true_eq_false, false_implies, true_implies, forall_const, implies_true, Nat.zero_le, Nat.le_refl]
    refine v_copy_l2 hv' hu' hd hV k (fun D3 hf3 ey3 e3 e93 hp3 hh3 => ?_) V.nh.toNat 0 _ (by omega) (by omega) (fr_ups (by omega) hf2) ?_ ?_ ?_ ?_ (fun q q0 q1 => absurd q1 (by omega))
    · refine go_45_108 ?_
      simp only [sg_45_108, cl_I, cl_L, cl_R, e_iconst, e_istore_n, e_nil, l_st2, lc_lt, lc_le, lc_gt, lc_ge, lc_eq, true_and, and_true, List.length_cons, List.length_nil, ab_ia, Nat.reduceAdd, Nat.reduceLeDiff, Nat.reduceEqDiff, Nat.reduceLT, Int.reduceLT, Int.reduceLE, Int.reduceEq, Int.reduceNeg, true_or, or_true, false_or, or_false, not_false_eq_true, not_true_eq_false, false_implies, true_implies, forall_const, implies_true, Nat.zero_le, Nat.le_refl]
      exact v_copy_l3 hv' hu' hd hV k (fun D' h1 h2 => retV ⟨h1, h2⟩) 56 0 D3 (by omega) (by omega) hf3 ey3 e3 e93 hp3 hh3 (fun q q0 q1 => absurd q1 (by omega))
    · rw [ups_ne2 (by omega)]; exact ey2
    · rw [ups_ne2 (by omega)]; exact e2
    · rw [ups_self]
    · intro q q0 q1
      simp (disch := omega) only [ups_ne1]
      exact hp2 q q0 q1
  · rw [ups_ne2 (by omega), ups_self]
  · rw [ups_self]
/-! cleared -/
def emV : Vil := ((0, 0, 0), fun _ _ => 0, fun _ _ => 0)
theorem emV_ok : vOK G emV := ⟨by show (0 ≤ (0 : Int) ∧ (0 : Int) ≤ 24) ∧ (0 ≤ (0 : Int) ∧ (0 : Int) ≤ 6) ∧ (0 ≤ (0 : Int) ∧ (0 : Int) ≤ 1000000); omega, fun p h0 h1 => absurd h1 (by show ¬ p < 0; omega), fun p h0 h1 => absurd h1 (by show ¬ p < 0; omega), fun p _ _ h0 h1 => absurd h1 (by show ¬ p < 0; omega)⟩
theorem v_clear_loop {E : ab_E} {Q : Option ab_V → ab_H → Prop} (zz0 : v < E.1) (zs0 : E.2.1 v = (7, 0)) (zr13 : E.2.2 v 13 = some (v + 11)) (zz11 : v + 11 < E.1) (zs11 : E.2.1 (v + 11) = (0, 56))
    (hq : ∀ D', fr v D D' → vP D' v emV → Q none (E, D')) :
    ∀ (t : Nat) (p : Int) (D1 : ab_D), 0 ≤ p → p + t = 56 → fr v D D1 → D1 v 14 = 0 → D1 v 1 = 0 → D1 v 9 = 0 → (∀ a, 0 ≤ a → a < p → D1 (v + 11) a.toNat = -9) → Sx 44 11 [vR v, vI p] [] (E, D1) (0, 0) Q := by
  intro t
  induction t with
  | zero =>
    intro p D1 h0 ht hf ey e1 e9 hc
    refine go_44_11 ?_
    simp only [sg_44_11, cl_I, cl_L, cl_R, e_aload_n, e_bipush, e_get1, e_goto, e_iastore, e_icmp_ge, e_iinc, e_iload_n, e_nil, l_inc1, l_ld1, l_ldA0, wRef_some, EE_n, zr13, zs0, zs11, zz0, zz11, lc_lt, lc_le, lc_gt, lc_ge, lc_eq, true_and, and_true, List.length_cons, List.length_nil, ab_ia, Nat.reduceAdd, Nat.reduceLeDiff, Nat.reduceEqDiff, Nat.reduceLT, Int.reduceLT, Int.reduceLE, Int.reduceEq, Int.reduceNeg, true_or, or_true, false_or, or_false, not_false_eq_true, not_true_eq_false, false_implies, true_implies, forall_const, implies_true, Nat.zero_le, Nat.le_refl]
    refine ⟨fun _ => ?_, fun hc => absurd hc (by omega)⟩
    refine go_44_21 ?_
    simp only [sg_44_21, cl_I, cl_L, cl_R, e_nil, e_vret, lc_lt, lc_le, lc_gt, lc_ge, lc_eq, true_and, and_true, List.length_cons, List.length_nil, ab_ia, Nat.reduceAdd, Nat.reduceLeDiff, Nat.reduceEqDiff, Nat.reduceLT, Int.reduceLT, Int.reduceLE, Int.reduceEq, Int.reduceNeg, true_or, or_true, false_or, or_false, not_false_eq_true, not_true_eq_false, false_implies, true_implies, forall_const, implies_true, Nat.zero_le, Nat.le_refl]
    refine hq D1 hf ⟨⟨e1, e9, ey⟩, fun p h0 h1 => absurd h1 (by show ¬ p < 0; omega), fun p h0 h1 => absurd h1 (by show ¬ p < 0; omega), fun a a0 a1 => ⟨Or.inl (hc a a0 (by omega)), fun p h0 h1 => absurd h1 (by show ¬ p < 0; omega)⟩⟩
  | succ t ih =>
    intro p D1 h0 ht hf ey e1 e9 hc
    refine go_44_11 ?_
    simp only [sg_44_11, cl_I, cl_L, cl_R, e_aload_n, e_bipush, e_get1, e_goto, e_iastore, e_icmp_ge, e_iinc, e_iload_n, e_nil, l_inc1, l_ld1, l_ldA0, wRef_some, EE_n, zr13, zs0, zs11, zz0, zz11, lc_lt, lc_le, lc_gt, lc_ge, lc_eq, true_and, and_true, List.length_cons, List.length_nil, ab_ia, Nat.reduceAdd, Nat.reduceLeDiff, Nat.reduceEqDiff, Nat.reduceLT, Int.reduceLT, Int.reduceLE, Int.reduceEq, Int.reduceNeg, true_or, or_true, false_or, or_false, not_false_eq_true, not_true_eq_false, false_implies, true_implies, forall_const, implies_true, Nat.zero_le, Nat.le_refl]
    refine ⟨fun hc => absurd hc (by omega), fun _ => ⟨by omega, ⟨by omega, by omega⟩, ih (p + 1) _ (by omega) (by omega) (fr_ups (by omega) hf) ?_ ?_ ?_ ?_⟩⟩
    · rw [ups_ne1 (by omega)]; exact ey
    · rw [ups_ne1 (by omega)]; exact e1
    · rw [ups_ne1 (by omega)]; exact e9
    · intro q q0 q1
      by_cases z : q = p
      · subst z
        rw [ups_self]
      · rw [ups_ne2 (by omega)]
        exact hc q q0 (by omega)
theorem v_clear {E : ab_E} (zz0 : v < E.1) (zs0 : E.2.1 v = (7, 0)) (zr13 : E.2.2 v 13 = some (v + 11)) (zz11 : v + 11 < E.1) (zs11 : E.2.1 (v + 11) = (0, 56)) : CV 44 [vR v] (E, D) (fun D' => fr v D D' ∧ vP D' v emV) := by
  refine Sx.un (y := 44) (n := 0) (lo := [vR v, vU]) (st := []) (u := (0, 0)) ?_
  refine go_44_0 ?_
  simp only [sg_44_0, cl_I, cl_L, cl_R, e_aload_n, e_iconst, e_istore_n, e_nil, e_put0, l_ldA0, l_st1, EE_n, zs0, zz0, lc_lt, lc_le, lc_gt, lc_ge, lc_eq, true_and, and_true, List.length_cons, List.length_nil, ab_ia, Nat.reduceAdd, Nat.reduceLeDiff, Nat.reduceEqDiff, Nat.reduceLT, Int.reduceLT, Int.reduceLE, Int.reduceEq, Int.reduceNeg, true_or, or_true, false_or, or_false, not_false_eq_true, not_true_eq_false, false_implies, true_implies, forall_const, implies_true, Nat.zero_le, Nat.le_refl]
  refine v_clear_loop zz0 zs0 zr13 zz11 zs11 (fun D' h1 h2 => retV ⟨h1, h2⟩) 56 0 _ (by omega) (by omega) (fr_ups (by omega) (fr_ups (by omega) (fr_ups (by omega) fr.refl))) ?_ ?_ ?_ (fun q q0 q1 => absurd q1 (by omega))
  · rw [ups_self]
  · rw [ups_ne2 (by omega), ups_ne2 (by omega), ups_self]
  · rw [ups_ne2 (by omega), ups_self]
/-! houses -/
def hsV (V : Vil) (a b w : Int) : Vil := ((V.np, V.nh + 1, V.yr), V.p, fun h i => if h = V.nh then (if i = 0 then a else if i = 1 then b else if i = 2 then w else 0) else V.h h i)
/-- a cell of the new house is taken -/
def ovl (V : Vil) (a b : Int) : Prop := ∃ c h, cov a b c ∧ 0 ≤ h ∧ h < V.nh ∧ cov (V.h h 0) (V.h h 1) c
theorem hsV_old {a b w h i : Int} (q : h ≠ V.nh) : (hsV V a b w).h h i = V.h h i := by
  show (if h = V.nh then _ else _) = _
  rw [if_neg q]
theorem hsV_new {a b w : Int} : (hsV V a b w).h V.nh 0 = a ∧ (hsV V a b w).h V.nh 1 = b ∧ (hsV V a b w).h V.nh 2 = w ∧ (hsV V a b w).h V.nh 3 = 0 := by
  simp [hsV, Vil.h]
theorem hsV_nh {a b w : Int} : (hsV V a b w).nh = V.nh + 1 := rfl
theorem hsV_ok {a b w : Int} (k : vOK G V) (hn : V.nh < 6) (ha : isCl G.n a) (hb : isCl G.n b) (hw : 1 ≤ w ∧ w ≤ 999) (ho : ¬ ovl V a b) : vOK G (hsV V a b w) := by
  have k1 := k.1
  obtain ⟨e0, e1, e2, e3⟩ := hsV_new (V := V) (a := a) (b := b) (w := w)
  refine ⟨⟨k1.1, by rw [hsV_nh]; omega, k1.2.2⟩, k.2.1, fun h h0 h1 => ?_, fun h h' c h0 h1 h0' h1' hc hc' => ?_⟩
  · rw [hsV_nh] at h1
    by_cases q : h = V.nh
    · subst q
      unfold hsOK
      rw [e0, e1, e2, e3]
      exact ⟨ha, hb, hw, Or.inl rfl⟩
    · have : (hsV V a b w).h h = V.h h := by funext i; exact hsV_old q
      rw [this]
      exact k.2.2.1 h h0 (by omega)
  · rw [hsV_nh] at h1 h1'
    by_cases q : h = V.nh
    · by_cases q' : h' = V.nh
      · omega
      · subst q
        rw [hsV_old q', hsV_old q'] at hc'
        rw [e0, e1] at hc
        exact absurd ⟨c, h', hc, h0', by omega, hc'⟩ ho
    · by_cases q' : h' = V.nh
      · subst q'
        rw [hsV_old q, hsV_old q] at hc
        rw [e0, e1] at hc'
        exact absurd ⟨c, h, hc', h0, by omega, hc⟩ ho
      · rw [hsV_old q, hsV_old q] at hc
        rw [hsV_old q', hsV_old q'] at hc'
        exact k.2.2.2 h h' c h0 (by omega) h0' (by omega) hc hc'
end VilCopy
