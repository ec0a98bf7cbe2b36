/-! the class: a house is built -/
section VilHouse
variable {L v : Nat} {D : ab_D} {G : Gr} {V : Vil}
/-- ahead of row r, column c -/
def ahd (r c x : Int) : Prop := x / 10 < r ∨ (x / 10 = r ∧ x % 10 < c)
theorem at_taken (hV : vP D v V) {x : Int} (h0 : 0 ≤ x) (h1 : x < 56) : D (v + 11) x.toNat ≠ -9 ↔ ∃ h, 0 ≤ h ∧ h < V.nh ∧ cov (V.h h 0) (V.h h 1) x := by
  obtain ⟨a1, a2⟩ := hV.2.2.2 x h0 h1
  constructor
  · intro q
    rcases a1 with a1 | a1
    · exact absurd a1 q
    · exact ⟨_, a1.1, a1.2, (a2 _ a1.1 a1.2).mp rfl⟩
  · rintro ⟨h, b0, b1, b2⟩ q
    have := (a2 h b0 b1).mpr b2
    omega
theorem v_built_in {Q : Option ab_V → ab_H → Prop} {a b r : Int} (hv : isV L v) (hV : vP D v V) (hn : G.n ≤ 6) (ha : isCl G.n a) (hb : isCl G.n b) (ho : a / 10 ≤ b / 10 ∧ a % 10 ≤ b % 10) (hr : a / 10 ≤ r ∧ r ≤ b / 10)
    (hq1 : ovl V a b → Q (some (.inl 1)) (EE L, D)) (hq : (∀ x, cov a b x → ahd (r + 1) (a % 10) x → D (v + 11) x.toNat = -9) → ∀ x4, Sx 48 4 [vR v, vI a, vI b, vI (r + 1), x4] [] (EE L, D) (0, 0) Q) :
    ∀ (t : Nat) (c : Int), a % 10 ≤ c → c + t = b % 10 + 1 → (∀ x, cov a b x → ahd r c x → D (v + 11) x.toNat = -9) → Sx 48 13 [vR v, vI a, vI b, vI r, vI c] [] (EE L, D) (0, 0) Q := by
  obtain ⟨⟨zz, zz0, zz1, zz2, zz3, zz4, zz5, zz6, zz7, zz8, zz9, zz10, zz11⟩, ⟨zr0, zr2, zr3, zr4, zr5, zr6, zr7, zr8, zr10, zr11, zr12, zr13⟩, zs0, zs1, zs2, zs3, zs4, zs5, zs6, zs7, zs8, zs9, zs10, zs11⟩ := hv
  unfold isCl at ha hb
  intro t
  induction t with
  | zero =>
    intro c h0 ht hi
    refine go_48_13 ?_
    simp only [sg_48_13, cl_I, cl_L, cl_R, e_aload_n, e_bipush, e_get1, e_iadd, e_iaload, e_icmp_eq, e_icmp_gt, e_iconst, e_iload, e_iload_n, e_imul, e_irem, e_iret1, e_nil, l_ld2, l_ld3, l_ld4, l_ldA0, wRef_some, EE_n, zr13, zs0, zs11, zz0, zz11, lc_lt, lc_le, lc_gt, lc_ge, lc_eq, true_and, and_true, List.length_cons, List.length_nil, ab_ia, Nat.reduceAdd, Nat.reduceLeDiff, Nat.reduceEqDiff, Nat.reduceLT, Int.reduceLT, Int.reduceLE, Int.reduceEq, Int.reduceNeg, true_or, or_true, false_or, or_false, not_false_eq_true, not_true_eq_false, false_implies, true_implies, forall_const, implies_true, Nat.zero_le, Nat.le_refl]
    refine ⟨by omega, fun _ => ?_, fun hc => absurd hc (by omega)⟩
    refine go_48_32 ?_
    simp only [sg_48_32, cl_I, cl_L, cl_R, e_goto, e_iinc, e_nil, l_inc3, lc_lt, lc_le, lc_gt, lc_ge, lc_eq, true_and, and_true, List.length_cons, List.length_nil, ab_ia, Nat.reduceAdd, Nat.reduceLeDiff, Nat.reduceEqDiff, Nat.reduceLT, Int.reduceLT, Int.reduceLE, Int.reduceEq, Int.reduceNeg, true_or, or_true, false_or, or_false, not_false_eq_true, not_true_eq_false, false_implies, true_implies, forall_const, implies_true, Nat.zero_le, Nat.le_refl]
    refine ⟨⟨by omega, by omega⟩, hq (fun x h1 h2 => hi x h1 ?_) _⟩
    unfold ahd at *
    unfold cov at h1
    omega
  | succ t ih =>
    intro c h0 ht hi
    refine go_48_13 ?_
    simp only [sg_48_13, cl_I, cl_L, cl_R, e_aload_n, e_bipush, e_get1, e_iadd, e_iaload, e_icmp_eq, e_icmp_gt, e_iconst, e_iload, e_iload_n, e_imul, e_irem, e_iret1, e_nil, l_ld2, l_ld3, l_ld4, l_ldA0, wRef_some, EE_n, zr13, zs0, zs11, zz0, zz11, lc_lt, lc_le, lc_gt, lc_ge, lc_eq, true_and, and_true, List.length_cons, List.length_nil, ab_ia, Nat.reduceAdd, Nat.reduceLeDiff, Nat.reduceEqDiff, Nat.reduceLT, Int.reduceLT, Int.reduceLE, Int.reduceEq, Int.reduceNeg, true_or, or_true, false_or, or_false, not_false_eq_true, not_true_eq_false, false_implies, true_implies, forall_const, implies_true, Nat.zero_le, Nat.le_refl]
    refine ⟨by omega, fun hc => absurd hc (by omega), fun _ => ⟨⟨by omega, by omega⟩, ⟨by omega, by omega⟩, by omega, fun h1 => ?_, fun h1 => ?_⟩⟩
    · refine go_48_30 ?_
      simp only [sg_48_30, cl_I, cl_L, cl_R, e_goto, e_iinc, e_nil, l_inc4, lc_lt, lc_le, lc_gt, lc_ge, lc_eq, true_and, and_true, List.length_cons, List.length_nil, ab_ia, Nat.reduceAdd, Nat.reduceLeDiff, Nat.reduceEqDiff, Nat.reduceLT, Int.reduceLT, Int.reduceLE, Int.reduceEq, Int.reduceNeg, true_or, or_true, false_or, or_false, not_false_eq_true, not_true_eq_false, false_implies, true_implies, forall_const, implies_true, Nat.zero_le, Nat.le_refl]
      refine ⟨⟨by omega, by omega⟩, ih (c + 1) (by omega) (by omega) (fun x q1 q2 => ?_)⟩
      by_cases z : x = 10 * r + c
      · subst z; exact h1
      · refine hi x q1 ?_
        unfold ahd at *
        unfold cov at q1
        omega
    · obtain ⟨h, b0, b1, b2⟩ := (at_taken hV (x := 10 * r + c) (by omega) (by omega)).mp h1
      refine hq1 ⟨10 * r + c, h, ?_, b0, b1, b2⟩
      unfold cov
      omega
theorem v_built_out {Q : Option ab_V → ab_H → Prop} {a b : Int} (hv : isV L v) (hV : vP D v V) (hn : G.n ≤ 6) (ha : isCl G.n a) (hb : isCl G.n b) (ho : a / 10 ≤ b / 10 ∧ a % 10 ≤ b % 10)
    (hq1 : ovl V a b → Q (some (.inl 1)) (EE L, D)) (hq0 : ¬ ovl V a b → Q (some (.inl 0)) (EE L, D)) :
    ∀ (t : Nat) (r : Int) (x4 : ab_V), a / 10 ≤ r → r + t = b / 10 + 1 → (∀ x, cov a b x → ahd r (a % 10) x → D (v + 11) x.toNat = -9) → Sx 48 4 [vR v, vI a, vI b, vI r, x4] [] (EE L, D) (0, 0) Q := by
  have hv' := hv
  obtain ⟨⟨zz, zz0, zz1, zz2, zz3, zz4, zz5, zz6, zz7, zz8, zz9, zz10, zz11⟩, ⟨zr0, zr2, zr3, zr4, zr5, zr6, zr7, zr8, zr10, zr11, zr12, zr13⟩, zs0, zs1, zs2, zs3, zs4, zs5, zs6, zs7, zs8, zs9, zs10, zs11⟩ := hv
  have ha' := ha
  have hb' := hb
  unfold isCl at ha hb
  intro t
  induction t with
  | zero =>
    intro r x4 h0 ht hi
    refine go_48_4 ?_
    simp only [sg_48_4, cl_I, cl_L, cl_R, e_bipush, e_icmp_gt, e_idiv, e_iload_n, e_irem, e_istore, e_nil, l_ld1, l_ld2, l_ld3, l_st4, lc_lt, lc_le, lc_gt, lc_ge, lc_eq, true_and, and_true, List.length_cons, List.length_nil, ab_ia, Nat.reduceAdd, Nat.reduceLeDiff, Nat.reduceEqDiff, Nat.reduceLT, Int.reduceLT, Int.reduceLE, Int.reduceEq, Int.reduceNeg, true_or, or_true, false_or, or_false, not_false_eq_true, not_true_eq_false, false_implies, true_implies, forall_const, implies_true, Nat.zero_le, Nat.le_refl]
    refine ⟨by omega, fun _ => ?_, fun hc => absurd hc (by omega)⟩
    refine go_48_34 ?_
    simp only [sg_48_34, cl_I, cl_L, cl_R, e_iconst, e_iret1, e_nil, lc_lt, lc_le, lc_gt, lc_ge, lc_eq, true_and, and_true, List.length_cons, List.length_nil, ab_ia, Nat.reduceAdd, Nat.reduceLeDiff, Nat.reduceEqDiff, Nat.reduceLT, Int.reduceLT, Int.reduceLE, Int.reduceEq, Int.reduceNeg, true_or, or_true, false_or, or_false, not_false_eq_true, not_true_eq_false, false_implies, true_implies, forall_const, implies_true, Nat.zero_le, Nat.le_refl]
    refine hq0 ?_
    rintro ⟨x, h, x1, x2, x3, x4⟩
    have e := hi x x1 (by unfold ahd; unfold cov at x1; omega)
    have x1' := x1
    unfold cov at x1'
    exact ((at_taken hV (x := x) (by omega) (by omega)).mpr ⟨h, x2, x3, x4⟩) e
  | succ t ih =>
    intro r x4 h0 ht hi
    refine go_48_4 ?_
    simp only [sg_48_4, cl_I, cl_L, cl_R, e_bipush, e_icmp_gt, e_idiv, e_iload_n, e_irem, e_istore, e_nil, l_ld1, l_ld2, l_ld3, l_st4, lc_lt, lc_le, lc_gt, lc_ge, lc_eq, true_and, and_true, List.length_cons, List.length_nil, ab_ia, Nat.reduceAdd, Nat.reduceLeDiff, Nat.reduceEqDiff, Nat.reduceLT, Int.reduceLT, Int.reduceLE, Int.reduceEq, Int.reduceNeg, true_or, or_true, false_or, or_false, not_false_eq_true, not_true_eq_false, false_implies, true_implies, forall_const, implies_true, Nat.zero_le, Nat.le_refl]
    refine ⟨by omega, fun hc => absurd hc (by omega), fun _ => ⟨by omega, ?_⟩⟩
    exact v_built_in hv' hV hn ha' hb' ho (by omega) hq1 (fun q x4 => ih (r + 1) x4 (by omega) (by omega) q) (b % 10 + 1 - a % 10).toNat (a % 10) (by omega) (by omega) hi
theorem v_built {a b : Int} (hv : isV L v) (hV : vP D v V) (hn : G.n ≤ 6) (ha : isCl G.n a) (hb : isCl G.n b) (ho : a / 10 ≤ b / 10 ∧ a % 10 ≤ b % 10) : CB 48 [vR v, vI a, vI b] (EE L) D (ovl V a b) := by
  have ha' := ha
  unfold isCl at ha'
  refine Sx.un (y := 48) (n := 0) (lo := [vR v, vI a, vI b, vU, vU]) (st := []) (u := (0, 0)) ?_
  refine go_48_0 ?_
  simp only [sg_48_0, cl_I, cl_L, cl_R, e_bipush, e_idiv, e_iload_n, e_istore_n, e_nil, l_ld1, l_st3, lc_lt, lc_le, lc_gt, lc_ge, lc_eq, true_and, and_true, List.length_cons, List.length_nil, ab_ia, Nat.reduceAdd, Nat.reduceLeDiff, Nat.reduceEqDiff, Nat.reduceLT, Int.reduceLT, Int.reduceLE, Int.reduceEq, Int.reduceNeg, true_or, or_true, false_or, or_false, not_false_eq_true, not_true_eq_false, false_implies, true_implies, forall_const, implies_true, Nat.zero_le, Nat.le_refl]
  refine ⟨by omega, ?_⟩
  exact v_built_out hv hV hn ha hb ho (fun q => retB1 q) (fun q => retB0 q) (b / 10 + 1 - a / 10).toNat (a / 10) vU (by omega) (by omega) (fun x h1 h2 => absurd h2 (by unfold ahd; unfold cov at h1; omega))
/-- while the cells are told their house -/
def hsI (D D1 : ab_D) (v : Nat) (V : Vil) (a b w r c : Int) : Prop := fr v D D1 ∧ (D1 v 1 = V.np ∧ D1 v 9 = V.nh ∧ D1 v 14 = V.yr) ∧ cpP D1 v V V.np ∧ cpH D1 v (hsV V a b w) (V.nh + 1) ∧ ∀ x : Int, 0 ≤ x → x < 56 → ((cov a b x ∧ ahd r c x) → D1 (v + 11) x.toNat = V.nh) ∧ (¬ (cov a b x ∧ ahd r c x) → D1 (v + 11) x.toNat = D (v + 11) x.toNat)
theorem v_hs_in {Q : Option ab_V → ab_H → Prop} {a b w r : Int} (hv : isV L v) (hn : G.n ≤ 6) (ha : isCl G.n a) (hb : isCl G.n b) (ho : a / 10 ≤ b / 10 ∧ a % 10 ≤ b % 10) (hr : a / 10 ≤ r ∧ r ≤ b / 10)
    (hq : ∀ D1 x6, hsI D D1 v V a b w (r + 1) (a % 10) → Sx 47 49 [vR v, vI a, vI b, vI w, vI V.nh, vI (r + 1), x6] [] (EE L, D1) (0, 0) Q) :
    ∀ (t : Nat) (c : Int) (D1 : ab_D), a % 10 ≤ c → c + t = b % 10 + 1 → hsI D D1 v V a b w r c → Sx 47 58 [vR v, vI a, vI b, vI w, vI V.nh, vI r, vI c] [] (EE L, D1) (0, 0) Q := by
  obtain ⟨⟨zz, zz0, zz1, zz2, zz3, zz4, zz5, zz6, zz7, zz8, zz9, zz10, zz11⟩, ⟨zr0, zr2, zr3, zr4, zr5, zr6, zr7, zr8, zr10, zr11, zr12, zr13⟩, zs0, zs1, zs2, zs3, zs4, zs5, zs6, zs7, zs8, zs9, zs10, zs11⟩ := hv
  unfold isCl at ha hb
  intro t
  induction t with
  | zero =>
    intro c D1 h0 ht hi
    refine go_47_58 ?_
    simp only [sg_47_58, cl_I, cl_L, cl_R, e_aload_n, e_bipush, e_get1, e_goto, e_iadd, e_iastore, e_icmp_gt, e_iinc, e_iload, e_iload_n, e_imul, e_irem, e_nil, l_inc6, l_ld2, l_ld4, l_ld5, l_ld6, l_ldA0, wRef_some, EE_n, zr13, zs0, zs11, zz0, zz11, lc_lt, lc_le, lc_gt, lc_ge, lc_eq, true_and, and_true, List.length_cons, List.length_nil, ab_ia, Nat.reduceAdd, Nat.reduceLeDiff, Nat.reduceEqDiff, Nat.reduceLT, Int.reduceLT, Int.reduceLE, Int.reduceEq, Int.reduceNeg, true_or, or_true, false_or, or_false, not_false_eq_true, not_true_eq_false, false_implies, true_implies, forall_const, implies_true, Nat.zero_le, Nat.le_refl]
    refine ⟨by omega, fun _ => ?_, fun hc => absurd hc (by omega)⟩
    refine go_47_74 ?_
    simp only [sg_47_74, cl_I, cl_L, cl_R, e_goto, e_iinc, e_nil, l_inc5, lc_lt, lc_le, lc_gt, lc_ge, lc_eq, true_and, and_true, List.length_cons, List.length_nil, ab_ia, Nat.reduceAdd, Nat.reduceLeDiff, Nat.reduceEqDiff, Nat.reduceLT, Int.reduceLT, Int.reduceLE, Int.reduceEq, Int.reduceNeg, true_or, or_true, false_or, or_false, not_false_eq_true, not_true_eq_false, false_implies, true_implies, forall_const, implies_true, Nat.zero_le, Nat.le_refl]
    obtain ⟨i1, i2, i3, i4, i5⟩ := hi
    refine ⟨⟨by omega, by omega⟩, hq _ _ ⟨i1, i2, i3, i4, fun x x0 x1 => ?_⟩⟩
    obtain ⟨j1, j2⟩ := i5 x x0 x1
    have e : (cov a b x ∧ ahd (r + 1) (a % 10) x) ↔ (cov a b x ∧ ahd r c x) := by
      unfold ahd cov
      omega
    rw [e]
    exact ⟨j1, j2⟩
  | succ t ih =>
    intro c D1 h0 ht hi
    obtain ⟨i1, ⟨i2, i2', i2''⟩, i3, i4, i5⟩ := hi
    refine go_47_58 ?_
    simp only [sg_47_58, cl_I, cl_L, cl_R, e_aload_n, e_bipush, e_get1, e_goto, e_iadd, e_iastore, e_icmp_gt, e_iinc, e_iload, e_iload_n, e_imul, e_irem, e_nil, l_inc6, l_ld2, l_ld4, l_ld5, l_ld6, l_ldA0, wRef_some, EE_n, zr13, zs0, zs11, zz0, zz11, lc_lt, lc_le, lc_gt, lc_ge, lc_eq, true_and, and_true, List.length_cons, List.length_nil, ab_ia, Nat.reduceAdd, Nat.reduceLeDiff, Nat.reduceEqDiff, Nat.reduceLT, Int.reduceLT, Int.reduceLE, Int.reduceEq, Int.reduceNeg, true_or, or_true, false_or, or_false, not_false_eq_true, not_true_eq_false, false_implies, true_implies, forall_const, implies_true, Nat.zero_le, Nat.le_refl]
    refine ⟨by omega, fun hc => absurd hc (by omega), fun _ => ⟨⟨by omega, by omega⟩, ⟨by omega, by omega⟩, by omega, ⟨by omega, by omega⟩, ih (c + 1) _ (by omega) (by omega) ⟨fr_ups (by omega) i1, ⟨?_, ?_, ?_⟩, ?_, ?_, fun x x0 x1 => ?_⟩⟩⟩
    · rw [ups_ne1 (by omega)]; exact i2
    · rw [ups_ne1 (by omega)]; exact i2'
    · rw [ups_ne1 (by omega)]; exact i2''
    · intro q q0 q1
      simp (disch := omega) only [ups_ne1]
      exact i3 q q0 q1
    · intro q q0 q1
      simp (disch := omega) only [ups_ne1]
      exact i4 q q0 q1
    · obtain ⟨j1, j2⟩ := i5 x x0 x1
      by_cases z : x = 10 * r + c
      · subst z
        rw [ups_self]
        refine ⟨fun _ => rfl, fun q => absurd ?_ q⟩
        unfold ahd cov
        omega
      · rw [ups_ne2 (by omega)]
        have e : (cov a b x ∧ ahd r (c + 1) x) ↔ (cov a b x ∧ ahd r c x) := by
          unfold ahd cov
          omega
        rw [e]
        exact ⟨j1, j2⟩
theorem v_hs_out {Q : Option ab_V → ab_H → Prop} {a b w : Int} (hv : isV L v) (hV : vP D v V) (k : vOK G V) (hn : G.n ≤ 6) (ha : isCl G.n a) (hb : isCl G.n b) (ho : a / 10 ≤ b / 10 ∧ a % 10 ≤ b % 10) (hov : ¬ ovl V a b)
    (hq : ∀ D1, fr v D D1 → vP D1 v (hsV V a b w) → Q (some (.inl V.nh)) (EE L, D1)) :
    ∀ (t : Nat) (r : Int) (D1 : ab_D) (x6 : ab_V), a / 10 ≤ r → r + t = b / 10 + 1 → hsI D D1 v V a b w r (a % 10) → Sx 47 49 [vR v, vI a, vI b, vI w, vI V.nh, vI r, x6] [] (EE L, D1) (0, 0) Q := by
  have hv' := hv
  obtain ⟨⟨zz, zz0, zz1, zz2, zz3, zz4, zz5, zz6, zz7, zz8, zz9, zz10, zz11⟩, ⟨zr0, zr2, zr3, zr4, zr5, zr6, zr7, zr8, zr10, zr11, zr12, zr13⟩, zs0, zs1, zs2, zs3, zs4, zs5, zs6, zs7, zs8, zs9, zs10, zs11⟩ := hv
  have ha' := ha
  have hb' := hb
  have kk := k.1
  unfold isCl at ha hb
  intro t
  induction t with
  | zero =>
    intro r D1 x6 h0 ht hi
    refine go_47_49 ?_
    simp only [sg_47_49, cl_I, cl_L, cl_R, e_bipush, e_icmp_gt, e_idiv, e_iload, e_iload_n, e_irem, e_istore, e_nil, l_ld1, l_ld2, l_ld5, l_st6, lc_lt, lc_le, lc_gt, lc_ge, lc_eq, true_and, and_true, List.length_cons, List.length_nil, ab_ia, Nat.reduceAdd, Nat.reduceLeDiff, Nat.reduceEqDiff, Nat.reduceLT, Int.reduceLT, Int.reduceLE, Int.reduceEq, Int.reduceNeg, true_or, or_true, false_or, or_false, not_false_eq_true, not_true_eq_false, false_implies, true_implies, forall_const, implies_true, Nat.zero_le, Nat.le_refl]
    refine ⟨by omega, fun _ => ?_, fun hc => absurd hc (by omega)⟩
    obtain ⟨i1, ⟨i2, i2', i2''⟩, i3, i4, i5⟩ := hi
    refine go_47_76 ?_
    simp only [sg_47_76, cl_I, cl_L, cl_R, e_aload_n, e_dupI, e_dupR, e_get0, e_iadd, e_iconst, e_iload, e_iret0, e_nil, e_put0, l_ld4, l_ldA0, wRef_some, EE_n, zs0, zz0, i2', lc_lt, lc_le, lc_gt, lc_ge, lc_eq, true_and, and_true, List.length_cons, List.length_nil, ab_ia, Nat.reduceAdd, Nat.reduceLeDiff, Nat.reduceEqDiff, Nat.reduceLT, Int.reduceLT, Int.reduceLE, Int.reduceEq, Int.reduceNeg, true_or, or_true, false_or, or_false, not_false_eq_true, not_true_eq_false, false_implies, true_implies, forall_const, implies_true, Nat.zero_le, Nat.le_refl]
    refine ⟨⟨by omega, by omega⟩, hq _ (fr_ups (by omega) i1) ⟨⟨?_, ?_, ?_⟩, ?_, ?_, fun x x0 x1 => ?_⟩⟩
    · rw [ups_ne2 (by omega)]; exact i2
    · rw [ups_self]; rfl
    · rw [ups_ne2 (by omega)]; exact i2''
    · intro q q0 q1
      simp (disch := omega) only [ups_ne1]
      exact i3 q q0 q1
    · intro q q0 q1
      simp (disch := omega) only [ups_ne1]
      exact i4 q q0 q1
    · rw [ups_ne1 (by omega)]
      obtain ⟨j1, j2⟩ := i5 x x0 x1
      obtain ⟨d1, d2⟩ := hV.2.2.2 x x0 x1
      obtain ⟨e0, e1, e2, e3⟩ := hsV_new (V := V) (a := a) (b := b) (w := w)
      by_cases q : cov a b x
      · have ea : ahd r (a % 10) x := by unfold ahd; unfold cov at q; omega
        rw [j1 ⟨q, ea⟩]
        rw [hsV_nh]
        refine ⟨Or.inr ⟨by omega, by omega⟩, fun h h0 h1 => ?_⟩
        by_cases z : h = V.nh
        · subst z
          rw [e0, e1]
          exact ⟨fun _ => q, fun _ => rfl⟩
        · rw [hsV_old z, hsV_old z]
          exact ⟨fun q2 => absurd q2 (by omega), fun q2 => absurd ⟨x, h, q, h0, by omega, q2⟩ hov⟩
      · rw [j2 (fun z => q z.1)]
        rw [hsV_nh]
        refine ⟨by omega, fun h h0 h1 => ?_⟩
        by_cases z : h = V.nh
        · subst z
          rw [e0, e1]
          exact ⟨fun q2 => absurd q2 (by omega), fun q2 => absurd q2 q⟩
        · rw [hsV_old z, hsV_old z]
          exact d2 h h0 (by omega)
  | succ t ih =>
    intro r D1 x6 h0 ht hi
    refine go_47_49 ?_
    simp only [sg_47_49, cl_I, cl_L, cl_R, e_bipush, e_icmp_gt, e_idiv, e_iload, e_iload_n, e_irem, e_istore, e_nil, l_ld1, l_ld2, l_ld5, l_st6, lc_lt, lc_le, lc_gt, lc_ge, lc_eq, true_and, and_true, List.length_cons, List.length_nil, ab_ia, Nat.reduceAdd, Nat.reduceLeDiff, Nat.reduceEqDiff, Nat.reduceLT, Int.reduceLT, Int.reduceLE, Int.reduceEq, Int.reduceNeg, true_or, or_true, false_or, or_false, not_false_eq_true, not_true_eq_false, false_implies, true_implies, forall_const, implies_true, Nat.zero_le, Nat.le_refl]
    refine ⟨by omega, fun hc => absurd hc (by omega), fun _ => ⟨by omega, ?_⟩⟩
    exact v_hs_in hv' hn ha' hb' ho (by omega) (fun D1 x6 q => ih (r + 1) D1 x6 (by omega) (by omega) q) (b % 10 + 1 - a % 10).toNat (a % 10) D1 (by omega) (by omega) hi
/-- what house answers, and what becomes of the village -/
def hsA (V : Vil) (a b w : Int) (r : Int) (W : Vil) : Prop := ((¬ (a / 10 ≤ b / 10 ∧ a % 10 ≤ b % 10) ∨ ovl V a b) ∧ r = -3 ∧ W = V) ∨ (((a / 10 ≤ b / 10 ∧ a % 10 ≤ b % 10) ∧ ¬ ovl V a b) ∧ 6 ≤ V.nh ∧ r = -4 ∧ W = V) ∨ (((a / 10 ≤ b / 10 ∧ a % 10 ≤ b % 10) ∧ ¬ ovl V a b) ∧ V.nh < 6 ∧ r = V.nh ∧ W = hsV V a b w)
theorem v_house {a b w : Int} (hv : isV L v) (hV : vP D v V) (k : vOK G V) (hn : G.n ≤ 6) (ha : isCl G.n a) (hb : isCl G.n b) : CI 47 [vR v, vI a, vI b, vI w] (EE L, D) (fun r D' => ∃ W, hsA V a b w r W ∧ fr v D D' ∧ vP D' v W) := by
  have hv' := hv
  obtain ⟨⟨zz, zz0, zz1, zz2, zz3, zz4, zz5, zz6, zz7, zz8, zz9, zz10, zz11⟩, ⟨zr0, zr2, zr3, zr4, zr5, zr6, zr7, zr8, zr10, zr11, zr12, zr13⟩, zs0, zs1, zs2, zs3, zs4, zs5, zs6, zs7, zs8, zs9, zs10, zs11⟩ := hv
  have e9 := hV.1.2.1
  have kk := k.1
  have ha' := ha
  have hb' := hb
  unfold isCl at ha hb
  refine Sx.un (y := 47) (n := 0) (lo := [vR v, vI a, vI b, vI w, vU, vU, vU]) (st := []) (u := (0, 0)) ?_
  refine go_47_0 ?_
  simp only [sg_47_0, cl_I, cl_L, cl_R, e_aload_n, e_bipush, e_cv3, e_icmp_lt, e_idiv, e_if_eq, e_iload_n, e_irem, e_iret0, e_nil, fl_0, fl_I, fl_L, fl_R, l_ld1, l_ld2, l_ldA0, rk_1, EE_n, zs0, zz0, lc_lt, lc_le, lc_gt, lc_ge, lc_eq, true_and, and_true, List.length_cons, List.length_nil, ab_ia, Nat.reduceAdd, Nat.reduceLeDiff, Nat.reduceEqDiff, Nat.reduceLT, Int.reduceLT, Int.reduceLE, Int.reduceEq, Int.reduceNeg, true_or, or_true, false_or, or_false, not_false_eq_true, not_true_eq_false, false_implies, true_implies, forall_const, implies_true, Nat.zero_le, Nat.le_refl]
  refine ⟨by omega, by omega, fun h1 => ?_, fun h1 => ⟨by omega, by omega, fun h2 => ?_, fun h2 => ?_⟩⟩
  · refine go_47_19 ?_
    simp only [sg_47_19, cl_I, cl_L, cl_R, e_bipush, e_iret0, e_nil, lc_lt, lc_le, lc_gt, lc_ge, lc_eq, true_and, and_true, List.length_cons, List.length_nil, ab_ia, Nat.reduceAdd, Nat.reduceLeDiff, Nat.reduceEqDiff, Nat.reduceLT, Int.reduceLT, Int.reduceLE, Int.reduceEq, Int.reduceNeg, true_or, or_true, false_or, or_false, not_false_eq_true, not_true_eq_false, false_implies, true_implies, forall_const, implies_true, Nat.zero_le, Nat.le_refl]
    exact retI ⟨V, Or.inl ⟨Or.inl (by omega), rfl, rfl⟩, fr.refl, hV⟩
  · refine go_47_19 ?_
    simp only [sg_47_19, cl_I, cl_L, cl_R, e_bipush, e_iret0, e_nil, lc_lt, lc_le, lc_gt, lc_ge, lc_eq, true_and, and_true, List.length_cons, List.length_nil, ab_ia, Nat.reduceAdd, Nat.reduceLeDiff, Nat.reduceEqDiff, Nat.reduceLT, Int.reduceLT, Int.reduceLE, Int.reduceEq, Int.reduceNeg, true_or, or_true, false_or, or_false, not_false_eq_true, not_true_eq_false, false_implies, true_implies, forall_const, implies_true, Nat.zero_le, Nat.le_refl]
    exact retI ⟨V, Or.inl ⟨Or.inl (by omega), rfl, rfl⟩, fr.refl, hV⟩
  · have ho : a / 10 ≤ b / 10 ∧ a % 10 ≤ b % 10 := by omega
    refine CB.use (v_built hv' hV hn ha' hb' ho) (fun h3 => ?_) (fun h3 => ?_)
    · try simp only [lc_lt, lc_le, lc_gt, lc_ge, lc_eq, true_and, and_true, List.length_cons, List.length_nil, ab_ia, Nat.reduceAdd, Nat.reduceLeDiff, Nat.reduceEqDiff, Nat.reduceLT, Int.reduceLT, Int.reduceLE, Int.reduceEq, Int.reduceNeg, true_or, or_true, false_or, or_false, not_false_eq_true, not_true_eq_false, false_implies, true_implies, forall_const, implies_true, Nat.zero_le, Nat.le_refl]
      exact retI ⟨V, Or.inl ⟨Or.inr h3, rfl, rfl⟩, fr.refl, hV⟩
    · try simp only [lc_lt, lc_le, lc_gt, lc_ge, lc_eq, true_and, and_true, List.length_cons, List.length_nil, ab_ia, Nat.reduceAdd, Nat.reduceLeDiff, Nat.reduceEqDiff, Nat.reduceLT, Int.reduceLT, Int.reduceLE, Int.reduceEq, Int.reduceNeg, true_or, or_true, false_or, or_false, not_false_eq_true, not_true_eq_false, false_implies, true_implies, forall_const, implies_true, Nat.zero_le, Nat.le_refl]
      refine go_47_21 ?_
      simp only [sg_47_21, cl_I, cl_L, cl_R, e_aload_n, e_bipush, e_get0, e_icmp_lt, e_iret0, e_nil, l_ldA0, wRef_some, EE_n, zs0, zz0, e9, lc_lt, lc_le, lc_gt, lc_ge, lc_eq, true_and, and_true, List.length_cons, List.length_nil, ab_ia, Nat.reduceAdd, Nat.reduceLeDiff, Nat.reduceEqDiff, Nat.reduceLT, Int.reduceLT, Int.reduceLE, Int.reduceEq, Int.reduceNeg, true_or, or_true, false_or, or_false, not_false_eq_true, not_true_eq_false, false_implies, true_implies, forall_const, implies_true, Nat.zero_le, Nat.le_refl]
      refine ⟨fun h4 => ?_, fun h4 => retI ⟨V, Or.inr (Or.inl ⟨⟨ho, h3⟩, by omega, rfl, rfl⟩), fr.refl, hV⟩⟩
      refine go_47_27 ?_
      simp only [sg_47_27, cl_I, cl_L, cl_R, e_aload_n, e_bastore, e_bipush, e_get0, e_get1, e_iastore, e_iconst, e_idiv, e_iload, e_iload_n, e_istore, e_nil, l_ld1, l_ld3, l_ld4, l_ldA0, l_st4, l_st5, wRef_some, EE_n, zr10, zr11, zr12, zs0, zs10, zs8, zs9, zz0, zz10, zz8, zz9, e9, lc_lt, lc_le, lc_gt, lc_ge, lc_eq, true_and, and_true, List.length_cons, List.length_nil, ab_ia, Nat.reduceAdd, Nat.reduceLeDiff, Nat.reduceEqDiff, Nat.reduceLT, Int.reduceLT, Int.reduceLE, Int.reduceEq, Int.reduceNeg, true_or, or_true, false_or, or_false, not_false_eq_true, not_true_eq_false, false_implies, true_implies, forall_const, implies_true, Nat.zero_le, Nat.le_refl]
      refine ⟨by omega, by omega, by omega, by omega, ?_⟩
      refine v_hs_out hv' hV k hn ha' hb' ho h3 (fun D1 q1 q2 => retI ⟨_, Or.inr (Or.inr ⟨⟨ho, h3⟩, h4, rfl, rfl⟩), q1, q2⟩) (b / 10 + 1 - a / 10).toNat (a / 10) _ vU (by omega) (by omega) ⟨fr_ups (by omega) (fr_ups (by omega) (fr_ups (by omega) fr.refl)), ⟨?_, ?_, ?_⟩, ?_, ?_, fun x x0 x1 => ?_⟩
      · simp (disch := omega) only [ups_ne1]; exact hV.1.1
      · simp (disch := omega) only [ups_ne1]; exact hV.1.2.1
      · simp (disch := omega) only [ups_ne1]; exact hV.1.2.2
      · intro q q0 q1
        simp (disch := omega) only [ups_ne1]
        exact hV.2.1 q q0 q1
      · intro q q0 q1
        by_cases z : q = V.nh
        · subst z
          obtain ⟨e0, e1, e2, e3⟩ := hsV_new (V := V) (a := a) (b := b) (w := w)
          rw [e0, e2, e3]
          simp (disch := omega) only [ups_ne1, ups_self, and_self]
        · simp (disch := omega) only [ups_ne1, ups_ne2, hsV_old]
          exact hV.2.2.1 q q0 (by omega)
      · rw [ups_ne1 (by omega), ups_ne1 (by omega), ups_ne1 (by omega)]
        exact ⟨fun q => absurd q.2 (by have := q.1; unfold ahd; unfold cov at this; omega), fun _ => rfl⟩
end VilHouse
