/-! the reference: put by, put back, asked -/
/-- what was put by in slot s -/
def vK (D : ab_D) (s : Int) (V : Vil) : Prop := ∃ P H : Nat → Int, vMr P H V ∧ (∀ k, 0 ≤ k → k < 192 → D 78 (192 * s + k).toNat = P k.toNat) ∧ (∀ k, 0 ≤ k → k < 24 → D 79 (24 * s + k).toNat = H k.toNat) ∧ D 80 (3 * s).toNat = V.np ∧ D 80 (3 * s + 1).toNat = V.nh ∧ D 80 (3 * s + 2).toNat = V.yr
/-- nothing changed but slot s -/
def frK (s : Int) (D D' : ab_D) : Prop := (∀ a, a ≠ 77 → a ≠ 78 → a ≠ 79 → a ≠ 80 → D' a = D a) ∧ (∀ j, j ≠ s.toNat → D' 77 j = D 77 j) ∧ (∀ k : Int, 0 ≤ k → ¬ (192 * s ≤ k ∧ k < 192 * s + 192) → D' 78 k.toNat = D 78 k.toNat) ∧ (∀ k : Int, 0 ≤ k → ¬ (24 * s ≤ k ∧ k < 24 * s + 24) → D' 79 k.toNat = D 79 k.toNat) ∧ ∀ k : Int, 0 ≤ k → ¬ (3 * s ≤ k ∧ k < 3 * s + 3) → D' 80 k.toNat = D 80 k.toNat
theorem frK.refl {s : Int} {D : ab_D} : frK s D D := ⟨fun _ _ _ _ _ => rfl, fun _ _ => rfl, fun _ _ _ => rfl, fun _ _ _ => rfl, fun _ _ _ => rfl⟩
theorem vK_fr {s s' : Int} {D D' : ab_D} {V : Vil} (hs : 0 ≤ s ∧ 0 ≤ s') (hne : s' ≠ s) (hf : frK s D D') (h : vK D s' V) : vK D' s' V := by
  obtain ⟨P, H, h1, h2, h3, h4, h5, h6⟩ := h
  obtain ⟨f1, f2, f3, f4, f5⟩ := hf
  refine ⟨P, H, h1, fun k k0 k1 => ?_, fun k k0 k1 => ?_, ?_, ?_, ?_⟩
  · rw [f3 _ (by omega) (by omega)]; exact h2 k k0 k1
  · rw [f4 _ (by omega) (by omega)]; exact h3 k k0 k1
  · rw [f5 _ (by omega) (by omega)]; exact h4
  · rw [f5 _ (by omega) (by omega)]; exact h5
  · rw [f5 _ (by omega) (by omega)]; exact h6
section RefAsk
variable {L : Nat} {D : ab_D} {G : Gr} {V : Vil}
theorem m_putBy_l1 {Q : Option ab_V → ab_H → Prop} {s : Int} (hs : 0 ≤ s ∧ s < 3)
    (hq : ∀ D', (∀ a, a ≠ 78 → D' a = D a) → (∀ k, 0 ≤ k → k < 192 → D' 78 (192 * s + k).toNat = D 74 k.toNat) → (∀ k : Int, 0 ≤ k → ¬ (192 * s ≤ k ∧ k < 192 * s + 192) → D' 78 k.toNat = D 78 k.toNat) → Sx 150 52 [vR 69, vI s, vI 192] [] (EE L, D') (0, 0) Q) :
    ∀ (t : Nat) (n : Int) (D1 : ab_D), 0 ≤ n → n + t = 192 → (∀ a, a ≠ 78 → D1 a = D a) → (∀ k, 0 ≤ k → k < n → D1 78 (192 * s + k).toNat = D 74 k.toNat) → (∀ k : Int, 0 ≤ k → ¬ (192 * s ≤ k ∧ k < 192 * s + 192) → D1 78 k.toNat = D 78 k.toNat) → Sx 150 35 [vR 69, vI s, vI n] [] (EE L, D1) (0, 0) Q := by
  intro t
  induction t with
  | zero =>
    intro n D1 h0 ht h1 h2 h3
    refine go_150_35 ?_
    simp only [sg_150_35, cl_I, cl_L, cl_R, e_aload_n, e_get1, e_goto, e_iadd, e_iaload, e_iastore, e_icmp_ge, e_iinc, e_iload_n, e_imul, e_nil, e_sipush, l_inc2, l_ld1, l_ld2, l_ldA0, wRef_some, EE_n, EE_r69_15, EE_r69_9, EE_s69, EE_s74, EE_s78, lc_lt, lc_le, lc_gt, lc_ge, lc_eq, true_and, and_true, List.length_cons, List.length_nil, ab_ia, Nat.reduceAdd, Nat.reduceLeDiff, Nat.reduceEqDiff, Nat.reduceLT, Int.reduceLT, Int.reduceLE, Int.reduceEq, Int.reduceNeg, true_or, or_true, false_or, or_false, not_false_eq_true, not_true_eq_false, false_implies, true_implies, forall_const, implies_true, Nat.zero_le, Nat.le_refl]
    refine ⟨fun _ => ?_, fun hc => absurd hc (by omega)⟩
    have e : n = 192 := by omega
    subst e
    exact hq D1 h1 h2 h3
  | succ t ih =>
    intro n D1 h0 ht h1 h2 h3
    have e74 := congrFun (h1 74 (by decide)) n.toNat
    refine go_150_35 ?_
    simp only [sg_150_35, cl_I, cl_L, cl_R, e_aload_n, e_get1, e_goto, e_iadd, e_iaload, e_iastore, e_icmp_ge, e_iinc, e_iload_n, e_imul, e_nil, e_sipush, l_inc2, l_ld1, l_ld2, l_ldA0, wRef_some, EE_n, EE_r69_15, EE_r69_9, EE_s69, EE_s74, EE_s78, e74, lc_lt, lc_le, lc_gt, lc_ge, lc_eq, true_and, and_true, List.length_cons, List.length_nil, ab_ia, Nat.reduceAdd, Nat.reduceLeDiff, Nat.reduceEqDiff, Nat.reduceLT, Int.reduceLT, Int.reduceLE, Int.reduceEq, Int.reduceNeg, true_or, or_true, false_or, or_false, not_false_eq_true, not_true_eq_false, false_implies, true_implies, forall_const, implies_true, Nat.zero_le, Nat.le_refl]
    refine ⟨fun hc => absurd hc (by omega), fun _ => ⟨⟨by omega, by omega⟩, ⟨by omega, by omega⟩, by omega, by omega, ⟨by omega, by omega⟩, ih (n + 1) _ (by omega) (by omega) (fun a ha => ?_) (fun k k0 k1 => ?_) (fun k k0 k1 => ?_)⟩⟩
    · funext j; rw [ups_ne1 ha, h1 a ha]
    · by_cases q : k = n
      · subst q; rw [ups_self]
      · rw [ups_ne2 (by omega)]; exact h2 k k0 (by omega)
    · rw [ups_ne2 (by omega)]; exact h3 k k0 k1
theorem m_putBy_l2 {Q : Option ab_V → ab_H → Prop} {s : Int} (hs : 0 ≤ s ∧ s < 3)
    (hq : ∀ D', (∀ a, a ≠ 79 → D' a = D a) → (∀ k, 0 ≤ k → k < 24 → D' 79 (24 * s + k).toNat = D 75 k.toNat) → (∀ k : Int, 0 ≤ k → ¬ (24 * s ≤ k ∧ k < 24 * s + 24) → D' 79 k.toNat = D 79 k.toNat) → Q none (EE L, D')) :
    ∀ (t : Nat) (n : Int) (D1 : ab_D), 0 ≤ n → n + t = 24 → (∀ a, a ≠ 79 → D1 a = D a) → (∀ k, 0 ≤ k → k < n → D1 79 (24 * s + k).toNat = D 75 k.toNat) → (∀ k : Int, 0 ≤ k → ¬ (24 * s ≤ k ∧ k < 24 * s + 24) → D1 79 k.toNat = D 79 k.toNat) → Sx 150 54 [vR 69, vI s, vI n] [] (EE L, D1) (0, 0) Q := by
  intro t
  induction t with
  | zero =>
    intro n D1 h0 ht h1 h2 h3
    refine go_150_54 ?_
    simp only [sg_150_54, cl_I, cl_L, cl_R, e_aload_n, e_bipush, e_get1, e_goto, e_iadd, e_iaload, e_iastore, e_icmp_ge, e_iinc, e_iload_n, e_imul, e_nil, l_inc2, l_ld1, l_ld2, l_ldA0, wRef_some, EE_n, EE_r69_11, EE_r69_16, EE_s69, EE_s75, EE_s79, lc_lt, lc_le, lc_gt, lc_ge, lc_eq, true_and, and_true, List.length_cons, List.length_nil, ab_ia, Nat.reduceAdd, Nat.reduceLeDiff, Nat.reduceEqDiff, Nat.reduceLT, Int.reduceLT, Int.reduceLE, Int.reduceEq, Int.reduceNeg, true_or, or_true, false_or, or_false, not_false_eq_true, not_true_eq_false, false_implies, true_implies, forall_const, implies_true, Nat.zero_le, Nat.le_refl]
    refine ⟨fun _ => ?_, fun hc => absurd hc (by omega)⟩
    refine go_150_71 ?_
    simp only [sg_150_71, cl_I, cl_L, cl_R, e_nil, e_vret, lc_lt, lc_le, lc_gt, lc_ge, lc_eq, true_and, and_true, List.length_cons, List.length_nil, ab_ia, Nat.reduceAdd, Nat.reduceLeDiff, Nat.reduceEqDiff, Nat.reduceLT, Int.reduceLT, Int.reduceLE, Int.reduceEq, Int.reduceNeg, true_or, or_true, false_or, or_false, not_false_eq_true, not_true_eq_false, false_implies, true_implies, forall_const, implies_true, Nat.zero_le, Nat.le_refl]
    have e : n = 24 := by omega
    subst e
    exact hq D1 h1 h2 h3
  | succ t ih =>
    intro n D1 h0 ht h1 h2 h3
    have e74 := congrFun (h1 75 (by decide)) n.toNat
    refine go_150_54 ?_
    simp only [sg_150_54, cl_I, cl_L, cl_R, e_aload_n, e_bipush, e_get1, e_goto, e_iadd, e_iaload, e_iastore, e_icmp_ge, e_iinc, e_iload_n, e_imul, e_nil, l_inc2, l_ld1, l_ld2, l_ldA0, wRef_some, EE_n, EE_r69_11, EE_r69_16, EE_s69, EE_s75, EE_s79, e74, lc_lt, lc_le, lc_gt, lc_ge, lc_eq, true_and, and_true, List.length_cons, List.length_nil, ab_ia, Nat.reduceAdd, Nat.reduceLeDiff, Nat.reduceEqDiff, Nat.reduceLT, Int.reduceLT, Int.reduceLE, Int.reduceEq, Int.reduceNeg, true_or, or_true, false_or, or_false, not_false_eq_true, not_true_eq_false, false_implies, true_implies, forall_const, implies_true, Nat.zero_le, Nat.le_refl]
    refine ⟨fun hc => absurd hc (by omega), fun _ => ⟨⟨by omega, by omega⟩, ⟨by omega, by omega⟩, by omega, by omega, ⟨by omega, by omega⟩, ih (n + 1) _ (by omega) (by omega) (fun a ha => ?_) (fun k k0 k1 => ?_) (fun k k0 k1 => ?_)⟩⟩
    · funext j; rw [ups_ne1 ha, h1 a ha]
    · by_cases q : k = n
      · subst q; rw [ups_self]
      · rw [ups_ne2 (by omega)]; exact h2 k k0 (by omega)
    · rw [ups_ne2 (by omega)]; exact h3 k k0 k1
theorem m_putBy {s : Int} (hs : 0 ≤ s ∧ s < 3) (hV : vM D V) : CV 150 [vR 69, vI s] (EE L, D) (fun D' => frK s D D' ∧ vK D' s V ∧ D' 77 s.toNat = 1) := by
  obtain ⟨⟨a1, a2, a3⟩, hr⟩ := hV
  refine Sx.un (y := 150) (n := 0) (lo := [vR 69, vI s, vU]) (st := []) (u := (0, 0)) ?_
  refine go_150_0 ?_
  simp only [sg_150_0, cl_I, cl_L, cl_R, e_aload_n, e_bastore, e_get0, e_get1, e_iadd, e_iastore, e_iconst, e_iload_n, e_imul, e_istore_n, e_nil, l_ld1, l_ldA0, l_st2, wRef_some, EE_n, EE_r69_14, EE_r69_17, EE_s69, EE_s77, EE_s80, lc_lt, lc_le, lc_gt, lc_ge, lc_eq, true_and, and_true, List.length_cons, List.length_nil, ab_ia, Nat.reduceAdd, Nat.reduceLeDiff, Nat.reduceEqDiff, Nat.reduceLT, Int.reduceLT, Int.reduceLE, Int.reduceEq, Int.reduceNeg, true_or, or_true, false_or, or_false, not_false_eq_true, not_true_eq_false, false_implies, true_implies, forall_const, implies_true, Nat.zero_le, Nat.le_refl]
  simp (disch := omega) only [ups_ne1, a1, a2, a3]
  refine ⟨by omega, ⟨by omega, by omega⟩, by omega, ⟨by omega, by omega⟩, ⟨by omega, by omega⟩, by omega, ⟨by omega, by omega⟩, ⟨by omega, by omega⟩, by omega, ?_⟩
  refine m_putBy_l1 hs (fun D1 f1 p1 o1 => ?_) 192 0 _ (by omega) (by omega) (fun _ _ => rfl) (fun k k0 k1 => absurd k1 (by omega)) (fun _ _ _ => rfl)
  refine go_150_52 ?_
  simp only [sg_150_52, cl_I, cl_L, cl_R, e_iconst, e_istore_n, e_nil, l_st2, lc_lt, lc_le, lc_gt, lc_ge, lc_eq, true_and, and_true, List.length_cons, List.length_nil, ab_ia, Nat.reduceAdd, Nat.reduceLeDiff, Nat.reduceEqDiff, Nat.reduceLT, Int.reduceLT, Int.reduceLE, Int.reduceEq, Int.reduceNeg, true_or, or_true, false_or, or_false, not_false_eq_true, not_true_eq_false, false_implies, true_implies, forall_const, implies_true, Nat.zero_le, Nat.le_refl]
  refine m_putBy_l2 (D := D1) hs (fun D2 f2 p2 o2 => retV ⟨⟨fun a h1 h2 h3 h4 => ?_, fun j hj => ?_, fun k k0 k1 => ?_, fun k k0 k1 => ?_, fun k k0 k1 => ?_⟩, ⟨D 74, D 75, hr, fun k k0 k1 => ?_, fun k k0 k1 => ?_, ?_, ?_, ?_⟩, ?_⟩) 24 0 D1 (by omega) (by omega) (fun _ _ => rfl) (fun k k0 k1 => absurd k1 (by omega)) (fun _ _ _ => rfl)
  · rw [f2 a h3, f1 a h2]
    funext j
    simp (disch := omega) only [ups_ne1]
  · rw [f2 77 (by decide), f1 77 (by decide)]
    simp (disch := omega) only [ups_ne1, ups_ne2]
  · rw [f2 78 (by decide), o1 k k0 k1]
    simp (disch := omega) only [ups_ne1, ups_ne2]
  · rw [o2 k k0 k1, f1 79 (by decide)]
    simp (disch := omega) only [ups_ne1, ups_ne2]
  · rw [f2 80 (by decide), f1 80 (by decide)]
    simp (disch := omega) only [ups_ne1, ups_ne2]
  · rw [f2 78 (by decide), p1 k k0 k1]
    simp (disch := omega) only [ups_ne1, ups_ne2]
  · rw [p2 k k0 k1, f1 75 (by decide)]
    simp (disch := omega) only [ups_ne1, ups_ne2]
  · rw [f2 80 (by decide), f1 80 (by decide)]
    simp (disch := omega) only [ups_ne1, ups_ne2, ups_self]
  · rw [f2 80 (by decide), f1 80 (by decide)]
    simp (disch := omega) only [ups_ne1, ups_ne2, ups_self]
  · rw [f2 80 (by decide), f1 80 (by decide)]
    simp (disch := omega) only [ups_ne1, ups_ne2, ups_self]
  · rw [f2 77 (by decide), f1 77 (by decide)]
    simp (disch := omega) only [ups_ne1, ups_ne2, ups_self]
theorem m_putBack_l1 {Q : Option ab_V → ab_H → Prop} {s : Int} (hs : 0 ≤ s ∧ s < 3)
    (hq : ∀ D', (∀ a, a ≠ 74 → D' a = D a) → (∀ k, 0 ≤ k → k < 192 → D' 74 k.toNat = D 78 (192 * s + k).toNat) → Sx 151 47 [vR 69, vI s, vI 192] [] (EE L, D') (0, 0) Q) :
    ∀ (t : Nat) (n : Int) (D1 : ab_D), 0 ≤ n → n + t = 192 → (∀ a, a ≠ 74 → D1 a = D a) → (∀ k, 0 ≤ k → k < n → D1 74 k.toNat = D 78 (192 * s + k).toNat) → Sx 151 30 [vR 69, vI s, vI n] [] (EE L, D1) (0, 0) Q := by
  intro t
  induction t with
  | zero =>
    intro n D1 h0 ht h1 h2
    refine go_151_30 ?_
    simp only [sg_151_30, cl_I, cl_L, cl_R, e_aload_n, e_get1, e_goto, e_iadd, e_iaload, e_iastore, e_icmp_ge, e_iinc, e_iload_n, e_imul, e_nil, e_sipush, l_inc2, l_ld1, l_ld2, l_ldA0, wRef_some, EE_n, EE_r69_15, EE_r69_9, EE_s69, EE_s74, EE_s78, lc_lt, lc_le, lc_gt, lc_ge, lc_eq, true_and, and_true, List.length_cons, List.length_nil, ab_ia, Nat.reduceAdd, Nat.reduceLeDiff, Nat.reduceEqDiff, Nat.reduceLT, Int.reduceLT, Int.reduceLE, Int.reduceEq, Int.reduceNeg, true_or, or_true, false_or, or_false, not_false_eq_true, not_true_eq_false, false_implies, true_implies, forall_const, implies_true, Nat.zero_le, Nat.le_refl]
    refine ⟨fun _ => ?_, fun hc => absurd hc (by omega)⟩
    have e : n = 192 := by omega
    subst e
    exact hq D1 h1 h2
  | succ t ih =>
    intro n D1 h0 ht h1 h2
    have e74 := congrFun (h1 78 (by decide)) (192 * s + n).toNat
    refine go_151_30 ?_
    simp only [sg_151_30, cl_I, cl_L, cl_R, e_aload_n, e_get1, e_goto, e_iadd, e_iaload, e_iastore, e_icmp_ge, e_iinc, e_iload_n, e_imul, e_nil, e_sipush, l_inc2, l_ld1, l_ld2, l_ldA0, wRef_some, EE_n, EE_r69_15, EE_r69_9, EE_s69, EE_s74, EE_s78, e74, lc_lt, lc_le, lc_gt, lc_ge, lc_eq, true_and, and_true, List.length_cons, List.length_nil, ab_ia, Nat.reduceAdd, Nat.reduceLeDiff, Nat.reduceEqDiff, Nat.reduceLT, Int.reduceLT, Int.reduceLE, Int.reduceEq, Int.reduceNeg, true_or, or_true, false_or, or_false, not_false_eq_true, not_true_eq_false, false_implies, true_implies, forall_const, implies_true, Nat.zero_le, Nat.le_refl]
    refine ⟨fun hc => absurd hc (by omega), fun _ => ⟨⟨by omega, by omega⟩, ⟨by omega, by omega⟩, by omega, by omega, ⟨by omega, by omega⟩, ih (n + 1) _ (by omega) (by omega) (fun a ha => ?_) (fun k k0 k1 => ?_)⟩⟩
    · funext j; rw [ups_ne1 ha, h1 a ha]
    · by_cases q : k = n
      · subst q; rw [ups_self]
      · rw [ups_ne2 (by omega)]; exact h2 k k0 (by omega)
theorem m_putBack_l2 {Q : Option ab_V → ab_H → Prop} {s : Int} (hs : 0 ≤ s ∧ s < 3)
    (hq : ∀ D', (∀ a, a ≠ 75 → D' a = D a) → (∀ k, 0 ≤ k → k < 24 → D' 75 k.toNat = D 79 (24 * s + k).toNat) → Q none (EE L, D')) :
    ∀ (t : Nat) (n : Int) (D1 : ab_D), 0 ≤ n → n + t = 24 → (∀ a, a ≠ 75 → D1 a = D a) → (∀ k, 0 ≤ k → k < n → D1 75 k.toNat = D 79 (24 * s + k).toNat) → Sx 151 49 [vR 69, vI s, vI n] [] (EE L, D1) (0, 0) Q := by
  intro t
  induction t with
  | zero =>
    intro n D1 h0 ht h1 h2
    refine go_151_49 ?_
    simp only [sg_151_49, cl_I, cl_L, cl_R, e_aload_n, e_bipush, e_get1, e_goto, e_iadd, e_iaload, e_iastore, e_icmp_ge, e_iinc, e_iload_n, e_imul, e_nil, l_inc2, l_ld1, l_ld2, l_ldA0, wRef_some, EE_n, EE_r69_11, EE_r69_16, EE_s69, EE_s75, EE_s79, lc_lt, lc_le, lc_gt, lc_ge, lc_eq, true_and, and_true, List.length_cons, List.length_nil, ab_ia, Nat.reduceAdd, Nat.reduceLeDiff, Nat.reduceEqDiff, Nat.reduceLT, Int.reduceLT, Int.reduceLE, Int.reduceEq, Int.reduceNeg, true_or, or_true, false_or, or_false, not_false_eq_true, not_true_eq_false, false_implies, true_implies, forall_const, implies_true, Nat.zero_le, Nat.le_refl]
    refine ⟨fun _ => ?_, fun hc => absurd hc (by omega)⟩
    refine go_151_66 ?_
    simp only [sg_151_66, cl_I, cl_L, cl_R, e_nil, e_vret, lc_lt, lc_le, lc_gt, lc_ge, lc_eq, true_and, and_true, List.length_cons, List.length_nil, ab_ia, Nat.reduceAdd, Nat.reduceLeDiff, Nat.reduceEqDiff, Nat.reduceLT, Int.reduceLT, Int.reduceLE, Int.reduceEq, Int.reduceNeg, true_or, or_true, false_or, or_false, not_false_eq_true, not_true_eq_false, false_implies, true_implies, forall_const, implies_true, Nat.zero_le, Nat.le_refl]
    have e : n = 24 := by omega
    subst e
    exact hq D1 h1 h2
  | succ t ih =>
    intro n D1 h0 ht h1 h2
    have e74 := congrFun (h1 79 (by decide)) (24 * s + n).toNat
    refine go_151_49 ?_
    simp only [sg_151_49, cl_I, cl_L, cl_R, e_aload_n, e_bipush, e_get1, e_goto, e_iadd, e_iaload, e_iastore, e_icmp_ge, e_iinc, e_iload_n, e_imul, e_nil, l_inc2, l_ld1, l_ld2, l_ldA0, wRef_some, EE_n, EE_r69_11, EE_r69_16, EE_s69, EE_s75, EE_s79, e74, lc_lt, lc_le, lc_gt, lc_ge, lc_eq, true_and, and_true, List.length_cons, List.length_nil, ab_ia, Nat.reduceAdd, Nat.reduceLeDiff, Nat.reduceEqDiff, Nat.reduceLT, Int.reduceLT, Int.reduceLE, Int.reduceEq, Int.reduceNeg, true_or, or_true, false_or, or_false, not_false_eq_true, not_true_eq_false, false_implies, true_implies, forall_const, implies_true, Nat.zero_le, Nat.le_refl]
    refine ⟨fun hc => absurd hc (by omega), fun _ => ⟨⟨by omega, by omega⟩, ⟨by omega, by omega⟩, by omega, by omega, ⟨by omega, by omega⟩, ih (n + 1) _ (by omega) (by omega) (fun a ha => ?_) (fun k k0 k1 => ?_)⟩⟩
    · funext j; rw [ups_ne1 ha, h1 a ha]
    · by_cases q : k = n
      · subst q; rw [ups_self]
      · rw [ups_ne2 (by omega)]; exact h2 k k0 (by omega)
/-- nothing changed but the village itself -/
def frB (D D' : ab_D) : Prop := (∀ a, a ≠ 69 → a ≠ 74 → a ≠ 75 → D' a = D a) ∧ ∀ j, j ≠ 8 → j ≠ 10 → j ≠ 12 → D' 69 j = D 69 j
theorem m_putBack {s : Int} (hs : 0 ≤ s ∧ s < 3) (hK : vK D s V) (k : vOK G V) : CV 151 [vR 69, vI s] (EE L, D) (fun D' => frB D D' ∧ vM D' V) := by
  obtain ⟨P, H, h1, h2, h3, h4, h5, h6⟩ := hK
  have kk := k.1
  refine Sx.un (y := 151) (n := 0) (lo := [vR 69, vI s, vU]) (st := []) (u := (0, 0)) ?_
  refine go_151_0 ?_
  simp only [sg_151_0, cl_I, cl_L, cl_R, e_aload_n, e_get1, e_iadd, e_iaload, e_iconst, e_iload_n, e_imul, e_istore_n, e_nil, e_put0, l_ld1, l_ldA0, l_st2, wRef_some, EE_n, EE_r69_17, EE_s69, EE_s80, lc_lt, lc_le, lc_gt, lc_ge, lc_eq, true_and, and_true, List.length_cons, List.length_nil, ab_ia, Nat.reduceAdd, Nat.reduceLeDiff, Nat.reduceEqDiff, Nat.reduceLT, Int.reduceLT, Int.reduceLE, Int.reduceEq, Int.reduceNeg, true_or, or_true, false_or, or_false, not_false_eq_true, not_true_eq_false, false_implies, true_implies, forall_const, implies_true, Nat.zero_le, Nat.le_refl]
  simp (disch := omega) only [ups_ne1, h4, h5, h6]
  refine ⟨⟨by omega, by omega⟩, by omega, ⟨by omega, by omega⟩, ⟨by omega, by omega⟩, by omega, ⟨by omega, by omega⟩, ⟨by omega, by omega⟩, by omega, ?_⟩
  refine m_putBack_l1 hs (fun D1 f1 p1 => ?_) 192 0 _ (by omega) (by omega) (fun _ _ => rfl) (fun k k0 k1 => absurd k1 (by omega))
  refine go_151_47 ?_
  simp only [sg_151_47, cl_I, cl_L, cl_R, e_iconst, e_istore_n, e_nil, l_st2, lc_lt, lc_le, lc_gt, lc_ge, lc_eq, true_and, and_true, List.length_cons, List.length_nil, ab_ia, Nat.reduceAdd, Nat.reduceLeDiff, Nat.reduceEqDiff, Nat.reduceLT, Int.reduceLT, Int.reduceLE, Int.reduceEq, Int.reduceNeg, true_or, or_true, false_or, or_false, not_false_eq_true, not_true_eq_false, false_implies, true_implies, forall_const, implies_true, Nat.zero_le, Nat.le_refl]
  refine m_putBack_l2 (D := D1) hs (fun D2 f2 p2 => retV ⟨⟨fun a h1 h2 h3 => ?_, fun j j1 j2 j3 => ?_⟩, ⟨?_, ?_, ?_⟩, fun p p0 p1' => ?_, fun h h0 h1' => ?_⟩) 24 0 D1 (by omega) (by omega) (fun _ _ => rfl) (fun k k0 k1 => absurd k1 (by omega))
  · rw [f2 a h3, f1 a h2]
    funext j
    simp (disch := omega) only [ups_ne1]
  · rw [f2 69 (by decide), f1 69 (by decide)]
    simp (disch := omega) only [ups_ne2]
  · rw [f2 69 (by decide), f1 69 (by decide)]
    simp (disch := omega) only [ups_ne2, ups_self]
  · rw [f2 69 (by decide), f1 69 (by decide)]
    simp (disch := omega) only [ups_ne2, ups_self]
  · rw [f2 69 (by decide), f1 69 (by decide)]
    simp (disch := omega) only [ups_ne2, ups_self]
  · rw [f2 74 (by decide)]
    have rd : ∀ k : Int, 0 ≤ k → k < 192 → D1 74 k.toNat = P k.toNat := by
      intro k k0 k1
      rw [p1 k k0 k1]
      simp (disch := omega) only [ups_ne1]
      exact h2 k k0 k1
    rw [rd _ (by omega) (by omega), rd _ (by omega) (by omega), rd _ (by omega) (by omega), rd _ (by omega) (by omega), rd _ (by omega) (by omega), rd _ (by omega) (by omega), rd _ (by omega) (by omega), rd _ (by omega) (by omega)]
    exact h1.1 p p0 p1'
  · have rd : ∀ k : Int, 0 ≤ k → k < 24 → D2 75 k.toNat = H k.toNat := by
      intro k k0 k1
      rw [p2 k k0 k1, f1 79 (by decide)]
      simp (disch := omega) only [ups_ne1]
      exact h3 k k0 k1
    rw [rd _ (by omega) (by omega), rd _ (by omega) (by omega), rd _ (by omega) (by omega), rd _ (by omega) (by omega)]
    exact h1.2 h h0 h1'
end RefAsk
/-- n years, mended by a rule -/
def tri (G : Gr) (rule : Int) (V : Vil) : Nat → Vil
  | 0 => V
  | k + 1 => yearV G (mendV G rule (tri G rule V k))
/-- the first year of which b holds -/
def askF (b : Nat → Bool) (y : Int) : Nat → Int
  | 0 => -9
  | k + 1 => if b k = true ∧ askF b y k = -9 then y + k else askF b y k
section Tri
variable {G : Gr} {V : Vil} {rule : Int}
theorem tri_all (g : gOK G) (k : vOK G V) {n : Nat} (hn : V.yr + n ≤ 1000000) : vOK G (tri G rule V n) ∧ (tri G rule V n).yr = V.yr + n ∧ (tri G rule V n).nh = V.nh ∧ V.np ≤ (tri G rule V n).np := by
  induction n with
  | zero => exact ⟨k, by show V.yr = V.yr + 0; omega, rfl, Int.le_refl _⟩
  | succ n ih =>
    obtain ⟨i1, i2, i3, i4⟩ := ih (by omega)
    have hm := mendV_ok (rule := rule) i1
    have hg := (mendV_grew (G := G) (V := tri G rule V n) (rule := rule)).1
    refine ⟨yearV_ok g hm (by omega), ?_, ?_, ?_⟩
    · show (yearV G _).yr = _
      rw [yearV_yr]; omega
    · show (yearV G _).nh = _
      rw [yearV_nh]; omega
    · show _ ≤ (yearV G _).np
      rw [yearV_np]; omega
theorem mendV_h : (mendV G rule V).h = V.h := (mendV_grew (G := G) (V := V) (rule := rule)).1.2.2.2
theorem dwnV_mono {h : Int} {k : Nat} (hd : V.h h 3 = 1) : (dwnV V k).h h 3 = 1 := by
  induction k with
  | zero => exact hd
  | succ k ih =>
    show (dwnS (dwnV V k) k).h h 3 = 1
    unfold dwnS
    split
    · rw [setH_h]
      split
      · rfl
      · exact ih
    · exact ih
theorem yearV_mono {h : Int} (hd : V.h h 3 = 1) : (yearV G V).h h 3 = 1 := by
  show (dwnV (yr3 G V) V.nh.toNat).h h 3 = 1
  exact dwnV_mono (by rw [yr3_1.2]; exact hd)
theorem tri_mono {h : Int} {n m : Nat} (hd : (tri G rule V n).h h 3 = 1) : (tri G rule V (n + m)).h h 3 = 1 := by
  induction m with
  | zero => exact hd
  | succ m ih =>
    show (yearV G (mendV G rule (tri G rule V (n + m)))).h h 3 = 1
    exact yearV_mono (by rw [mendV_h]; exact ih)
theorem askF_none {b : Nat → Bool} {y : Int} {n : Nat} (h : ∀ k, k < n → b k = false) : askF b y n = -9 := by
  induction n with
  | zero => rfl
  | succ n ih =>
    simp only [askF]
    rw [if_neg (fun q => by rw [h n (by omega)] at q; exact absurd q.1 (by decide)), ih (fun k hk => h k (by omega))]
theorem askF_first {b : Nat → Bool} {y : Int} {k n : Nat} (hy : 0 ≤ y) (hk : k < n) (h : ∀ j, j < k → b j = false) (hb : b k = true) : askF b y n = y + k := by
  induction n with
  | zero => omega
  | succ n ih =>
    simp only [askF]
    by_cases q : k = n
    · subst q
      rw [if_pos ⟨hb, askF_none h⟩]
    · have e := ih (by omega)
      rw [if_neg (fun q => by omega), e]
theorem askF_bd {b : Nat → Bool} {y : Int} {n : Nat} (hy : 0 ≤ y) : askF b y n = -9 ∨ (0 ≤ askF b y n ∧ askF b y n < y + n) := by
  induction n with
  | zero => exact Or.inl rfl
  | succ n ih =>
    simp only [askF]
    split <;> omega
end Tri
/-- nothing changed but what ask may change -/
def frA (D D' : ab_D) : Prop := (∀ a, a ≠ 69 → a ≠ 74 → a ≠ 75 → a ≠ 76 → a ≠ 77 → a ≠ 78 → a ≠ 79 → a ≠ 80 → D' a = D a) ∧ (∀ j, j ≠ 8 → j ≠ 10 → j ≠ 12 → j ≠ 18 → D' 69 j = D 69 j) ∧ (∀ j, j ≠ 2 → D' 77 j = D 77 j) ∧ (∀ k : Int, 0 ≤ k → k < 384 → D' 78 k.toNat = D 78 k.toNat) ∧ (∀ k : Int, 0 ≤ k → k < 48 → D' 79 k.toNat = D 79 k.toNat) ∧ ∀ k : Int, 0 ≤ k → k < 6 → D' 80 k.toNat = D 80 k.toNat
theorem frA.refl {D : ab_D} : frA D D := ⟨fun _ _ _ _ _ _ _ _ _ => rfl, fun _ _ _ _ _ => rfl, fun _ _ => rfl, fun _ _ _ => rfl, fun _ _ _ => rfl, fun _ _ _ => rfl⟩
theorem frA.trans {D D' D'' : ab_D} (h : frA D D') (k : frA D' D'') : frA D D'' := ⟨fun a h1 h2 h3 h4 h5 h6 h7 h8 => (k.1 a h1 h2 h3 h4 h5 h6 h7 h8).trans (h.1 a h1 h2 h3 h4 h5 h6 h7 h8), fun j h1 h2 h3 h4 => (k.2.1 j h1 h2 h3 h4).trans (h.2.1 j h1 h2 h3 h4), fun j hj => (k.2.2.1 j hj).trans (h.2.2.1 j hj), fun j h0 h1 => (k.2.2.2.1 j h0 h1).trans (h.2.2.2.1 j h0 h1), fun j h0 h1 => (k.2.2.2.2.1 j h0 h1).trans (h.2.2.2.2.1 j h0 h1), fun j h0 h1 => (k.2.2.2.2.2 j h0 h1).trans (h.2.2.2.2.2 j h0 h1)⟩
theorem frT.a {D D' : ab_D} (h : frT D D') : frA D D' := ⟨fun a h1 h2 h3 h4 _ _ _ _ => h.1 a h1 h2 h3 h4, h.2, fun j _ => congrFun (h.1 77 (by decide) (by decide) (by decide) (by decide)) j, fun k _ _ => congrFun (h.1 78 (by decide) (by decide) (by decide) (by decide)) _, fun k _ _ => congrFun (h.1 79 (by decide) (by decide) (by decide) (by decide)) _, fun k _ _ => congrFun (h.1 80 (by decide) (by decide) (by decide) (by decide)) _⟩
theorem frB.a {D D' : ab_D} (h : frB D D') : frA D D' := frT.a ⟨fun a h1 h2 h3 _ => h.1 a h1 h2 h3, fun j h1 h2 h3 _ => h.2 j h1 h2 h3⟩
theorem frK.a {D D' : ab_D} (h : frK 2 D D') : frA D D' := ⟨fun a h1 h2 h3 h4 h5 h6 h7 h8 => h.1 a h5 h6 h7 h8, fun j _ _ _ _ => congrFun (h.1 69 (by decide) (by decide) (by decide) (by decide)) j, fun j hj => h.2.1 j hj, fun k k0 k1 => h.2.2.1 k k0 (by omega), fun k k0 k1 => h.2.2.2.1 k k0 (by omega), fun k k0 k1 => h.2.2.2.2 k k0 (by omega)⟩
theorem vK_T {D D' : ab_D} {s : Int} {V : Vil} (hf : frT D D') (h : vK D s V) : vK D' s V := by
  unfold vK
  rw [hf.1 78 (by decide) (by decide) (by decide) (by decide), hf.1 79 (by decide) (by decide) (by decide) (by decide), hf.1 80 (by decide) (by decide) (by decide) (by decide)]
  exact h
/-- what ask looks for behind each year -/
def askB (G : Gr) (rule h : Int) (V : Vil) (off : Int) (x : Int) (k : Nat) : Bool := decide (0 ≤ h ∧ (if off = 0 then (¬ V.h h 3 = 1 ∧ (tri G rule V (k + 1)).h h 3 = 1) else x < offv (tri G rule V (k + 1)) h))
section Ask
variable {L : Nat} {D : ab_D} {G : Gr} {V : Vil}
theorem m_ask_loop {Q : Option ab_V → ab_H → Prop} {rule h n off x was : Int} (g : gOK G) (hg : gM D G) (k : vOK G V) (hr : 0 ≤ rule ∧ rule < 4) (hh : h < V.nh) (hn : 1 ≤ n ∧ n ≤ 60) (hy : V.yr ≤ 100000) (hoff : off = 0 ∨ off = 1) (hwas : was = if 0 ≤ h ∧ V.h h 3 = 1 then 1 else 0) (hK : vK D 2 V)
    (hq : ∀ D' x9, frT D D' → vM D' (tri G rule V n.toNat) → D' 69 18 = (tri G rule V n.toNat).np - V.np → Sx 154 75 [vR 69, vI rule, vI h, vI n, vI off, vI x, vI (askF (askB G rule h V off x) V.yr n.toNat), vI was, vI n, x9] [] (EE L, D') (0, 0) Q) :
    ∀ (t : Nat) (j : Int) (D1 : ab_D) (x9 : ab_V), 0 ≤ j → j + t = n → frT D D1 → vM D1 (tri G rule V j.toNat) → D1 69 18 = (tri G rule V j.toNat).np - V.np → Sx 154 26 [vR 69, vI rule, vI h, vI n, vI off, vI x, vI (askF (askB G rule h V off x) V.yr j.toNat), vI was, vI j, x9] [] (EE L, D1) (0, 0) Q := by
  have kk := k.1
  intro t
  induction t with
  | zero =>
    intro j D1 x9 h0 ht hf hV ht1
    refine go_154_26 ?_
    simp only [sg_154_26, cl_I, cl_L, cl_R, e_aload_n, e_cv1, e_cv2, e_goto, e_icmp_ge, e_icmp_le, e_if_eq, e_if_lt, e_iload, e_iload_n, e_nil, e_pop, fl_0, fl_I, fl_L, fl_R, l_ld1, l_ld2, l_ld3, l_ld4, l_ld5, l_ld8, l_ldA0, rk_0, rk_1, EE_n, EE_s69, lc_lt, lc_le, lc_gt, lc_ge, lc_eq, true_and, and_true, List.length_cons, List.length_nil, ab_ia, Nat.reduceAdd, Nat.reduceLeDiff, Nat.reduceEqDiff, Nat.reduceLT, Int.reduceLT, Int.reduceLE, Int.reduceEq, Int.reduceNeg, true_or, or_true, false_or, or_false, not_false_eq_true, not_true_eq_false, false_implies, true_implies, forall_const, implies_true, Nat.zero_le, Nat.le_refl]
    refine ⟨fun _ => ?_, fun hc => absurd hc (by omega)⟩
    have e : j = n := by omega
    subst e
    exact hq D1 _ hf hV ht1
  | succ t ih =>
    intro j D1 x9 h0 ht hf hV ht1
    obtain ⟨a1, a2, a3, a4⟩ := tri_all (rule := rule) g k (n := j.toNat) (by omega)
    have hm := mendV_ok (rule := rule) a1
    have hgw := (mendV_grew (G := G) (V := tri G rule V j.toNat) (rule := rule)).1
    have ihk := fun D' x9 => ih (j + 1) D' x9 (by omega) (by omega)
    have et : tri G rule V (j + 1).toNat = yearV G (mendV G rule (tri G rule V j.toNat)) := by rw [show (j + 1).toNat = j.toNat + 1 by omega, tri]
    have ea : askF (askB G rule h V off x) V.yr (j + 1).toNat = if askB G rule h V off x j.toNat = true ∧ askF (askB G rule h V off x) V.yr j.toNat = -9 then V.yr + j else askF (askB G rule h V off x) V.yr j.toNat := by
      rw [show (j + 1).toNat = j.toNat + 1 by omega, askF, show ((j.toNat : Nat) : Int) = j by omega]
    have hab := askF_bd (b := askB G rule h V off x) (n := j.toNat) (y := V.yr) (by omega)
    have eb : askB G rule h V off x j.toNat = decide (0 ≤ h ∧ (if off = 0 then (¬ V.h h 3 = 1 ∧ (tri G rule V (j + 1).toNat).h h 3 = 1) else x < offv (tri G rule V (j + 1).toNat) h)) := by
      unfold askB
      rw [show (j + 1).toNat = j.toNat + 1 by omega]
    obtain ⟨b1, b2, b3, b4⟩ := tri_all (rule := rule) g k (n := (j + 1).toNat) (by omega)
    generalize askF (askB G rule h V off x) V.yr j.toNat = F at *
    generalize askB G rule h V off x j.toNat = B at *
    have hgM1 := gM_frT hf hg
    refine go_154_26 ?_
    simp only [sg_154_26, cl_I, cl_L, cl_R, e_aload_n, e_cv1, e_cv2, e_goto, e_icmp_ge, e_icmp_le, e_if_eq, e_if_lt, e_iload, e_iload_n, e_nil, e_pop, fl_0, fl_I, fl_L, fl_R, l_ld1, l_ld2, l_ld3, l_ld4, l_ld5, l_ld8, l_ldA0, rk_0, rk_1, EE_n, EE_s69, lc_lt, lc_le, lc_gt, lc_ge, lc_eq, true_and, and_true, List.length_cons, List.length_nil, ab_ia, Nat.reduceAdd, Nat.reduceLeDiff, Nat.reduceEqDiff, Nat.reduceLT, Int.reduceLT, Int.reduceLE, Int.reduceEq, Int.reduceNeg, true_or, or_true, false_or, or_false, not_false_eq_true, not_true_eq_false, false_implies, true_implies, forall_const, implies_true, Nat.zero_le, Nat.le_refl]
    refine ⟨fun hc => absurd hc (by omega), fun _ => ?_⟩
    refine (m_mh g hgM1 hV a1 hr (by have := a1.1; omega)).mono ?_
    rintro D2 ⟨hf2, hV2, ht2⟩
    try simp only [EE_n, EE_s69, lc_lt, lc_le, lc_gt, lc_ge, lc_eq, true_and, and_true, List.length_cons, List.length_nil, ab_ia, Nat.reduceAdd, Nat.reduceLeDiff, Nat.reduceEqDiff, Nat.reduceLT, Int.reduceLT, Int.reduceLE, Int.reduceEq, Int.reduceNeg, true_or, or_true, false_or, or_false, not_false_eq_true, not_true_eq_false, false_implies, true_implies, forall_const, implies_true, Nat.zero_le, Nat.le_refl]
    have hgM2 := gM_frT (hf.trans hf2) hg
    refine (m_goBy g hgM2 hV2 hm (by omega)).mono ?_
    rintro r D3 ⟨rfl, hf3, hV3⟩
    have hf4 := (hf.trans hf2).trans hf3.t
    rw [← et] at hV3
    have ht3 : D3 69 18 = (tri G rule V (j + 1).toNat).np - V.np := by
      rw [hf3.2 18 (by decide) (by decide) (by decide), et, yearV_np]
      omega
    have ey : D3 69 12 = V.yr + j + 1 := by rw [hV3.1.2.2]; omega
    have lst : ∀ (q : Int) (x9 : ab_V), (q = 1 ∧ B = true) ∨ (q = 0 ∧ B = false) → Sx 154 60 [vR 69, vI rule, vI h, vI n, vI off, vI x, vI F, vI was, vI j, x9] [vI q] (EE L, D3) (0, 0) Q := by
      intro q x9 hqb
      have ihf := fun x9 => ihk D3 x9 hf4 hV3 ht3
      rw [ea] at ihf
      refine go_154_60 ?_
      simp only [sg_154_60, cl_I, cl_L, cl_R, e_aload_n, e_bipush, e_get0, e_goto, e_icmp_ne, e_iconst, e_if_eq, e_iload, e_istore, e_isub, e_nil, l_ld6, l_ld9, l_ldA0, l_st9, wRef_some, EE_n, EE_s69, ey, lc_lt, lc_le, lc_gt, lc_ge, lc_eq, true_and, and_true, List.length_cons, List.length_nil, ab_ia, Nat.reduceAdd, Nat.reduceLeDiff, Nat.reduceEqDiff, Nat.reduceLT, Int.reduceLT, Int.reduceLE, Int.reduceEq, Int.reduceNeg, true_or, or_true, false_or, or_false, not_false_eq_true, not_true_eq_false, false_implies, true_implies, forall_const, implies_true, Nat.zero_le, Nat.le_refl]
      refine ⟨fun h1 => ?_, fun h1 => ⟨fun h2 => ?_, fun h2 => ?_⟩⟩
      · refine go_154_71 ?_
        simp only [sg_154_71, cl_I, cl_L, cl_R, e_goto, e_iinc, e_iload, e_istore, e_nil, l_inc8, l_ld6, l_st6, lc_lt, lc_le, lc_gt, lc_ge, lc_eq, true_and, and_true, List.length_cons, List.length_nil, ab_ia, Nat.reduceAdd, Nat.reduceLeDiff, Nat.reduceEqDiff, Nat.reduceLT, Int.reduceLT, Int.reduceLE, Int.reduceEq, Int.reduceNeg, true_or, or_true, false_or, or_false, not_false_eq_true, not_true_eq_false, false_implies, true_implies, forall_const, implies_true, Nat.zero_le, Nat.le_refl]
        rw [if_neg (fun z => by rcases hqb with ⟨q1, q2⟩ | ⟨q1, q2⟩; omega; rw [q2] at z; exact absurd z.1 (by decide))] at ihf
        exact ⟨⟨by omega, by omega⟩, ihf _⟩
      · refine go_154_71 ?_
        simp only [sg_154_71, cl_I, cl_L, cl_R, e_goto, e_iinc, e_iload, e_istore, e_nil, l_inc8, l_ld6, l_st6, lc_lt, lc_le, lc_gt, lc_ge, lc_eq, true_and, and_true, List.length_cons, List.length_nil, ab_ia, Nat.reduceAdd, Nat.reduceLeDiff, Nat.reduceEqDiff, Nat.reduceLT, Int.reduceLT, Int.reduceLE, Int.reduceEq, Int.reduceNeg, true_or, or_true, false_or, or_false, not_false_eq_true, not_true_eq_false, false_implies, true_implies, forall_const, implies_true, Nat.zero_le, Nat.le_refl]
        rw [if_neg (fun z => h2 z.2)] at ihf
        exact ⟨⟨by omega, by omega⟩, ihf _⟩
      · refine ⟨⟨by omega, by omega⟩, ?_⟩
        refine go_154_72 ?_
        simp only [sg_154_72, cl_I, cl_L, cl_R, e_goto, e_iinc, e_istore, e_nil, l_inc8, l_st6, lc_lt, lc_le, lc_gt, lc_ge, lc_eq, true_and, and_true, List.length_cons, List.length_nil, ab_ia, Nat.reduceAdd, Nat.reduceLeDiff, Nat.reduceEqDiff, Nat.reduceLT, Int.reduceLT, Int.reduceLE, Int.reduceEq, Int.reduceNeg, true_or, or_true, false_or, or_false, not_false_eq_true, not_true_eq_false, false_implies, true_implies, forall_const, implies_true, Nat.zero_le, Nat.le_refl]
        have hB : B = true := by rcases hqb with ⟨q1, q2⟩ | ⟨q1, q2⟩; exact q2; omega
        rw [if_pos ⟨hB, by omega⟩] at ihf
        rw [show V.yr + j + 1 - 1 = V.yr + j by omega]
        exact ⟨⟨by omega, by omega⟩, ihf _⟩
    have z59 : B = false → ∀ x9 : ab_V, Sx 154 59 [vR 69, vI rule, vI h, vI n, vI off, vI x, vI F, vI was, vI j, x9] [] (EE L, D3) (0, 0) Q := by
      intro hB x9
      have ihf := fun x9 => ihk D3 x9 hf4 hV3 ht3
      rw [ea, if_neg (fun z => by rw [hB] at z; exact absurd z.1 (by decide))] at ihf
      refine go_154_59 ?_
      simp only [sg_154_59, cl_I, cl_L, cl_R, e_aload_n, e_bipush, e_get0, e_goto, e_icmp_ne, e_iconst, e_if_eq, e_iload, e_istore, e_isub, e_nil, l_ld6, l_ld9, l_ldA0, l_st9, wRef_some, EE_n, EE_s69, lc_lt, lc_le, lc_gt, lc_ge, lc_eq, true_and, and_true, List.length_cons, List.length_nil, ab_ia, Nat.reduceAdd, Nat.reduceLeDiff, Nat.reduceEqDiff, Nat.reduceLT, Int.reduceLT, Int.reduceLE, Int.reduceEq, Int.reduceNeg, true_or, or_true, false_or, or_false, not_false_eq_true, not_true_eq_false, false_implies, true_implies, forall_const, implies_true, Nat.zero_le, Nat.le_refl]
      refine go_154_71 ?_
      simp only [sg_154_71, cl_I, cl_L, cl_R, e_goto, e_iinc, e_iload, e_istore, e_nil, l_inc8, l_ld6, l_st6, lc_lt, lc_le, lc_gt, lc_ge, lc_eq, true_and, and_true, List.length_cons, List.length_nil, ab_ia, Nat.reduceAdd, Nat.reduceLeDiff, Nat.reduceEqDiff, Nat.reduceLT, Int.reduceLT, Int.reduceLE, Int.reduceEq, Int.reduceNeg, true_or, or_true, false_or, or_false, not_false_eq_true, not_true_eq_false, false_implies, true_implies, forall_const, implies_true, Nat.zero_le, Nat.le_refl]
      exact ⟨⟨by omega, by omega⟩, ihf _⟩
    have z57 : B = true → ∀ x9 : ab_V, Sx 154 57 [vR 69, vI rule, vI h, vI n, vI off, vI x, vI F, vI was, vI j, x9] [] (EE L, D3) (0, 0) Q := by
      intro hB x9
      refine go_154_57 ?_
      simp only [sg_154_57, cl_I, cl_L, cl_R, e_goto, e_iconst, e_nil, lc_lt, lc_le, lc_gt, lc_ge, lc_eq, true_and, and_true, List.length_cons, List.length_nil, ab_ia, Nat.reduceAdd, Nat.reduceLeDiff, Nat.reduceEqDiff, Nat.reduceLT, Int.reduceLT, Int.reduceLE, Int.reduceEq, Int.reduceNeg, true_or, or_true, false_or, or_false, not_false_eq_true, not_true_eq_false, false_implies, true_implies, forall_const, implies_true, Nat.zero_le, Nat.le_refl]
      exact lst 1 _ (Or.inl ⟨rfl, hB⟩)
    try simp only [EE_n, EE_s69, lc_lt, lc_le, lc_gt, lc_ge, lc_eq, true_and, and_true, List.length_cons, List.length_nil, ab_ia, Nat.reduceAdd, Nat.reduceLeDiff, Nat.reduceEqDiff, Nat.reduceLT, Int.reduceLT, Int.reduceLE, Int.reduceEq, Int.reduceNeg, true_or, or_true, false_or, or_false, not_false_eq_true, not_true_eq_false, false_implies, true_implies, forall_const, implies_true, Nat.zero_le, Nat.le_refl]
    refine ⟨fun h1 => z59 (by rw [eb]; exact decide_eq_false (by omega)) _, fun h1 => ⟨fun h2 => ?_, fun h2 => ?_⟩⟩
    · have c3 := (hV3.2.2 h (by omega) (by omega)).2.2.2
      have k3 := (b1.2.2.1 h (by omega) (by omega)).2.2.2
      have kv := (k.2.2.1 h (by omega) (by omega)).2.2.2
      simp only [if_pos h2] at eb
      refine go_154_45 ?_
      simp only [sg_154_45, cl_I, cl_L, cl_R, e_aload_n, e_get1, e_goto, e_iadd, e_iaload, e_icmp_ne, e_iconst, e_if_ne, e_iload, e_iload_n, e_imul, e_nil, l_ld2, l_ld7, l_ldA0, wRef_some, EE_n, EE_r69_11, EE_s69, EE_s75, c3, lc_lt, lc_le, lc_gt, lc_ge, lc_eq, true_and, and_true, List.length_cons, List.length_nil, ab_ia, Nat.reduceAdd, Nat.reduceLeDiff, Nat.reduceEqDiff, Nat.reduceLT, Int.reduceLT, Int.reduceLE, Int.reduceEq, Int.reduceNeg, true_or, or_true, false_or, or_false, not_false_eq_true, not_true_eq_false, false_implies, true_implies, forall_const, implies_true, Nat.zero_le, Nat.le_refl]
      refine ⟨fun h3 => z59 (by rw [eb]; exact decide_eq_false (fun z => h3 (by rw [hwas, if_neg (fun z2 => z.2.1 z2.2)]))) _, fun h3 => ⟨⟨by omega, by omega⟩, ⟨by omega, by omega⟩, by omega, fun h4 => ?_, fun h4 => ?_⟩⟩
      · exact z59 (by rw [eb]; exact decide_eq_false (fun z => h4 z.2.2)) _
      · refine lst 1 _ (Or.inl ⟨rfl, ?_⟩)
        rw [eb]
        exact decide_eq_true ⟨by omega, fun z => by rw [if_pos ⟨by omega, z⟩] at hwas; omega, by omega⟩
    · simp only [if_neg h2] at eb
      refine CI.use (m_off g hV3 b1 (by omega) (by omega)) ?_
      try simp only [EE_n, EE_s69, lc_lt, lc_le, lc_gt, lc_ge, lc_eq, true_and, and_true, List.length_cons, List.length_nil, ab_ia, Nat.reduceAdd, Nat.reduceLeDiff, Nat.reduceEqDiff, Nat.reduceLT, Int.reduceLT, Int.reduceLE, Int.reduceEq, Int.reduceNeg, true_or, or_true, false_or, or_false, not_false_eq_true, not_true_eq_false, false_implies, true_implies, forall_const, implies_true, Nat.zero_le, Nat.le_refl]
      refine ⟨fun h3 => ?_, fun h3 => ?_⟩
      · exact z59 (by rw [eb]; exact decide_eq_false (fun z => absurd z.2 (by omega))) _
      · exact z57 (by rw [eb]; exact decide_eq_true ⟨by omega, by omega⟩) _
theorem m_ask {rule h n off x : Int} (g : gOK G) (hg : gM D G) (hV : vM D V) (k : vOK G V) (hr : 0 ≤ rule ∧ rule < 4) (hh : h < V.nh) (hn : 1 ≤ n ∧ n ≤ 60) (hy : V.yr ≤ 100000) (hoff : off = 0 ∨ off = 1) : CI 154 [vR 69, vI rule, vI h, vI n, vI off, vI x] (EE L, D) (fun r D' => r = askF (askB G rule h V off x) V.yr n.toNat ∧ frA D D' ∧ vM D' V ∧ D' 69 18 = (tri G rule V n.toNat).np - V.np) := by
  have kk := k.1
  refine Sx.un (y := 154) (n := 0) (lo := [vR 69, vI rule, vI h, vI n, vI off, vI x, vU, vU, vU, vU]) (st := []) (u := (0, 0)) ?_
  refine go_154_0 ?_
  simp only [sg_154_0, cl_I, cl_L, cl_R, e_aload_n, e_bipush, e_cv2, e_get1, e_goto, e_iadd, e_iaload, e_icmp_ne, e_iconst, e_if_lt, e_iload_n, e_imul, e_istore, e_nil, e_put0, fl_0, fl_I, fl_L, fl_R, l_ld2, l_ldA0, l_st6, rk_0, wRef_some, EE_n, EE_r69_11, EE_s69, EE_s75, lc_lt, lc_le, lc_gt, lc_ge, lc_eq, true_and, and_true, List.length_cons, List.length_nil, ab_ia, Nat.reduceAdd, Nat.reduceLeDiff, Nat.reduceEqDiff, Nat.reduceLT, Int.reduceLT, Int.reduceLE, Int.reduceEq, Int.reduceNeg, true_or, or_true, false_or, or_false, not_false_eq_true, not_true_eq_false, false_implies, true_implies, forall_const, implies_true, Nat.zero_le, Nat.le_refl]
  refine (m_putBy (by omega) hV).mono ?_
  rintro D1 ⟨f1, K1, t1⟩
  have hV1 : vM D1 V := by
    obtain ⟨⟨a1, a2, a3⟩, hr⟩ := hV
    unfold vM
    rw [f1.1 69 (by decide) (by decide) (by decide) (by decide), f1.1 74 (by decide) (by decide) (by decide) (by decide), f1.1 75 (by decide) (by decide) (by decide) (by decide)]
    exact ⟨⟨a1, a2, a3⟩, hr⟩
  have hg1 : gM D1 G := hg.congr (f1.1 71 (by decide) (by decide) (by decide) (by decide))
  have hV2 : vM (ups D1 69 18 0) V := by
    obtain ⟨⟨a1, a2, a3⟩, hb, hc⟩ := hV1
    refine ⟨⟨?_, ?_, ?_⟩, fun p p0 p1 => ?_, fun h h0 h1 => ?_⟩
    · rw [ups_ne2 (by decide)]; exact a1
    · rw [ups_ne2 (by decide)]; exact a2
    · rw [ups_ne2 (by decide)]; exact a3
    · simp (disch := omega) only [ups_ne1]
      exact hb p p0 p1
    · simp (disch := omega) only [ups_ne1]
      exact hc h h0 h1
  have f2 : frT D1 (ups D1 69 18 0) := frT_ups (by omega) frT.refl
  have hg2 := gM_frT f2 hg1
  have K2 := vK_T f2 K1
  try simp only [EE_n, EE_s69, EE_s75, EE_r69_11, lc_lt, lc_le, lc_gt, lc_ge, lc_eq, true_and, and_true, List.length_cons, List.length_nil, ab_ia, Nat.reduceAdd, Nat.reduceLeDiff, Nat.reduceEqDiff, Nat.reduceLT, Int.reduceLT, Int.reduceLE, Int.reduceEq, Int.reduceNeg, true_or, or_true, false_or, or_false, not_false_eq_true, not_true_eq_false, false_implies, true_implies, forall_const, implies_true, Nat.zero_le, Nat.le_refl]
  have fin : ∀ was : Int, was = (if 0 ≤ h ∧ V.h h 3 = 1 then 1 else 0) → Sx 154 26 [vR 69, vI rule, vI h, vI n, vI off, vI x, vI (-9), vI was, vI 0, vU] [] (EE L, ups D1 69 18 0) (0, 0) (fun r h' => ∃ x_1 D', r = some (.inl x_1) ∧ h' = (EE L, D') ∧ x_1 = askF (askB G rule h V off x) V.yr n.toNat ∧ frA D D' ∧ vM D' V ∧ D' 69 18 = (tri G rule V n.toNat).np - V.np) := by
    intro was hw
    refine m_ask_loop (D := ups D1 69 18 0) g hg2 k hr hh hn hy hoff hw K2 (fun D3 x9 f3 v3 t3 => ?_) n.toNat 0 _ vU (by omega) (by omega) frT.refl hV2 (by rw [ups_self]; show (0 : Int) = V.np - V.np; omega)
    have K3 := vK_T f3 K2
    refine go_154_75 ?_
    simp only [sg_154_75, cl_I, cl_L, cl_R, e_aload_n, e_cv2, e_iconst, e_iload, e_iret0, e_nil, fl_0, fl_I, fl_L, fl_R, l_ld6, l_ldA0, rk_0, EE_n, EE_s69, lc_lt, lc_le, lc_gt, lc_ge, lc_eq, true_and, and_true, List.length_cons, List.length_nil, ab_ia, Nat.reduceAdd, Nat.reduceLeDiff, Nat.reduceEqDiff, Nat.reduceLT, Int.reduceLT, Int.reduceLE, Int.reduceEq, Int.reduceNeg, true_or, or_true, false_or, or_false, not_false_eq_true, not_true_eq_false, false_implies, true_implies, forall_const, implies_true, Nat.zero_le, Nat.le_refl]
    refine (m_putBack (by omega) K3 k).mono ?_
    rintro D4 ⟨f4, v4⟩
    refine retI ⟨rfl, ((f1.a.trans f2.a).trans f3.a).trans f4.a, v4, ?_⟩
    rw [f4.2 18 (by decide) (by decide) (by decide)]
    exact t3
  refine ⟨fun h1 => ?_, fun h1 => ?_⟩
  · refine go_154_22 ?_
    simp only [sg_154_22, cl_I, cl_L, cl_R, e_iconst, e_istore, e_nil, l_st7, l_st8, lc_lt, lc_le, lc_gt, lc_ge, lc_eq, true_and, and_true, List.length_cons, List.length_nil, ab_ia, Nat.reduceAdd, Nat.reduceLeDiff, Nat.reduceEqDiff, Nat.reduceLT, Int.reduceLT, Int.reduceLE, Int.reduceEq, Int.reduceNeg, true_or, or_true, false_or, or_false, not_false_eq_true, not_true_eq_false, false_implies, true_implies, forall_const, implies_true, Nat.zero_le, Nat.le_refl]
    exact fin 0 (by rw [if_neg (by omega)])
  · have c3 := (hV2.2.2 h (by omega) hh).2.2.2
    rw [c3]
    refine ⟨⟨by omega, by omega⟩, ⟨by omega, by omega⟩, by omega, fun h2 => ?_, fun h2 => ?_⟩
    · refine go_154_22 ?_
      simp only [sg_154_22, cl_I, cl_L, cl_R, e_iconst, e_istore, e_nil, l_st7, l_st8, lc_lt, lc_le, lc_gt, lc_ge, lc_eq, true_and, and_true, List.length_cons, List.length_nil, ab_ia, Nat.reduceAdd, Nat.reduceLeDiff, Nat.reduceEqDiff, Nat.reduceLT, Int.reduceLT, Int.reduceLE, Int.reduceEq, Int.reduceNeg, true_or, or_true, false_or, or_false, not_false_eq_true, not_true_eq_false, false_implies, true_implies, forall_const, implies_true, Nat.zero_le, Nat.le_refl]
      exact fin 0 (by rw [if_neg (fun z => h2 z.2)])
    · refine go_154_23 ?_
      simp only [sg_154_23, cl_I, cl_L, cl_R, e_iconst, e_istore, e_nil, l_st7, l_st8, lc_lt, lc_le, lc_gt, lc_ge, lc_eq, true_and, and_true, List.length_cons, List.length_nil, ab_ia, Nat.reduceAdd, Nat.reduceLeDiff, Nat.reduceEqDiff, Nat.reduceLT, Int.reduceLT, Int.reduceLE, Int.reduceEq, Int.reduceNeg, true_or, or_true, false_or, or_false, not_false_eq_true, not_true_eq_false, false_implies, true_implies, forall_const, implies_true, Nat.zero_le, Nat.le_refl]
      exact fin 1 (by rw [if_pos ⟨by omega, by omega⟩])
end Ask
