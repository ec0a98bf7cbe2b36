/-! the long row -/
def isLR (E : ab_E) (x : Nat) : Prop := (x < E.1 ∧ E.2.1 x = (5, 0)) ∧ E.2.2 x 0 = some (x + 1) ∧ (x + 1 < E.1 ∧ E.2.1 (x + 1) = (0, 60))
def iabs (a : Int) : Int := if 0 ≤ a then a else -a
def uS (w : Nat → Int) : Nat → Int → Int → Int
  | 0, _, _ => 0
  | k + 1, r, l => iabs (w l.toNat - r % 10) + uS w k (r / 10) (l - 1)
theorem iabs_le {a : Int} {n : Int} (h1 : a ≤ n) (h2 : -n ≤ a) : 0 ≤ iabs a ∧ iabs a ≤ n := by
  unfold iabs
  split <;> omega
theorem lr_unlike_loop {E : ab_E} {D : ab_D} {x : Nat} {Q : Option ab_V → ab_H → Prop} {n rings last : Int} (hx : isLR E x) (hw : ∀ j, j < 60 → 0 ≤ D (x + 1) j ∧ D (x + 1) j ≤ 9) (hn : 1 ≤ n ∧ n ≤ 9) (hl : n - 1 ≤ last ∧ last < 60) :
    ∀ (k : Nat) (sum rest a : Int), a = last - n + k → (k : Int) ≤ n → (0 ≤ rest ∧ rest < 2147483648) → (0 ≤ sum ∧ sum ≤ 9 * (n - k)) → Q (some (.inl (sum + uS (D (x + 1)) k rest a))) (E, D) → Sem 28 6 [vR x, vI n, vI rings, vI last, vI sum, vI rest, vI a] [] (E, D) (0, 0) Q := by
  obtain ⟨⟨h1, h2⟩, h3, h4, h5⟩ := hx
  intro k
  induction k with
  | zero =>
    intro sum rest a ha hk h0 hs hq
    refine go_28_6 ?_
    simp only [sg_28_6, cl_I, cl_L, cl_R, e_abs, e_aload_n, e_bipush, e_get1, e_goto, e_iadd, e_iaload, e_icmp_le, e_idiv, e_if_lt, e_iinc, e_iload, e_iload_n, e_irem, e_istore, e_isub, e_nil, l_inc6, l_ld1, l_ld3, l_ld4, l_ld5, l_ld6, l_ldA0, l_st4, l_st5, wRef_some, h1, h2, h3, h4, h5, true_and, and_true, List.length_cons, List.length_nil, ab_ia, Nat.reduceAdd, Nat.reduceLeDiff, Nat.reduceEqDiff, Nat.reduceLT, Int.reduceLT, Int.reduceLE, Int.reduceEq, Int.reduceNeg, true_or, or_true, false_or, or_false, not_false_eq_true, not_true_eq_false, false_implies, true_implies, forall_const, implies_true, Nat.zero_le, Nat.le_refl]
    refine ⟨⟨by omega, by omega⟩, fun _ => ?_, fun hc => absurd hc (by omega)⟩
    refine go_28_31 ?_
    simp only [sg_28_31, cl_I, cl_L, cl_R, e_iload, e_iret0, e_nil, l_ld4, true_and, and_true, List.length_cons, List.length_nil, ab_ia, Nat.reduceAdd, Nat.reduceLeDiff, Nat.reduceEqDiff, Nat.reduceLT, Int.reduceLT, Int.reduceLE, Int.reduceEq, Int.reduceNeg, true_or, or_true, false_or, or_false, not_false_eq_true, not_true_eq_false, false_implies, true_implies, forall_const, implies_true, Nat.zero_le, Nat.le_refl]
    simpa [uS] using hq
  | succ k ih =>
    intro sum rest a ha hk h0 hs hq
    have hw1 := hw a.toNat (by omega)
    have hab := iabs_le (a := D (x + 1) a.toNat - rest % 10) (n := 9) (by omega) (by omega)
    refine go_28_6 ?_
    simp only [sg_28_6, cl_I, cl_L, cl_R, e_abs, e_aload_n, e_bipush, e_get1, e_goto, e_iadd, e_iaload, e_icmp_le, e_idiv, e_if_lt, e_iinc, e_iload, e_iload_n, e_irem, e_istore, e_isub, e_nil, l_inc6, l_ld1, l_ld3, l_ld4, l_ld5, l_ld6, l_ldA0, l_st4, l_st5, wRef_some, h1, h2, h3, h4, h5, true_and, and_true, List.length_cons, List.length_nil, ab_ia, Nat.reduceAdd, Nat.reduceLeDiff, Nat.reduceEqDiff, Nat.reduceLT, Int.reduceLT, Int.reduceLE, Int.reduceEq, Int.reduceNeg, true_or, or_true, false_or, or_false, not_false_eq_true, not_true_eq_false, false_implies, true_implies, forall_const, implies_true, Nat.zero_le, Nat.le_refl]
    refine ⟨⟨by omega, by omega⟩, fun hc => absurd hc (by omega), fun _ => ⟨fun hc => absurd hc (by omega), fun _ => ?_⟩⟩
    change _ ∧ _ ∧ _ ∧ _ ∧ i32 (sum + iabs (D (x + 1) a.toNat - rest % 10)) ∧ _ ∧ _ ∧ Sem _ 6 [vR x, vI n, vI rings, vI last, vI (sum + iabs (D (x + 1) a.toNat - rest % 10)), vI (rest / 10), vI (a + -1)] [] (E, D) (0, 0) Q
    refine ⟨by omega, by omega, ⟨by omega, by omega⟩, ⟨by omega, by omega⟩, ⟨by omega, by omega⟩, by omega, ⟨by omega, by omega⟩, ?_⟩
    refine ih _ _ _ (by omega) (by omega) (by omega) (by omega) ?_
    simp only [uS] at hq
    rw [show a + -1 = a - 1 by omega, Int.add_assoc]
    exact hq
theorem lr_unlike {E : ab_E} {D : ab_D} {x : Nat} {n rings last : Int} (hx : isLR E x) (hw : ∀ j, j < 60 → 0 ≤ D (x + 1) j ∧ D (x + 1) j ≤ 9) (hn : 1 ≤ n ∧ n ≤ 9) (hl : n - 1 ≤ last ∧ last < 60) (hr : 0 ≤ rings ∧ rings < 2147483648) : CI 28 [vR x, vI n, vI rings, vI last] (E, D) (fun r D' => r = uS (D (x + 1)) n.toNat rings last ∧ D' = D) := by
  show Sem 28 0 [vR x, vI n, vI rings, vI last, vU, vU, vU] [] _ (0, 0) _
  refine go_28_0 ?_
  simp only [sg_28_0, cl_I, cl_L, cl_R, e_iconst, e_iload_n, e_istore, e_nil, l_ld2, l_ld3, l_st4, l_st5, l_st6, true_and, and_true, List.length_cons, List.length_nil, ab_ia, Nat.reduceAdd, Nat.reduceLeDiff, Nat.reduceEqDiff, Nat.reduceLT, Int.reduceLT, Int.reduceLE, Int.reduceEq, Int.reduceNeg, true_or, or_true, false_or, or_false, not_false_eq_true, not_true_eq_false, false_implies, true_implies, forall_const, implies_true, Nat.zero_le, Nat.le_refl]
  refine lr_unlike_loop hx hw hn hl n.toNat 0 rings last (by omega) (by omega) hr (by omega) ?_
  exact ⟨_, _, rfl, rfl, by omega, rfl⟩
