/-! rings: the long row -/
section Rings
variable {L : Nat} {D : ab_D}
def iabs (a : Int) : Int := if 0 ≤ a then a else -a
/-- what a sample is unlike: k rings behind r, the last one at l -/
def uS (w : Nat → Int) : Nat → Int → Int → Int
  | 0, _, _ => 0
  | k + 1, r, l => iabs (w l.toNat - r % 10) + uS w k (r / 10) (l - 1)
theorem iabs_le {a : Int} {n : Int} (h1 : a ≤ n) (h2 : -n ≤ a) : 0 ≤ iabs a ∧ iabs a ≤ n := by
  unfold iabs
  split <;> omega
def rgW (w : Nat → Int) : Prop := ∀ j, j < 60 → 0 ≤ w j ∧ w j ≤ 9
theorem uS_bd {w : Nat → Int} (hw : rgW w) : ∀ (k : Nat) (r l : Int), 0 ≤ r → k - 1 ≤ l → l < 60 → 0 ≤ uS w k r l ∧ uS w k r l ≤ 9 * k := by
  intro k
  induction k with
  | zero => intro r l _ _ _; simp [uS]
  | succ k ih =>
    intro r l h0 h1 h2
    have h3 := ih (r / 10) (l - 1) (by omega) (by omega) (by omega)
    have h4 := hw l.toNat (by omega)
    have h5 := iabs_le (a := w l.toNat - r % 10) (n := 9) (by omega) (by omega)
    simp only [uS]
    omega
theorem uS_congr {w w' : Nat → Int} (hw : ∀ j, j < 60 → w j = w' j) : ∀ (k : Nat) (r l : Int), k - 1 ≤ l → l < 60 → uS w k r l = uS w' k r l := by
  intro k
  induction k with
  | zero => intro r l _ _; rfl
  | succ k ih =>
    intro r l h1 h2
    simp only [uS]
    rw [ih (r / 10) (l - 1) (by omega) (by omega), hw l.toNat (by omega)]
theorem lr_unlike_loop {Q : Option ab_V → ab_H → Prop} {n rings last : Int} (hw : rgW (D 62)) (hn : 1 ≤ n ∧ n ≤ 9) (hl : n - 1 ≤ last ∧ last < 60) :
    ∀ (k : Nat) (sum rest a : Int), a = last - n + k → (k : Int) ≤ n → (0 ≤ rest ∧ rest < 2147483648) → (0 ≤ sum ∧ sum ≤ 9 * (n - k)) → Q (some (.inl (sum + uS (D 62) k rest a))) (EE L, D) → Sx 28 6 [vR 61, vI n, vI rings, vI last, vI sum, vI rest, vI a] [] (EE L, D) (0, 0) Q := by
  intro k
  induction k with
  | zero =>
    intro sum rest a ha hk h0 hs hq
    refine go_28_6 ?_
    simp only [sg_28_6, cl_I, cl_L, cl_R, e_abs, e_aload_n, e_bipush, e_get1, e_goto, e_iadd, e_iaload, e_icmp_le, e_idiv, e_if_lt, e_iinc, e_iload, e_iload_n, e_irem, e_istore, e_isub, e_nil, l_inc6, l_ld1, l_ld3, l_ld4, l_ld5, l_ld6, l_ldA0, l_st4, l_st5, wRef_some, EE_n, EE_r61_0, EE_s61, EE_s62, lc_lt, lc_le, lc_gt, lc_ge, lc_eq, true_and, and_true, List.length_cons, List.length_nil, ab_ia, Nat.reduceAdd, Nat.reduceLeDiff, Nat.reduceEqDiff, Nat.reduceLT, Int.reduceLT, Int.reduceLE, Int.reduceEq, Int.reduceNeg, true_or, or_true, false_or, or_false, not_false_eq_true, not_true_eq_false, false_implies, true_implies, forall_const, implies_true, Nat.zero_le, Nat.le_refl]
    refine ⟨⟨by omega, by omega⟩, fun _ => ?_, fun hc => absurd hc (by omega)⟩
    refine go_28_31 ?_
    simp only [sg_28_31, cl_I, cl_L, cl_R, e_iload, e_iret0, e_nil, l_ld4, lc_lt, lc_le, lc_gt, lc_ge, lc_eq, true_and, and_true, List.length_cons, List.length_nil, ab_ia, Nat.reduceAdd, Nat.reduceLeDiff, Nat.reduceEqDiff, Nat.reduceLT, Int.reduceLT, Int.reduceLE, Int.reduceEq, Int.reduceNeg, true_or, or_true, false_or, or_false, not_false_eq_true, not_true_eq_false, false_implies, true_implies, forall_const, implies_true, Nat.zero_le, Nat.le_refl]
    simpa [uS] using hq
  | succ k ih =>
    intro sum rest a ha hk h0 hs hq
    have hw1 := hw a.toNat (by omega)
    have hab := iabs_le (a := D 62 a.toNat - rest % 10) (n := 9) (by omega) (by omega)
    refine go_28_6 ?_
    simp only [sg_28_6, cl_I, cl_L, cl_R, e_abs, e_aload_n, e_bipush, e_get1, e_goto, e_iadd, e_iaload, e_icmp_le, e_idiv, e_if_lt, e_iinc, e_iload, e_iload_n, e_irem, e_istore, e_isub, e_nil, l_inc6, l_ld1, l_ld3, l_ld4, l_ld5, l_ld6, l_ldA0, l_st4, l_st5, wRef_some, EE_n, EE_r61_0, EE_s61, EE_s62, lc_lt, lc_le, lc_gt, lc_ge, lc_eq, true_and, and_true, List.length_cons, List.length_nil, ab_ia, Nat.reduceAdd, Nat.reduceLeDiff, Nat.reduceEqDiff, Nat.reduceLT, Int.reduceLT, Int.reduceLE, Int.reduceEq, Int.reduceNeg, true_or, or_true, false_or, or_false, not_false_eq_true, not_true_eq_false, false_implies, true_implies, forall_const, implies_true, Nat.zero_le, Nat.le_refl]
    refine ⟨⟨by omega, by omega⟩, fun hc => absurd hc (by omega), fun _ => ⟨fun hc => absurd hc (by omega), fun _ => ?_⟩⟩
    change _ ∧ _ ∧ _ ∧ _ ∧ i32 (sum + iabs (D 62 a.toNat - rest % 10)) ∧ _ ∧ _ ∧ Sx _ 6 [vR 61, vI n, vI rings, vI last, vI (sum + iabs (D 62 a.toNat - rest % 10)), vI (rest / 10), vI (a + -1)] [] (EE L, D) (0, 0) Q
    refine ⟨by omega, by omega, ⟨by omega, by omega⟩, ⟨by omega, by omega⟩, ⟨by omega, by omega⟩, by omega, ⟨by omega, by omega⟩, ?_⟩
    refine ih _ _ _ (by omega) (by omega) (by omega) (by omega) ?_
    simp only [uS] at hq
    rw [show a + -1 = a - 1 by omega, Int.add_assoc]
    exact hq
theorem lr_unlike {n rings last : Int} (hw : rgW (D 62)) (hn : 1 ≤ n ∧ n ≤ 9) (hl : n - 1 ≤ last ∧ last < 60) (hr : 0 ≤ rings ∧ rings < 2147483648) : CI 28 [vR 61, vI n, vI rings, vI last] (EE L, D) (fun r D' => r = uS (D 62) n.toNat rings last ∧ D' = D) := by
  refine Sx.un (y := 28) (n := 0) (lo := [vR 61, vI n, vI rings, vI last, vU, vU, vU]) (st := []) (u := (0, 0)) ?_
  refine go_28_0 ?_
  simp only [sg_28_0, cl_I, cl_L, cl_R, e_iconst, e_iload_n, e_istore, e_nil, l_ld2, l_ld3, l_st4, l_st5, l_st6, lc_lt, lc_le, lc_gt, lc_ge, lc_eq, true_and, and_true, List.length_cons, List.length_nil, ab_ia, Nat.reduceAdd, Nat.reduceLeDiff, Nat.reduceEqDiff, Nat.reduceLT, Int.reduceLT, Int.reduceLE, Int.reduceEq, Int.reduceNeg, true_or, or_true, false_or, or_false, not_false_eq_true, not_true_eq_false, false_implies, true_implies, forall_const, implies_true, Nat.zero_le, Nat.le_refl]
  refine lr_unlike_loop hw hn hl n.toNat 0 rings last (by omega) (by omega) hr (by omega) ?_
  exact ⟨_, _, rfl, rfl, by omega, rfl⟩
/-- b is the place of the least of f among those from a up to z but one, the first of like ones -/
def isArg (f : Int → Int) (a z aside b : Int) : Prop := (a ≤ b ∧ b < z ∧ b ≠ aside) ∧ ∀ y, a ≤ y → y < z → y ≠ aside → f b ≤ f y ∧ (y < b → f b < f y)
theorem isArg_uniq {f : Int → Int} {a z aside b b' : Int} (h : isArg f a z aside b) (h' : isArg f a z aside b') : b = b' := by
  have h1 := h.2 b' h'.1.1 h'.1.2.1 h'.1.2.2
  have h2 := h'.2 b h.1.1 h.1.2.1 h.1.2.2
  rcases Int.lt_trichotomy b b' with q | q | q
  · have := h2.2 q; omega
  · exact q
  · have := h1.2 q; omega
def bbInv (f : Int → Int) (a z aside best least : Int) : Prop := (best = -9 ∧ ∀ y, a ≤ y → y < z → y = aside) ∨ (isArg f a z aside best ∧ least = f best)
theorem lr_best_loop {Q : Option ab_V → ab_H → Prop} {aside n rings : Int} (hw : rgW (D 62)) (hn : 1 ≤ n ∧ n ≤ 9) (hr : 0 ≤ rings ∧ rings < 2147483648)
    (hq : ∀ b, isArg (fun y => uS (D 62) n.toNat rings y) (n - 1) 60 aside b → Q (some (.inl b)) (EE L, D)) :
    ∀ (k : Nat) (best least last : Int) (x7 : ab_V), last + k = 60 → n - 1 ≤ last → bbInv (fun y => uS (D 62) n.toNat rings y) (n - 1) last aside best least → Sx 29 8 [vR 61, vI aside, vI n, vI rings, vI best, vI least, vI last, x7] [] (EE L, D) (0, 0) Q := by
  intro k
  induction k with
  | zero =>
    intro best least last x7 hk hl hi
    refine go_29_8 ?_
    simp only [sg_29_8, cl_I, cl_L, cl_R, e_aload_n, e_bipush, e_cv4, e_goto, e_icmp_eq, e_icmp_ge, e_iinc, e_iload, e_iload_n, e_istore, e_nil, fl_0, fl_I, fl_L, fl_R, l_inc6, l_ld1, l_ld2, l_ld3, l_ld4, l_ld5, l_ld6, l_ld7, l_ldA0, l_st4, l_st5, l_st7, rk_1, EE_n, EE_s61, lc_lt, lc_le, lc_gt, lc_ge, lc_eq, true_and, and_true, List.length_cons, List.length_nil, ab_ia, Nat.reduceAdd, Nat.reduceLeDiff, Nat.reduceEqDiff, Nat.reduceLT, Int.reduceLT, Int.reduceLE, Int.reduceEq, Int.reduceNeg, true_or, or_true, false_or, or_false, not_false_eq_true, not_true_eq_false, false_implies, true_implies, forall_const, implies_true, Nat.zero_le, Nat.le_refl]
    refine ⟨fun _ => ?_, fun hc => absurd hc (by omega)⟩
    refine go_29_32 ?_
    simp only [sg_29_32, cl_I, cl_L, cl_R, e_iload, e_iret0, e_nil, l_ld4, lc_lt, lc_le, lc_gt, lc_ge, lc_eq, true_and, and_true, List.length_cons, List.length_nil, ab_ia, Nat.reduceAdd, Nat.reduceLeDiff, Nat.reduceEqDiff, Nat.reduceLT, Int.reduceLT, Int.reduceLE, Int.reduceEq, Int.reduceNeg, true_or, or_true, false_or, or_false, not_false_eq_true, not_true_eq_false, false_implies, true_implies, forall_const, implies_true, Nat.zero_le, Nat.le_refl]
    rcases hi with ⟨h1, h2⟩ | ⟨h1, h2⟩
    · have e1 := h2 57 (by omega) (by omega)
      have e2 := h2 58 (by omega) (by omega)
      omega
    · have : last = 60 := by omega
      subst this
      exact hq best h1
  | succ k ih =>
    intro best least last x7 hk hl hi
    have step : ∀ (best' least' : Int) (x7 : ab_V), bbInv (fun y => uS (D 62) n.toNat rings y) (n - 1) (last + 1) aside best' least' → Sx 29 30 [vR 61, vI aside, vI n, vI rings, vI best', vI least', vI last, x7] [] (EE L, D) (0, 0) Q := by
      intro best' least' x7 hi'
      refine go_29_30 ?_
      simp only [sg_29_30, cl_I, cl_L, cl_R, e_goto, e_iinc, e_nil, l_inc6, lc_lt, lc_le, lc_gt, lc_ge, lc_eq, true_and, and_true, List.length_cons, List.length_nil, ab_ia, Nat.reduceAdd, Nat.reduceLeDiff, Nat.reduceEqDiff, Nat.reduceLT, Int.reduceLT, Int.reduceLE, Int.reduceEq, Int.reduceNeg, true_or, or_true, false_or, or_false, not_false_eq_true, not_true_eq_false, false_implies, true_implies, forall_const, implies_true, Nat.zero_le, Nat.le_refl]
      exact ⟨⟨by omega, by omega⟩, ih _ _ _ _ (by omega) (by omega) hi'⟩
    refine go_29_8 ?_
    simp only [sg_29_8, cl_I, cl_L, cl_R, e_aload_n, e_bipush, e_cv4, e_goto, e_icmp_eq, e_icmp_ge, e_iinc, e_iload, e_iload_n, e_istore, e_nil, fl_0, fl_I, fl_L, fl_R, l_inc6, l_ld1, l_ld2, l_ld3, l_ld4, l_ld5, l_ld6, l_ld7, l_ldA0, l_st4, l_st5, l_st7, rk_1, EE_n, EE_s61, lc_lt, lc_le, lc_gt, lc_ge, lc_eq, true_and, and_true, List.length_cons, List.length_nil, ab_ia, Nat.reduceAdd, Nat.reduceLeDiff, Nat.reduceEqDiff, Nat.reduceLT, Int.reduceLT, Int.reduceLE, Int.reduceEq, Int.reduceNeg, true_or, or_true, false_or, or_false, not_false_eq_true, not_true_eq_false, false_implies, true_implies, forall_const, implies_true, Nat.zero_le, Nat.le_refl]
    refine ⟨fun hc => absurd hc (by omega), fun _ => ⟨fun he => ?_, fun hne => ?_⟩⟩
    · refine step best least x7 ?_
      rcases hi with ⟨h1, h2⟩ | ⟨⟨⟨g1, g2, g3⟩, g4⟩, h2⟩
      · exact Or.inl ⟨h1, fun y q1 q2 => by
          by_cases hy : y = last
          · omega
          · exact h2 y q1 (by omega)⟩
      · exact Or.inr ⟨⟨⟨g1, by omega, g3⟩, fun y q1 q2 q3 => g4 y q1 (by omega) q3⟩, h2⟩
    · refine CI.use (lr_unlike hw hn ⟨hl, by omega⟩ hr) ?_
      have put : bbInv (fun y => uS (D 62) n.toNat rings y) (n - 1) (last + 1) aside last (uS (D 62) n.toNat rings last) ∨ ¬ (best = -9 ∨ uS (D 62) n.toNat rings last < least) := by
        by_cases hb : best = -9 ∨ uS (D 62) n.toNat rings last < least
        · refine Or.inl (Or.inr ⟨⟨⟨hl, by omega, hne⟩, fun y q1 q2 q3 => ?_⟩, rfl⟩)
          by_cases hy : y = last
          · subst hy
            exact ⟨by omega, fun z => absurd z (by omega)⟩
          · rcases hi with ⟨h1, h2⟩ | ⟨⟨⟨g1, g2, g3⟩, g4⟩, h2⟩
            · exact absurd (h2 y q1 (by omega)) q3
            · have := (g4 y q1 (by omega) q3).1
              simp only at this h2
              have hlt : uS (D 62) n.toNat rings last < uS (D 62) n.toNat rings y := by
                rcases hb with hb | hb
                · omega
                · omega
              exact ⟨by simp only; omega, fun _ => hlt⟩
        · exact Or.inr hb
      refine ⟨fun hb => ?_, fun hb => ⟨fun hc => ?_, fun hc => ⟨⟨by omega, by omega⟩, ?_⟩⟩⟩
      · refine go_29_26 ?_
        simp only [sg_29_26, cl_I, cl_L, cl_R, e_goto, e_iinc, e_iload, e_istore, e_nil, l_inc6, l_ld6, l_ld7, l_st4, l_st5, lc_lt, lc_le, lc_gt, lc_ge, lc_eq, true_and, and_true, List.length_cons, List.length_nil, ab_ia, Nat.reduceAdd, Nat.reduceLeDiff, Nat.reduceEqDiff, Nat.reduceLT, Int.reduceLT, Int.reduceLE, Int.reduceEq, Int.reduceNeg, true_or, or_true, false_or, or_false, not_false_eq_true, not_true_eq_false, false_implies, true_implies, forall_const, implies_true, Nat.zero_le, Nat.le_refl]
        refine ⟨⟨by omega, by omega⟩, ih _ _ _ _ (by omega) (by omega) ?_⟩
        rcases put with q | q
        · exact q
        · exact absurd (Or.inl hb) q
      · refine step best least _ ?_
        rcases hi with ⟨h1, h2⟩ | ⟨⟨⟨g1, g2, g3⟩, g4⟩, h2⟩
        · exact absurd h1 hb
        · refine Or.inr ⟨⟨⟨g1, by omega, g3⟩, fun y q1 q2 q3 => ?_⟩, h2⟩
          by_cases hy : y = last
          · subst hy
            simp only at h2
            exact ⟨by simp only; omega, fun z => absurd z (by omega)⟩
          · exact g4 y q1 (by omega) q3
      · refine ih _ _ _ _ (by omega) (by omega) ?_
        rcases put with q | q
        · exact q
        · exact absurd (Or.inr (by omega)) q
theorem lr_best {aside n rings : Int} (hw : rgW (D 62)) (hn : 1 ≤ n ∧ n ≤ 9) (hr : 0 ≤ rings ∧ rings < 2147483648) : CI 29 [vR 61, vI aside, vI n, vI rings] (EE L, D) (fun r D' => isArg (fun y => uS (D 62) n.toNat rings y) (n - 1) 60 aside r ∧ D' = D) := by
  refine Sx.un (y := 29) (n := 0) (lo := [vR 61, vI aside, vI n, vI rings, vU, vU, vU, vU]) (st := []) (u := (0, 0)) ?_
  refine go_29_0 ?_
  simp only [sg_29_0, cl_I, cl_L, cl_R, e_bipush, e_iconst, e_iload_n, e_istore, e_isub, e_nil, l_ld2, l_st4, l_st5, l_st6, lc_lt, lc_le, lc_gt, lc_ge, lc_eq, true_and, and_true, List.length_cons, List.length_nil, ab_ia, Nat.reduceAdd, Nat.reduceLeDiff, Nat.reduceEqDiff, Nat.reduceLT, Int.reduceLT, Int.reduceLE, Int.reduceEq, Int.reduceNeg, true_or, or_true, false_or, or_false, not_false_eq_true, not_true_eq_false, false_implies, true_implies, forall_const, implies_true, Nat.zero_le, Nat.le_refl]
  refine ⟨⟨by omega, by omega⟩, lr_best_loop hw hn hr (fun b hb => ⟨_, _, rfl, rfl, hb, rfl⟩) (61 - n).toNat _ _ _ _ (by omega) (by omega) (Or.inl ⟨rfl, fun y h1 h2 => by omega⟩)⟩
end Rings
