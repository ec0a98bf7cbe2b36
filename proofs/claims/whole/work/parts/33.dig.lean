/-! dig -/
section Dig
variable {L : Nat} {D : ab_D}
/-- how many of the first k finds touch the cell a -/
def tcn (c : Nat → Int) (a : Int) : Nat → Int := cnt (fun i => decide (tch (c i) a))
/-- what dig counts at a cell: the finds that touch, or nothing -/
def dgv (N : Nat) (c : Nat → Int) (a : Int) (v : Int) : Prop := ((∃ i, i < N ∧ c i = a) ∧ v = 0) ∨ ((¬ ∃ i, i < N ∧ c i = a) ∧ v = tcn c a N)
/-- the best among the cells that C allows, the least first -/
def dgb (N : Nat) (c : Nat → Int) (C : Int → Prop) (r m : Int) : Prop := (r = -9 ∧ m = 0 ∧ ∀ a v, C a → dgv N c a v → v ≤ 0) ∨ (0 < m ∧ C r ∧ dgv N c r m ∧ ∀ a v, C a → dgv N c a v → v < m ∨ (v = m ∧ r ≤ a))
theorem dgv_ex (N : Nat) (c : Nat → Int) (a : Int) : ∃ v, dgv N c a v := by
  by_cases h : ∃ i, i < N ∧ c i = a
  · exact ⟨0, Or.inl ⟨h, rfl⟩⟩
  · exact ⟨_, Or.inr ⟨h, rfl⟩⟩
theorem dgv_uniq {N : Nat} {c : Nat → Int} {a v v' : Int} (h : dgv N c a v) (h' : dgv N c a v') : v = v' := by
  rcases h with ⟨h1, h2⟩ | ⟨h1, h2⟩ <;> rcases h' with ⟨j1, j2⟩ | ⟨j1, j2⟩
  · omega
  · exact absurd h1 j1
  · exact absurd j1 h1
  · omega
theorem dgb_uniq {N : Nat} {c : Nat → Int} {C C' : Int → Prop} {r m r' m' : Int} (hC : ∀ a, C a ↔ C' a) (h : dgb N c C r m) (h' : dgb N c C' r' m') : r = r' := by
  rcases h with ⟨h1, h2, h3⟩ | ⟨h1, h2, h3, h4⟩ <;> rcases h' with ⟨j1, j2, j3⟩ | ⟨j1, j2, j3, j4⟩
  · omega
  · have := h3 r' m' ((hC _).mpr j2) j3; omega
  · have := j3 r m ((hC _).mp h2) h3; omega
  · have a1 := h4 r' m' ((hC _).mpr j2) j3
    have a2 := j4 r m ((hC _).mp h2) h3
    omega
theorem dgb_step {N : Nat} {c : Nat → Int} {C C' : Int → Prop} {a v r m : Int} (h : dgb N c C r m) (hC : ∀ b, C' b ↔ C b ∨ b = a) (hlt : ∀ b, C b → b < a) (hv : dgv N c a v) : (v ≤ m → dgb N c C' r m) ∧ (m < v → dgb N c C' a v) := by
  constructor
  · intro hm
    rcases h with ⟨h1, h2, h3⟩ | ⟨h1, h2, h3, h4⟩
    · refine Or.inl ⟨h1, h2, fun b w hb hw => ?_⟩
      rcases (hC b).mp hb with q | q
      · exact h3 b w q hw
      · subst q; rw [dgv_uniq hw hv]; omega
    · refine Or.inr ⟨h1, (hC r).mpr (Or.inl h2), h3, fun b w hb hw => ?_⟩
      rcases (hC b).mp hb with q | q
      · exact h4 b w q hw
      · subst q
        have := hlt r h2
        rw [dgv_uniq hw hv]; omega
  · intro hm
    have h0 : 0 ≤ m := by rcases h with ⟨h1, h2, h3⟩ | ⟨h1, h2, h3, h4⟩ <;> omega
    refine Or.inr ⟨by omega, (hC a).mpr (Or.inr rfl), hv, fun b w hb hw => ?_⟩
    rcases (hC b).mp hb with q | q
    · rcases h with ⟨h1, h2, h3⟩ | ⟨h1, h2, h3, h4⟩
      · have := h3 b w q hw; omega
      · have := h4 b w q hw; omega
    · subst q; rw [dgv_uniq hw hv]; omega
theorem tcn_succ {c : Nat → Int} {a : Int} {k : Nat} : tcn c a (k + 1) = tcn c a k + if tch (c k) a then 1 else 0 := by
  simp only [tcn, cnt, decide_eq_true_eq]
theorem f_tu_loop {Q : Option ab_V → ab_H → Prop} {a : Int} (hk : fOK (D 63 1) (D 64) (D 65)) (ha : 0 ≤ a ∧ a < 1000)
    (hq : ∀ v, dgv (D 63 1).toNat (D 64) a v → Q (some (.inl v)) (EE L, D)) :
    ∀ (t : Nat) (o : Int), 0 ≤ o → o + t = D 63 1 → (∀ i : Nat, (i : Int) < o → D 64 i ≠ a) → Sx 17 4 [vR 63, vI a, vI (tcn (D 64) a o.toNat), vI o] [] (EE L, D) (0, 0) Q := by
  have h16 := hk.1
  intro t
  induction t with
  | zero =>
    intro o h0 ht hi
    refine go_17_4 ?_
    simp only [sg_17_4, cl_I, cl_L, cl_R, e_aload_n, e_get0, e_get1, e_iaload, e_icmp_ge, e_icmp_ne, e_iconst, e_iload_n, e_iret0, e_nil, l_ld1, l_ld3, l_ldA0, wRef_some, EE_n, EE_r63_2, EE_s63, EE_s64, lc_lt, lc_le, lc_gt, lc_ge, lc_eq, true_and, and_true, List.length_cons, List.length_nil, ab_ia, Nat.reduceAdd, Nat.reduceLeDiff, Nat.reduceEqDiff, Nat.reduceLT, Int.reduceLT, Int.reduceLE, Int.reduceEq, Int.reduceNeg, true_or, or_true, false_or, or_false, not_false_eq_true, not_true_eq_false, false_implies, true_implies, forall_const, implies_true, Nat.zero_le, Nat.le_refl]
    refine ⟨fun _ => ?_, fun hc => absurd hc (by omega)⟩
    refine go_17_26 ?_
    simp only [sg_17_26, cl_I, cl_L, cl_R, e_iload_n, e_iret0, e_nil, l_ld2, lc_lt, lc_le, lc_gt, lc_ge, lc_eq, true_and, and_true, List.length_cons, List.length_nil, ab_ia, Nat.reduceAdd, Nat.reduceLeDiff, Nat.reduceEqDiff, Nat.reduceLT, Int.reduceLT, Int.reduceLE, Int.reduceEq, Int.reduceNeg, true_or, or_true, false_or, or_false, not_false_eq_true, not_true_eq_false, false_implies, true_implies, forall_const, implies_true, Nat.zero_le, Nat.le_refl]
    refine hq _ (Or.inr ⟨?_, by rw [show o.toNat = (D 63 1).toNat by omega]⟩)
    rintro ⟨i, i1, i2⟩
    exact hi i (by omega) i2
  | succ t ih =>
    intro o h0 ht hi
    have hO := hk.2 o.toNat (by omega)
    have hb := cnt_bd (fun i => decide (tch (D 64 i) a)) o.toNat
    have hb' : 0 ≤ tcn (D 64) a o.toNat ∧ tcn (D 64) a o.toNat ≤ o.toNat := hb
    have e := tcn_succ (c := D 64) (a := a) (k := o.toNat)
    rw [← show (o + 1).toNat = o.toNat + 1 by omega] at e
    refine go_17_4 ?_
    simp only [sg_17_4, cl_I, cl_L, cl_R, e_aload_n, e_get0, e_get1, e_iaload, e_icmp_ge, e_icmp_ne, e_iconst, e_iload_n, e_iret0, e_nil, l_ld1, l_ld3, l_ldA0, wRef_some, EE_n, EE_r63_2, EE_s63, EE_s64, lc_lt, lc_le, lc_gt, lc_ge, lc_eq, true_and, and_true, List.length_cons, List.length_nil, ab_ia, Nat.reduceAdd, Nat.reduceLeDiff, Nat.reduceEqDiff, Nat.reduceLT, Int.reduceLT, Int.reduceLE, Int.reduceEq, Int.reduceNeg, true_or, or_true, false_or, or_false, not_false_eq_true, not_true_eq_false, false_implies, true_implies, forall_const, implies_true, Nat.zero_le, Nat.le_refl]
    refine ⟨fun hc => absurd hc (by omega), fun _ => ⟨by omega, fun h1 => ?_, fun h1 => ?_⟩⟩
    · have ihk := ih (o + 1) (by omega) (by omega) (fun i hi2 => by
        by_cases q : i = o.toNat
        · subst q; exact h1
        · exact hi i (by omega))
      refine go_17_16 ?_
      simp only [sg_17_16, cl_I, cl_L, cl_R, e_aload_n, e_cs2, e_get1, e_goto, e_iaload, e_if_eq, e_iinc, e_iload_n, e_nil, fl_0, fl_I, fl_L, fl_R, l_inc2, l_inc3, l_ld1, l_ld3, l_ldA0, rk_1, wRef_some, EE_n, EE_r63_2, EE_s63, EE_s64, lc_lt, lc_le, lc_gt, lc_ge, lc_eq, true_and, and_true, List.length_cons, List.length_nil, ab_ia, Nat.reduceAdd, Nat.reduceLeDiff, Nat.reduceEqDiff, Nat.reduceLT, Int.reduceLT, Int.reduceLE, Int.reduceEq, Int.reduceNeg, true_or, or_true, false_or, or_false, not_false_eq_true, not_true_eq_false, false_implies, true_implies, forall_const, implies_true, Nat.zero_le, Nat.le_refl]
      refine ⟨by omega, ?_⟩
      refine CB.use (f_touch (by omega) (by omega)) (fun h2 => ?_) (fun h2 => ?_)
      · try simp only [lc_lt, lc_le, lc_gt, lc_ge, lc_eq, true_and, and_true, List.length_cons, List.length_nil, ab_ia, Nat.reduceAdd, Nat.reduceLeDiff, Nat.reduceEqDiff, Nat.reduceLT, Int.reduceLT, Int.reduceLE, Int.reduceEq, Int.reduceNeg, true_or, or_true, false_or, or_false, not_false_eq_true, not_true_eq_false, false_implies, true_implies, forall_const, implies_true, Nat.zero_le, Nat.le_refl]
        rw [if_pos h2] at e
        rw [e] at ihk
        exact ⟨⟨by omega, by omega⟩, ⟨by omega, by omega⟩, ihk⟩
      · try simp only [lc_lt, lc_le, lc_gt, lc_ge, lc_eq, true_and, and_true, List.length_cons, List.length_nil, ab_ia, Nat.reduceAdd, Nat.reduceLeDiff, Nat.reduceEqDiff, Nat.reduceLT, Int.reduceLT, Int.reduceLE, Int.reduceEq, Int.reduceNeg, true_or, or_true, false_or, or_false, not_false_eq_true, not_true_eq_false, false_implies, true_implies, forall_const, implies_true, Nat.zero_le, Nat.le_refl]
        refine go_17_24 ?_
        simp only [sg_17_24, cl_I, cl_L, cl_R, e_goto, e_iinc, e_nil, l_inc3, lc_lt, lc_le, lc_gt, lc_ge, lc_eq, true_and, and_true, List.length_cons, List.length_nil, ab_ia, Nat.reduceAdd, Nat.reduceLeDiff, Nat.reduceEqDiff, Nat.reduceLT, Int.reduceLT, Int.reduceLE, Int.reduceEq, Int.reduceNeg, true_or, or_true, false_or, or_false, not_false_eq_true, not_true_eq_false, false_implies, true_implies, forall_const, implies_true, Nat.zero_le, Nat.le_refl]
        rw [if_neg h2, Int.add_zero] at e
        rw [e] at ihk
        exact ⟨⟨by omega, by omega⟩, ihk⟩
    · exact hq 0 (Or.inl ⟨⟨o.toNat, by omega, by omega⟩, rfl⟩)
theorem f_tu {a : Int} (hk : fOK (D 63 1) (D 64) (D 65)) (ha : 0 ≤ a ∧ a < 1000) : CI 17 [vR 63, vI a] (EE L, D) (fun v D' => dgv (D 63 1).toNat (D 64) a v ∧ D' = D) := by
  have h16 := hk.1
  refine Sx.un (y := 17) (n := 0) (lo := [vR 63, vI a, vU, vU]) (st := []) (u := (0, 0)) ?_
  refine go_17_0 ?_
  simp only [sg_17_0, cl_I, cl_L, cl_R, e_iconst, e_istore_n, e_nil, l_st2, l_st3, lc_lt, lc_le, lc_gt, lc_ge, lc_eq, true_and, and_true, List.length_cons, List.length_nil, ab_ia, Nat.reduceAdd, Nat.reduceLeDiff, Nat.reduceEqDiff, Nat.reduceLT, Int.reduceLT, Int.reduceLE, Int.reduceEq, Int.reduceNeg, true_or, or_true, false_or, or_false, not_false_eq_true, not_true_eq_false, false_implies, true_implies, forall_const, implies_true, Nat.zero_le, Nat.le_refl]
  exact f_tu_loop hk ha (fun v hv => retI ⟨hv, rfl⟩) (D 63 1).toNat 0 (by omega) (by omega) (fun j hj => absurd hj (by omega))
/-- the cells ahead of row r, column c -/
def dC (n r c a : Int) : Prop := isCl n a ∧ (a / 10 < r ∨ (a / 10 = r ∧ a % 10 < c))
theorem f_dig_in {Q : Option ab_V → ab_H → Prop} {r : Int} (hk : fOK (D 63 1) (D 64) (D 65)) (hn : 2 ≤ D 7 0 ∧ D 7 0 ≤ 6) (hr : 0 ≤ r ∧ r < D 7 0)
    (hq : ∀ b m x4 x5, dgb (D 63 1).toNat (D 64) (dC (D 7 0) (r + 1) 0) b m → Sx 16 6 [vR 63, vI b, vI m, vI (r + 1), x4, x5] [] (EE L, D) (0, 0) Q) :
    ∀ (t : Nat) (c b m : Int) (x5 : ab_V), 0 ≤ c → c + t = D 7 0 → dgb (D 63 1).toNat (D 64) (dC (D 7 0) r c) b m → Sx 16 15 [vR 63, vI b, vI m, vI r, vI c, x5] [] (EE L, D) (0, 0) Q := by
  have h16 := hk.1
  have e0 : (0 : Int).toNat = 0 := rfl
  intro t
  induction t with
  | zero =>
    intro c b m x5 h0 ht hi
    refine go_16_15 ?_
    simp only [sg_16_15, cl_I, cl_L, cl_R, e_aload_n, e_bipush, e_cv2, e_get1, e_goto, e_iadd, e_iaload, e_icmp_ge, e_icmp_le, e_iconst, e_iinc, e_iload, e_iload_n, e_imul, e_istore, e_istore_n, e_nil, fl_0, fl_I, fl_L, fl_R, l_inc4, l_ld2, l_ld3, l_ld4, l_ld5, l_ldA0, l_st1, l_st2, l_st5, rk_1, wRef_some, EE_n, EE_r63_0, EE_r6_0, EE_s6, EE_s63, EE_s7, EE_r6_0, EE_s6, EE_s7, e0, lc_lt, lc_le, lc_gt, lc_ge, lc_eq, true_and, and_true, List.length_cons, List.length_nil, ab_ia, Nat.reduceAdd, Nat.reduceLeDiff, Nat.reduceEqDiff, Nat.reduceLT, Int.reduceLT, Int.reduceLE, Int.reduceEq, Int.reduceNeg, true_or, or_true, false_or, or_false, not_false_eq_true, not_true_eq_false, false_implies, true_implies, forall_const, implies_true, Nat.zero_le, Nat.le_refl]
    refine ⟨by omega, fun _ => ?_, fun hc => absurd hc (by omega)⟩
    refine go_16_43 ?_
    simp only [sg_16_43, cl_I, cl_L, cl_R, e_goto, e_iinc, e_nil, l_inc3, lc_lt, lc_le, lc_gt, lc_ge, lc_eq, true_and, and_true, List.length_cons, List.length_nil, ab_ia, Nat.reduceAdd, Nat.reduceLeDiff, Nat.reduceEqDiff, Nat.reduceLT, Int.reduceLT, Int.reduceLE, Int.reduceEq, Int.reduceNeg, true_or, or_true, false_or, or_false, not_false_eq_true, not_true_eq_false, false_implies, true_implies, forall_const, implies_true, Nat.zero_le, Nat.le_refl]
    refine ⟨⟨by omega, by omega⟩, hq b m _ _ ?_⟩
    rcases hi with ⟨h1, h2, h3⟩ | ⟨h1, h2, h3, h4⟩
    · refine Or.inl ⟨h1, h2, fun a v ha => h3 a v ⟨ha.1, ?_⟩⟩
      have := ha.1; have := ha.2; omega
    · refine Or.inr ⟨h1, ⟨h2.1, ?_⟩, h3, fun a v ha => h4 a v ⟨ha.1, ?_⟩⟩
      · have := h2.2; omega
      · have := ha.1; have := ha.2; omega
  | succ t ih =>
    intro c b m x5 h0 ht hi
    refine go_16_15 ?_
    simp only [sg_16_15, cl_I, cl_L, cl_R, e_aload_n, e_bipush, e_cv2, e_get1, e_goto, e_iadd, e_iaload, e_icmp_ge, e_icmp_le, e_iconst, e_iinc, e_iload, e_iload_n, e_imul, e_istore, e_istore_n, e_nil, fl_0, fl_I, fl_L, fl_R, l_inc4, l_ld2, l_ld3, l_ld4, l_ld5, l_ldA0, l_st1, l_st2, l_st5, rk_1, wRef_some, EE_n, EE_r63_0, EE_r6_0, EE_s6, EE_s63, EE_s7, EE_r6_0, EE_s6, EE_s7, e0, lc_lt, lc_le, lc_gt, lc_ge, lc_eq, true_and, and_true, List.length_cons, List.length_nil, ab_ia, Nat.reduceAdd, Nat.reduceLeDiff, Nat.reduceEqDiff, Nat.reduceLT, Int.reduceLT, Int.reduceLE, Int.reduceEq, Int.reduceNeg, true_or, or_true, false_or, or_false, not_false_eq_true, not_true_eq_false, false_implies, true_implies, forall_const, implies_true, Nat.zero_le, Nat.le_refl]
    refine ⟨by omega, fun hc => absurd hc (by omega), fun _ => ⟨⟨by omega, by omega⟩, ⟨by omega, by omega⟩, ?_⟩⟩
    refine (f_tu hk (by omega)).mono ?_
    rintro v D' ⟨hv, rfl⟩
    have st := dgb_step (C' := dC (D' 7 0) r (c + 1)) hi (fun x => by unfold dC isCl; constructor <;> intro q <;> omega) (fun x hx => by obtain ⟨x1, x2⟩ := hx; unfold isCl at x1; omega) hv
    refine ⟨fun h1 => ?_, fun h1 => ⟨⟨by omega, by omega⟩, ⟨by omega, by omega⟩, ⟨by omega, by omega⟩, ?_⟩⟩
    · refine go_16_41 ?_
      simp only [sg_16_41, cl_I, cl_L, cl_R, e_goto, e_iinc, e_nil, l_inc4, lc_lt, lc_le, lc_gt, lc_ge, lc_eq, true_and, and_true, List.length_cons, List.length_nil, ab_ia, Nat.reduceAdd, Nat.reduceLeDiff, Nat.reduceEqDiff, Nat.reduceLT, Int.reduceLT, Int.reduceLE, Int.reduceEq, Int.reduceNeg, true_or, or_true, false_or, or_false, not_false_eq_true, not_true_eq_false, false_implies, true_implies, forall_const, implies_true, Nat.zero_le, Nat.le_refl]
      exact ⟨⟨by omega, by omega⟩, ih (c + 1) _ _ _ (by omega) (by omega) (st.1 h1)⟩
    · exact ih (c + 1) _ _ _ (by omega) (by omega) (st.2 (by omega))
theorem f_dig_out {Q : Option ab_V → ab_H → Prop} (hk : fOK (D 63 1) (D 64) (D 65)) (hn : 2 ≤ D 7 0 ∧ D 7 0 ≤ 6)
    (hq : ∀ b m, dgb (D 63 1).toNat (D 64) (isCl (D 7 0)) b m → Q (some (.inl b)) (EE L, D)) :
    ∀ (t : Nat) (r b m : Int) (x4 x5 : ab_V), 0 ≤ r → r + t = D 7 0 → dgb (D 63 1).toNat (D 64) (dC (D 7 0) r 0) b m → Sx 16 6 [vR 63, vI b, vI m, vI r, x4, x5] [] (EE L, D) (0, 0) Q := by
  have e0 : (0 : Int).toNat = 0 := rfl
  intro t
  induction t with
  | zero =>
    intro r b m x4 x5 h0 ht hi
    refine go_16_6 ?_
    simp only [sg_16_6, cl_I, cl_L, cl_R, e_aload_n, e_get1, e_iaload, e_icmp_ge, e_iconst, e_iload_n, e_istore, e_nil, l_ld3, l_ldA0, l_st4, wRef_some, EE_n, EE_r63_0, EE_r6_0, EE_s6, EE_s63, EE_s7, EE_r6_0, EE_s6, EE_s7, e0, lc_lt, lc_le, lc_gt, lc_ge, lc_eq, true_and, and_true, List.length_cons, List.length_nil, ab_ia, Nat.reduceAdd, Nat.reduceLeDiff, Nat.reduceEqDiff, Nat.reduceLT, Int.reduceLT, Int.reduceLE, Int.reduceEq, Int.reduceNeg, true_or, or_true, false_or, or_false, not_false_eq_true, not_true_eq_false, false_implies, true_implies, forall_const, implies_true, Nat.zero_le, Nat.le_refl]
    refine ⟨by omega, fun _ => ?_, fun hc => absurd hc (by omega)⟩
    refine go_16_45 ?_
    simp only [sg_16_45, cl_I, cl_L, cl_R, e_iload_n, e_iret0, e_nil, l_ld1, lc_lt, lc_le, lc_gt, lc_ge, lc_eq, true_and, and_true, List.length_cons, List.length_nil, ab_ia, Nat.reduceAdd, Nat.reduceLeDiff, Nat.reduceEqDiff, Nat.reduceLT, Int.reduceLT, Int.reduceLE, Int.reduceEq, Int.reduceNeg, true_or, or_true, false_or, or_false, not_false_eq_true, not_true_eq_false, false_implies, true_implies, forall_const, implies_true, Nat.zero_le, Nat.le_refl]
    refine hq b m ?_
    rcases hi with ⟨h1, h2, h3⟩ | ⟨h1, h2, h3, h4⟩
    · refine Or.inl ⟨h1, h2, fun a v ha => h3 a v ⟨ha, ?_⟩⟩
      have := ha.2; omega
    · refine Or.inr ⟨h1, h2.1, h3, fun a v ha => h4 a v ⟨ha, ?_⟩⟩
      have := ha.2; omega
  | succ t ih =>
    intro r b m x4 x5 h0 ht hi
    refine go_16_6 ?_
    simp only [sg_16_6, cl_I, cl_L, cl_R, e_aload_n, e_get1, e_iaload, e_icmp_ge, e_iconst, e_iload_n, e_istore, e_nil, l_ld3, l_ldA0, l_st4, wRef_some, EE_n, EE_r63_0, EE_r6_0, EE_s6, EE_s63, EE_s7, EE_r6_0, EE_s6, EE_s7, e0, lc_lt, lc_le, lc_gt, lc_ge, lc_eq, true_and, and_true, List.length_cons, List.length_nil, ab_ia, Nat.reduceAdd, Nat.reduceLeDiff, Nat.reduceEqDiff, Nat.reduceLT, Int.reduceLT, Int.reduceLE, Int.reduceEq, Int.reduceNeg, true_or, or_true, false_or, or_false, not_false_eq_true, not_true_eq_false, false_implies, true_implies, forall_const, implies_true, Nat.zero_le, Nat.le_refl]
    refine ⟨by omega, fun hc => absurd hc (by omega), fun _ => ?_⟩
    exact f_dig_in hk hn (by omega) (fun b m x4 x5 hb => ih (r + 1) b m x4 x5 (by omega) (by omega) hb) (D 7 0).toNat 0 b m x5 (by omega) (by omega) hi
theorem p_dig (hk : fOK (D 63 1) (D 64) (D 65)) (hn : 2 ≤ D 7 0 ∧ D 7 0 ≤ 6) : CI 101 [vR 0] (EE L, D) (fun r D' => (∃ m, dgb (D 63 1).toNat (D 64) (isCl (D 7 0)) r m) ∧ D' = D) := by
  refine Sx.un (y := 101) (n := 0) (lo := [vR 0]) (st := []) (u := (0, 0)) ?_
  refine go_101_0 ?_
  simp only [sg_101_0, cl_I, cl_L, cl_R, e_aload_n, e_cv1, e_get1, e_iret0, e_nil, fl_0, fl_I, fl_L, fl_R, l_ldA0, rk_1, wRef_some, EE_n, EE_r0_10, EE_s0, EE_s63, lc_lt, lc_le, lc_gt, lc_ge, lc_eq, true_and, and_true, List.length_cons, List.length_nil, ab_ia, Nat.reduceAdd, Nat.reduceLeDiff, Nat.reduceEqDiff, Nat.reduceLT, Int.reduceLT, Int.reduceLE, Int.reduceEq, Int.reduceNeg, true_or, or_true, false_or, or_false, not_false_eq_true, not_true_eq_false, false_implies, true_implies, forall_const, implies_true, Nat.zero_le, Nat.le_refl]
  have : CI 16 [vR 63] (EE L, D) (fun r D' => (∃ m, dgb (D 63 1).toNat (D 64) (isCl (D 7 0)) r m) ∧ D' = D) := by
    refine Sx.un (y := 16) (n := 0) (lo := [vR 63, vU, vU, vU, vU, vU]) (st := []) (u := (0, 0)) ?_
    refine go_16_0 ?_
    simp only [sg_16_0, cl_I, cl_L, cl_R, e_bipush, e_iconst, e_istore_n, e_nil, l_st1, l_st2, l_st3, lc_lt, lc_le, lc_gt, lc_ge, lc_eq, true_and, and_true, List.length_cons, List.length_nil, ab_ia, Nat.reduceAdd, Nat.reduceLeDiff, Nat.reduceEqDiff, Nat.reduceLT, Int.reduceLT, Int.reduceLE, Int.reduceEq, Int.reduceNeg, true_or, or_true, false_or, or_false, not_false_eq_true, not_true_eq_false, false_implies, true_implies, forall_const, implies_true, Nat.zero_le, Nat.le_refl]
    refine f_dig_out hk hn (fun b m hb => retI ⟨⟨m, hb⟩, rfl⟩) (D 7 0).toNat 0 (-9) 0 vU vU (by omega) (by omega) (Or.inl ⟨rfl, rfl, fun a v ha _ => ?_⟩)
    obtain ⟨a1, a2⟩ := ha
    unfold isCl at a1
    omega
  refine this.mono ?_
  rintro r D' ⟨hr, rfl⟩
  exact retI ⟨hr, rfl⟩
/-- the reference's count: found cells weigh minus a hundred -/
def mcn (c : Nat → Int) (a : Int) : Nat → Int
  | 0 => 0
  | k + 1 => mcn c a k + if c k = a then -100 else if tch (c k) a then 1 else 0
theorem mcn_bd {c : Nat → Int} {a : Int} {k : Nat} : -100 * (k : Int) ≤ mcn c a k ∧ mcn c a k ≤ k := by
  induction k with
  | zero => simp [mcn]
  | succ k ih =>
    simp only [mcn]
    split
    · omega
    · split <;> omega
theorem mcn_v {c : Nat → Int} {a : Int} {k : Nat} (hk : k ≤ 16) : ((∃ i, i < k ∧ c i = a) ∧ mcn c a k ≤ -100 + k) ∨ ((¬ ∃ i, i < k ∧ c i = a) ∧ mcn c a k = tcn c a k) := by
  induction k with
  | zero => right; refine ⟨fun ⟨i, hi, _⟩ => by omega, rfl⟩
  | succ k ih =>
    have hb := mcn_bd (c := c) (a := a) (k := k)
    rw [tcn_succ]
    simp only [mcn]
    by_cases q : c k = a
    · left
      refine ⟨⟨k, by omega, q⟩, ?_⟩
      rw [if_pos q]; omega
    · rw [if_neg q]
      rcases ih (by omega) with ⟨⟨i, i1, i2⟩, i3⟩ | ⟨i1, i2⟩
      · left
        refine ⟨⟨i, by omega, i2⟩, ?_⟩
        split <;> omega
      · right
        refine ⟨?_, by rw [i2]⟩
        rintro ⟨j, j1, j2⟩
        by_cases q2 : j = k
        · subst q2; exact q j2
        · exact i1 ⟨j, by omega, j2⟩
theorem m_dig_in {Q : Option ab_V → ab_H → Prop} {b m c : Int} (hk : fOK (D 69 22) (D 83) (D 84)) (hc : 0 ≤ c ∧ c < 60) (hcl : isCl (D 71 0) c)
    (hq : ∀ x5, Sx 184 44 [vR 69, vI b, vI m, vI c, vI (mcn (D 83) c (D 69 22).toNat), x5] [] (EE L, D) (0, 0) Q) :
    ∀ (t : Nat) (f : Int), 0 ≤ f → f + t = D 69 22 → Sx 184 13 [vR 69, vI b, vI m, vI c, vI (mcn (D 83) c f.toNat), vI f] [] (EE L, D) (0, 0) Q := by
  have h16 := hk.1
  intro t
  induction t with
  | zero =>
    intro f h0 ht
    refine go_184_13 ?_
    simp only [sg_184_13, cl_I, cl_L, cl_R, e_aload_n, e_bipush, e_cv2, e_get0, e_get1, e_goto, e_iaload, e_icmp_ge, e_icmp_ne, e_if_eq, e_iload, e_iload_n, e_nil, fl_0, fl_I, fl_L, fl_R, l_ld3, l_ld4, l_ld5, l_ldA0, rk_1, wRef_some, EE_n, EE_r69_23, EE_s69, EE_s83, lc_lt, lc_le, lc_gt, lc_ge, lc_eq, true_and, and_true, List.length_cons, List.length_nil, ab_ia, Nat.reduceAdd, Nat.reduceLeDiff, Nat.reduceEqDiff, Nat.reduceLT, Int.reduceLT, Int.reduceLE, Int.reduceEq, Int.reduceNeg, true_or, or_true, false_or, or_false, not_false_eq_true, not_true_eq_false, false_implies, true_implies, forall_const, implies_true, Nat.zero_le, Nat.le_refl]
    refine ⟨fun _ => ?_, fun hc => absurd hc (by omega)⟩
    rw [show f.toNat = (D 69 22).toNat by omega]
    exact hq _
  | succ t ih =>
    intro f h0 ht
    have hO := hk.2 f.toNat (by omega)
    have hb := mcn_bd (c := D 83) (a := c) (k := f.toNat)
    have ihk := ih (f + 1) (by omega) (by omega)
    rw [show (f + 1).toNat = f.toNat + 1 by omega, mcn] at ihk
    refine go_184_13 ?_
    simp only [sg_184_13, cl_I, cl_L, cl_R, e_aload_n, e_bipush, e_cv2, e_get0, e_get1, e_goto, e_iaload, e_icmp_ge, e_icmp_ne, e_if_eq, e_iload, e_iload_n, e_nil, fl_0, fl_I, fl_L, fl_R, l_ld3, l_ld4, l_ld5, l_ldA0, rk_1, wRef_some, EE_n, EE_r69_23, EE_s69, EE_s83, lc_lt, lc_le, lc_gt, lc_ge, lc_eq, true_and, and_true, List.length_cons, List.length_nil, ab_ia, Nat.reduceAdd, Nat.reduceLeDiff, Nat.reduceEqDiff, Nat.reduceLT, Int.reduceLT, Int.reduceLE, Int.reduceEq, Int.reduceNeg, true_or, or_true, false_or, or_false, not_false_eq_true, not_true_eq_false, false_implies, true_implies, forall_const, implies_true, Nat.zero_le, Nat.le_refl]
    refine ⟨fun hc => absurd hc (by omega), fun _ => ?_⟩
    refine CB.use m_isCell (fun h1 => ?_) (fun h1 => absurd hcl h1)
    try simp only [lc_lt, lc_le, lc_gt, lc_ge, lc_eq, true_and, and_true, List.length_cons, List.length_nil, ab_ia, Nat.reduceAdd, Nat.reduceLeDiff, Nat.reduceEqDiff, Nat.reduceLT, Int.reduceLT, Int.reduceLE, Int.reduceEq, Int.reduceNeg, true_or, or_true, false_or, or_false, not_false_eq_true, not_true_eq_false, false_implies, true_implies, forall_const, implies_true, Nat.zero_le, Nat.le_refl]
    refine ⟨by omega, fun h2 => ?_, fun h2 => ?_⟩
    · rw [if_neg h2] at ihk
      refine go_184_30 ?_
      simp only [sg_184_30, cl_I, cl_L, cl_R, e_aload_n, e_cs2, e_get1, e_goto, e_iaload, e_iconst, e_if_eq, e_iload, e_iload_n, e_nil, fl_0, fl_I, fl_L, fl_R, l_ld3, l_ld5, l_ldA0, rk_1, wRef_some, EE_n, EE_r69_23, EE_s69, EE_s83, lc_lt, lc_le, lc_gt, lc_ge, lc_eq, true_and, and_true, List.length_cons, List.length_nil, ab_ia, Nat.reduceAdd, Nat.reduceLeDiff, Nat.reduceEqDiff, Nat.reduceLT, Int.reduceLT, Int.reduceLE, Int.reduceEq, Int.reduceNeg, true_or, or_true, false_or, or_false, not_false_eq_true, not_true_eq_false, false_implies, true_implies, forall_const, implies_true, Nat.zero_le, Nat.le_refl]
      refine ⟨by omega, ?_⟩
      refine CB.use (m_touch (by omega) (by omega)) (fun h3 => ?_) (fun h3 => ?_)
      · try simp only [lc_lt, lc_le, lc_gt, lc_ge, lc_eq, true_and, and_true, List.length_cons, List.length_nil, ab_ia, Nat.reduceAdd, Nat.reduceLeDiff, Nat.reduceEqDiff, Nat.reduceLT, Int.reduceLT, Int.reduceLE, Int.reduceEq, Int.reduceNeg, true_or, or_true, false_or, or_false, not_false_eq_true, not_true_eq_false, false_implies, true_implies, forall_const, implies_true, Nat.zero_le, Nat.le_refl]
        rw [if_pos h3] at ihk
        refine go_184_40 ?_
        simp only [sg_184_40, cl_I, cl_L, cl_R, e_goto, e_iadd, e_iinc, e_istore, e_nil, l_inc5, l_st4, lc_lt, lc_le, lc_gt, lc_ge, lc_eq, true_and, and_true, List.length_cons, List.length_nil, ab_ia, Nat.reduceAdd, Nat.reduceLeDiff, Nat.reduceEqDiff, Nat.reduceLT, Int.reduceLT, Int.reduceLE, Int.reduceEq, Int.reduceNeg, true_or, or_true, false_or, or_false, not_false_eq_true, not_true_eq_false, false_implies, true_implies, forall_const, implies_true, Nat.zero_le, Nat.le_refl]
        exact ⟨⟨by omega, by omega⟩, ⟨by omega, by omega⟩, ihk⟩
      · try simp only [lc_lt, lc_le, lc_gt, lc_ge, lc_eq, true_and, and_true, List.length_cons, List.length_nil, ab_ia, Nat.reduceAdd, Nat.reduceLeDiff, Nat.reduceEqDiff, Nat.reduceLT, Int.reduceLT, Int.reduceLE, Int.reduceEq, Int.reduceNeg, true_or, or_true, false_or, or_false, not_false_eq_true, not_true_eq_false, false_implies, true_implies, forall_const, implies_true, Nat.zero_le, Nat.le_refl]
        rw [if_neg h3] at ihk
        refine go_184_39 ?_
        simp only [sg_184_39, cl_I, cl_L, cl_R, e_goto, e_iadd, e_iconst, e_iinc, e_istore, e_nil, l_inc5, l_st4, lc_lt, lc_le, lc_gt, lc_ge, lc_eq, true_and, and_true, List.length_cons, List.length_nil, ab_ia, Nat.reduceAdd, Nat.reduceLeDiff, Nat.reduceEqDiff, Nat.reduceLT, Int.reduceLT, Int.reduceLE, Int.reduceEq, Int.reduceNeg, true_or, or_true, false_or, or_false, not_false_eq_true, not_true_eq_false, false_implies, true_implies, forall_const, implies_true, Nat.zero_le, Nat.le_refl]
        exact ⟨⟨by omega, by omega⟩, ⟨by omega, by omega⟩, ihk⟩
    · rw [if_pos (by omega)] at ihk
      refine go_184_40 ?_
      simp only [sg_184_40, cl_I, cl_L, cl_R, e_goto, e_iadd, e_iinc, e_istore, e_nil, l_inc5, l_st4, lc_lt, lc_le, lc_gt, lc_ge, lc_eq, true_and, and_true, List.length_cons, List.length_nil, ab_ia, Nat.reduceAdd, Nat.reduceLeDiff, Nat.reduceEqDiff, Nat.reduceLT, Int.reduceLT, Int.reduceLE, Int.reduceEq, Int.reduceNeg, true_or, or_true, false_or, or_false, not_false_eq_true, not_true_eq_false, false_implies, true_implies, forall_const, implies_true, Nat.zero_le, Nat.le_refl]
      exact ⟨⟨by omega, by omega⟩, ⟨by omega, by omega⟩, ihk⟩
theorem m_dig_out {Q : Option ab_V → ab_H → Prop} (hk : fOK (D 69 22) (D 83) (D 84)) (hn : 2 ≤ D 71 0 ∧ D 71 0 ≤ 6)
    (hq : ∀ b m, dgb (D 69 22).toNat (D 83) (isCl (D 71 0)) b m → Q (some (.inl b)) (EE L, D)) :
    ∀ (t : Nat) (c b m : Int) (x4 x5 : ab_V), 0 ≤ c → c + t = 60 → dgb (D 69 22).toNat (D 83) (fun a => isCl (D 71 0) a ∧ a < c) b m → Sx 184 6 [vR 69, vI b, vI m, vI c, x4, x5] [] (EE L, D) (0, 0) Q := by
  have h16 := hk.1
  intro t
  induction t with
  | zero =>
    intro c b m x4 x5 h0 ht hi
    refine go_184_6 ?_
    simp only [sg_184_6, cl_I, cl_L, cl_R, e_bipush, e_icmp_ge, e_iconst, e_iload_n, e_istore, e_nil, l_ld3, l_st4, l_st5, lc_lt, lc_le, lc_gt, lc_ge, lc_eq, true_and, and_true, List.length_cons, List.length_nil, ab_ia, Nat.reduceAdd, Nat.reduceLeDiff, Nat.reduceEqDiff, Nat.reduceLT, Int.reduceLT, Int.reduceLE, Int.reduceEq, Int.reduceNeg, true_or, or_true, false_or, or_false, not_false_eq_true, not_true_eq_false, false_implies, true_implies, forall_const, implies_true, Nat.zero_le, Nat.le_refl]
    refine ⟨fun _ => ?_, fun hc => absurd hc (by omega)⟩
    refine go_184_60 ?_
    simp only [sg_184_60, cl_I, cl_L, cl_R, e_iload_n, e_iret0, e_nil, l_ld1, lc_lt, lc_le, lc_gt, lc_ge, lc_eq, true_and, and_true, List.length_cons, List.length_nil, ab_ia, Nat.reduceAdd, Nat.reduceLeDiff, Nat.reduceEqDiff, Nat.reduceLT, Int.reduceLT, Int.reduceLE, Int.reduceEq, Int.reduceNeg, true_or, or_true, false_or, or_false, not_false_eq_true, not_true_eq_false, false_implies, true_implies, forall_const, implies_true, Nat.zero_le, Nat.le_refl]
    refine hq b m ?_
    rcases hi with ⟨h1, h2, h3⟩ | ⟨h1, h2, h3, h4⟩
    · refine Or.inl ⟨h1, h2, fun a v ha => h3 a v ⟨ha, ?_⟩⟩
      have := ha.2; omega
    · refine Or.inr ⟨h1, h2.1, h3, fun a v ha => h4 a v ⟨ha, ?_⟩⟩
      have := ha.2; omega
  | succ t ih =>
    intro c b m x4 x5 h0 ht hi
    have hm : 0 ≤ m := by rcases hi with ⟨h1, h2, h3⟩ | ⟨h1, h2, h3, h4⟩ <;> omega
    refine go_184_6 ?_
    simp only [sg_184_6, cl_I, cl_L, cl_R, e_bipush, e_icmp_ge, e_iconst, e_iload_n, e_istore, e_nil, l_ld3, l_st4, l_st5, lc_lt, lc_le, lc_gt, lc_ge, lc_eq, true_and, and_true, List.length_cons, List.length_nil, ab_ia, Nat.reduceAdd, Nat.reduceLeDiff, Nat.reduceEqDiff, Nat.reduceLT, Int.reduceLT, Int.reduceLE, Int.reduceEq, Int.reduceNeg, true_or, or_true, false_or, or_false, not_false_eq_true, not_true_eq_false, false_implies, true_implies, forall_const, implies_true, Nat.zero_le, Nat.le_refl]
    refine ⟨fun hc => absurd hc (by omega), fun _ => ?_⟩
    have fin : ∀ (n : Int) (x5 : ab_V), (n ≤ m → dgb (D 69 22).toNat (D 83) (fun a => isCl (D 71 0) a ∧ a < c + 1) b m) → (m < n → dgb (D 69 22).toNat (D 83) (fun a => isCl (D 71 0) a ∧ a < c + 1) c n) → Sx 184 44 [vR 69, vI b, vI m, vI c, vI n, x5] [] (EE L, D) (0, 0) Q := by
      intro n x5 q1 q2
      refine go_184_44 ?_
      simp only [sg_184_44, cl_I, cl_L, cl_R, e_goto, e_icmp_le, e_iload, e_iload_n, e_nil, l_ld2, l_ld3, l_ld4, lc_lt, lc_le, lc_gt, lc_ge, lc_eq, true_and, and_true, List.length_cons, List.length_nil, ab_ia, Nat.reduceAdd, Nat.reduceLeDiff, Nat.reduceEqDiff, Nat.reduceLT, Int.reduceLT, Int.reduceLE, Int.reduceEq, Int.reduceNeg, true_or, or_true, false_or, or_false, not_false_eq_true, not_true_eq_false, false_implies, true_implies, forall_const, implies_true, Nat.zero_le, Nat.le_refl]
      refine ⟨fun h1 => ?_, fun h1 => ?_⟩
      · refine go_184_49 ?_
        simp only [sg_184_49, cl_I, cl_L, cl_R, e_goto, e_icmp_le, e_iload, e_iload_n, e_istore_n, e_nil, l_ld1, l_ld2, l_ld4, l_st1, lc_lt, lc_le, lc_gt, lc_ge, lc_eq, true_and, and_true, List.length_cons, List.length_nil, ab_ia, Nat.reduceAdd, Nat.reduceLeDiff, Nat.reduceEqDiff, Nat.reduceLT, Int.reduceLT, Int.reduceLE, Int.reduceEq, Int.reduceNeg, true_or, or_true, false_or, or_false, not_false_eq_true, not_true_eq_false, false_implies, true_implies, forall_const, implies_true, Nat.zero_le, Nat.le_refl]
        refine ⟨fun _ => ?_, fun h2 => absurd h1 h2⟩
        refine go_184_56 ?_
        simp only [sg_184_56, cl_I, cl_L, cl_R, e_goto, e_iinc, e_iload_n, e_istore_n, e_nil, l_inc3, l_ld2, l_st2, lc_lt, lc_le, lc_gt, lc_ge, lc_eq, true_and, and_true, List.length_cons, List.length_nil, ab_ia, Nat.reduceAdd, Nat.reduceLeDiff, Nat.reduceEqDiff, Nat.reduceLT, Int.reduceLT, Int.reduceLE, Int.reduceEq, Int.reduceNeg, true_or, or_true, false_or, or_false, not_false_eq_true, not_true_eq_false, false_implies, true_implies, forall_const, implies_true, Nat.zero_le, Nat.le_refl]
        exact ⟨⟨by omega, by omega⟩, ih (c + 1) _ _ _ _ (by omega) (by omega) (q1 h1)⟩
      · refine go_184_50 ?_
        simp only [sg_184_50, cl_I, cl_L, cl_R, e_goto, e_icmp_le, e_iload, e_iload_n, e_istore_n, e_nil, l_ld2, l_ld4, l_st1, lc_lt, lc_le, lc_gt, lc_ge, lc_eq, true_and, and_true, List.length_cons, List.length_nil, ab_ia, Nat.reduceAdd, Nat.reduceLeDiff, Nat.reduceEqDiff, Nat.reduceLT, Int.reduceLT, Int.reduceLE, Int.reduceEq, Int.reduceNeg, true_or, or_true, false_or, or_false, not_false_eq_true, not_true_eq_false, false_implies, true_implies, forall_const, implies_true, Nat.zero_le, Nat.le_refl]
        refine ⟨fun h2 => absurd h2 h1, fun _ => ?_⟩
        refine go_184_57 ?_
        simp only [sg_184_57, cl_I, cl_L, cl_R, e_goto, e_iinc, e_istore_n, e_nil, l_inc3, l_st2, lc_lt, lc_le, lc_gt, lc_ge, lc_eq, true_and, and_true, List.length_cons, List.length_nil, ab_ia, Nat.reduceAdd, Nat.reduceLeDiff, Nat.reduceEqDiff, Nat.reduceLT, Int.reduceLT, Int.reduceLE, Int.reduceEq, Int.reduceNeg, true_or, or_true, false_or, or_false, not_false_eq_true, not_true_eq_false, false_implies, true_implies, forall_const, implies_true, Nat.zero_le, Nat.le_refl]
        exact ⟨⟨by omega, by omega⟩, ih (c + 1) _ _ _ _ (by omega) (by omega) (q2 (by omega))⟩
    have same : ¬ isCl (D 71 0) c → dgb (D 69 22).toNat (D 83) (fun a => isCl (D 71 0) a ∧ a < c + 1) b m := by
      intro hno
      have e : ∀ a, (isCl (D 71 0) a ∧ a < c + 1) → (isCl (D 71 0) a ∧ a < c) := fun a ⟨a1, a2⟩ => ⟨a1, by
        by_cases q : a = c
        · subst q; exact absurd a1 hno
        · omega⟩
      rcases hi with ⟨h1, h2, h3⟩ | ⟨h1, h2, h3, h4⟩
      · exact Or.inl ⟨h1, h2, fun a v ha => h3 a v (e a ha)⟩
      · exact Or.inr ⟨h1, ⟨h2.1, by have := h2.2; omega⟩, h3, fun a v ha => h4 a v (e a ha)⟩
    by_cases hcl : isCl (D 71 0) c
    · obtain ⟨v, hv⟩ := dgv_ex (D 69 22).toNat (D 83) c
      have st := dgb_step (C' := fun a => isCl (D 71 0) a ∧ a < c + 1) hi (fun x => ⟨fun q => by
        by_cases q2 : x = c
        · exact Or.inr q2
        · exact Or.inl ⟨q.1, by omega⟩, fun q => by
        rcases q with q | q
        · exact ⟨q.1, by have := q.2; omega⟩
        · subst q; exact ⟨hcl, by omega⟩⟩) (fun x hx => hx.2) hv
      have hmv := mcn_v (c := D 83) (a := c) (k := (D 69 22).toNat) (by omega)
      refine m_dig_in hk (by omega) hcl (fun x5 => fin _ x5 (fun q => st.1 ?_) (fun q => ?_)) (D 69 22).toNat 0 (by omega) (by omega)
      · rcases hmv with ⟨j1, j2⟩ | ⟨j1, j2⟩
        · have := dgv_uniq hv (Or.inl ⟨j1, rfl⟩); omega
        · have := dgv_uniq hv (Or.inr ⟨j1, rfl⟩); omega
      · rcases hmv with ⟨j1, j2⟩ | ⟨j1, j2⟩
        · omega
        · have := dgv_uniq hv (Or.inr ⟨j1, rfl⟩)
          rw [j2, ← this]
          exact st.2 (by omega)
    · refine go_184_13 ?_
      simp only [sg_184_13, cl_I, cl_L, cl_R, e_aload_n, e_bipush, e_cv2, e_get0, e_get1, e_goto, e_iaload, e_icmp_ge, e_icmp_ne, e_if_eq, e_iload, e_iload_n, e_nil, fl_0, fl_I, fl_L, fl_R, l_ld3, l_ld4, l_ld5, l_ldA0, rk_1, wRef_some, EE_n, EE_r69_23, EE_s69, EE_s83, lc_lt, lc_le, lc_gt, lc_ge, lc_eq, true_and, and_true, List.length_cons, List.length_nil, ab_ia, Nat.reduceAdd, Nat.reduceLeDiff, Nat.reduceEqDiff, Nat.reduceLT, Int.reduceLT, Int.reduceLE, Int.reduceEq, Int.reduceNeg, true_or, or_true, false_or, or_false, not_false_eq_true, not_true_eq_false, false_implies, true_implies, forall_const, implies_true, Nat.zero_le, Nat.le_refl]
      refine ⟨fun _ => fin 0 _ (fun _ => same hcl) (fun q => absurd q (by omega)), fun _ => ?_⟩
      refine CB.use m_isCell (fun h1 => absurd h1 hcl) (fun h1 => ?_)
      try simp only [lc_lt, lc_le, lc_gt, lc_ge, lc_eq, true_and, and_true, List.length_cons, List.length_nil, ab_ia, Nat.reduceAdd, Nat.reduceLeDiff, Nat.reduceEqDiff, Nat.reduceLT, Int.reduceLT, Int.reduceLE, Int.reduceEq, Int.reduceNeg, true_or, or_true, false_or, or_false, not_false_eq_true, not_true_eq_false, false_implies, true_implies, forall_const, implies_true, Nat.zero_le, Nat.le_refl]
      exact fin 0 _ (fun _ => same hcl) (fun q => absurd q (by omega))
theorem m_dig (hk : fOK (D 69 22) (D 83) (D 84)) (hn : 2 ≤ D 71 0 ∧ D 71 0 ≤ 6) : CI 184 [vR 69] (EE L, D) (fun r D' => (∃ m, dgb (D 69 22).toNat (D 83) (isCl (D 71 0)) r m) ∧ D' = D) := by
  refine Sx.un (y := 184) (n := 0) (lo := [vR 69, vU, vU, vU, vU, vU]) (st := []) (u := (0, 0)) ?_
  refine go_184_0 ?_
  simp only [sg_184_0, cl_I, cl_L, cl_R, e_bipush, e_iconst, e_istore_n, e_nil, l_st1, l_st2, l_st3, lc_lt, lc_le, lc_gt, lc_ge, lc_eq, true_and, and_true, List.length_cons, List.length_nil, ab_ia, Nat.reduceAdd, Nat.reduceLeDiff, Nat.reduceEqDiff, Nat.reduceLT, Int.reduceLT, Int.reduceLE, Int.reduceEq, Int.reduceNeg, true_or, or_true, false_or, or_false, not_false_eq_true, not_true_eq_false, false_implies, true_implies, forall_const, implies_true, Nat.zero_le, Nat.le_refl]
  refine m_dig_out hk hn (fun b m hb => retI ⟨⟨m, hb⟩, rfl⟩) 60 0 (-9) 0 vU vU (by omega) (by omega) (Or.inl ⟨rfl, rfl, fun a v ha _ => ?_⟩)
  have := ha.1
  have := ha.2
  unfold isCl at *
  omega
end Dig
