/-! the ground -/
/-- what a lake tells -/
def Gr : Type := Int × Int × Int × Int × Int × (Int → Int) × (Int → Int)
def Gr.n (G : Gr) : Int := G.1
def Gr.m (G : Gr) : Int := G.2.1
def Gr.y (G : Gr) : Int := G.2.2.1
def Gr.k (G : Gr) : Int := G.2.2.2.1
def Gr.i (G : Gr) : Int := G.2.2.2.2.1
def Gr.la (G : Gr) : Int → Int := G.2.2.2.2.2.1
def Gr.cf (G : Gr) : Int → Int := G.2.2.2.2.2.2
def gOK (G : Gr) : Prop := (2 ≤ G.n ∧ G.n ≤ 6) ∧ (0 ≤ G.m ∧ G.m ≤ 9) ∧ (0 ≤ G.y ∧ G.y ≤ 9) ∧ (0 ≤ G.k ∧ G.k ≤ 9) ∧ (0 ≤ G.i ∧ G.i ≤ 9) ∧ (∀ w, 0 ≤ w ∧ w < 3 → 1 ≤ G.la w ∧ G.la w ≤ 9) ∧ ∀ a, isCl 6 a → 0 ≤ G.cf a ∧ G.cf a ≤ 9
def gP (D : ab_D) (G : Gr) : Prop := (D 7 0 = G.n ∧ D 7 1 = G.m ∧ D 7 2 = G.y ∧ D 7 3 = G.k ∧ D 7 4 = G.i) ∧ (∀ w, 0 ≤ w ∧ w < 3 → D 7 (5 + w).toNat = G.la w) ∧ ∀ a, isCl 6 a → D 8 a.toNat = G.cf a
def gM (D : ab_D) (G : Gr) : Prop := (D 71 0 = G.n ∧ D 71 1 = G.m ∧ D 71 2 = G.y ∧ D 71 3 = G.k ∧ D 71 4 = G.i) ∧ (∀ w, 0 ≤ w ∧ w < 3 → D 71 (5 + w).toNat = G.la w) ∧ ∀ a, isCl 6 a → D 71 (8 + 6 * (a / 10) + a % 10).toNat = G.cf a
theorem gP.congr {D D' : ab_D} {G : Gr} (h7 : D' 7 = D 7) (h8 : D' 8 = D 8) (h : gP D G) : gP D' G := by
  unfold gP
  rw [h7, h8]
  exact h
theorem gM.congr {D D' : ab_D} {G : Gr} (h7 : D' 71 = D 71) (h : gM D G) : gM D' G := by
  unfold gM
  rw [h7]
  exact h
theorem isCl_mono {n c : Int} (h : n ≤ 6) (k : isCl n c) : isCl 6 c := ⟨k.1, by have := k.2.1; omega, by have := k.2.2; omega⟩
theorem mulb {a b x y : Int} (h1 : 0 ≤ a) (h2 : a ≤ x) (h3 : 0 ≤ b) (h4 : b ≤ y) : 0 ≤ a * b ∧ a * b ≤ x * y := ⟨Int.mul_nonneg h1 h3, Int.mul_le_mul h2 h4 h3 (by omega)⟩
/-- how a pole holds -/
def hl (G : Gr) (a d k : Int) : Int := (if G.cf a < d then G.cf a else d) * G.m + (d - (if G.cf a < d then G.cf a else d)) * G.y + k * G.k
theorem hl_bd {G : Gr} {a d k : Int} (g : gOK G) (ha : isCl 6 a) (hd : 0 ≤ d ∧ d ≤ 15) (hk : k = 0 ∨ k = 1) : 0 ≤ hl G a d k ∧ hl G a d k ≤ 300 := by
  obtain ⟨g1, g2, g3, g4, g5, g6, g7⟩ := g
  have := g7 a ha
  unfold hl
  generalize hm : (if G.cf a < d then G.cf a else d) = m
  have hb : 0 ≤ m ∧ m ≤ 15 ∧ m ≤ d := by split at hm <;> omega
  have b1 := mulb hb.1 hb.2.1 g2.1 g2.2
  have b2 := mulb (a := d - m) (x := 15) (by omega) (by omega) g3.1 g3.2
  rcases hk with rfl | rfl
  · rw [Int.zero_mul]; omega
  · rw [Int.one_mul]; omega
/-- behind the ice -/
def bi (G : Gr) (a d k : Int) : Int := if hl G a d k < G.i then d - 1 else d
/-- stands for so long -/
def stb (G : Gr) (a k w : Int) : Nat → Int → Prop
  | 0, _ => True
  | n + 1, d => 1 ≤ bi G a d k ∧ w ≤ hl G a (bi G a d k) k ∧ stb G a k w n (bi G a d k)
section Ground
variable {L : Nat} {D : ab_D} {G : Gr}
theorem g_lasts {w : Int} (hg : gP D G) (hw : 0 ≤ w ∧ w < 3) : CI 23 [vR 6, vI w] (EE L, D) (fun r D' => r = G.la w ∧ D' = D) := by
  refine Sx.un (y := 23) (n := 0) (lo := [vR 6, vI w]) (st := []) (u := (0, 0)) ?_
  refine go_23_0 ?_
  simp only [sg_23_0, cl_I, cl_L, cl_R, e_aload_n, e_get1, e_iadd, e_iaload, e_iconst, e_iload_n, e_iret0, e_nil, l_ld1, l_ldA0, wRef_some, EE_n, EE_s6, EE_r6_0, EE_r6_1, EE_s7, EE_s8, lc_lt, lc_le, lc_gt, lc_ge, lc_eq, true_and, and_true, List.length_cons, List.length_nil, ab_ia, Nat.reduceAdd, Nat.reduceLeDiff, Nat.reduceEqDiff, Nat.reduceLT, Int.reduceLT, Int.reduceLE, Int.reduceEq, Int.reduceNeg, true_or, or_true, false_or, or_false, not_false_eq_true, not_true_eq_false, false_implies, true_implies, forall_const, implies_true, Nat.zero_le, Nat.le_refl]
  exact ⟨⟨by omega, by omega⟩, by omega, retI ⟨hg.2.1 w hw, rfl⟩⟩
theorem g_holding {a d k : Int} (g : gOK G) (hg : gP D G) (ha : isCl 6 a) (hd : 0 ≤ d ∧ d ≤ 15) (hk : k = 0 ∨ k = 1) : CI 24 [vR 6, vI a, vI d, vI k] (EE L, D) (fun r D' => r = hl G a d k ∧ D' = D) := by
  obtain ⟨g1, g2, g3, g4, g5, g6, g7⟩ := g
  obtain ⟨⟨p0, p1, p2, p3, p4⟩, p5, p6⟩ := hg
  have ec := p6 a ha
  have := g7 a ha
  refine Sx.un (y := 24) (n := 0) (lo := [vR 6, vI a, vI d, vI k, vU, vU]) (st := []) (u := (0, 0)) ?_
  refine go_24_0 ?_
  simp only [sg_24_0, cl_I, cl_L, cl_R, e_aload_n, e_get1, e_goto, e_iadd, e_iaload, e_iconst, e_if_eq, e_iload, e_iload_n, e_imul, e_istore, e_isub, e_min, e_nil, l_ld1, l_ld2, l_ld3, l_ld4, l_ld5, l_ldA0, l_st4, l_st5, wRef_some, EE_n, EE_s6, EE_r6_0, EE_r6_1, EE_s7, EE_s8, Int.reduceToNat, p1, p2, p3, ec, lc_lt, lc_le, lc_gt, lc_ge, lc_eq, true_and, and_true, List.length_cons, List.length_nil, ab_ia, Nat.reduceAdd, Nat.reduceLeDiff, Nat.reduceEqDiff, Nat.reduceLT, Int.reduceLT, Int.reduceLE, Int.reduceEq, Int.reduceNeg, true_or, or_true, false_or, or_false, not_false_eq_true, not_true_eq_false, false_implies, true_implies, forall_const, implies_true, Nat.zero_le, Nat.le_refl]
  unfold isCl at ha
  have el : hl G a d k = (if G.cf a < d then G.cf a else d) * G.m + (d - (if G.cf a < d then G.cf a else d)) * G.y + k * G.k := rfl
  generalize hm : (if G.cf a < d then G.cf a else d) = m at el ⊢
  have hb : 0 ≤ m ∧ m ≤ 15 ∧ m ≤ d := by split at hm <;> omega
  have b1 := mulb hb.1 hb.2.1 g2.1 g2.2
  have b2 := mulb (a := d - m) (x := 15) (by omega) (by omega) g3.1 g3.2
  refine ⟨by omega, by omega, ⟨by omega, by omega⟩, ⟨by omega, by omega⟩, by omega, ⟨by omega, by omega⟩, ⟨by omega, by omega⟩, fun h1 => ?_, fun h1 => ⟨by omega, ⟨by omega, by omega⟩, ?_⟩⟩
  · refine go_24_32 ?_
    simp only [sg_24_32, cl_I, cl_L, cl_R, e_iload, e_iret0, e_nil, l_ld5, lc_lt, lc_le, lc_gt, lc_ge, lc_eq, true_and, and_true, List.length_cons, List.length_nil, ab_ia, Nat.reduceAdd, Nat.reduceLeDiff, Nat.reduceEqDiff, Nat.reduceLT, Int.reduceLT, Int.reduceLE, Int.reduceEq, Int.reduceNeg, true_or, or_true, false_or, or_false, not_false_eq_true, not_true_eq_false, false_implies, true_implies, forall_const, implies_true, Nat.zero_le, Nat.le_refl]
    subst h1
    rw [Int.zero_mul, Int.add_zero] at el
    exact retI ⟨el.symm, rfl⟩
  · refine go_24_33 ?_
    simp only [sg_24_33, cl_I, cl_L, cl_R, e_iret0, e_nil, lc_lt, lc_le, lc_gt, lc_ge, lc_eq, true_and, and_true, List.length_cons, List.length_nil, ab_ia, Nat.reduceAdd, Nat.reduceLeDiff, Nat.reduceEqDiff, Nat.reduceLT, Int.reduceLT, Int.reduceLE, Int.reduceEq, Int.reduceNeg, true_or, or_true, false_or, or_false, not_false_eq_true, not_true_eq_false, false_implies, true_implies, forall_const, implies_true, Nat.zero_le, Nat.le_refl]
    have h1 : k = 1 := by omega
    subst h1
    rw [Int.one_mul] at el
    exact retI ⟨el.symm, rfl⟩
theorem g_ice {a d k : Int} (g : gOK G) (hg : gP D G) (ha : isCl 6 a) (hd : 0 ≤ d ∧ d ≤ 15) (hk : k = 0 ∨ k = 1) : CI 25 [vR 6, vI a, vI d, vI k] (EE L, D) (fun r D' => r = bi G a d k ∧ D' = D) := by
  have p4 := hg.1.2.2.2.2
  refine Sx.un (y := 25) (n := 0) (lo := [vR 6, vI a, vI d, vI k]) (st := []) (u := (0, 0)) ?_
  refine go_25_0 ?_
  simp only [sg_25_0, cl_I, cl_L, cl_R, e_aload_n, e_cv4, e_get1, e_goto, e_iaload, e_icmp_ge, e_iconst, e_iload_n, e_isub, e_nil, fl_0, fl_I, fl_L, fl_R, l_ld1, l_ld2, l_ld3, l_ldA0, rk_1, wRef_some, EE_n, EE_s6, EE_r6_0, EE_r6_1, EE_s7, EE_s8, Int.reduceToNat, lc_lt, lc_le, lc_gt, lc_ge, lc_eq, true_and, and_true, List.length_cons, List.length_nil, ab_ia, Nat.reduceAdd, Nat.reduceLeDiff, Nat.reduceEqDiff, Nat.reduceLT, Int.reduceLT, Int.reduceLE, Int.reduceEq, Int.reduceNeg, true_or, or_true, false_or, or_false, not_false_eq_true, not_true_eq_false, false_implies, true_implies, forall_const, implies_true, Nat.zero_le, Nat.le_refl]
  refine CI.use (g_holding g hg ha hd hk) ?_
  try simp only [EE_n, EE_s6, EE_r6_0, EE_r6_1, EE_s7, EE_s8, Int.reduceToNat, p4, lc_lt, lc_le, lc_gt, lc_ge, lc_eq, true_and, and_true, List.length_cons, List.length_nil, ab_ia, Nat.reduceAdd, Nat.reduceLeDiff, Nat.reduceEqDiff, Nat.reduceLT, Int.reduceLT, Int.reduceLE, Int.reduceEq, Int.reduceNeg, true_or, or_true, false_or, or_false, not_false_eq_true, not_true_eq_false, false_implies, true_implies, forall_const, implies_true, Nat.zero_le, Nat.le_refl]
  refine ⟨by omega, fun h1 => ?_, fun h1 => ⟨⟨by omega, by omega⟩, ?_⟩⟩
  · refine go_25_14 ?_
    simp only [sg_25_14, cl_I, cl_L, cl_R, e_iload_n, e_iret0, e_nil, l_ld2, lc_lt, lc_le, lc_gt, lc_ge, lc_eq, true_and, and_true, List.length_cons, List.length_nil, ab_ia, Nat.reduceAdd, Nat.reduceLeDiff, Nat.reduceEqDiff, Nat.reduceLT, Int.reduceLT, Int.reduceLE, Int.reduceEq, Int.reduceNeg, true_or, or_true, false_or, or_false, not_false_eq_true, not_true_eq_false, false_implies, true_implies, forall_const, implies_true, Nat.zero_le, Nat.le_refl]
    exact retI ⟨by unfold bi; rw [if_neg (by omega)], rfl⟩
  · refine go_25_15 ?_
    simp only [sg_25_15, cl_I, cl_L, cl_R, e_iret0, e_nil, lc_lt, lc_le, lc_gt, lc_ge, lc_eq, true_and, and_true, List.length_cons, List.length_nil, ab_ia, Nat.reduceAdd, Nat.reduceLeDiff, Nat.reduceEqDiff, Nat.reduceLT, Int.reduceLT, Int.reduceLE, Int.reduceEq, Int.reduceNeg, true_or, or_true, false_or, or_false, not_false_eq_true, not_true_eq_false, false_implies, true_implies, forall_const, implies_true, Nat.zero_le, Nat.le_refl]
    exact retI ⟨by unfold bi; rw [if_pos (by omega)], rfl⟩
theorem bi_bd {a d k : Int} : d - 1 ≤ bi G a d k ∧ bi G a d k ≤ d := by unfold bi; split <;> omega
theorem g_bears_loop {Q : Option ab_V → ab_H → Prop} {a d k w n : Int} (g : gOK G) (hg : gP D G) (ha : isCl 6 a) (hk : k = 0 ∨ k = 1) (hn : n ≤ 60) :
    ∀ (t : Nat) (j e : Int), 0 ≤ j → j + t = n → (1 ≤ e ∧ e ≤ 15) → (stb G a k w t e → Q (some (.inl 1)) (EE L, D)) → (¬ stb G a k w t e → Q (some (.inl 0)) (EE L, D)) → Sx 26 4 [vR 6, vI a, vI d, vI k, vI w, vI n, vI e, vI j] [] (EE L, D) (0, 0) Q := by
  intro t
  induction t with
  | zero =>
    intro j e h0 ht he q1 q0
    refine go_26_4 ?_
    simp only [sg_26_4, cl_I, cl_L, cl_R, e_aload_n, e_cv4, e_icmp_ge, e_icmp_lt, e_iconst, e_iload, e_iload_n, e_iret1, e_istore, e_nil, fl_0, fl_I, fl_L, fl_R, l_ld1, l_ld3, l_ld4, l_ld5, l_ld6, l_ld7, l_ldA0, l_st6, rk_1, EE_n, EE_s6, EE_r6_0, EE_r6_1, EE_s7, EE_s8, Int.reduceToNat, lc_lt, lc_le, lc_gt, lc_ge, lc_eq, true_and, and_true, List.length_cons, List.length_nil, ab_ia, Nat.reduceAdd, Nat.reduceLeDiff, Nat.reduceEqDiff, Nat.reduceLT, Int.reduceLT, Int.reduceLE, Int.reduceEq, Int.reduceNeg, true_or, or_true, false_or, or_false, not_false_eq_true, not_true_eq_false, false_implies, true_implies, forall_const, implies_true, Nat.zero_le, Nat.le_refl]
    refine ⟨fun _ => ?_, fun hc => absurd hc (by omega)⟩
    refine go_26_27 ?_
    simp only [sg_26_27, cl_I, cl_L, cl_R, e_iconst, e_iret1, e_nil, lc_lt, lc_le, lc_gt, lc_ge, lc_eq, true_and, and_true, List.length_cons, List.length_nil, ab_ia, Nat.reduceAdd, Nat.reduceLeDiff, Nat.reduceEqDiff, Nat.reduceLT, Int.reduceLT, Int.reduceLE, Int.reduceEq, Int.reduceNeg, true_or, or_true, false_or, or_false, not_false_eq_true, not_true_eq_false, false_implies, true_implies, forall_const, implies_true, Nat.zero_le, Nat.le_refl]
    exact q1 trivial
  | succ t ih =>
    intro j e h0 ht he q1 q0
    have hb := bi_bd (G := G) (a := a) (d := e) (k := k)
    refine go_26_4 ?_
    simp only [sg_26_4, cl_I, cl_L, cl_R, e_aload_n, e_cv4, e_icmp_ge, e_icmp_lt, e_iconst, e_iload, e_iload_n, e_iret1, e_istore, e_nil, fl_0, fl_I, fl_L, fl_R, l_ld1, l_ld3, l_ld4, l_ld5, l_ld6, l_ld7, l_ldA0, l_st6, rk_1, EE_n, EE_s6, EE_r6_0, EE_r6_1, EE_s7, EE_s8, Int.reduceToNat, lc_lt, lc_le, lc_gt, lc_ge, lc_eq, true_and, and_true, List.length_cons, List.length_nil, ab_ia, Nat.reduceAdd, Nat.reduceLeDiff, Nat.reduceEqDiff, Nat.reduceLT, Int.reduceLT, Int.reduceLE, Int.reduceEq, Int.reduceNeg, true_or, or_true, false_or, or_false, not_false_eq_true, not_true_eq_false, false_implies, true_implies, forall_const, implies_true, Nat.zero_le, Nat.le_refl]
    refine ⟨fun hc => absurd hc (by omega), fun _ => ?_⟩
    refine CI.use (g_ice g hg ha (by omega) hk) ?_
    try simp only [EE_n, EE_s6, EE_r6_0, EE_r6_1, EE_s7, EE_s8, Int.reduceToNat, lc_lt, lc_le, lc_gt, lc_ge, lc_eq, true_and, and_true, List.length_cons, List.length_nil, ab_ia, Nat.reduceAdd, Nat.reduceLeDiff, Nat.reduceEqDiff, Nat.reduceLT, Int.reduceLT, Int.reduceLE, Int.reduceEq, Int.reduceNeg, true_or, or_true, false_or, or_false, not_false_eq_true, not_true_eq_false, false_implies, true_implies, forall_const, implies_true, Nat.zero_le, Nat.le_refl]
    refine ⟨fun h1 => ?_, fun h1 => ?_⟩
    · refine go_26_23 ?_
      simp only [sg_26_23, cl_I, cl_L, cl_R, e_iconst, e_iret1, e_nil, lc_lt, lc_le, lc_gt, lc_ge, lc_eq, true_and, and_true, List.length_cons, List.length_nil, ab_ia, Nat.reduceAdd, Nat.reduceLeDiff, Nat.reduceEqDiff, Nat.reduceLT, Int.reduceLT, Int.reduceLE, Int.reduceEq, Int.reduceNeg, true_or, or_true, false_or, or_false, not_false_eq_true, not_true_eq_false, false_implies, true_implies, forall_const, implies_true, Nat.zero_le, Nat.le_refl]
      refine q0 (fun q => ?_)
      have := q.1; omega
    · refine CI.use (g_holding g hg ha (by omega) hk) ?_
      try simp only [EE_n, EE_s6, EE_r6_0, EE_r6_1, EE_s7, EE_s8, Int.reduceToNat, lc_lt, lc_le, lc_gt, lc_ge, lc_eq, true_and, and_true, List.length_cons, List.length_nil, ab_ia, Nat.reduceAdd, Nat.reduceLeDiff, Nat.reduceEqDiff, Nat.reduceLT, Int.reduceLT, Int.reduceLE, Int.reduceEq, Int.reduceNeg, true_or, or_true, false_or, or_false, not_false_eq_true, not_true_eq_false, false_implies, true_implies, forall_const, implies_true, Nat.zero_le, Nat.le_refl]
      refine ⟨fun h2 => ?_, fun h2 => ?_⟩
      · refine go_26_25 ?_
        simp only [sg_26_25, cl_I, cl_L, cl_R, e_goto, e_iinc, e_nil, l_inc7, lc_lt, lc_le, lc_gt, lc_ge, lc_eq, true_and, and_true, List.length_cons, List.length_nil, ab_ia, Nat.reduceAdd, Nat.reduceLeDiff, Nat.reduceEqDiff, Nat.reduceLT, Int.reduceLT, Int.reduceLE, Int.reduceEq, Int.reduceNeg, true_or, or_true, false_or, or_false, not_false_eq_true, not_true_eq_false, false_implies, true_implies, forall_const, implies_true, Nat.zero_le, Nat.le_refl]
        exact ⟨⟨by omega, by omega⟩, ih (j + 1) _ (by omega) (by omega) (by omega) (fun q => q1 ⟨by omega, by omega, q⟩) (fun q => q0 (fun q2 => q q2.2.2))⟩
      · exact q0 (fun q => absurd q.2.1 (by omega))
theorem g_bears {a d k w n : Int} (g : gOK G) (hg : gP D G) (ha : isCl 6 a) (hd : 1 ≤ d ∧ d ≤ 15) (hk : k = 0 ∨ k = 1) (hn : 0 ≤ n ∧ n ≤ 60) : CB 26 [vR 6, vI a, vI d, vI k, vI w, vI n] (EE L) D (stb G a k w n.toNat d) := by
  refine Sx.un (y := 26) (n := 0) (lo := [vR 6, vI a, vI d, vI k, vI w, vI n, vU, vU]) (st := []) (u := (0, 0)) ?_
  refine go_26_0 ?_
  simp only [sg_26_0, cl_I, cl_L, cl_R, e_iconst, e_iload_n, e_istore, e_nil, l_ld2, l_st6, l_st7, lc_lt, lc_le, lc_gt, lc_ge, lc_eq, true_and, and_true, List.length_cons, List.length_nil, ab_ia, Nat.reduceAdd, Nat.reduceLeDiff, Nat.reduceEqDiff, Nat.reduceLT, Int.reduceLT, Int.reduceLE, Int.reduceEq, Int.reduceNeg, true_or, or_true, false_or, or_false, not_false_eq_true, not_true_eq_false, false_implies, true_implies, forall_const, implies_true, Nat.zero_le, Nat.le_refl]
  exact g_bears_loop g hg ha hk (by omega) n.toNat 0 d (by omega) (by omega) hd (fun q => retB1 q) (fun q => retB0 q)
theorem m_clayOf {a : Int} (hg : gM D G) (ha : isCl 6 a) : CI 131 [vR 69, vI a] (EE L, D) (fun r D' => r = G.cf a ∧ D' = D) := by
  have ha' := ha
  unfold isCl at ha
  refine Sx.un (y := 131) (n := 0) (lo := [vR 69, vI a]) (st := []) (u := (0, 0)) ?_
  refine go_131_0 ?_
  simp only [sg_131_0, cl_I, cl_L, cl_R, e_aload_n, e_bipush, e_get1, e_iadd, e_iaload, e_idiv, e_iload_n, e_imul, e_irem, e_iret0, e_nil, l_ld1, l_ldA0, wRef_some, EE_n, EE_r69_1, EE_s69, EE_s71, lc_lt, lc_le, lc_gt, lc_ge, lc_eq, true_and, and_true, List.length_cons, List.length_nil, ab_ia, Nat.reduceAdd, Nat.reduceLeDiff, Nat.reduceEqDiff, Nat.reduceLT, Int.reduceLT, Int.reduceLE, Int.reduceEq, Int.reduceNeg, true_or, or_true, false_or, or_false, not_false_eq_true, not_true_eq_false, false_implies, true_implies, forall_const, implies_true, Nat.zero_le, Nat.le_refl]
  exact ⟨by omega, ⟨by omega, by omega⟩, ⟨by omega, by omega⟩, by omega, ⟨by omega, by omega⟩, by omega, retI ⟨hg.2.2 a ha', rfl⟩⟩
theorem m_holdsOf {a d k : Int} (g : gOK G) (hg : gM D G) (ha : isCl 6 a) (hd : 0 ≤ d ∧ d ≤ 15) (hk : k = 0 ∨ k = 1) : CI 135 [vR 69, vI a, vI d, vI k] (EE L, D) (fun r D' => r = hl G a d k ∧ D' = D) := by
  obtain ⟨g1, g2, g3, g4, g5, g6, g7⟩ := g
  obtain ⟨p0, p1, p2, p3, p4⟩ := hg.1
  have := g7 a ha
  have el : hl G a d k = (if G.cf a < d then G.cf a else d) * G.m + (d - (if G.cf a < d then G.cf a else d)) * G.y + k * G.k := rfl
  have hkk : 0 ≤ k * G.k ∧ k * G.k ≤ 9 := by
    rcases hk with rfl | rfl
    · rw [Int.zero_mul]; omega
    · rw [Int.one_mul]; omega
  refine Sx.un (y := 135) (n := 0) (lo := [vR 69, vI a, vI d, vI k, vU, vU]) (st := []) (u := (0, 0)) ?_
  refine go_135_0 ?_
  simp only [sg_135_0, cl_I, cl_L, cl_R, e_aload_n, e_cv2, e_goto, e_icmp_ge, e_iload, e_iload_n, e_istore, e_nil, fl_0, fl_I, fl_L, fl_R, l_ld1, l_ld2, l_ld4, l_ldA0, l_st4, rk_1, EE_n, EE_s69, lc_lt, lc_le, lc_gt, lc_ge, lc_eq, true_and, and_true, List.length_cons, List.length_nil, ab_ia, Nat.reduceAdd, Nat.reduceLeDiff, Nat.reduceEqDiff, Nat.reduceLT, Int.reduceLT, Int.reduceLE, Int.reduceEq, Int.reduceNeg, true_or, or_true, false_or, or_false, not_false_eq_true, not_true_eq_false, false_implies, true_implies, forall_const, implies_true, Nat.zero_le, Nat.le_refl]
  refine CI.use (m_clayOf hg ha) ?_
  try simp only [lc_lt, lc_le, lc_gt, lc_ge, lc_eq, true_and, and_true, List.length_cons, List.length_nil, ab_ia, Nat.reduceAdd, Nat.reduceLeDiff, Nat.reduceEqDiff, Nat.reduceLT, Int.reduceLT, Int.reduceLE, Int.reduceEq, Int.reduceNeg, true_or, or_true, false_or, or_false, not_false_eq_true, not_true_eq_false, false_implies, true_implies, forall_const, implies_true, Nat.zero_le, Nat.le_refl]
  have fin : ∀ m : Int, (if G.cf a < d then G.cf a else d) = m → Sx 135 10 [vR 69, vI a, vI d, vI k, vI (G.cf a), vU] [vI m] (EE L, D) (0, 0) (fun r h' => ∃ x D', r = some (.inl x) ∧ h' = (EE L, D') ∧ x = hl G a d k ∧ D' = D) := by
    intro m hm
    rw [hm] at el
    have hb : 0 ≤ m ∧ m ≤ 15 ∧ m ≤ d := by split at hm <;> omega
    have b1 := mulb hb.1 hb.2.1 g2.1 g2.2
    have b2 := mulb (a := d - m) (x := 15) (by omega) (by omega) g3.1 g3.2
    refine go_135_10 ?_
    simp only [sg_135_10, cl_I, cl_L, cl_R, e_aload_n, e_get1, e_iadd, e_iaload, e_iconst, e_iload, e_iload_n, e_imul, e_iret0, e_istore, e_isub, e_nil, l_ld2, l_ld3, l_ld5, l_ldA0, l_st5, wRef_some, EE_n, EE_r69_1, EE_s69, EE_s71, Int.reduceToNat, p1, p2, p3, lc_lt, lc_le, lc_gt, lc_ge, lc_eq, true_and, and_true, List.length_cons, List.length_nil, ab_ia, Nat.reduceAdd, Nat.reduceLeDiff, Nat.reduceEqDiff, Nat.reduceLT, Int.reduceLT, Int.reduceLE, Int.reduceEq, Int.reduceNeg, true_or, or_true, false_or, or_false, not_false_eq_true, not_true_eq_false, false_implies, true_implies, forall_const, implies_true, Nat.zero_le, Nat.le_refl]
    exact ⟨by omega, ⟨by omega, by omega⟩, ⟨by omega, by omega⟩, by omega, ⟨by omega, by omega⟩, ⟨by omega, by omega⟩, by omega, ⟨by omega, by omega⟩, ⟨by omega, by omega⟩, retI ⟨el.symm, rfl⟩⟩
  refine ⟨fun h1 => ?_, fun h1 => ?_⟩
  · refine go_135_9 ?_
    simp only [sg_135_9, cl_I, cl_L, cl_R, e_aload_n, e_get1, e_iadd, e_iaload, e_iconst, e_iload, e_iload_n, e_imul, e_iret0, e_istore, e_isub, e_nil, l_ld2, l_ld3, l_ld4, l_ld5, l_ldA0, l_st5, wRef_some, EE_n, EE_r69_1, EE_s69, EE_s71, Int.reduceToNat, p1, p2, p3, lc_lt, lc_le, lc_gt, lc_ge, lc_eq, true_and, and_true, List.length_cons, List.length_nil, ab_ia, Nat.reduceAdd, Nat.reduceLeDiff, Nat.reduceEqDiff, Nat.reduceLT, Int.reduceLT, Int.reduceLE, Int.reduceEq, Int.reduceNeg, true_or, or_true, false_or, or_false, not_false_eq_true, not_true_eq_false, false_implies, true_implies, forall_const, implies_true, Nat.zero_le, Nat.le_refl]
    have hm : (if G.cf a < d then G.cf a else d) = G.cf a := by split <;> omega
    rw [hm] at el
    have b1 := mulb (a := G.cf a) (x := 15) (by omega) (by omega) g2.1 g2.2
    have b2 := mulb (a := d - G.cf a) (x := 15) (by omega) (by omega) g3.1 g3.2
    exact ⟨by omega, ⟨by omega, by omega⟩, ⟨by omega, by omega⟩, by omega, ⟨by omega, by omega⟩, ⟨by omega, by omega⟩, by omega, ⟨by omega, by omega⟩, ⟨by omega, by omega⟩, retI ⟨el.symm, rfl⟩⟩
  · exact fin d (by split <;> omega)
end Ground
