/-! a village: poles, houses, the year -/
def Vil : Type := (Int × Int × Int) × (Int → Int → Int) × (Int → Int → Int)
def Vil.np (V : Vil) : Int := V.1.1
def Vil.nh (V : Vil) : Int := V.1.2.1
def Vil.yr (V : Vil) : Int := V.1.2.2
def Vil.p (V : Vil) : Int → Int → Int := V.2.1
def Vil.h (V : Vil) : Int → Int → Int := V.2.2
/-- the cells from corner a to corner b -/
abbrev cov (a b c : Int) : Prop := (a / 10 ≤ c / 10 ∧ c / 10 ≤ b / 10) ∧ (a % 10 ≤ c % 10 ∧ c % 10 ≤ b % 10)
/-- a pole in order -/
def plOK (n y : Int) (r : Int → Int) : Prop := isCl n (r 0) ∧ (0 ≤ r 1 ∧ r 1 < 3) ∧ (0 ≤ r 2 ∧ r 2 ≤ 15) ∧ (1 ≤ r 3 ∧ r 3 ≤ 15) ∧ (r 4 = 0 ∨ r 4 = 1) ∧ (0 ≤ r 5 ∧ r 5 ≤ y) ∧ (r 7 = -9 → 1 ≤ r 2)
def hsOK (n : Int) (r : Int → Int) : Prop := isCl n (r 0) ∧ isCl n (r 1) ∧ (1 ≤ r 2 ∧ r 2 ≤ 999) ∧ (r 3 = 0 ∨ r 3 = 1)
def vOK (G : Gr) (V : Vil) : Prop := ((0 ≤ V.np ∧ V.np ≤ 24) ∧ (0 ≤ V.nh ∧ V.nh ≤ 6) ∧ (0 ≤ V.yr ∧ V.yr ≤ 1000000)) ∧ (∀ p, 0 ≤ p → p < V.np → plOK G.n V.yr (V.p p)) ∧ (∀ h, 0 ≤ h → h < V.nh → hsOK G.n (V.h h)) ∧ ∀ h h' a, 0 ≤ h → h < V.nh → 0 ≤ h' → h' < V.nh → cov (V.h h 0) (V.h h 1) a → cov (V.h h' 0) (V.h h' 1) a → h = h'
/-- the class's rows at place v -/
def vP (D : ab_D) (v : Nat) (V : Vil) : Prop := (D v 1 = V.np ∧ D v 9 = V.nh ∧ D v 14 = V.yr) ∧
  (∀ p, 0 ≤ p → p < V.np → D (v + 1) p.toNat = V.p p 0 ∧ D (v + 2) p.toNat = V.p p 1 ∧ D (v + 3) p.toNat = V.p p 2 ∧ D (v + 4) p.toNat = V.p p 3 ∧ D (v + 5) p.toNat = V.p p 4 ∧ D (v + 6) p.toNat = V.p p 5 ∧ D (v + 7) p.toNat = V.p p 7) ∧
  (∀ h, 0 ≤ h → h < V.nh → D (v + 8) h.toNat = V.h h 0 ∧ D (v + 9) h.toNat = V.h h 2 ∧ D (v + 10) h.toNat = V.h h 3) ∧
  ∀ a : Int, 0 ≤ a → a < 56 → (D (v + 11) a.toNat = -9 ∨ (0 ≤ D (v + 11) a.toNat ∧ D (v + 11) a.toNat < V.nh)) ∧ ∀ h, 0 ≤ h → h < V.nh → (D (v + 11) a.toNat = h ↔ cov (V.h h 0) (V.h h 1) a)
/-- the reference's rows -/
def vMr (P H : Nat → Int) (V : Vil) : Prop :=
  (∀ p, 0 ≤ p → p < V.np → P (8 * p).toNat = V.p p 0 ∧ P (8 * p + 1).toNat = V.p p 1 ∧ P (8 * p + 2).toNat = V.p p 2 ∧ P (8 * p + 3).toNat = V.p p 3 ∧ P (8 * p + 4).toNat = V.p p 4 ∧ P (8 * p + 5).toNat = V.p p 5 ∧ P (8 * p + 6).toNat = (if V.p p 7 = -9 then 1 else 0) ∧ P (8 * p + 7).toNat = V.p p 7) ∧
  (∀ h, 0 ≤ h → h < V.nh → H (4 * h).toNat = V.h h 0 ∧ H (4 * h + 1).toNat = V.h h 1 ∧ H (4 * h + 2).toNat = V.h h 2 ∧ H (4 * h + 3).toNat = V.h h 3)
def vM (D : ab_D) (V : Vil) : Prop := (D 69 8 = V.np ∧ D 69 10 = V.nh ∧ D 69 12 = V.yr) ∧ vMr (D 74) (D 75) V
/-- nothing changed but at place v and its rows -/
def fr (v : Nat) (D D' : ab_D) : Prop := ∀ a, ¬ (v ≤ a ∧ a ≤ v + 11) → D' a = D a
theorem fr.refl {v : Nat} {D : ab_D} : fr v D D := fun _ _ => rfl
theorem fr.trans {v : Nat} {D D' D'' : ab_D} (h : fr v D D') (k : fr v D' D'') : fr v D D'' := fun a ha => (k a ha).trans (h a ha)
theorem fr_ups {v b i : Nat} {z : Int} {D D' : ab_D} (hb : v ≤ b ∧ b ≤ v + 11) (h : fr v D D') : fr v D (ups D' b i z) := fun a ha => by
  funext j
  rw [ups_ne1 (by omega), h a ha]
/-- nothing changed but the reference's village -/
def frM (D D' : ab_D) : Prop := (∀ a, a ≠ 69 → a ≠ 74 → a ≠ 75 → a ≠ 76 → D' a = D a) ∧ ∀ j, j ≠ 8 → j ≠ 10 → j ≠ 12 → D' 69 j = D 69 j
theorem frM.refl {D : ab_D} : frM D D := ⟨fun _ _ _ _ _ => rfl, fun _ _ _ _ => rfl⟩
theorem frM.trans {D D' D'' : ab_D} (h : frM D D') (k : frM D' D'') : frM D D'' := ⟨fun a h1 h2 h3 h4 => (k.1 a h1 h2 h3 h4).trans (h.1 a h1 h2 h3 h4), fun j h1 h2 h3 => (k.2 j h1 h2 h3).trans (h.2 j h1 h2 h3)⟩
theorem frM_ups {b i : Nat} {z : Int} {D D' : ab_D} (hb : (b = 74 ∨ b = 75 ∨ b = 76) ∨ (b = 69 ∧ (i = 8 ∨ i = 10 ∨ i = 12))) (h : frM D D') : frM D (ups D' b i z) := ⟨fun a h1 h2 h3 h4 => by
  funext j
  rw [ups_ne1 (by omega), h.1 a h1 h2 h3 h4], fun j h1 h2 h3 => by
  by_cases q : b = 69
  · rw [ups_ne2 (by omega), h.2 j h1 h2 h3]
  · rw [ups_ne1 (by omega), h.2 j h1 h2 h3]⟩
/-! what is asked of a village -/
def isPl (V : Vil) (h p : Int) : Prop := V.p p 7 = -9 ∧ cov (V.h h 0) (V.h h 1) (V.p p 0)
def plb (V : Vil) (h p : Int) : Bool := decide (V.p p 7 = -9 ∧ cov (V.h h 0) (V.h h 1) (V.p p 0))
theorem plb_t {V : Vil} {h p : Int} (k : isPl V h p) : plb V h p = true := decide_eq_true k
theorem plb_f {V : Vil} {h p : Int} (k : ¬ isPl V h p) : plb V h p = false := decide_eq_false k
def plsOf (V : Vil) (h : Int) : Int := cnt (fun p => plb V h p) V.np.toNat
def shr (V : Vil) (h : Int) : Int := if plsOf V h = 0 ∨ V.h h 3 = 1 then 0 else (V.h h 2 + plsOf V h - 1) / plsOf V h
def stdg (V : Vil) : Int := cnt (fun p => decide (V.p p 7 = -9)) V.np.toNat
def hlP (G : Gr) (V : Vil) (p : Int) : Int := hl G (V.p p 0) (V.p p 2) (V.p p 4)
def weak (G : Gr) (V : Vil) (h : Int) : Prop := ∃ p, 0 ≤ p ∧ p < V.np ∧ isPl V h p ∧ hlP G V p < shr V h
def ofM (V : Vil) (h : Int) : Nat → Int
  | 0 => -100
  | k + 1 => if plb V h k = true then (if ofM V h k < V.p k 2 - V.p k 3 then V.p k 2 - V.p k 3 else ofM V h k) else ofM V h k
def ofm (V : Vil) (h : Int) : Nat → Int
  | 0 => 100
  | k + 1 => if plb V h k = true then (if V.p k 2 - V.p k 3 < ofm V h k then V.p k 2 - V.p k 3 else ofm V h k) else ofm V h k
def offv (V : Vil) (h : Int) : Int := if ofM V h V.np.toNat < ofm V h V.np.toNat then 0 else ofM V h V.np.toNat - ofm V h V.np.toNat
theorem vOK.cl {G : Gr} {V : Vil} (g : gOK G) (k : vOK G V) {p : Int} (h0 : 0 ≤ p) (h1 : p < V.np) : isCl 6 (V.p p 0) := isCl_mono g.1.2 (k.2.1 p h0 h1).1
theorem vOK.hl {G : Gr} {V : Vil} (g : gOK G) (k : vOK G V) {p : Int} (h0 : 0 ≤ p) (h1 : p < V.np) : 0 ≤ hlP G V p ∧ hlP G V p ≤ 300 := hl_bd g (k.cl g h0 h1) (k.2.1 p h0 h1).2.2.1 (k.2.1 p h0 h1).2.2.2.2.1
theorem shr_bd {G : Gr} {V : Vil} (k : vOK G V) {h : Int} (h0 : 0 ≤ h) (h1 : h < V.nh) : 0 ≤ shr V h ∧ shr V h ≤ 2000 := by
  obtain ⟨_, _, w, _⟩ := k.2.2.1 h h0 h1
  unfold shr
  split
  · omega
  · rename_i q
    have b := cnt_bd (fun p => plb V h p) V.np.toNat
    have b' : 0 ≤ plsOf V h ∧ plsOf V h ≤ V.np.toNat := b
    have := k.1.1
    have n0 : 0 < plsOf V h := by omega
    constructor
    · exact Int.ediv_nonneg (by omega) (by omega)
    · have := Int.ediv_le_self (plsOf V h) (a := V.h h 2 + plsOf V h - 1) (by omega)
      omega
/-- one of the class's villages -/
def isV (L v : Nat) : Prop := (9 ≤ v ∧ v < 88 ∧ v + 1 < 88 ∧ v + 2 < 88 ∧ v + 3 < 88 ∧ v + 4 < 88 ∧ v + 5 < 88 ∧ v + 6 < 88 ∧ v + 7 < 88 ∧ v + 8 < 88 ∧ v + 9 < 88 ∧ v + 10 < 88 ∧ v + 11 < 88) ∧
  ((EE L).2.2 v 0 = some 6 ∧ (EE L).2.2 v 2 = some (v + 1) ∧ (EE L).2.2 v 3 = some (v + 2) ∧ (EE L).2.2 v 4 = some (v + 3) ∧ (EE L).2.2 v 5 = some (v + 4) ∧ (EE L).2.2 v 6 = some (v + 5) ∧ (EE L).2.2 v 7 = some (v + 6) ∧ (EE L).2.2 v 8 = some (v + 7) ∧ (EE L).2.2 v 10 = some (v + 8) ∧ (EE L).2.2 v 11 = some (v + 9) ∧ (EE L).2.2 v 12 = some (v + 10) ∧ (EE L).2.2 v 13 = some (v + 11)) ∧
  (EE L).2.1 v = (7, 0) ∧ (EE L).2.1 (v + 1) = (0, 24) ∧ (EE L).2.1 (v + 2) = (0, 24) ∧ (EE L).2.1 (v + 3) = (0, 24) ∧ (EE L).2.1 (v + 4) = (0, 24) ∧ (EE L).2.1 (v + 5) = (1, 24) ∧ (EE L).2.1 (v + 6) = (0, 24) ∧ (EE L).2.1 (v + 7) = (0, 24) ∧ (EE L).2.1 (v + 8) = (0, 6) ∧ (EE L).2.1 (v + 9) = (0, 6) ∧ (EE L).2.1 (v + 10) = (1, 6) ∧ (EE L).2.1 (v + 11) = (0, 56)
theorem isV9 {L : Nat} : isV L 9 := ⟨by decide, ⟨EE_r9_0, EE_r9_2, EE_r9_3, EE_r9_4, EE_r9_5, EE_r9_6, EE_r9_7, EE_r9_8, EE_r9_10, EE_r9_11, EE_r9_12, EE_r9_13⟩, EE_s9, EE_s10, EE_s11, EE_s12, EE_s13, EE_s14, EE_s15, EE_s16, EE_s17, EE_s18, EE_s19, EE_s20⟩
theorem isV21 {L : Nat} : isV L 21 := ⟨by decide, ⟨EE_r21_0, EE_r21_2, EE_r21_3, EE_r21_4, EE_r21_5, EE_r21_6, EE_r21_7, EE_r21_8, EE_r21_10, EE_r21_11, EE_r21_12, EE_r21_13⟩, EE_s21, EE_s22, EE_s23, EE_s24, EE_s25, EE_s26, EE_s27, EE_s28, EE_s29, EE_s30, EE_s31, EE_s32⟩
theorem isV34 {L : Nat} : isV L 34 := ⟨by decide, ⟨EE_r34_0, EE_r34_2, EE_r34_3, EE_r34_4, EE_r34_5, EE_r34_6, EE_r34_7, EE_r34_8, EE_r34_10, EE_r34_11, EE_r34_12, EE_r34_13⟩, EE_s34, EE_s35, EE_s36, EE_s37, EE_s38, EE_s39, EE_s40, EE_s41, EE_s42, EE_s43, EE_s44, EE_s45⟩
theorem isV46 {L : Nat} : isV L 46 := ⟨by decide, ⟨EE_r46_0, EE_r46_2, EE_r46_3, EE_r46_4, EE_r46_5, EE_r46_6, EE_r46_7, EE_r46_8, EE_r46_10, EE_r46_11, EE_r46_12, EE_r46_13⟩, EE_s46, EE_s47, EE_s48, EE_s49, EE_s50, EE_s51, EE_s52, EE_s53, EE_s54, EE_s55, EE_s56, EE_s57⟩
section Village
variable {L v : Nat} {D : ab_D} {G : Gr} {V : Vil}
theorem v_stands {p : Int} (hv : isV L v) (hV : vP D v V) (k : vOK G V) (h0 : 0 ≤ p) (h1 : p < V.np) : CB 49 [vR v, vI p] (EE L) D (V.p p 7 = -9) := by
  obtain ⟨⟨zz, zz0, zz1, zz2, zz3, zz4, zz5, zz6, zz7, zz8, zz9, zz10, zz11⟩, ⟨zr0, zr2, zr3, zr4, zr5, zr6, zr7, zr8, zr10, zr11, zr12, zr13⟩, zs0, zs1, zs2, zs3, zs4, zs5, zs6, zs7, zs8, zs9, zs10, zs11⟩ := hv
  have e := (hV.2.1 p h0 h1).2.2.2.2.2.2
  have := k.1
  refine Sx.un (y := 49) (n := 0) (lo := [vR v, vI p]) (st := []) (u := (0, 0)) ?_
  refine go_49_0 ?_
  simp only [sg_49_0, cl_I, cl_L, cl_R, e_aload_n, e_bipush, e_get1, e_goto, e_iaload, e_icmp_ne, e_iconst, e_iload_n, e_nil, l_ld1, l_ldA0, wRef_some, EE_n, zr8, zs0, zs7, zz0, zz7, e, lc_lt, lc_le, lc_gt, lc_ge, lc_eq, true_and, and_true, List.length_cons, List.length_nil, ab_ia, Nat.reduceAdd, Nat.reduceLeDiff, Nat.reduceEqDiff, Nat.reduceLT, Int.reduceLT, Int.reduceLE, Int.reduceEq, Int.reduceNeg, true_or, or_true, false_or, or_false, not_false_eq_true, not_true_eq_false, false_implies, true_implies, forall_const, implies_true, Nat.zero_le, Nat.le_refl]
  refine ⟨by omega, fun h1 => ?_, fun h1 => ?_⟩
  · refine go_49_8 ?_
    simp only [sg_49_8, cl_I, cl_L, cl_R, e_iconst, e_iret1, e_nil, lc_lt, lc_le, lc_gt, lc_ge, lc_eq, true_and, and_true, List.length_cons, List.length_nil, ab_ia, Nat.reduceAdd, Nat.reduceLeDiff, Nat.reduceEqDiff, Nat.reduceLT, Int.reduceLT, Int.reduceLE, Int.reduceEq, Int.reduceNeg, true_or, or_true, false_or, or_false, not_false_eq_true, not_true_eq_false, false_implies, true_implies, forall_const, implies_true, Nat.zero_le, Nat.le_refl]
    exact retB0 h1
  · refine go_49_9 ?_
    simp only [sg_49_9, cl_I, cl_L, cl_R, e_iret1, e_nil, lc_lt, lc_le, lc_gt, lc_ge, lc_eq, true_and, and_true, List.length_cons, List.length_nil, ab_ia, Nat.reduceAdd, Nat.reduceLeDiff, Nat.reduceEqDiff, Nat.reduceLT, Int.reduceLT, Int.reduceLE, Int.reduceEq, Int.reduceNeg, true_or, or_true, false_or, or_false, not_false_eq_true, not_true_eq_false, false_implies, true_implies, forall_const, implies_true, Nat.zero_le, Nat.le_refl]
    exact retB1 (by omega)
theorem v_holds {p : Int} (hv : isV L v) (g : gOK G) (hg : gP D G) (hV : vP D v V) (k : vOK G V) (h0 : 0 ≤ p) (h1 : p < V.np) : CI 50 [vR v, vI p] (EE L, D) (fun r D' => r = hlP G V p ∧ D' = D) := by
  obtain ⟨⟨zz, zz0, zz1, zz2, zz3, zz4, zz5, zz6, zz7, zz8, zz9, zz10, zz11⟩, ⟨zr0, zr2, zr3, zr4, zr5, zr6, zr7, zr8, zr10, zr11, zr12, zr13⟩, zs0, zs1, zs2, zs3, zs4, zs5, zs6, zs7, zs8, zs9, zs10, zs11⟩ := hv
  obtain ⟨e0, e1, e2, e3, e4, e5, e7⟩ := hV.2.1 p h0 h1
  obtain ⟨q0, q1, q2, q3, q4, q5, q7⟩ := k.2.1 p h0 h1
  have := k.1
  refine Sx.un (y := 50) (n := 0) (lo := [vR v, vI p]) (st := []) (u := (0, 0)) ?_
  refine go_50_0 ?_
  simp only [sg_50_0, cl_I, cl_L, cl_R, e_aload_n, e_baload, e_cv4, e_get1, e_iaload, e_iload_n, e_iret0, e_nil, fl_0, fl_I, fl_L, fl_R, l_ld1, l_ldA0, rk_1, wRef_some, EE_n, EE_s6, zr0, zr2, zr4, zr6, zs0, zs1, zs3, zs5, zz0, zz1, zz3, zz5, e0, e2, e4, lc_lt, lc_le, lc_gt, lc_ge, lc_eq, true_and, and_true, List.length_cons, List.length_nil, ab_ia, Nat.reduceAdd, Nat.reduceLeDiff, Nat.reduceEqDiff, Nat.reduceLT, Int.reduceLT, Int.reduceLE, Int.reduceEq, Int.reduceNeg, true_or, or_true, false_or, or_false, not_false_eq_true, not_true_eq_false, false_implies, true_implies, forall_const, implies_true, Nat.zero_le, Nat.le_refl]
  refine ⟨by omega, by omega, by omega, ?_⟩
  refine CI.use (g_holding g hg (k.cl g h0 h1) q2 q4) ?_
  exact retI ⟨rfl, rfl⟩
theorem v_isPl {h p : Int} (hv : isV L v) (g : gOK G) (hV : vP D v V) (k : vOK G V) (h0 : 0 ≤ p) (h1 : p < V.np) (j0 : 0 ≤ h) (j1 : h < V.nh) : CB 52 [vR v, vI h, vI p] (EE L) D (isPl V h p) := by
  have hv' := hv
  obtain ⟨⟨zz, zz0, zz1, zz2, zz3, zz4, zz5, zz6, zz7, zz8, zz9, zz10, zz11⟩, ⟨zr0, zr2, zr3, zr4, zr5, zr6, zr7, zr8, zr10, zr11, zr12, zr13⟩, zs0, zs1, zs2, zs3, zs4, zs5, zs6, zs7, zs8, zs9, zs10, zs11⟩ := hv
  obtain ⟨e0, e1, e2, e3, e4, e5, e7⟩ := hV.2.1 p h0 h1
  have hc := k.cl g h0 h1
  unfold isCl at hc
  have ha := (hV.2.2.2 (V.p p 0) (by omega) (by omega)).2 h j0 j1
  have := k.1
  refine Sx.un (y := 52) (n := 0) (lo := [vR v, vI h, vI p]) (st := []) (u := (0, 0)) ?_
  refine go_52_0 ?_
  simp only [sg_52_0, cl_I, cl_L, cl_R, e_aload_n, e_bipush, e_get1, e_goto, e_iaload, e_icmp_ne, e_iconst, e_iload_n, e_nil, l_ld1, l_ld2, l_ldA0, wRef_some, EE_n, zr13, zr2, zr8, zs0, zs1, zs11, zs7, zz0, zz1, zz11, zz7, e7, e0, lc_lt, lc_le, lc_gt, lc_ge, lc_eq, true_and, and_true, List.length_cons, List.length_nil, ab_ia, Nat.reduceAdd, Nat.reduceLeDiff, Nat.reduceEqDiff, Nat.reduceLT, Int.reduceLT, Int.reduceLE, Int.reduceEq, Int.reduceNeg, true_or, or_true, false_or, or_false, not_false_eq_true, not_true_eq_false, false_implies, true_implies, forall_const, implies_true, Nat.zero_le, Nat.le_refl]
  refine ⟨by omega, fun h2 => ?_, fun h2 => ⟨by omega, by omega, fun h3 => ?_, fun h3 => ?_⟩⟩
  · refine go_52_17 ?_
    simp only [sg_52_17, cl_I, cl_L, cl_R, e_iconst, e_iret1, e_nil, lc_lt, lc_le, lc_gt, lc_ge, lc_eq, true_and, and_true, List.length_cons, List.length_nil, ab_ia, Nat.reduceAdd, Nat.reduceLeDiff, Nat.reduceEqDiff, Nat.reduceLT, Int.reduceLT, Int.reduceLE, Int.reduceEq, Int.reduceNeg, true_or, or_true, false_or, or_false, not_false_eq_true, not_true_eq_false, false_implies, true_implies, forall_const, implies_true, Nat.zero_le, Nat.le_refl]
    exact retB0 (fun q => h2 q.1)
  · refine go_52_17 ?_
    simp only [sg_52_17, cl_I, cl_L, cl_R, e_iconst, e_iret1, e_nil, lc_lt, lc_le, lc_gt, lc_ge, lc_eq, true_and, and_true, List.length_cons, List.length_nil, ab_ia, Nat.reduceAdd, Nat.reduceLeDiff, Nat.reduceEqDiff, Nat.reduceLT, Int.reduceLT, Int.reduceLE, Int.reduceEq, Int.reduceNeg, true_or, or_true, false_or, or_false, not_false_eq_true, not_true_eq_false, false_implies, true_implies, forall_const, implies_true, Nat.zero_le, Nat.le_refl]
    exact retB0 (fun q => h3 (ha.mpr q.2))
  · refine go_52_18 ?_
    simp only [sg_52_18, cl_I, cl_L, cl_R, e_iret1, e_nil, lc_lt, lc_le, lc_gt, lc_ge, lc_eq, true_and, and_true, List.length_cons, List.length_nil, ab_ia, Nat.reduceAdd, Nat.reduceLeDiff, Nat.reduceEqDiff, Nat.reduceLT, Int.reduceLT, Int.reduceLE, Int.reduceEq, Int.reduceNeg, true_or, or_true, false_or, or_false, not_false_eq_true, not_true_eq_false, false_implies, true_implies, forall_const, implies_true, Nat.zero_le, Nat.le_refl]
    exact retB1 ⟨by omega, ha.mp (by omega)⟩
theorem v_standing_loop {Q : Option ab_V → ab_H → Prop} (hv : isV L v) (hV : vP D v V) (k : vOK G V) (hq : Q (some (.inl (stdg V))) (EE L, D)) :
    ∀ (t : Nat) (p : Int), 0 ≤ p → p + t = V.np → Sx 51 4 [vR v, vI (cnt (fun p => decide (V.p p 7 = -9)) p.toNat), vI p] [] (EE L, D) (0, 0) Q := by
  have hv' := hv
  obtain ⟨⟨zz, zz0, zz1, zz2, zz3, zz4, zz5, zz6, zz7, zz8, zz9, zz10, zz11⟩, ⟨zr0, zr2, zr3, zr4, zr5, zr6, zr7, zr8, zr10, zr11, zr12, zr13⟩, zs0, zs1, zs2, zs3, zs4, zs5, zs6, zs7, zs8, zs9, zs10, zs11⟩ := hv
  have e1 := hV.1.1
  have := k.1
  intro t
  induction t with
  | zero =>
    intro p h0 ht
    refine go_51_4 ?_
    simp only [sg_51_4, cl_I, cl_L, cl_R, e_aload_n, e_cv2, e_get0, e_goto, e_icmp_ge, e_if_eq, e_iinc, e_iload_n, e_nil, fl_0, fl_I, fl_L, fl_R, l_inc1, l_inc2, l_ld2, l_ldA0, rk_1, wRef_some, EE_n, zs0, zz0, e1, lc_lt, lc_le, lc_gt, lc_ge, lc_eq, true_and, and_true, List.length_cons, List.length_nil, ab_ia, Nat.reduceAdd, Nat.reduceLeDiff, Nat.reduceEqDiff, Nat.reduceLT, Int.reduceLT, Int.reduceLE, Int.reduceEq, Int.reduceNeg, true_or, or_true, false_or, or_false, not_false_eq_true, not_true_eq_false, false_implies, true_implies, forall_const, implies_true, Nat.zero_le, Nat.le_refl]
    refine ⟨fun _ => ?_, fun hc => absurd hc (by omega)⟩
    refine go_51_15 ?_
    simp only [sg_51_15, cl_I, cl_L, cl_R, e_iload_n, e_iret0, e_nil, l_ld1, lc_lt, lc_le, lc_gt, lc_ge, lc_eq, true_and, and_true, List.length_cons, List.length_nil, ab_ia, Nat.reduceAdd, Nat.reduceLeDiff, Nat.reduceEqDiff, Nat.reduceLT, Int.reduceLT, Int.reduceLE, Int.reduceEq, Int.reduceNeg, true_or, or_true, false_or, or_false, not_false_eq_true, not_true_eq_false, false_implies, true_implies, forall_const, implies_true, Nat.zero_le, Nat.le_refl]
    rw [show p.toNat = V.np.toNat by omega]
    exact hq
  | succ t ih =>
    intro p h0 ht
    have hb := cnt_bd (fun p => decide (V.p p 7 = -9)) p.toNat
    have ihk := ih (p + 1) (by omega) (by omega)
    rw [show (p + 1).toNat = p.toNat + 1 by omega, cnt] at ihk
    have ep : ((p.toNat : Nat) : Int) = p := by omega
    simp only [ep] at ihk
    refine go_51_4 ?_
    simp only [sg_51_4, cl_I, cl_L, cl_R, e_aload_n, e_cv2, e_get0, e_goto, e_icmp_ge, e_if_eq, e_iinc, e_iload_n, e_nil, fl_0, fl_I, fl_L, fl_R, l_inc1, l_inc2, l_ld2, l_ldA0, rk_1, wRef_some, EE_n, zs0, zz0, e1, lc_lt, lc_le, lc_gt, lc_ge, lc_eq, true_and, and_true, List.length_cons, List.length_nil, ab_ia, Nat.reduceAdd, Nat.reduceLeDiff, Nat.reduceEqDiff, Nat.reduceLT, Int.reduceLT, Int.reduceLE, Int.reduceEq, Int.reduceNeg, true_or, or_true, false_or, or_false, not_false_eq_true, not_true_eq_false, false_implies, true_implies, forall_const, implies_true, Nat.zero_le, Nat.le_refl]
    refine ⟨fun hc => absurd hc (by omega), fun _ => ?_⟩
    refine CB.use (v_stands hv' hV k h0 (by omega)) (fun h2 => ?_) (fun h2 => ?_)
    · try simp only [lc_lt, lc_le, lc_gt, lc_ge, lc_eq, true_and, and_true, List.length_cons, List.length_nil, ab_ia, Nat.reduceAdd, Nat.reduceLeDiff, Nat.reduceEqDiff, Nat.reduceLT, Int.reduceLT, Int.reduceLE, Int.reduceEq, Int.reduceNeg, true_or, or_true, false_or, or_false, not_false_eq_true, not_true_eq_false, false_implies, true_implies, forall_const, implies_true, Nat.zero_le, Nat.le_refl]
      simp only [h2, decide_true, if_true] at ihk
      exact ⟨⟨by omega, by omega⟩, ⟨by omega, by omega⟩, ihk⟩
    · try simp only [lc_lt, lc_le, lc_gt, lc_ge, lc_eq, true_and, and_true, List.length_cons, List.length_nil, ab_ia, Nat.reduceAdd, Nat.reduceLeDiff, Nat.reduceEqDiff, Nat.reduceLT, Int.reduceLT, Int.reduceLE, Int.reduceEq, Int.reduceNeg, true_or, or_true, false_or, or_false, not_false_eq_true, not_true_eq_false, false_implies, true_implies, forall_const, implies_true, Nat.zero_le, Nat.le_refl]
      simp only [h2, decide_false, Bool.false_eq_true, if_false, Int.add_zero] at ihk
      refine go_51_13 ?_
      simp only [sg_51_13, cl_I, cl_L, cl_R, e_goto, e_iinc, e_nil, l_inc2, lc_lt, lc_le, lc_gt, lc_ge, lc_eq, true_and, and_true, List.length_cons, List.length_nil, ab_ia, Nat.reduceAdd, Nat.reduceLeDiff, Nat.reduceEqDiff, Nat.reduceLT, Int.reduceLT, Int.reduceLE, Int.reduceEq, Int.reduceNeg, true_or, or_true, false_or, or_false, not_false_eq_true, not_true_eq_false, false_implies, true_implies, forall_const, implies_true, Nat.zero_le, Nat.le_refl]
      exact ⟨⟨by omega, by omega⟩, ihk⟩
theorem v_standing (hv : isV L v) (hV : vP D v V) (k : vOK G V) : CI 51 [vR v] (EE L, D) (fun r D' => r = stdg V ∧ D' = D) := by
  refine Sx.un (y := 51) (n := 0) (lo := [vR v, vU, vU]) (st := []) (u := (0, 0)) ?_
  refine go_51_0 ?_
  simp only [sg_51_0, cl_I, cl_L, cl_R, e_iconst, e_istore_n, e_nil, l_st1, l_st2, lc_lt, lc_le, lc_gt, lc_ge, lc_eq, true_and, and_true, List.length_cons, List.length_nil, ab_ia, Nat.reduceAdd, Nat.reduceLeDiff, Nat.reduceEqDiff, Nat.reduceLT, Int.reduceLT, Int.reduceLE, Int.reduceEq, Int.reduceNeg, true_or, or_true, false_or, or_false, not_false_eq_true, not_true_eq_false, false_implies, true_implies, forall_const, implies_true, Nat.zero_le, Nat.le_refl]
  exact v_standing_loop hv hV k (retI ⟨rfl, rfl⟩) V.np.toNat 0 (by omega) (by have := k.1; omega)
theorem v_plsOf_loop {Q : Option ab_V → ab_H → Prop} {h : Int} (hv : isV L v) (g : gOK G) (hV : vP D v V) (k : vOK G V) (j0 : 0 ≤ h) (j1 : h < V.nh) (hq : Q (some (.inl (plsOf V h))) (EE L, D)) :
    ∀ (t : Nat) (p : Int), 0 ≤ p → p + t = V.np → Sx 53 4 [vR v, vI h, vI (cnt (fun p => plb V h p) p.toNat), vI p] [] (EE L, D) (0, 0) Q := by
  have hv' := hv
  obtain ⟨⟨zz, zz0, zz1, zz2, zz3, zz4, zz5, zz6, zz7, zz8, zz9, zz10, zz11⟩, ⟨zr0, zr2, zr3, zr4, zr5, zr6, zr7, zr8, zr10, zr11, zr12, zr13⟩, zs0, zs1, zs2, zs3, zs4, zs5, zs6, zs7, zs8, zs9, zs10, zs11⟩ := hv
  have e1 := hV.1.1
  have := k.1
  intro t
  induction t with
  | zero =>
    intro p h0 ht
    refine go_53_4 ?_
    simp only [sg_53_4, cl_I, cl_L, cl_R, e_aload_n, e_cv3, e_get0, e_goto, e_icmp_ge, e_if_eq, e_iinc, e_iload_n, e_nil, fl_0, fl_I, fl_L, fl_R, l_inc2, l_inc3, l_ld1, l_ld3, l_ldA0, rk_1, wRef_some, EE_n, zs0, zz0, e1, lc_lt, lc_le, lc_gt, lc_ge, lc_eq, true_and, and_true, List.length_cons, List.length_nil, ab_ia, Nat.reduceAdd, Nat.reduceLeDiff, Nat.reduceEqDiff, Nat.reduceLT, Int.reduceLT, Int.reduceLE, Int.reduceEq, Int.reduceNeg, true_or, or_true, false_or, or_false, not_false_eq_true, not_true_eq_false, false_implies, true_implies, forall_const, implies_true, Nat.zero_le, Nat.le_refl]
    refine ⟨fun _ => ?_, fun hc => absurd hc (by omega)⟩
    refine go_53_16 ?_
    simp only [sg_53_16, cl_I, cl_L, cl_R, e_iload_n, e_iret0, e_nil, l_ld2, lc_lt, lc_le, lc_gt, lc_ge, lc_eq, true_and, and_true, List.length_cons, List.length_nil, ab_ia, Nat.reduceAdd, Nat.reduceLeDiff, Nat.reduceEqDiff, Nat.reduceLT, Int.reduceLT, Int.reduceLE, Int.reduceEq, Int.reduceNeg, true_or, or_true, false_or, or_false, not_false_eq_true, not_true_eq_false, false_implies, true_implies, forall_const, implies_true, Nat.zero_le, Nat.le_refl]
    rw [show p.toNat = V.np.toNat by omega]
    exact hq
  | succ t ih =>
    intro p h0 ht
    have hb := cnt_bd (fun p => plb V h p) p.toNat
    have ihk := ih (p + 1) (by omega) (by omega)
    rw [show (p + 1).toNat = p.toNat + 1 by omega, cnt] at ihk
    have ep : ((p.toNat : Nat) : Int) = p := by omega
    simp only [ep] at ihk
    refine go_53_4 ?_
    simp only [sg_53_4, cl_I, cl_L, cl_R, e_aload_n, e_cv3, e_get0, e_goto, e_icmp_ge, e_if_eq, e_iinc, e_iload_n, e_nil, fl_0, fl_I, fl_L, fl_R, l_inc2, l_inc3, l_ld1, l_ld3, l_ldA0, rk_1, wRef_some, EE_n, zs0, zz0, e1, lc_lt, lc_le, lc_gt, lc_ge, lc_eq, true_and, and_true, List.length_cons, List.length_nil, ab_ia, Nat.reduceAdd, Nat.reduceLeDiff, Nat.reduceEqDiff, Nat.reduceLT, Int.reduceLT, Int.reduceLE, Int.reduceEq, Int.reduceNeg, true_or, or_true, false_or, or_false, not_false_eq_true, not_true_eq_false, false_implies, true_implies, forall_const, implies_true, Nat.zero_le, Nat.le_refl]
    refine ⟨fun hc => absurd hc (by omega), fun _ => ?_⟩
    refine CB.use (v_isPl hv' g hV k h0 (by omega) j0 j1) (fun h2 => ?_) (fun h2 => ?_)
    · try simp only [lc_lt, lc_le, lc_gt, lc_ge, lc_eq, true_and, and_true, List.length_cons, List.length_nil, ab_ia, Nat.reduceAdd, Nat.reduceLeDiff, Nat.reduceEqDiff, Nat.reduceLT, Int.reduceLT, Int.reduceLE, Int.reduceEq, Int.reduceNeg, true_or, or_true, false_or, or_false, not_false_eq_true, not_true_eq_false, false_implies, true_implies, forall_const, implies_true, Nat.zero_le, Nat.le_refl]
      simp only [plb_t h2, if_true] at ihk
      exact ⟨⟨by omega, by omega⟩, ⟨by omega, by omega⟩, ihk⟩
    · try simp only [lc_lt, lc_le, lc_gt, lc_ge, lc_eq, true_and, and_true, List.length_cons, List.length_nil, ab_ia, Nat.reduceAdd, Nat.reduceLeDiff, Nat.reduceEqDiff, Nat.reduceLT, Int.reduceLT, Int.reduceLE, Int.reduceEq, Int.reduceNeg, true_or, or_true, false_or, or_false, not_false_eq_true, not_true_eq_false, false_implies, true_implies, forall_const, implies_true, Nat.zero_le, Nat.le_refl]
      simp only [plb_f h2, Bool.false_eq_true, if_false, Int.add_zero] at ihk
      refine go_53_14 ?_
      simp only [sg_53_14, cl_I, cl_L, cl_R, e_goto, e_iinc, e_nil, l_inc3, lc_lt, lc_le, lc_gt, lc_ge, lc_eq, true_and, and_true, List.length_cons, List.length_nil, ab_ia, Nat.reduceAdd, Nat.reduceLeDiff, Nat.reduceEqDiff, Nat.reduceLT, Int.reduceLT, Int.reduceLE, Int.reduceEq, Int.reduceNeg, true_or, or_true, false_or, or_false, not_false_eq_true, not_true_eq_false, false_implies, true_implies, forall_const, implies_true, Nat.zero_le, Nat.le_refl]
      exact ⟨⟨by omega, by omega⟩, ihk⟩
theorem v_plsOf {h : Int} (hv : isV L v) (g : gOK G) (hV : vP D v V) (k : vOK G V) (j0 : 0 ≤ h) (j1 : h < V.nh) : CI 53 [vR v, vI h] (EE L, D) (fun r D' => r = plsOf V h ∧ D' = D) := by
  refine Sx.un (y := 53) (n := 0) (lo := [vR v, vI h, vU, vU]) (st := []) (u := (0, 0)) ?_
  refine go_53_0 ?_
  simp only [sg_53_0, cl_I, cl_L, cl_R, e_iconst, e_istore_n, e_nil, l_st2, l_st3, lc_lt, lc_le, lc_gt, lc_ge, lc_eq, true_and, and_true, List.length_cons, List.length_nil, ab_ia, Nat.reduceAdd, Nat.reduceLeDiff, Nat.reduceEqDiff, Nat.reduceLT, Int.reduceLT, Int.reduceLE, Int.reduceEq, Int.reduceNeg, true_or, or_true, false_or, or_false, not_false_eq_true, not_true_eq_false, false_implies, true_implies, forall_const, implies_true, Nat.zero_le, Nat.le_refl]
  exact v_plsOf_loop hv g hV k j0 j1 (retI ⟨rfl, rfl⟩) V.np.toNat 0 (by omega) (by have := k.1; omega)
theorem plsOf_bd (k : vOK G V) (h : Int) : 0 ≤ plsOf V h ∧ plsOf V h ≤ 24 := by
  have b := cnt_bd (fun p => plb V h p) V.np.toNat
  have b' : 0 ≤ plsOf V h ∧ plsOf V h ≤ V.np.toNat := b
  have := k.1
  omega
theorem v_shr {h : Int} (hv : isV L v) (g : gOK G) (hV : vP D v V) (k : vOK G V) (j0 : 0 ≤ h) (j1 : h < V.nh) : CI 54 [vR v, vI h] (EE L, D) (fun r D' => r = shr V h ∧ D' = D) := by
  have hv' := hv
  obtain ⟨⟨zz, zz0, zz1, zz2, zz3, zz4, zz5, zz6, zz7, zz8, zz9, zz10, zz11⟩, ⟨zr0, zr2, zr3, zr4, zr5, zr6, zr7, zr8, zr10, zr11, zr12, zr13⟩, zs0, zs1, zs2, zs3, zs4, zs5, zs6, zs7, zs8, zs9, zs10, zs11⟩ := hv
  obtain ⟨e0, e2, e3⟩ := hV.2.2.1 h j0 j1
  obtain ⟨q0, q1, q2, q3⟩ := k.2.2.1 h j0 j1
  have := k.1
  have b := plsOf_bd k h
  refine Sx.un (y := 54) (n := 0) (lo := [vR v, vI h, vU]) (st := []) (u := (0, 0)) ?_
  refine go_54_0 ?_
  simp only [sg_54_0, cl_I, cl_L, cl_R, e_aload_n, e_baload, e_cv2, e_get1, e_iconst, e_if_eq, e_iload_n, e_iret0, e_istore_n, e_nil, fl_0, fl_I, fl_L, fl_R, l_ld1, l_ld2, l_ldA0, l_st2, rk_1, wRef_some, EE_n, zr12, zs0, zs10, zz0, zz10, lc_lt, lc_le, lc_gt, lc_ge, lc_eq, true_and, and_true, List.length_cons, List.length_nil, ab_ia, Nat.reduceAdd, Nat.reduceLeDiff, Nat.reduceEqDiff, Nat.reduceLT, Int.reduceLT, Int.reduceLE, Int.reduceEq, Int.reduceNeg, true_or, or_true, false_or, or_false, not_false_eq_true, not_true_eq_false, false_implies, true_implies, forall_const, implies_true, Nat.zero_le, Nat.le_refl]
  refine CI.use (v_plsOf hv' g hV k j0 j1) ?_
  try simp only [EE_n, EE_s6, zz0, zz1, zz2, zz3, zz4, zz5, zz6, zz7, zz8, zz9, zz10, zz11, zs0, zs1, zs2, zs3, zs4, zs5, zs6, zs7, zs8, zs9, zs10, zs11, zr0, zr2, zr3, zr4, zr5, zr6, zr7, zr8, zr10, zr11, zr12, zr13, e3, lc_lt, lc_le, lc_gt, lc_ge, lc_eq, true_and, and_true, List.length_cons, List.length_nil, ab_ia, Nat.reduceAdd, Nat.reduceLeDiff, Nat.reduceEqDiff, Nat.reduceLT, Int.reduceLT, Int.reduceLE, Int.reduceEq, Int.reduceNeg, true_or, or_true, false_or, or_false, not_false_eq_true, not_true_eq_false, false_implies, true_implies, forall_const, implies_true, Nat.zero_le, Nat.le_refl]
  refine ⟨fun h2 => ?_, fun h2 => ⟨by omega, fun h3 => ?_, fun h3 => ?_⟩⟩
  · refine go_54_11 ?_
    simp only [sg_54_11, cl_I, cl_L, cl_R, e_iconst, e_iret0, e_nil, lc_lt, lc_le, lc_gt, lc_ge, lc_eq, true_and, and_true, List.length_cons, List.length_nil, ab_ia, Nat.reduceAdd, Nat.reduceLeDiff, Nat.reduceEqDiff, Nat.reduceLT, Int.reduceLT, Int.reduceLE, Int.reduceEq, Int.reduceNeg, true_or, or_true, false_or, or_false, not_false_eq_true, not_true_eq_false, false_implies, true_implies, forall_const, implies_true, Nat.zero_le, Nat.le_refl]
    exact retI ⟨by unfold shr; rw [if_pos (Or.inl h2)], rfl⟩
  · refine go_54_13 ?_
    simp only [sg_54_13, cl_I, cl_L, cl_R, e_aload_n, e_get1, e_iadd, e_iaload, e_iconst, e_idiv, e_iload_n, e_iret0, e_isub, e_nil, l_ld1, l_ld2, l_ldA0, wRef_some, EE_n, zr11, zs0, zs9, zz0, zz9, e2, lc_lt, lc_le, lc_gt, lc_ge, lc_eq, true_and, and_true, List.length_cons, List.length_nil, ab_ia, Nat.reduceAdd, Nat.reduceLeDiff, Nat.reduceEqDiff, Nat.reduceLT, Int.reduceLT, Int.reduceLE, Int.reduceEq, Int.reduceNeg, true_or, or_true, false_or, or_false, not_false_eq_true, not_true_eq_false, false_implies, true_implies, forall_const, implies_true, Nat.zero_le, Nat.le_refl]
    refine ⟨by omega, ⟨by omega, by omega⟩, ⟨by omega, by omega⟩, by omega, retI ⟨?_, rfl⟩⟩
    unfold shr
    rw [if_neg (by omega)]
  · exact retI ⟨by unfold shr; rw [if_pos (Or.inr (by omega))], rfl⟩
theorem v_weak_loop {Q : Option ab_V → ab_H → Prop} {h : Int} (hv : isV L v) (g : gOK G) (hg : gP D G) (hV : vP D v V) (k : vOK G V) (j0 : 0 ≤ h) (j1 : h < V.nh) (hq1 : weak G V h → Q (some (.inl 1)) (EE L, D)) (hq0 : ¬ weak G V h → Q (some (.inl 0)) (EE L, D)) :
    ∀ (t : Nat) (p : Int), 0 ≤ p → p + t = V.np → (∀ q, 0 ≤ q → q < p → ¬ (isPl V h q ∧ hlP G V q < shr V h)) → Sx 63 6 [vR v, vI h, vI (shr V h), vI p] [] (EE L, D) (0, 0) Q := by
  have hv' := hv
  obtain ⟨⟨zz, zz0, zz1, zz2, zz3, zz4, zz5, zz6, zz7, zz8, zz9, zz10, zz11⟩, ⟨zr0, zr2, zr3, zr4, zr5, zr6, zr7, zr8, zr10, zr11, zr12, zr13⟩, zs0, zs1, zs2, zs3, zs4, zs5, zs6, zs7, zs8, zs9, zs10, zs11⟩ := hv
  have e1 := hV.1.1
  have := k.1
  intro t
  induction t with
  | zero =>
    intro p h0 ht hi
    refine go_63_6 ?_
    simp only [sg_63_6, cl_I, cl_L, cl_R, e_aload_n, e_cv2, e_cv3, e_get0, e_icmp_ge, e_icmp_le, e_iconst, e_if_eq, e_iload_n, e_iret1, e_nil, fl_0, fl_I, fl_L, fl_R, l_ld1, l_ld2, l_ld3, l_ldA0, rk_1, wRef_some, EE_n, zs0, zz0, e1, lc_lt, lc_le, lc_gt, lc_ge, lc_eq, true_and, and_true, List.length_cons, List.length_nil, ab_ia, Nat.reduceAdd, Nat.reduceLeDiff, Nat.reduceEqDiff, Nat.reduceLT, Int.reduceLT, Int.reduceLE, Int.reduceEq, Int.reduceNeg, true_or, or_true, false_or, or_false, not_false_eq_true, not_true_eq_false, false_implies, true_implies, forall_const, implies_true, Nat.zero_le, Nat.le_refl]
    refine ⟨fun _ => ?_, fun hc => absurd hc (by omega)⟩
    refine go_63_24 ?_
    simp only [sg_63_24, cl_I, cl_L, cl_R, e_iconst, e_iret1, e_nil, lc_lt, lc_le, lc_gt, lc_ge, lc_eq, true_and, and_true, List.length_cons, List.length_nil, ab_ia, Nat.reduceAdd, Nat.reduceLeDiff, Nat.reduceEqDiff, Nat.reduceLT, Int.reduceLT, Int.reduceLE, Int.reduceEq, Int.reduceNeg, true_or, or_true, false_or, or_false, not_false_eq_true, not_true_eq_false, false_implies, true_implies, forall_const, implies_true, Nat.zero_le, Nat.le_refl]
    refine hq0 ?_
    rintro ⟨q, q0, q1, q2⟩
    exact hi q q0 (by omega) q2
  | succ t ih =>
    intro p h0 ht hi
    have no : ¬ (isPl V h p ∧ hlP G V p < shr V h) → Sx 63 22 [vR v, vI h, vI (shr V h), vI p] [] (EE L, D) (0, 0) Q := by
      intro hno
      refine go_63_22 ?_
      simp only [sg_63_22, cl_I, cl_L, cl_R, e_goto, e_iinc, e_nil, l_inc3, lc_lt, lc_le, lc_gt, lc_ge, lc_eq, true_and, and_true, List.length_cons, List.length_nil, ab_ia, Nat.reduceAdd, Nat.reduceLeDiff, Nat.reduceEqDiff, Nat.reduceLT, Int.reduceLT, Int.reduceLE, Int.reduceEq, Int.reduceNeg, true_or, or_true, false_or, or_false, not_false_eq_true, not_true_eq_false, false_implies, true_implies, forall_const, implies_true, Nat.zero_le, Nat.le_refl]
      refine ⟨⟨by omega, by omega⟩, ih (p + 1) (by omega) (by omega) (fun q q0 q1 => ?_)⟩
      by_cases z : q = p
      · subst z; exact hno
      · exact hi q q0 (by omega)
    refine go_63_6 ?_
    simp only [sg_63_6, cl_I, cl_L, cl_R, e_aload_n, e_cv2, e_cv3, e_get0, e_icmp_ge, e_icmp_le, e_iconst, e_if_eq, e_iload_n, e_iret1, e_nil, fl_0, fl_I, fl_L, fl_R, l_ld1, l_ld2, l_ld3, l_ldA0, rk_1, wRef_some, EE_n, zs0, zz0, e1, lc_lt, lc_le, lc_gt, lc_ge, lc_eq, true_and, and_true, List.length_cons, List.length_nil, ab_ia, Nat.reduceAdd, Nat.reduceLeDiff, Nat.reduceEqDiff, Nat.reduceLT, Int.reduceLT, Int.reduceLE, Int.reduceEq, Int.reduceNeg, true_or, or_true, false_or, or_false, not_false_eq_true, not_true_eq_false, false_implies, true_implies, forall_const, implies_true, Nat.zero_le, Nat.le_refl]
    refine ⟨fun hc => absurd hc (by omega), fun _ => ?_⟩
    refine CB.use (v_isPl hv' g hV k h0 (by omega) j0 j1) (fun h2 => ?_) (fun h2 => ?_)
    · try simp only [EE_n, EE_s6, zz0, zz1, zz2, zz3, zz4, zz5, zz6, zz7, zz8, zz9, zz10, zz11, zs0, zs1, zs2, zs3, zs4, zs5, zs6, zs7, zs8, zs9, zs10, zs11, zr0, zr2, zr3, zr4, zr5, zr6, zr7, zr8, zr10, zr11, zr12, zr13, lc_lt, lc_le, lc_gt, lc_ge, lc_eq, true_and, and_true, List.length_cons, List.length_nil, ab_ia, Nat.reduceAdd, Nat.reduceLeDiff, Nat.reduceEqDiff, Nat.reduceLT, Int.reduceLT, Int.reduceLE, Int.reduceEq, Int.reduceNeg, true_or, or_true, false_or, or_false, not_false_eq_true, not_true_eq_false, false_implies, true_implies, forall_const, implies_true, Nat.zero_le, Nat.le_refl]
      refine CI.use (v_holds hv' g hg hV k h0 (by omega)) ?_
      try simp only [lc_lt, lc_le, lc_gt, lc_ge, lc_eq, true_and, and_true, List.length_cons, List.length_nil, ab_ia, Nat.reduceAdd, Nat.reduceLeDiff, Nat.reduceEqDiff, Nat.reduceLT, Int.reduceLT, Int.reduceLE, Int.reduceEq, Int.reduceNeg, true_or, or_true, false_or, or_false, not_false_eq_true, not_true_eq_false, false_implies, true_implies, forall_const, implies_true, Nat.zero_le, Nat.le_refl]
      refine ⟨fun h3 => no (fun q => absurd q.2 (by omega)), fun h3 => ?_⟩
      exact hq1 ⟨p, h0, by omega, h2, by omega⟩
    · try simp only [lc_lt, lc_le, lc_gt, lc_ge, lc_eq, true_and, and_true, List.length_cons, List.length_nil, ab_ia, Nat.reduceAdd, Nat.reduceLeDiff, Nat.reduceEqDiff, Nat.reduceLT, Int.reduceLT, Int.reduceLE, Int.reduceEq, Int.reduceNeg, true_or, or_true, false_or, or_false, not_false_eq_true, not_true_eq_false, false_implies, true_implies, forall_const, implies_true, Nat.zero_le, Nat.le_refl]
      exact no (fun q => h2 q.1)
theorem v_weak {h : Int} (hv : isV L v) (g : gOK G) (hg : gP D G) (hV : vP D v V) (k : vOK G V) (j0 : 0 ≤ h) (j1 : h < V.nh) : CB 63 [vR v, vI h] (EE L) D (weak G V h) := by
  have hv' := hv
  obtain ⟨⟨zz, zz0, zz1, zz2, zz3, zz4, zz5, zz6, zz7, zz8, zz9, zz10, zz11⟩, ⟨zr0, zr2, zr3, zr4, zr5, zr6, zr7, zr8, zr10, zr11, zr12, zr13⟩, zs0, zs1, zs2, zs3, zs4, zs5, zs6, zs7, zs8, zs9, zs10, zs11⟩ := hv
  refine Sx.un (y := 63) (n := 0) (lo := [vR v, vI h, vU, vU]) (st := []) (u := (0, 0)) ?_
  refine go_63_0 ?_
  simp only [sg_63_0, cl_I, cl_L, cl_R, e_aload_n, e_cv2, e_iconst, e_iload_n, e_istore_n, e_nil, fl_0, fl_I, fl_L, fl_R, l_ld1, l_ldA0, l_st2, l_st3, rk_1, EE_n, zs0, zz0, lc_lt, lc_le, lc_gt, lc_ge, lc_eq, true_and, and_true, List.length_cons, List.length_nil, ab_ia, Nat.reduceAdd, Nat.reduceLeDiff, Nat.reduceEqDiff, Nat.reduceLT, Int.reduceLT, Int.reduceLE, Int.reduceEq, Int.reduceNeg, true_or, or_true, false_or, or_false, not_false_eq_true, not_true_eq_false, false_implies, true_implies, forall_const, implies_true, Nat.zero_le, Nat.le_refl]
  refine CI.use (v_shr hv' g hV k j0 j1) ?_
  try simp only [lc_lt, lc_le, lc_gt, lc_ge, lc_eq, true_and, and_true, List.length_cons, List.length_nil, ab_ia, Nat.reduceAdd, Nat.reduceLeDiff, Nat.reduceEqDiff, Nat.reduceLT, Int.reduceLT, Int.reduceLE, Int.reduceEq, Int.reduceNeg, true_or, or_true, false_or, or_false, not_false_eq_true, not_true_eq_false, false_implies, true_implies, forall_const, implies_true, Nat.zero_le, Nat.le_refl]
  exact v_weak_loop hv' g hg hV k j0 j1 (fun q => retB1 q) (fun q => retB0 q) V.np.toNat 0 (by omega) (by have := k.1; omega) (fun q q0 q1 => absurd q1 (by omega))
end Village
