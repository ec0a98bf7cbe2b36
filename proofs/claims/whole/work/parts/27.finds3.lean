/-! finds: the class, groups laid -/
section Finds3
variable {L : Nat} {D : ab_D}
/-- the least ring year of those of the first k that have g as their least -/
def gmin (h : Nat → Nat) (y : Nat → Int) (g : Nat) : Nat → Int
  | 0 => 99
  | k + 1 => if h k = g then (if y k < gmin h y g k then y k else gmin h y g k) else gmin h y g k
def gsz (h : Nat → Nat) (g : Nat) : Nat → Bool := fun f => decide (h f = g)
theorem gmin_congr {h h' : Nat → Nat} {y y' : Nat → Int} {g k : Nat} (hh : ∀ i, i < k → h i = h' i) (hy : ∀ i, i < k → y i = y' i) : gmin h y g k = gmin h' y' g k := by
  induction k with
  | zero => rfl
  | succ k ih =>
    simp only [gmin]
    rw [ih (fun i hi => hh i (by omega)) (fun i hi => hy i (by omega)), hh k (by omega), hy k (by omega)]
theorem gmin_no {h : Nat → Nat} {y : Nat → Int} {g k : Nat} (hh : ∀ i, i < k → h i ≠ g) : gmin h y g k = 99 := by
  induction k with
  | zero => rfl
  | succ k ih =>
    simp only [gmin]
    rw [if_neg (hh k (by omega)), ih (fun i hi => hh i (by omega))]
theorem gmin_bd {h : Nat → Nat} {y : Nat → Int} {g : Nat} (hy : ∀ i, 0 ≤ y i) (k : Nat) : 0 ≤ gmin h y g k ∧ gmin h y g k ≤ 99 := by
  induction k with
  | zero => simp [gmin]
  | succ k ih =>
    have := hy k
    simp only [gmin]
    split
    · split <;> omega
    · omega
theorem cnt_no {P : Nat → Bool} {k : Nat} (h : ∀ i, i < k → P i = false) : cnt P k = 0 := by
  induction k with
  | zero => rfl
  | succ k ih =>
    simp only [cnt]
    rw [ih (fun i hi => h i (by omega)), h k (by omega)]
    rfl
theorem f_rg_out {Q : Option ab_V → ab_H → Prop} (hk : fOK (D 63 1) (D 64) (D 65))
    (nx : ∀ (l : Nat → Int) (h : Nat → Nat), isLab (D 63 1).toNat (kin (D 64) (D 65)) h → (∀ i : Nat, (i : Int) < D 63 1 → l i = h i) → ∀ x1 x2 : ab_V, Sx 8 35 [vR 63, x1, x2] [] (EE L, upr D 66 l) (0, 0) Q) :
    ∀ (t : Nat) (f : Int) (l : Nat → Int) (h : Nat → Nat) (x2 : ab_V), 0 ≤ f → f + t = D 63 1 → isLab f.toNat (seen (D 64) (D 65) f.toNat 0) h → (∀ i : Nat, (i : Int) < f → l i = h i) → Sx 8 2 [vR 63, vI f, x2] [] (EE L, upr D 66 l) (0, 0) Q := by
  have e63 : ∀ (w : Nat → Int), upr D 66 w 63 1 = D 63 1 := fun w => by rw [upr_ne (by decide)]
  have h16 := hk.1
  intro t
  induction t with
  | zero =>
    intro f l h x2 hf0 hf hl hlh
    refine go_8_2 ?_
    simp only [sg_8_2, cl_I, cl_L, cl_R, e_aload_n, e_get0, e_get1, e_iastore, e_icmp_ge, e_iconst, e_iload_n, e_istore_n, e_nil, l_ld1, l_ldA0, l_st2, wRef_some, EE_n, EE_r63_4, EE_s63, EE_s66, e63, lc_lt, lc_le, lc_gt, lc_ge, lc_eq, true_and, and_true, List.length_cons, List.length_nil, ab_ia, Nat.reduceAdd, Nat.reduceLeDiff, Nat.reduceEqDiff, Nat.reduceLT, Int.reduceLT, Int.reduceLE, Int.reduceEq, Int.reduceNeg, true_or, or_true, false_or, or_false, not_false_eq_true, not_true_eq_false, false_implies, true_implies, forall_const, implies_true, Nat.zero_le, Nat.le_refl]
    refine ⟨fun _ => ?_, fun hc => absurd hc (by omega)⟩
    refine nx l h ?_ (fun i hi => hlh i (by omega)) _ _
    rw [show (D 63 1).toNat = f.toNat by omega]
    refine isLab_eqv hl (fun _ _ => rfl) ?_ (fun i j _ _ r => r.1)
    intro i j hi hj r
    rcases Nat.lt_trichotomy i j with q | q | q
    · exact (hl.2.1 j i hj hi ⟨kin_symm r, Or.inl ⟨q, hj⟩⟩).symm
    · rw [q]
    · exact hl.2.1 i j hi hj ⟨r, Or.inl ⟨q, hi⟩⟩
  | succ t ih =>
    intro f l h x2 hf0 hf hl hlh
    refine go_8_2 ?_
    simp only [sg_8_2, cl_I, cl_L, cl_R, e_aload_n, e_get0, e_get1, e_iastore, e_icmp_ge, e_iconst, e_iload_n, e_istore_n, e_nil, l_ld1, l_ldA0, l_st2, wRef_some, EE_n, EE_r63_4, EE_s63, EE_s66, e63, lc_lt, lc_le, lc_gt, lc_ge, lc_eq, true_and, and_true, List.length_cons, List.length_nil, ab_ia, Nat.reduceAdd, Nat.reduceLeDiff, Nat.reduceEqDiff, Nat.reduceLT, Int.reduceLT, Int.reduceLE, Int.reduceEq, Int.reduceNeg, true_or, or_true, false_or, or_false, not_false_eq_true, not_true_eq_false, false_implies, true_implies, forall_const, implies_true, Nat.zero_le, Nat.le_refl]
    refine ⟨fun hc => absurd hc (by omega), fun _ => ⟨by omega, ?_⟩⟩
    rw [ups_upr (g := fun j : Nat => if j = f.toNat then f else l j) (fun j => rfl)]
    refine f_rg_in hk ⟨hf0, by omega⟩ ?_ f.toNat 0 _ (fun j => if j = f.toNat then f.toNat else h j) (by omega) (by omega) ?_ ?_
    · intro l' h' hl' hlh' x2'
      refine go_8_33 ?_
      simp only [sg_8_33, cl_I, cl_L, cl_R, e_goto, e_iinc, e_nil, l_inc1, lc_lt, lc_le, lc_gt, lc_ge, lc_eq, true_and, and_true, List.length_cons, List.length_nil, ab_ia, Nat.reduceAdd, Nat.reduceLeDiff, Nat.reduceEqDiff, Nat.reduceLT, Int.reduceLT, Int.reduceLE, Int.reduceEq, Int.reduceNeg, true_or, or_true, false_or, or_false, not_false_eq_true, not_true_eq_false, false_implies, true_implies, forall_const, implies_true, Nat.zero_le, Nat.le_refl]
      refine ⟨⟨by omega, by omega⟩, ih (f + 1) l' h' _ (by omega) (by omega) ?_ (fun i hi => hlh' i (by omega))⟩
      rw [show (f + 1).toNat = f.toNat + 1 by omega]
      refine isLab_eqv hl' (fun _ _ => rfl) ?_ ?_
      · intro i j hi hj r
        refine hl'.2.1 i j hi hj ⟨r.1, ?_⟩
        have := r.2
        omega
      · intro i j hi hj r
        refine ⟨r.1, ?_⟩
        have := r.2
        omega
    · have h1 : isLab f.toNat (seen (D 64) (D 65) f.toNat 0) (fun j => if j = f.toNat then f.toNat else h j) := isLab_eqv hl (fun i hi => if_neg (by omega)) hl.2.1 (fun _ _ _ _ r => r)
      exact isLab_new h1 (fun i j r => by have := r.2; omega) (if_pos rfl)
    · intro i hi
      by_cases q : i = f.toNat
      · rw [if_pos q, if_pos q]; omega
      · rw [if_neg q, if_neg q]
        exact hlh i (by omega)
/-- what a group's row says -/
def grpOK (N : Nat) (y : Nat → Int) (h : Nat → Nat) (l mm bb : Nat → Int) : Prop := ∀ i, i < N → l i = h i ∧ mm i = cnt (gsz h i) N ∧ (h i = i → bb i = gmin h y i N)
theorem f_rg_last {Q : Option ab_V → ab_H → Prop} {l : Nat → Int} {h : Nat → Nat} (hk : fOK (D 63 1) (D 64) (D 65)) (hl : isLab (D 63 1).toNat (kin (D 64) (D 65)) h) (hlh : ∀ i : Nat, (i : Int) < D 63 1 → l i = h i)
    (hq : ∀ mm bb : Nat → Int, grpOK (D 63 1).toNat (D 65) h l mm bb → Q none (EE L, upr (upr (upr D 66 l) 67 mm) 68 bb)) :
    ∀ (t : Nat) (f : Int) (mm bb : Nat → Int) (x2 : ab_V), 0 ≤ f → f + t = D 63 1 → (∀ i : Nat, (i : Int) < f → mm i = cnt (gsz h i) f.toNat ∧ (h i = i → bb i = gmin h (D 65) i f.toNat)) → Sx 8 37 [vR 63, vI f, x2] [] (EE L, upr (upr (upr D 66 l) 67 mm) 68 bb) (0, 0) Q := by
  have h16 := hk.1
  have r63 : ∀ (a b c : Nat → Int), upr (upr (upr D 66 a) 67 b) 68 c 63 1 = D 63 1 := fun a b c => by rw [upr_ne (by decide), upr_ne (by decide), upr_ne (by decide)]
  have r65 : ∀ (a b c : Nat → Int), upr (upr (upr D 66 a) 67 b) 68 c 65 = D 65 := fun a b c => by rw [upr_ne (by decide), upr_ne (by decide), upr_ne (by decide)]
  have r66 : ∀ (a b c : Nat → Int), upr (upr (upr D 66 a) 67 b) 68 c 66 = a := fun a b c => by rw [upr_ne (by decide), upr_ne (by decide), upr_self]
  have r67 : ∀ (a b c : Nat → Int), upr (upr (upr D 66 a) 67 b) 68 c 67 = b := fun a b c => by rw [upr_ne (by decide), upr_self]
  have r68 : ∀ (a b c : Nat → Int), upr (upr (upr D 66 a) 67 b) 68 c 68 = c := fun a b c => upr_self
  have u67 : ∀ (a b c : Nat → Int) (i : Nat) (z : Int), ups (upr (upr (upr D 66 a) 67 b) 68 c) 67 i z = upr (upr (upr D 66 a) 67 (fun j => if j = i then z else b j)) 68 c := by
    intro a b c i z
    funext p j
    by_cases hp : p = 67
    · subst hp; simp [ups, upr]
    · simp [ups, upr, hp]
  have u68 : ∀ (a b c : Nat → Int) (i : Nat) (z : Int), ups (upr (upr (upr D 66 a) 67 b) 68 c) 68 i z = upr (upr (upr D 66 a) 67 b) 68 (fun j => if j = i then z else c j) := fun a b c i z => ups_upr (fun j => rfl)
  intro t
  induction t with
  | zero =>
    intro f mm bb x2 hf0 hf hi
    refine go_8_37 ?_
    simp only [sg_8_37, cl_I, cl_L, cl_R, e_aload_n, e_dup2, e_get0, e_get1, e_goto, e_iadd, e_iaload, e_iastore, e_icmp_ge, e_iconst, e_iinc, e_iload_n, e_istore_n, e_min, e_nil, l_inc1, l_ld1, l_ld2, l_ldA0, l_st2, wRef_some, EE_n, EE_r63_3, EE_r63_4, EE_r63_5, EE_r63_6, EE_s63, EE_s65, EE_s66, EE_s67, EE_s68, r63, lc_lt, lc_le, lc_gt, lc_ge, lc_eq, true_and, and_true, List.length_cons, List.length_nil, ab_ia, Nat.reduceAdd, Nat.reduceLeDiff, Nat.reduceEqDiff, Nat.reduceLT, Int.reduceLT, Int.reduceLE, Int.reduceEq, Int.reduceNeg, true_or, or_true, false_or, or_false, not_false_eq_true, not_true_eq_false, false_implies, true_implies, forall_const, implies_true, Nat.zero_le, Nat.le_refl]
    refine ⟨fun _ => ?_, fun hc => absurd hc (by omega)⟩
    refine go_8_82 ?_
    simp only [sg_8_82, cl_I, cl_L, cl_R, e_nil, e_vret, lc_lt, lc_le, lc_gt, lc_ge, lc_eq, true_and, and_true, List.length_cons, List.length_nil, ab_ia, Nat.reduceAdd, Nat.reduceLeDiff, Nat.reduceEqDiff, Nat.reduceLT, Int.reduceLT, Int.reduceLE, Int.reduceEq, Int.reduceNeg, true_or, or_true, false_or, or_false, not_false_eq_true, not_true_eq_false, false_implies, true_implies, forall_const, implies_true, Nat.zero_le, Nat.le_refl]
    refine hq mm bb (fun i hi2 => ⟨hlh i (by omega), ?_⟩)
    rw [show (D 63 1).toNat = f.toNat by omega]
    exact hi i (by omega)
  | succ t ih =>
    intro f mm bb x2 hf0 hf hi
    have e1 := hlh f.toNat (by omega)
    have e2 := hl.1 f.toNat (by omega)
    have e3 := (hk.2 f.toNat (by omega)).2
    have e5 := isLab_idem hl (i := f.toNat) (by omega)
    have ef : (f + 1).toNat = f.toNat + 1 := by omega
    have hcl : ∀ i : Nat, cnt (gsz h i) (f.toNat + 1) = cnt (gsz h i) f.toNat + if h f.toNat = i then 1 else 0 := fun i => by simp [cnt, gsz]
    have hno : ∀ i : Nat, f.toNat ≤ i → cnt (gsz h i) f.toNat = if i = f.toNat then 0 else cnt (gsz h i) f.toNat := by
      intro i _
      split
      · rename_i q
        subst q
        exact cnt_no (fun j hj => by have := hl.1 j (by omega); simp [gsz]; omega)
      · rfl
    have hgm : gmin h (D 65) f.toNat f.toNat = 99 := gmin_no (fun j hj => by have := hl.1 j (by omega); omega)
    have hcb := cnt_bd (gsz h (h f.toNat)) f.toNat
    refine go_8_37 ?_
    simp only [sg_8_37, cl_I, cl_L, cl_R, e_aload_n, e_dup2, e_get0, e_get1, e_goto, e_iadd, e_iaload, e_iastore, e_icmp_ge, e_iconst, e_iinc, e_iload_n, e_istore_n, e_min, e_nil, l_inc1, l_ld1, l_ld2, l_ldA0, l_st2, wRef_some, EE_n, EE_r63_3, EE_r63_4, EE_r63_5, EE_r63_6, EE_s63, EE_s65, EE_s66, EE_s67, EE_s68, r63, r65, r66, r67, r68, u67, u68, lc_lt, lc_le, lc_gt, lc_ge, lc_eq, true_and, and_true, List.length_cons, List.length_nil, ab_ia, Nat.reduceAdd, Nat.reduceLeDiff, Nat.reduceEqDiff, Nat.reduceLT, Int.reduceLT, Int.reduceLE, Int.reduceEq, Int.reduceNeg, true_or, or_true, false_or, or_false, not_false_eq_true, not_true_eq_false, false_implies, true_implies, forall_const, implies_true, Nat.zero_le, Nat.le_refl]
    rw [e1]
    refine ⟨fun hc => absurd hc (by omega), fun _ => ⟨by omega, by omega, by omega, by omega, by omega, ?_, by omega, by omega, by omega, by omega, ⟨by omega, by omega⟩, ?_⟩⟩
    · rw [show ((h f.toNat : Int)).toNat = h f.toNat from rfl]
      by_cases q : h f.toNat = f.toNat
      · rw [if_pos q]
        exact ⟨by omega, by omega⟩
      · rw [if_neg q, (hi (h f.toNat) (by omega)).1]
        exact ⟨by omega, by omega⟩
    · refine ih (f + 1) _ _ _ (by omega) (by omega) ?_
      rw [ef, show ((h f.toNat : Int)).toNat = h f.toNat from rfl]
      intro i hi2
      refine ⟨?_, fun hroot => ?_⟩
      · rw [hcl]
        by_cases q1 : i = h f.toNat
        · subst q1
          rw [if_pos rfl, if_pos rfl]
          by_cases q2 : h f.toNat = f.toNat
          · rw [if_pos q2, q2, cnt_no (fun j hj => by have := hl.1 j (by omega); simp [gsz]; omega)]
          · rw [if_neg q2, (hi (h f.toNat) (by omega)).1]
        · have q3 : ¬ h f.toNat = i := fun z => q1 z.symm
          simp only [if_neg q1, if_neg q3, Int.add_zero]
          by_cases q2 : i = f.toNat
          · simp only [if_pos q2]
            subst q2
            rw [cnt_no (fun j hj => by have := hl.1 j (by omega); simp [gsz]; omega)]
          · simp only [if_neg q2]
            exact (hi i (by omega)).1
      · simp only [gmin]
        by_cases q1 : i = h f.toNat
        · subst q1
          rw [if_pos rfl, if_pos rfl]
          by_cases q2 : h f.toNat = f.toNat
          · rw [if_pos q2, q2, hgm]
            split <;> split <;> omega
          · rw [if_neg q2, (hi (h f.toNat) (by omega)).2 e5]
        · have q3 : ¬ h f.toNat = i := fun z => q1 z.symm
          simp only [if_neg q1, if_neg q3]
          by_cases q2 : i = f.toNat
          · subst q2
            exact absurd hroot.symm q1
          · simp only [if_neg q2]
            exact (hi i (by omega)).2 hroot
/-- the groups are laid -/
theorem f_regroup (hk : fOK (D 63 1) (D 64) (D 65)) : CV 8 [vR 63] (EE L, D) (fun D' => ∃ (l mm bb : Nat → Int) (h : Nat → Nat), D' = upr (upr (upr D 66 l) 67 mm) 68 bb ∧ isLab (D 63 1).toNat (kin (D 64) (D 65)) h ∧ grpOK (D 63 1).toNat (D 65) h l mm bb) := by
  have h16 := hk.1
  refine Sx.un (y := 8) (n := 0) (lo := [vR 63, vU, vU]) (st := []) (u := (0, 0)) ?_
  refine go_8_0 ?_
  simp only [sg_8_0, cl_I, cl_L, cl_R, e_iconst, e_istore_n, e_nil, l_st1, lc_lt, lc_le, lc_gt, lc_ge, lc_eq, true_and, and_true, List.length_cons, List.length_nil, ab_ia, Nat.reduceAdd, Nat.reduceLeDiff, Nat.reduceEqDiff, Nat.reduceLT, Int.reduceLT, Int.reduceLE, Int.reduceEq, Int.reduceNeg, true_or, or_true, false_or, or_false, not_false_eq_true, not_true_eq_false, false_implies, true_implies, forall_const, implies_true, Nat.zero_le, Nat.le_refl]
  have e0 : upr D 66 (D 66) = D := upr_id (fun _ => rfl)
  have := f_rg_out (L := L) hk (Q := fun r h' => ∃ D', r = none ∧ h' = (EE L, D') ∧ ∃ (l mm bb : Nat → Int) (h : Nat → Nat), D' = upr (upr (upr D 66 l) 67 mm) 68 bb ∧ isLab (D 63 1).toNat (kin (D 64) (D 65)) h ∧ grpOK (D 63 1).toNat (D 65) h l mm bb) (fun l h hl hlh x1 x2 => by
    refine go_8_35 ?_
    simp only [sg_8_35, cl_I, cl_L, cl_R, e_iconst, e_istore_n, e_nil, l_st1, lc_lt, lc_le, lc_gt, lc_ge, lc_eq, true_and, and_true, List.length_cons, List.length_nil, ab_ia, Nat.reduceAdd, Nat.reduceLeDiff, Nat.reduceEqDiff, Nat.reduceLT, Int.reduceLT, Int.reduceLE, Int.reduceEq, Int.reduceNeg, true_or, or_true, false_or, or_false, not_false_eq_true, not_true_eq_false, false_implies, true_implies, forall_const, implies_true, Nat.zero_le, Nat.le_refl]
    have e1 : upr D 66 l = upr (upr (upr D 66 l) 67 (D 67)) 68 (D 68) := by
      rw [upr_id (D := upr (upr D 66 l) 67 (D 67)) (a := 68), upr_id (D := upr D 66 l) (a := 67)]
      · intro j; simp [upr]
      · intro j; simp [upr]
    rw [e1]
    exact f_rg_last hk hl hlh (fun mm bb hg => ⟨_, rfl, rfl, l, mm, bb, h, rfl, hl, hg⟩) (D 63 1).toNat 0 _ _ _ (by omega) (by omega) (fun i hi => absurd hi (by omega))) (D 63 1).toNat 0 (D 66) (fun _ => 0) vU (by omega) (by omega) ⟨fun i hi => absurd hi (by omega), fun i j hi => absurd hi (by omega), fun P _ i hi => absurd hi (by omega)⟩ (fun i hi => absurd hi (by omega))
  rw [e0] at this
  exact this
end Finds3
