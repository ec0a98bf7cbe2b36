/-! menders -/
def putV (V : Vil) (c w d k : Int) : Vil := ((V.np + 1, V.nh, V.yr), fun p i => if p = V.np then (if i = 0 then c else if i = 1 then w else if i = 2 then d else if i = 3 then d else if i = 4 then k else if i = 5 then V.yr else -9) else V.p p i, V.h)
def mput (W : Vil) (c : Int) : Vil := if W.np < 24 then putV W c 0 9 0 else W
def mflS (W : Vil) (h p : Int) : Vil := if W.p p 7 = W.yr - 1 ∧ cov (W.h h 0) (W.h h 1) (W.p p 0) then mput W (W.p p 0) else W
def mfl (h : Int) (V : Vil) : Nat → Vil
  | 0 => V
  | k + 1 => mflS (mfl h V k) h k
def wkb (G : Gr) (V : Vil) (h : Int) : Nat → Bool
  | 0 => false
  | k + 1 => wkb G V h k || (plb V h k && decide (hlP G V k < shr V h))
def mhs1 (rule many : Int) (W : Vil) (h : Int) : Vil := if rule % 2 = 1 then mfl h W many.toNat else W
def mhs2 (G : Gr) (rule : Int) (W : Vil) (h : Int) : Vil := if 1 < rule ∧ wkb G W h W.np.toNat = true then mput W (W.h h 0) else W
def mhs (G : Gr) (rule many : Int) (W : Vil) (h : Int) : Vil := if W.h h 3 = 0 then mhs2 G rule (mhs1 rule many W h) h else W
def mndV (G : Gr) (rule many : Int) (V : Vil) : Nat → Vil
  | 0 => V
  | k + 1 => mhs G rule many (mndV G rule many V k) k
def mendV (G : Gr) (rule : Int) (V : Vil) : Vil := mndV G rule V.np V V.nh.toNat
/-- W grew from V by poles that stand -/
def grew (V W : Vil) : Prop := (V.np ≤ W.np ∧ W.nh = V.nh ∧ W.yr = V.yr ∧ W.h = V.h) ∧ (∀ p, p < V.np → W.p p = V.p p) ∧ ∀ p, V.np ≤ p → p < W.np → W.p p 7 = -9
section Mend
variable {L v : Nat} {D : ab_D} {G : Gr} {V W : Vil}
theorem grew.refl : grew V V := ⟨⟨Int.le_refl _, rfl, rfl, rfl⟩, fun _ _ => rfl, fun p h1 h2 => absurd h1 (by omega)⟩
theorem grew.trans {U : Vil} (h : grew V W) (k : grew W U) : grew V U := by
  obtain ⟨⟨a1, a2, a3, a4⟩, a5, a6⟩ := h
  obtain ⟨⟨b1, b2, b3, b4⟩, b5, b6⟩ := k
  refine ⟨⟨by omega, by omega, by omega, b4.trans a4⟩, fun p hp => (b5 p (by omega)).trans (a5 p hp), fun p h1 h2 => ?_⟩
  by_cases q : p < W.np
  · rw [b5 p q]; exact a6 p h1 q
  · exact b6 p (by omega) h2
theorem putV_np {c w d k : Int} : (putV V c w d k).np = V.np + 1 := rfl
theorem putV_old {c w d k p i : Int} (h : p ≠ V.np) : (putV V c w d k).p p i = V.p p i := by
  show (if p = V.np then _ else _) = _
  rw [if_neg h]
theorem putV_new {c w d k : Int} : (putV V c w d k).p V.np 0 = c ∧ (putV V c w d k).p V.np 1 = w ∧ (putV V c w d k).p V.np 2 = d ∧ (putV V c w d k).p V.np 3 = d ∧ (putV V c w d k).p V.np 4 = k ∧ (putV V c w d k).p V.np 5 = V.yr ∧ (putV V c w d k).p V.np 7 = -9 := by
  simp [putV, Vil.p]
theorem putV_grew {c w d k : Int} : grew V (putV V c w d k) := by
  refine ⟨⟨by rw [putV_np]; omega, rfl, rfl, rfl⟩, fun p hp => ?_, fun p h1 h2 => ?_⟩
  · funext i; exact putV_old (by omega)
  · rw [putV_np] at h2
    have : p = V.np := by omega
    subst this
    exact putV_new.2.2.2.2.2.2
theorem putV_ok {c w d k : Int} (h : vOK G V) (hn : V.np < 24) (hc : isCl G.n c) (hw : 0 ≤ w ∧ w < 3) (hd : 1 ≤ d ∧ d ≤ 15) (hk : k = 0 ∨ k = 1) : vOK G (putV V c w d k) := by
  have h1 := h.1
  refine ⟨⟨by rw [putV_np]; omega, h1.2.1, h1.2.2⟩, fun p p0 p1 => ?_, h.2.2.1, h.2.2.2⟩
  rw [putV_np] at p1
  by_cases q : p = V.np
  · subst q
    obtain ⟨e0, e1, e2, e3, e4, e5, e7⟩ := putV_new (V := V) (c := c) (w := w) (d := d) (k := k)
    unfold plOK
    rw [e0, e1, e2, e3, e4, e5]
    exact ⟨hc, hw, by omega, hd, hk, ⟨h1.2.2.1, Int.le_refl _⟩, fun _ => hd.1⟩
  · have : (putV V c w d k).p p = V.p p := by funext i; exact putV_old q
    rw [this]
    exact h.2.1 p p0 (by omega)
theorem mput_grew {c : Int} : grew W (mput W c) := by
  unfold mput
  split
  · exact putV_grew
  · exact grew.refl
theorem mput_ok {c : Int} (h : vOK G W) (hc : isCl G.n c) : vOK G (mput W c) := by
  unfold mput
  split
  · rename_i q
    exact putV_ok h q hc (by decide) (by decide) (Or.inl rfl)
  · exact h
theorem mflS_grew {h p : Int} : grew W (mflS W h p) := by
  unfold mflS
  split
  · exact mput_grew
  · exact grew.refl
theorem mflS_ok {h p : Int} (k : vOK G W) (h0 : 0 ≤ p) (h1 : p < W.np) : vOK G (mflS W h p) := by
  unfold mflS
  split
  · exact mput_ok k (k.2.1 p h0 h1).1
  · exact k
theorem mfl_grew {h : Int} {k : Nat} : grew V (mfl h V k) := by
  induction k with
  | zero => exact grew.refl
  | succ k ih => exact ih.trans mflS_grew
theorem mfl_ok {h : Int} {k : Nat} (hk : vOK G V) (hn : (k : Int) ≤ V.np) : vOK G (mfl h V k) := by
  induction k with
  | zero => exact hk
  | succ k ih => exact mflS_ok (ih (by omega)) (by omega) (by have := (mfl_grew (h := h) (V := V) (k := k)).1.1; omega)
/-- poles that stand are not mended for -/
theorem mfl_more {h : Int} {m k : Nat} (hk : vOK G V) (hs : ∀ p, (m : Int) ≤ p → p < V.np → V.p p 7 = -9) (hn : ((m + k : Nat) : Int) ≤ V.np) : mfl h V (m + k) = mfl h V m := by
  induction k with
  | zero => rfl
  | succ k ih =>
    have e := ih (by omega)
    show mflS (mfl h V (m + k)) h ((m + k : Nat) : Int) = _
    have hg := mfl_grew (h := h) (V := V) (k := m + k)
    unfold mflS
    rw [if_neg, e]
    intro q
    have := q.1
    rw [hg.2.1 _ (by omega), hs _ (by omega) (by omega), hg.1.2.2.1] at this
    have := hk.1
    omega
theorem wkb_iff {h : Int} {k : Nat} : wkb G V h k = true ↔ ∃ p : Int, 0 ≤ p ∧ p < k ∧ isPl V h p ∧ hlP G V p < shr V h := by
  induction k with
  | zero =>
    constructor
    · intro q; exact absurd q (by simp [wkb])
    · rintro ⟨p, p0, p1, _⟩; omega
  | succ k ih =>
    simp only [wkb, Bool.or_eq_true, Bool.and_eq_true, decide_eq_true_eq]
    rw [ih, ← isPl_plb]
    constructor
    · rintro (⟨p, p0, p1, p2⟩ | q)
      · exact ⟨p, p0, by omega, p2⟩
      · exact ⟨k, by omega, by omega, q⟩
    · rintro ⟨p, p0, p1, p2⟩
      by_cases q : p = k
      · subst q; exact Or.inr p2
      · exact Or.inl ⟨p, p0, by omega, p2⟩
theorem weak_iff {h : Int} (k : vOK G V) : weak G V h ↔ wkb G V h V.np.toNat = true := by
  have := k.1
  rw [wkb_iff]
  unfold weak
  constructor
  · rintro ⟨p, p0, p1, p2⟩; exact ⟨p, p0, by omega, p2⟩
  · rintro ⟨p, p0, p1, p2⟩; exact ⟨p, p0, by omega, p2⟩
theorem mhs1_grew {rule many h : Int} : grew W (mhs1 rule many W h) := by
  unfold mhs1
  split
  · exact mfl_grew
  · exact grew.refl
theorem mhs2_grew {rule h : Int} : grew W (mhs2 G rule W h) := by
  unfold mhs2
  split
  · exact mput_grew
  · exact grew.refl
theorem mhs_grew {rule many h : Int} : grew W (mhs G rule many W h) := by
  unfold mhs
  split
  · exact mhs1_grew.trans mhs2_grew
  · exact grew.refl
theorem mhs1_ok {rule many h : Int} (k : vOK G W) (h0 : 0 ≤ many) (hm : many ≤ W.np) : vOK G (mhs1 rule many W h) := by
  unfold mhs1
  split
  · exact mfl_ok k (by omega)
  · exact k
theorem mhs2_ok {rule h : Int} (k : vOK G W) (j0 : 0 ≤ h) (j1 : h < W.nh) : vOK G (mhs2 G rule W h) := by
  unfold mhs2
  split
  · exact mput_ok k (k.2.2.1 h j0 j1).1
  · exact k
theorem mhs_ok {rule many h : Int} (k : vOK G W) (h0 : 0 ≤ many) (hm : many ≤ W.np) (j0 : 0 ≤ h) (j1 : h < W.nh) : vOK G (mhs G rule many W h) := by
  unfold mhs
  split
  · exact mhs2_ok (mhs1_ok k h0 hm) j0 (by rw [mhs1_grew.1.2.1]; exact j1)
  · exact k
theorem mndV_grew {rule many : Int} {k : Nat} : grew V (mndV G rule many V k) := by
  induction k with
  | zero => exact grew.refl
  | succ k ih => exact ih.trans mhs_grew
theorem mndV_ok {rule many : Int} {k : Nat} (hk : vOK G V) (h0 : 0 ≤ many) (hm : many ≤ V.np) (hn : (k : Int) ≤ V.nh) : vOK G (mndV G rule many V k) := by
  induction k with
  | zero => exact hk
  | succ k ih =>
    have hg := (mndV_grew (G := G) (V := V) (rule := rule) (many := many) (k := k)).1
    exact mhs_ok (ih (by omega)) h0 (by omega) (by omega) (by omega)
theorem mendV_grew {rule : Int} : grew V (mendV G rule V) := mndV_grew
theorem mendV_ok {rule : Int} (k : vOK G V) : vOK G (mendV G rule V) := by
  have := k.1
  exact mndV_ok k (by omega) (Int.le_refl _) (by omega)
/-! the class -/
theorem v_put {c w d b : Int} (hv : isV L v) (hV : vP D v V) (k : vOK G V) (hb : b = 0 ∨ b = 1) : CI 46 [vR v, vI c, vI w, vI d, vI b] (EE L, D) (fun r D' => (24 ≤ V.np ∧ r = -4 ∧ D' = D) ∨ (V.np < 24 ∧ r = V.np ∧ fr v D D' ∧ vP D' v (putV V c w d b))) := by
  obtain ⟨⟨zz, zz0, zz1, zz2, zz3, zz4, zz5, zz6, zz7, zz8, zz9, zz10, zz11⟩, ⟨zr0, zr2, zr3, zr4, zr5, zr6, zr7, zr8, zr10, zr11, zr12, zr13⟩, zs0, zs1, zs2, zs3, zs4, zs5, zs6, zs7, zs8, zs9, zs10, zs11⟩ := hv
  have e1 := hV.1.1
  have eyr := hV.1.2.2
  have kk := k.1
  refine Sx.un (y := 46) (n := 0) (lo := [vR v, vI c, vI w, vI d, vI b, vU]) (st := []) (u := (0, 0)) ?_
  refine go_46_0 ?_
  simp only [sg_46_0, cl_I, cl_L, cl_R, e_aload_n, e_bipush, e_get0, e_icmp_lt, e_iret0, e_nil, l_ldA0, wRef_some, EE_n, zs0, zz0, e1, lc_lt, lc_le, lc_gt, lc_ge, lc_eq, true_and, and_true, List.length_cons, List.length_nil, ab_ia, Nat.reduceAdd, Nat.reduceLeDiff, Nat.reduceEqDiff, Nat.reduceLT, Int.reduceLT, Int.reduceLE, Int.reduceEq, Int.reduceNeg, true_or, or_true, false_or, or_false, not_false_eq_true, not_true_eq_false, false_implies, true_implies, forall_const, implies_true, Nat.zero_le, Nat.le_refl]
  refine ⟨fun h1 => ?_, fun h1 => retI (Or.inl ⟨by omega, rfl, rfl⟩)⟩
  refine go_46_6 ?_
  simp only [sg_46_6, cl_I, cl_L, cl_R, e_aload_n, e_bastore, e_bipush, e_dupI, e_dupR, e_get0, e_get1, e_iadd, e_iastore, e_iconst, e_iload, e_iload_n, e_iret0, e_istore, e_nil, e_put0, l_ld1, l_ld2, l_ld3, l_ld4, l_ld5, l_ldA0, l_st5, wRef_some, EE_n, zr2, zr3, zr4, zr5, zr6, zr7, zr8, zs0, zs1, zs2, zs3, zs4, zs5, zs6, zs7, zz0, zz1, zz2, zz3, zz4, zz5, zz6, zz7, e1, lc_lt, lc_le, lc_gt, lc_ge, lc_eq, true_and, and_true, List.length_cons, List.length_nil, ab_ia, Nat.reduceAdd, Nat.reduceLeDiff, Nat.reduceEqDiff, Nat.reduceLT, Int.reduceLT, Int.reduceLE, Int.reduceEq, Int.reduceNeg, true_or, or_true, false_or, or_false, not_false_eq_true, not_true_eq_false, false_implies, true_implies, forall_const, implies_true, Nat.zero_le, Nat.le_refl]
  simp (disch := omega) only [ups_ne1, e1, eyr]
  refine ⟨by omega, by omega, by omega, by omega, by omega, hb, by omega, by omega, ⟨by omega, by omega⟩, retI (Or.inr ⟨h1, rfl, ?_, ?_⟩)⟩
  · refine fr_ups (by omega) (fr_ups (by omega) (fr_ups (by omega) (fr_ups (by omega) (fr_ups (by omega) (fr_ups (by omega) (fr_ups (by omega) (fr_ups (by omega) fr.refl)))))))
  · obtain ⟨⟨a1, a2, a3⟩, hb, hc, hd⟩ := hV
    refine ⟨⟨?_, ?_, ?_⟩, fun p p0 p1 => ?_, fun h h0 h1 => ?_, fun a a0 a1 => ?_⟩
    · rw [ups_self]; rfl
    · simp (disch := omega) only [ups_ne1, ups_ne2]; exact a2
    · simp (disch := omega) only [ups_ne1, ups_ne2]; exact a3
    · rw [putV_np] at p1
      by_cases q : p = V.np
      · subst q
        obtain ⟨e0, e1, e2, e3, e4, e5, e7⟩ := putV_new (V := V) (c := c) (w := w) (d := d) (k := b)
        rw [e0, e1, e2, e3, e4, e5, e7]
        simp (disch := omega) only [ups_ne1, ups_self, and_self]
      · simp (disch := omega) only [ups_ne1, ups_ne2, putV_old]
        exact hb p p0 (by omega)
    · simp (disch := omega) only [ups_ne1, ups_ne2]; exact hc h h0 h1
    · simp (disch := omega) only [ups_ne1, ups_ne2]; exact hd a a0 a1
theorem v_mput {c : Int} (hv : isV L v) (hV : vP D v V) (k : vOK G V) : CI 46 [vR v, vI c, vI 0, vI 9, vI 0] (EE L, D) (fun _ D' => fr v D D' ∧ vP D' v (mput V c)) := by
  refine (v_put hv hV k (Or.inl rfl)).mono ?_
  rintro r D' (⟨h1, h2, rfl⟩ | ⟨h1, h2, h3, h4⟩)
  · unfold mput
    rw [if_neg (by omega)]
    exact ⟨fr.refl, hV⟩
  · unfold mput
    rw [if_pos h1]
    exact ⟨h3, h4⟩
theorem v_fallen_loop {Q : Option ab_V → ab_H → Prop} {h : Int} (hv : isV L v) (g : gOK G) (k : vOK G V) (j0 : 0 ≤ h) (j1 : h < V.nh)
    (hq : ∀ D', fr v D D' → vP D' v (mfl h V V.np.toNat) → Q none (EE L, D')) :
    ∀ (t : Nat) (p : Int) (D1 : ab_D) (x4 : ab_V), 0 ≤ p → p + t = V.np → fr v D D1 → vP D1 v (mfl h V p.toNat) → Sx 61 5 [vR v, vI h, vI V.np, vI p, x4] [] (EE L, D1) (0, 0) Q := by
  have hv' := hv
  obtain ⟨⟨zz, zz0, zz1, zz2, zz3, zz4, zz5, zz6, zz7, zz8, zz9, zz10, zz11⟩, ⟨zr0, zr2, zr3, zr4, zr5, zr6, zr7, zr8, zr10, zr11, zr12, zr13⟩, zs0, zs1, zs2, zs3, zs4, zs5, zs6, zs7, zs8, zs9, zs10, zs11⟩ := hv
  have kk := k.1
  intro t
  induction t with
  | zero =>
    intro p D1 x4 h0 ht hf hV
    refine go_61_5 ?_
    simp only [sg_61_5, cl_I, cl_L, cl_R, e_aload_n, e_cv2, e_get0, e_get1, e_goto, e_iaload, e_icmp_ge, e_icmp_ne, e_iconst, e_if_ne, e_iload_n, e_isub, e_nil, fl_0, fl_I, fl_L, fl_R, l_ld2, l_ld3, l_ldA0, rk_1, wRef_some, EE_n, zr8, zs0, zs7, zz0, zz7, lc_lt, lc_le, lc_gt, lc_ge, lc_eq, true_and, and_true, List.length_cons, List.length_nil, ab_ia, Nat.reduceAdd, Nat.reduceLeDiff, Nat.reduceEqDiff, Nat.reduceLT, Int.reduceLT, Int.reduceLE, Int.reduceEq, Int.reduceNeg, true_or, or_true, false_or, or_false, not_false_eq_true, not_true_eq_false, false_implies, true_implies, forall_const, implies_true, Nat.zero_le, Nat.le_refl]
    refine ⟨fun _ => ?_, fun hc => absurd hc (by omega)⟩
    refine go_61_48 ?_
    simp only [sg_61_48, cl_I, cl_L, cl_R, e_nil, e_vret, lc_lt, lc_le, lc_gt, lc_ge, lc_eq, true_and, and_true, List.length_cons, List.length_nil, ab_ia, Nat.reduceAdd, Nat.reduceLeDiff, Nat.reduceEqDiff, Nat.reduceLT, Int.reduceLT, Int.reduceLE, Int.reduceEq, Int.reduceNeg, true_or, or_true, false_or, or_false, not_false_eq_true, not_true_eq_false, false_implies, true_implies, forall_const, implies_true, Nat.zero_le, Nat.le_refl]
    rw [show p.toNat = V.np.toNat by omega] at hV
    exact hq D1 hf hV
  | succ t ih =>
    intro p D1 x4 h0 ht hf hV
    have hgr := (mfl_grew (h := h) (V := V) (k := p.toNat)).1
    have kW : vOK G (mfl h V p.toNat) := mfl_ok k (by omega)
    have ihk := fun D' x4 => ih (p + 1) D' x4 (by omega) (by omega)
    rw [show (p + 1).toNat = p.toNat + 1 by omega, mfl, show ((p.toNat : Nat) : Int) = p by omega] at ihk
    generalize mfl h V p.toNat = W at *
    obtain ⟨w0, w1, w2, w3, w4, w5, w7⟩ := hV.2.1 p h0 (by omega)
    have hcl := kW.cl g h0 (by omega)
    have hcl' := hcl
    unfold isCl at hcl'
    have ha := (hV.2.2.2 (W.p p 0) (by omega) (by omega)).2 h j0 (by omega)
    have eyr := hV.1.2.2
    have kw := kW.1
    have no : ¬ (W.p p 7 = W.yr - 1 ∧ cov (W.h h 0) (W.h h 1) (W.p p 0)) → ∀ x4 : ab_V, Sx 61 46 [vR v, vI h, vI V.np, vI p, x4] [] (EE L, D1) (0, 0) Q := by
      intro hno x4
      refine go_61_46 ?_
      simp only [sg_61_46, cl_I, cl_L, cl_R, e_goto, e_iinc, e_nil, l_inc3, lc_lt, lc_le, lc_gt, lc_ge, lc_eq, true_and, and_true, List.length_cons, List.length_nil, ab_ia, Nat.reduceAdd, Nat.reduceLeDiff, Nat.reduceEqDiff, Nat.reduceLT, Int.reduceLT, Int.reduceLE, Int.reduceEq, Int.reduceNeg, true_or, or_true, false_or, or_false, not_false_eq_true, not_true_eq_false, false_implies, true_implies, forall_const, implies_true, Nat.zero_le, Nat.le_refl]
      have eS : mflS W h p = W := by unfold mflS; rw [if_neg hno]
      rw [eS] at ihk
      exact ⟨⟨by omega, by omega⟩, ihk _ _ hf hV⟩
    have no23 : ¬ (W.p p 7 = W.yr - 1) → ∀ x4 : ab_V, Sx 61 23 [vR v, vI h, vI V.np, vI p, x4] [] (EE L, D1) (0, 0) Q := by
      intro hno x4
      refine go_61_23 ?_
      simp only [sg_61_23, cl_I, cl_L, cl_R, e_aload_n, e_bipush, e_cv5, e_get1, e_goto, e_iaload, e_icmp_ne, e_iconst, e_if_eq, e_iinc, e_iload, e_iload_n, e_istore, e_nil, e_pop, fl_0, fl_I, fl_L, fl_R, l_inc3, l_ld1, l_ld3, l_ld4, l_ldA0, l_st4, rk_1, wRef_some, EE_n, zr13, zr2, zs0, zs1, zs11, zz0, zz1, zz11, lc_lt, lc_le, lc_gt, lc_ge, lc_eq, true_and, and_true, List.length_cons, List.length_nil, ab_ia, Nat.reduceAdd, Nat.reduceLeDiff, Nat.reduceEqDiff, Nat.reduceLT, Int.reduceLT, Int.reduceLE, Int.reduceEq, Int.reduceNeg, true_or, or_true, false_or, or_false, not_false_eq_true, not_true_eq_false, false_implies, true_implies, forall_const, implies_true, Nat.zero_le, Nat.le_refl]
      exact no (fun q => hno q.1) _
    refine go_61_5 ?_
    simp only [sg_61_5, cl_I, cl_L, cl_R, e_aload_n, e_cv2, e_get0, e_get1, e_goto, e_iaload, e_icmp_ge, e_icmp_ne, e_iconst, e_if_ne, e_iload_n, e_isub, e_nil, fl_0, fl_I, fl_L, fl_R, l_ld2, l_ld3, l_ldA0, rk_1, wRef_some, EE_n, zr8, zs0, zs7, zz0, zz7, lc_lt, lc_le, lc_gt, lc_ge, lc_eq, true_and, and_true, List.length_cons, List.length_nil, ab_ia, Nat.reduceAdd, Nat.reduceLeDiff, Nat.reduceEqDiff, Nat.reduceLT, Int.reduceLT, Int.reduceLE, Int.reduceEq, Int.reduceNeg, true_or, or_true, false_or, or_false, not_false_eq_true, not_true_eq_false, false_implies, true_implies, forall_const, implies_true, Nat.zero_le, Nat.le_refl]
    refine ⟨fun hc => absurd hc (by omega), fun _ => ?_⟩
    refine CB.use (v_stands hv' hV kW h0 (by omega)) (fun h2 => ?_) (fun h2 => ?_)
    · try simp only [lc_lt, lc_le, lc_gt, lc_ge, lc_eq, true_and, and_true, List.length_cons, List.length_nil, ab_ia, Nat.reduceAdd, Nat.reduceLeDiff, Nat.reduceEqDiff, Nat.reduceLT, Int.reduceLT, Int.reduceLE, Int.reduceEq, Int.reduceNeg, true_or, or_true, false_or, or_false, not_false_eq_true, not_true_eq_false, false_implies, true_implies, forall_const, implies_true, Nat.zero_le, Nat.le_refl]
      exact no23 (by omega) _
    · try simp only [EE_n, EE_s6, zz0, zz1, zz2, zz3, zz4, zz5, zz6, zz7, zz8, zz9, zz10, zz11, zs0, zs1, zs2, zs3, zs4, zs5, zs6, zs7, zs8, zs9, zs10, zs11, zr0, zr2, zr3, zr4, zr5, zr6, zr7, zr8, zr10, zr11, zr12, zr13, w7, eyr, lc_lt, lc_le, lc_gt, lc_ge, lc_eq, true_and, and_true, List.length_cons, List.length_nil, ab_ia, Nat.reduceAdd, Nat.reduceLeDiff, Nat.reduceEqDiff, Nat.reduceLT, Int.reduceLT, Int.reduceLE, Int.reduceEq, Int.reduceNeg, true_or, or_true, false_or, or_false, not_false_eq_true, not_true_eq_false, false_implies, true_implies, forall_const, implies_true, Nat.zero_le, Nat.le_refl]
      refine ⟨by omega, ⟨by omega, by omega⟩, fun h3 => no23 h3 _, fun h3 => ?_⟩
      refine go_61_24 ?_
      simp only [sg_61_24, cl_I, cl_L, cl_R, e_aload_n, e_bipush, e_cv5, e_get1, e_goto, e_iaload, e_icmp_ne, e_iconst, e_if_eq, e_iinc, e_iload, e_iload_n, e_istore, e_nil, e_pop, fl_0, fl_I, fl_L, fl_R, l_inc3, l_ld1, l_ld3, l_ld4, l_ldA0, l_st4, rk_1, wRef_some, EE_n, zr13, zr2, zs0, zs1, zs11, zz0, zz1, zz11, w0, lc_lt, lc_le, lc_gt, lc_ge, lc_eq, true_and, and_true, List.length_cons, List.length_nil, ab_ia, Nat.reduceAdd, Nat.reduceLeDiff, Nat.reduceEqDiff, Nat.reduceLT, Int.reduceLT, Int.reduceLE, Int.reduceEq, Int.reduceNeg, true_or, or_true, false_or, or_false, not_false_eq_true, not_true_eq_false, false_implies, true_implies, forall_const, implies_true, Nat.zero_le, Nat.le_refl]
      refine ⟨by omega, by omega, fun h4 => no (fun q => h4 (ha.mpr q.2)) _, fun h4 => ⟨by omega, ?_⟩⟩
      refine (v_mput hv' hV kW).mono ?_
      rintro r D2 ⟨hf2, hV2⟩
      have hyes : W.p p 7 = W.yr - 1 ∧ cov (W.h h 0) (W.h h 1) (W.p p 0) := ⟨by omega, ha.mp (by omega)⟩
      have eS : mflS W h p = mput W (W.p p 0) := by unfold mflS; rw [if_pos hyes]
      rw [eS] at ihk
      exact ⟨⟨by omega, by omega⟩, ihk _ _ (hf.trans hf2) hV2⟩
theorem v_fallen {h : Int} (hv : isV L v) (g : gOK G) (hV : vP D v V) (k : vOK G V) (j0 : 0 ≤ h) (j1 : h < V.nh) : CV 61 [vR v, vI h] (EE L, D) (fun D' => fr v D D' ∧ vP D' v (mfl h V V.np.toNat)) := by
  have hv' := hv
  obtain ⟨⟨zz, zz0, zz1, zz2, zz3, zz4, zz5, zz6, zz7, zz8, zz9, zz10, zz11⟩, ⟨zr0, zr2, zr3, zr4, zr5, zr6, zr7, zr8, zr10, zr11, zr12, zr13⟩, zs0, zs1, zs2, zs3, zs4, zs5, zs6, zs7, zs8, zs9, zs10, zs11⟩ := hv
  have e1 := hV.1.1
  refine Sx.un (y := 61) (n := 0) (lo := [vR v, vI h, vU, vU, vU]) (st := []) (u := (0, 0)) ?_
  refine go_61_0 ?_
  simp only [sg_61_0, cl_I, cl_L, cl_R, e_aload_n, e_get0, e_iconst, e_istore_n, e_nil, l_ldA0, l_st2, l_st3, wRef_some, EE_n, zs0, zz0, e1, lc_lt, lc_le, lc_gt, lc_ge, lc_eq, true_and, and_true, List.length_cons, List.length_nil, ab_ia, Nat.reduceAdd, Nat.reduceLeDiff, Nat.reduceEqDiff, Nat.reduceLT, Int.reduceLT, Int.reduceLE, Int.reduceEq, Int.reduceNeg, true_or, or_true, false_or, or_false, not_false_eq_true, not_true_eq_false, false_implies, true_implies, forall_const, implies_true, Nat.zero_le, Nat.le_refl]
  exact v_fallen_loop hv' g k j0 j1 (fun D' h1 h2 => retV ⟨h1, h2⟩) V.np.toNat 0 D vU (by omega) (by have := k.1; omega) fr.refl hV
theorem v_mend_loop {Q : Option ab_V → ab_H → Prop} {rule : Int} (hv : isV L v) (g : gOK G) (hg : gP D G) (k : vOK G V) (hr : 0 ≤ rule ∧ rule < 4)
    (hq : ∀ D', fr v D D' → vP D' v (mendV G rule V) → Q (some (.inl ((mendV G rule V).np - V.np))) (EE L, D')) :
    ∀ (t : Nat) (h : Int) (D1 : ab_D), 0 ≤ h → h + t = V.nh → fr v D D1 → vP D1 v (mndV G rule V.np V h.toNat) → Sx 60 5 [vR v, vI rule, vI V.np, vI h] [] (EE L, D1) (0, 0) Q := by
  have hv' := hv
  obtain ⟨⟨zz, zz0, zz1, zz2, zz3, zz4, zz5, zz6, zz7, zz8, zz9, zz10, zz11⟩, ⟨zr0, zr2, zr3, zr4, zr5, zr6, zr7, zr8, zr10, zr11, zr12, zr13⟩, zs0, zs1, zs2, zs3, zs4, zs5, zs6, zs7, zs8, zs9, zs10, zs11⟩ := hv
  have kk := k.1
  intro t
  induction t with
  | zero =>
    intro h D1 h0 ht hf hV
    have hgr := (mndV_grew (G := G) (V := V) (rule := rule) (many := V.np) (k := h.toNat)).1
    have kW : vOK G (mndV G rule V.np V h.toNat) := mndV_ok k (by omega) (Int.le_refl _) (by omega)
    have kw := kW.1
    have e1 : D1 v 9 = V.nh := by rw [hV.1.2.1, hgr.2.1]
    have e0 := hV.1.1
    refine go_60_5 ?_
    simp only [sg_60_5, cl_I, cl_L, cl_R, e_aload_n, e_baload, e_bipush, e_cv2, e_cv5, e_get0, e_get1, e_goto, e_iaload, e_icmp_eq, e_icmp_ge, e_icmp_ne, e_iconst, e_if_eq, e_if_ne, e_iinc, e_iload_n, e_nil, e_pop, fl_0, fl_I, fl_L, fl_R, l_inc3, l_ld1, l_ld3, l_ldA0, rk_0, rk_1, wRef_some, EE_n, zr10, zr12, zs0, zs10, zs8, zz0, zz10, zz8, e1, lc_lt, lc_le, lc_gt, lc_ge, lc_eq, true_and, and_true, List.length_cons, List.length_nil, ab_ia, Nat.reduceAdd, Nat.reduceLeDiff, Nat.reduceEqDiff, Nat.reduceLT, Int.reduceLT, Int.reduceLE, Int.reduceEq, Int.reduceNeg, true_or, or_true, false_or, or_false, not_false_eq_true, not_true_eq_false, false_implies, true_implies, forall_const, implies_true, Nat.zero_le, Nat.le_refl]
    refine ⟨fun _ => ?_, fun hc => absurd hc (by omega)⟩
    refine go_60_45 ?_
    simp only [sg_60_45, cl_I, cl_L, cl_R, e_aload_n, e_get0, e_iload_n, e_iret0, e_isub, e_nil, l_ld2, l_ldA0, wRef_some, EE_n, zs0, zz0, e0, lc_lt, lc_le, lc_gt, lc_ge, lc_eq, true_and, and_true, List.length_cons, List.length_nil, ab_ia, Nat.reduceAdd, Nat.reduceLeDiff, Nat.reduceEqDiff, Nat.reduceLT, Int.reduceLT, Int.reduceLE, Int.reduceEq, Int.reduceNeg, true_or, or_true, false_or, or_false, not_false_eq_true, not_true_eq_false, false_implies, true_implies, forall_const, implies_true, Nat.zero_le, Nat.le_refl]
    have e : h.toNat = V.nh.toNat := by omega
    rw [e] at hV hgr kw ⊢
    exact ⟨⟨by omega, by omega⟩, hq D1 hf hV⟩
  | succ t ih =>
    intro h D1 h0 ht hf hV
    have hgr := mndV_grew (G := G) (V := V) (rule := rule) (many := V.np) (k := h.toNat)
    have kW : vOK G (mndV G rule V.np V h.toNat) := mndV_ok k (by omega) (Int.le_refl _) (by omega)
    have ihk := fun D' => ih (h + 1) D' (by omega) (by omega)
    rw [show (h + 1).toNat = h.toNat + 1 by omega, mndV, show ((h.toNat : Nat) : Int) = h by omega] at ihk
    generalize mndV G rule V.np V h.toNat = W at *
    have hg1 := gP_fr hv' hf hg
    have e1 : D1 v 9 = V.nh := by rw [hV.1.2.1, hgr.1.2.1]
    have hhn : h < W.nh := by rw [hgr.1.2.1]; omega
    obtain ⟨e0, e2, e3⟩ := hV.2.2.1 h h0 hhn
    have hgrn := hgr.1.1
    have next : ∀ D', fr v D D' → vP D' v (mhs G rule V.np W h) → Sx 60 43 [vR v, vI rule, vI V.np, vI h] [] (EE L, D') (0, 0) Q := by
      intro D' hf' hV'
      refine go_60_43 ?_
      simp only [sg_60_43, cl_I, cl_L, cl_R, e_goto, e_iinc, e_nil, l_inc3, lc_lt, lc_le, lc_gt, lc_ge, lc_eq, true_and, and_true, List.length_cons, List.length_nil, ab_ia, Nat.reduceAdd, Nat.reduceLeDiff, Nat.reduceEqDiff, Nat.reduceLT, Int.reduceLT, Int.reduceLE, Int.reduceEq, Int.reduceNeg, true_or, or_true, false_or, or_false, not_false_eq_true, not_true_eq_false, false_implies, true_implies, forall_const, implies_true, Nat.zero_le, Nat.le_refl]
      exact ⟨⟨by omega, by omega⟩, ihk _ hf' hV'⟩
    have em : mfl h W W.np.toNat = mfl h W V.np.toNat := by
      have := mfl_more (h := h) (m := V.np.toNat) (k := W.np.toNat - V.np.toNat) kW (fun p p0 p1 => hgr.2.2 p (by omega) p1) (by omega)
      rw [show V.np.toNat + (W.np.toNat - V.np.toNat) = W.np.toNat by omega] at this
      exact this
    have es : W.h h 3 = 0 → mhs G rule V.np W h = mhs2 G rule (mhs1 rule V.np W h) h := fun h3 => by unfold mhs; rw [if_pos h3]
    have kW1 := mhs1_ok (rule := rule) (many := V.np) (h := h) kW (by omega) hgr.1.1
    have hh1 : h < (mhs1 rule V.np W h).nh := by rw [mhs1_grew.1.2.1]; exact hhn
    have kw1 := kW1.1
    have yes : W.h h 3 = 0 → 1 < rule → weak G (mhs1 rule V.np W h) h → ∀ D', fr v D D' → vP D' v (mput (mhs1 rule V.np W h) ((mhs1 rule V.np W h).h h 0)) → Sx 60 5 [vR v, vI rule, vI V.np, vI (h + 1)] [] (EE L, D') (0, 0) Q := by
      intro h3 hr1 z D' hf' hV'
      refine ihk _ hf' ?_
      rw [es h3]
      unfold mhs2
      rw [if_pos ⟨hr1, (weak_iff kW1).mp z⟩]
      exact hV'
    have non : W.h h 3 = 0 → ¬ weak G (mhs1 rule V.np W h) h → ∀ D', fr v D D' → vP D' v (mhs1 rule V.np W h) → Sx 60 43 [vR v, vI rule, vI V.np, vI h] [] (EE L, D') (0, 0) Q := by
      intro h3 z D' hf' hV'
      refine next _ hf' ?_
      rw [es h3]
      unfold mhs2
      rw [if_neg (fun q => z ((weak_iff kW1).mpr q.2))]
      exact hV'
    have sh : W.h h 3 = 0 → 1 < rule → ∀ D', fr v D D' → vP D' v (mhs1 rule V.np W h) → Sx 60 29 [vR v, vI rule, vI V.np, vI h] [] (EE L, D') (0, 0) Q := by
      intro h3 hr1 D' hf' hV'
      refine go_60_29 ?_
      simp only [sg_60_29, cl_I, cl_L, cl_R, e_aload_n, e_bipush, e_cv2, e_cv5, e_get1, e_goto, e_iaload, e_iconst, e_if_eq, e_iinc, e_iload_n, e_nil, e_pop, fl_0, fl_I, fl_L, fl_R, l_inc3, l_ld3, l_ldA0, rk_1, wRef_some, EE_n, zr10, zs0, zs8, zz0, zz8, lc_lt, lc_le, lc_gt, lc_ge, lc_eq, true_and, and_true, List.length_cons, List.length_nil, ab_ia, Nat.reduceAdd, Nat.reduceLeDiff, Nat.reduceEqDiff, Nat.reduceLT, Int.reduceLT, Int.reduceLE, Int.reduceEq, Int.reduceNeg, true_or, or_true, false_or, or_false, not_false_eq_true, not_true_eq_false, false_implies, true_implies, forall_const, implies_true, Nat.zero_le, Nat.le_refl]
      refine CB.use (v_weak hv' g (gP_fr hv' hf' hg) hV' kW1 h0 hh1) (fun z => ?_) (fun z => ?_)
      · try simp only [EE_n, EE_s6, zz0, zz1, zz2, zz3, zz4, zz5, zz6, zz7, zz8, zz9, zz10, zz11, zs0, zs1, zs2, zs3, zs4, zs5, zs6, zs7, zs8, zs9, zs10, zs11, zr0, zr2, zr3, zr4, zr5, zr6, zr7, zr8, zr10, zr11, zr12, zr13, (hV'.2.2.1 h h0 hh1).1, lc_lt, lc_le, lc_gt, lc_ge, lc_eq, true_and, and_true, List.length_cons, List.length_nil, ab_ia, Nat.reduceAdd, Nat.reduceLeDiff, Nat.reduceEqDiff, Nat.reduceLT, Int.reduceLT, Int.reduceLE, Int.reduceEq, Int.reduceNeg, true_or, or_true, false_or, or_false, not_false_eq_true, not_true_eq_false, false_implies, true_implies, forall_const, implies_true, Nat.zero_le, Nat.le_refl]
        refine ⟨by omega, ?_⟩
        refine (v_mput hv' hV' kW1).mono ?_
        rintro r D9 ⟨hf9, hV9⟩
        exact ⟨⟨by omega, by omega⟩, yes (by omega) (by omega) z D9 (hf'.trans hf9) hV9⟩
      · try simp only [lc_lt, lc_le, lc_gt, lc_ge, lc_eq, true_and, and_true, List.length_cons, List.length_nil, ab_ia, Nat.reduceAdd, Nat.reduceLeDiff, Nat.reduceEqDiff, Nat.reduceLT, Int.reduceLT, Int.reduceLE, Int.reduceEq, Int.reduceNeg, true_or, or_true, false_or, or_false, not_false_eq_true, not_true_eq_false, false_implies, true_implies, forall_const, implies_true, Nat.zero_le, Nat.le_refl]
        exact non (by omega) z D' hf' hV'
    have sk : W.h h 3 = 0 → ¬ 1 < rule → ∀ D', fr v D D' → vP D' v (mhs1 rule V.np W h) → Sx 60 43 [vR v, vI rule, vI V.np, vI h] [] (EE L, D') (0, 0) Q := by
      intro h3 hr1 D' hf' hV'
      refine next _ hf' ?_
      rw [es h3]
      unfold mhs2
      rw [if_neg (by omega)]
      exact hV'
    have fal : W.h h 3 = 0 → rule % 2 = 1 → CV 61 [vR v, vI h] (EE L, D1) (fun D' => fr v D D' ∧ vP D' v (mhs1 rule V.np W h)) := by
      intro h3 hr1
      refine (v_fallen hv' g hV kW h0 hhn).mono ?_
      rintro D2 ⟨hf2, hV2⟩
      refine ⟨hf.trans hf2, ?_⟩
      unfold mhs1
      rw [if_pos hr1, ← em]
      exact hV2
    refine go_60_5 ?_
    simp only [sg_60_5, cl_I, cl_L, cl_R, e_aload_n, e_baload, e_bipush, e_cv2, e_cv5, e_get0, e_get1, e_goto, e_iaload, e_icmp_eq, e_icmp_ge, e_icmp_ne, e_iconst, e_if_eq, e_if_ne, e_iinc, e_iload_n, e_nil, e_pop, fl_0, fl_I, fl_L, fl_R, l_inc3, l_ld1, l_ld3, l_ldA0, rk_0, rk_1, wRef_some, EE_n, zr10, zr12, zs0, zs10, zs8, zz0, zz10, zz8, e1, e3, lc_lt, lc_le, lc_gt, lc_ge, lc_eq, true_and, and_true, List.length_cons, List.length_nil, ab_ia, Nat.reduceAdd, Nat.reduceLeDiff, Nat.reduceEqDiff, Nat.reduceLT, Int.reduceLT, Int.reduceLE, Int.reduceEq, Int.reduceNeg, true_or, or_true, false_or, or_false, not_false_eq_true, not_true_eq_false, false_implies, true_implies, forall_const, implies_true, Nat.zero_le, Nat.le_refl]
    refine ⟨fun hc => absurd hc (by omega), fun _ => ⟨by omega, fun h3 => ?_, fun h3 => ⟨fun h4 => ?_, fun h4 => ⟨fun h5 => ?_, fun h5 => ?_⟩⟩⟩⟩
    · refine next _ hf ?_
      unfold mhs
      rw [if_neg h3]
      exact hV
    · refine go_60_20 ?_
      simp only [sg_60_20, cl_I, cl_L, cl_R, e_aload_n, e_bipush, e_cv2, e_cv5, e_get1, e_goto, e_iaload, e_icmp_eq, e_icmp_ne, e_iconst, e_if_eq, e_iinc, e_iload_n, e_nil, e_pop, fl_0, fl_I, fl_L, fl_R, l_inc3, l_ld1, l_ld3, l_ldA0, rk_0, rk_1, wRef_some, EE_n, zr10, zs0, zs8, zz0, zz8, lc_lt, lc_le, lc_gt, lc_ge, lc_eq, true_and, and_true, List.length_cons, List.length_nil, ab_ia, Nat.reduceAdd, Nat.reduceLeDiff, Nat.reduceEqDiff, Nat.reduceLT, Int.reduceLT, Int.reduceLE, Int.reduceEq, Int.reduceNeg, true_or, or_true, false_or, or_false, not_false_eq_true, not_true_eq_false, false_implies, true_implies, forall_const, implies_true, Nat.zero_le, Nat.le_refl]
      refine (fal (by omega) (by omega)).mono ?_
      rintro D2 ⟨hf2, hV2⟩
      refine ⟨fun q => sh (by omega) (by omega) D2 hf2 hV2, fun q => ⟨fun q2 => sk (by omega) (by omega) D2 hf2 hV2, fun q2 => ?_⟩⟩
      refine CB.use (v_weak hv' g (gP_fr hv' hf2 hg) hV2 kW1 h0 hh1) (fun z => ?_) (fun z => ?_)
      · try simp only [EE_n, EE_s6, zz0, zz1, zz2, zz3, zz4, zz5, zz6, zz7, zz8, zz9, zz10, zz11, zs0, zs1, zs2, zs3, zs4, zs5, zs6, zs7, zs8, zs9, zs10, zs11, zr0, zr2, zr3, zr4, zr5, zr6, zr7, zr8, zr10, zr11, zr12, zr13, (hV2.2.2.1 h h0 hh1).1, lc_lt, lc_le, lc_gt, lc_ge, lc_eq, true_and, and_true, List.length_cons, List.length_nil, ab_ia, Nat.reduceAdd, Nat.reduceLeDiff, Nat.reduceEqDiff, Nat.reduceLT, Int.reduceLT, Int.reduceLE, Int.reduceEq, Int.reduceNeg, true_or, or_true, false_or, or_false, not_false_eq_true, not_true_eq_false, false_implies, true_implies, forall_const, implies_true, Nat.zero_le, Nat.le_refl]
        refine ⟨by omega, ?_⟩
        refine (v_mput hv' hV2 kW1).mono ?_
        rintro r D9 ⟨hf9, hV9⟩
        exact ⟨⟨by omega, by omega⟩, yes (by omega) (by omega) z D9 (hf2.trans hf9) hV9⟩
      · try simp only [lc_lt, lc_le, lc_gt, lc_ge, lc_eq, true_and, and_true, List.length_cons, List.length_nil, ab_ia, Nat.reduceAdd, Nat.reduceLeDiff, Nat.reduceEqDiff, Nat.reduceLT, Int.reduceLT, Int.reduceLE, Int.reduceEq, Int.reduceNeg, true_or, or_true, false_or, or_false, not_false_eq_true, not_true_eq_false, false_implies, true_implies, forall_const, implies_true, Nat.zero_le, Nat.le_refl]
        exact non (by omega) z D2 hf2 hV2
    · refine go_60_23 ?_
      simp only [sg_60_23, cl_I, cl_L, cl_R, e_aload_n, e_bipush, e_cv2, e_cv5, e_get1, e_goto, e_iaload, e_icmp_eq, e_icmp_ne, e_iconst, e_if_eq, e_iinc, e_iload_n, e_nil, e_pop, fl_0, fl_I, fl_L, fl_R, l_inc3, l_ld1, l_ld3, l_ldA0, rk_1, wRef_some, EE_n, zr10, zs0, zs8, zz0, zz8, lc_lt, lc_le, lc_gt, lc_ge, lc_eq, true_and, and_true, List.length_cons, List.length_nil, ab_ia, Nat.reduceAdd, Nat.reduceLeDiff, Nat.reduceEqDiff, Nat.reduceLT, Int.reduceLT, Int.reduceLE, Int.reduceEq, Int.reduceNeg, true_or, or_true, false_or, or_false, not_false_eq_true, not_true_eq_false, false_implies, true_implies, forall_const, implies_true, Nat.zero_le, Nat.le_refl]
      have hV1 : vP D1 v (mhs1 rule V.np W h) := by
        unfold mhs1
        rw [if_neg (by omega)]
        exact hV
      refine ⟨fun q => sh (by omega) (by omega) D1 hf hV1, fun q => ⟨fun q2 => sk (by omega) (by omega) D1 hf hV1, fun q2 => ?_⟩⟩
      refine CB.use (v_weak hv' g (gP_fr hv' hf hg) hV1 kW1 h0 hh1) (fun z => ?_) (fun z => ?_)
      · try simp only [EE_n, EE_s6, zz0, zz1, zz2, zz3, zz4, zz5, zz6, zz7, zz8, zz9, zz10, zz11, zs0, zs1, zs2, zs3, zs4, zs5, zs6, zs7, zs8, zs9, zs10, zs11, zr0, zr2, zr3, zr4, zr5, zr6, zr7, zr8, zr10, zr11, zr12, zr13, (hV1.2.2.1 h h0 hh1).1, lc_lt, lc_le, lc_gt, lc_ge, lc_eq, true_and, and_true, List.length_cons, List.length_nil, ab_ia, Nat.reduceAdd, Nat.reduceLeDiff, Nat.reduceEqDiff, Nat.reduceLT, Int.reduceLT, Int.reduceLE, Int.reduceEq, Int.reduceNeg, true_or, or_true, false_or, or_false, not_false_eq_true, not_true_eq_false, false_implies, true_implies, forall_const, implies_true, Nat.zero_le, Nat.le_refl]
        refine ⟨by omega, ?_⟩
        refine (v_mput hv' hV1 kW1).mono ?_
        rintro r D9 ⟨hf9, hV9⟩
        exact ⟨⟨by omega, by omega⟩, yes (by omega) (by omega) z D9 (hf.trans hf9) hV9⟩
      · try simp only [lc_lt, lc_le, lc_gt, lc_ge, lc_eq, true_and, and_true, List.length_cons, List.length_nil, ab_ia, Nat.reduceAdd, Nat.reduceLeDiff, Nat.reduceEqDiff, Nat.reduceLT, Int.reduceLT, Int.reduceLE, Int.reduceEq, Int.reduceNeg, true_or, or_true, false_or, or_false, not_false_eq_true, not_true_eq_false, false_implies, true_implies, forall_const, implies_true, Nat.zero_le, Nat.le_refl]
        exact non (by omega) z D1 hf hV1
    · refine (fal (by omega) (by omega)).mono ?_
      rintro D2 ⟨hf2, hV2⟩
      refine ⟨fun q => sh (by omega) (by omega) D2 hf2 hV2, fun q => ⟨fun q2 => sk (by omega) (by omega) D2 hf2 hV2, fun q2 => ?_⟩⟩
      refine CB.use (v_weak hv' g (gP_fr hv' hf2 hg) hV2 kW1 h0 hh1) (fun z => ?_) (fun z => ?_)
      · try simp only [EE_n, EE_s6, zz0, zz1, zz2, zz3, zz4, zz5, zz6, zz7, zz8, zz9, zz10, zz11, zs0, zs1, zs2, zs3, zs4, zs5, zs6, zs7, zs8, zs9, zs10, zs11, zr0, zr2, zr3, zr4, zr5, zr6, zr7, zr8, zr10, zr11, zr12, zr13, (hV2.2.2.1 h h0 hh1).1, lc_lt, lc_le, lc_gt, lc_ge, lc_eq, true_and, and_true, List.length_cons, List.length_nil, ab_ia, Nat.reduceAdd, Nat.reduceLeDiff, Nat.reduceEqDiff, Nat.reduceLT, Int.reduceLT, Int.reduceLE, Int.reduceEq, Int.reduceNeg, true_or, or_true, false_or, or_false, not_false_eq_true, not_true_eq_false, false_implies, true_implies, forall_const, implies_true, Nat.zero_le, Nat.le_refl]
        refine ⟨by omega, ?_⟩
        refine (v_mput hv' hV2 kW1).mono ?_
        rintro r D9 ⟨hf9, hV9⟩
        exact ⟨⟨by omega, by omega⟩, yes (by omega) (by omega) z D9 (hf2.trans hf9) hV9⟩
      · try simp only [lc_lt, lc_le, lc_gt, lc_ge, lc_eq, true_and, and_true, List.length_cons, List.length_nil, ab_ia, Nat.reduceAdd, Nat.reduceLeDiff, Nat.reduceEqDiff, Nat.reduceLT, Int.reduceLT, Int.reduceLE, Int.reduceEq, Int.reduceNeg, true_or, or_true, false_or, or_false, not_false_eq_true, not_true_eq_false, false_implies, true_implies, forall_const, implies_true, Nat.zero_le, Nat.le_refl]
        exact non (by omega) z D2 hf2 hV2
theorem v_mend {rule : Int} (hv : isV L v) (g : gOK G) (hg : gP D G) (hV : vP D v V) (k : vOK G V) (hr : 0 ≤ rule ∧ rule < 4) : CI 60 [vR v, vI rule] (EE L, D) (fun r D' => r = (mendV G rule V).np - V.np ∧ fr v D D' ∧ vP D' v (mendV G rule V)) := by
  have hv' := hv
  obtain ⟨⟨zz, zz0, zz1, zz2, zz3, zz4, zz5, zz6, zz7, zz8, zz9, zz10, zz11⟩, ⟨zr0, zr2, zr3, zr4, zr5, zr6, zr7, zr8, zr10, zr11, zr12, zr13⟩, zs0, zs1, zs2, zs3, zs4, zs5, zs6, zs7, zs8, zs9, zs10, zs11⟩ := hv
  have e1 := hV.1.1
  refine Sx.un (y := 60) (n := 0) (lo := [vR v, vI rule, vU, vU]) (st := []) (u := (0, 0)) ?_
  refine go_60_0 ?_
  simp only [sg_60_0, cl_I, cl_L, cl_R, e_aload_n, e_get0, e_iconst, e_istore_n, e_nil, l_ldA0, l_st2, l_st3, wRef_some, EE_n, zs0, zz0, e1, lc_lt, lc_le, lc_gt, lc_ge, lc_eq, true_and, and_true, List.length_cons, List.length_nil, ab_ia, Nat.reduceAdd, Nat.reduceLeDiff, Nat.reduceEqDiff, Nat.reduceLT, Int.reduceLT, Int.reduceLE, Int.reduceEq, Int.reduceNeg, true_or, or_true, false_or, or_false, not_false_eq_true, not_true_eq_false, false_implies, true_implies, forall_const, implies_true, Nat.zero_le, Nat.le_refl]
  exact v_mend_loop hv' g hg k hr (fun D' h1 h2 => retI ⟨rfl, h1, h2⟩) V.nh.toNat 0 D (by omega) (by have := k.1; omega) fr.refl hV
end Mend
