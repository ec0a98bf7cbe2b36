/-! what a year does -/
def Vil.setP (V : Vil) (q j z : Int) : Vil := (V.1, fun p i => if p = q ∧ i = j then z else V.p p i, V.h)
def Vil.setH (V : Vil) (q j z : Int) : Vil := (V.1, V.p, fun p i => if p = q ∧ i = j then z else V.h p i)
def Vil.dep (V : Vil) (f : Int → Int) : Vil := (V.1, fun p i => if i = 2 then f p else V.p p i, V.h)
def Vil.tick (V : Vil) : Vil := ((V.np, V.nh, V.yr + 1), V.p, V.h)
section VilSet
variable {V W : Vil} {G : Gr}
theorem setP_np {q j z : Int} : (V.setP q j z).np = V.np := rfl
theorem setP_nh {q j z : Int} : (V.setP q j z).nh = V.nh := rfl
theorem setP_yr {q j z : Int} : (V.setP q j z).yr = V.yr := rfl
theorem setP_h {q j z : Int} : (V.setP q j z).h = V.h := rfl
theorem setP_p {q j z p i : Int} : (V.setP q j z).p p i = if p = q ∧ i = j then z else V.p p i := rfl
theorem setP_self {q j z : Int} : (V.setP q j z).p q j = z := by rw [setP_p, if_pos ⟨rfl, rfl⟩]
theorem setP_ne {q j z p i : Int} (h : i ≠ j) : (V.setP q j z).p p i = V.p p i := by rw [setP_p, if_neg (fun k => h k.2)]
theorem setP_nep {q j z p i : Int} (h : p ≠ q) : (V.setP q j z).p p i = V.p p i := by rw [setP_p, if_neg (fun k => h k.1)]
theorem setP_id {q j : Int} : V.setP q j (V.p q j) = V := by
  have : (fun p i => if p = q ∧ i = j then V.p q j else V.p p i) = V.p := by
    funext p i
    split
    · rename_i h; rw [h.1, h.2]
    · rfl
  unfold Vil.setP
  rw [this]
  rfl
theorem setH_np {q j z : Int} : (V.setH q j z).np = V.np := rfl
theorem setH_nh {q j z : Int} : (V.setH q j z).nh = V.nh := rfl
theorem setH_yr {q j z : Int} : (V.setH q j z).yr = V.yr := rfl
theorem setH_p {q j z : Int} : (V.setH q j z).p = V.p := rfl
theorem setH_h {q j z p i : Int} : (V.setH q j z).h p i = if p = q ∧ i = j then z else V.h p i := rfl
theorem setH_self {q j z : Int} : (V.setH q j z).h q j = z := by rw [setH_h, if_pos ⟨rfl, rfl⟩]
theorem setH_ne {q j z p i : Int} (h : i ≠ j) : (V.setH q j z).h p i = V.h p i := by rw [setH_h, if_neg (fun k => h k.2)]
theorem setH_nep {q j z p i : Int} (h : p ≠ q) : (V.setH q j z).h p i = V.h p i := by rw [setH_h, if_neg (fun k => h k.1)]
theorem setH_id {q j : Int} : V.setH q j (V.h q j) = V := by
  have : (fun p i => if p = q ∧ i = j then V.h q j else V.h p i) = V.h := by
    funext p i
    split
    · rename_i h; rw [h.1, h.2]
    · rfl
  unfold Vil.setH
  rw [this]
  rfl
theorem dep_np {f : Int → Int} : (V.dep f).np = V.np := rfl
theorem dep_nh {f : Int → Int} : (V.dep f).nh = V.nh := rfl
theorem dep_yr {f : Int → Int} : (V.dep f).yr = V.yr := rfl
theorem dep_h {f : Int → Int} : (V.dep f).h = V.h := rfl
theorem dep_p {f : Int → Int} {p i : Int} : (V.dep f).p p i = if i = 2 then f p else V.p p i := rfl
theorem dep_2 {f : Int → Int} {p : Int} : (V.dep f).p p 2 = f p := by rw [dep_p, if_pos rfl]
theorem dep_ne {f : Int → Int} {p i : Int} (h : i ≠ 2) : (V.dep f).p p i = V.p p i := by rw [dep_p, if_neg h]
theorem dep_congr {f f' : Int → Int} (h : ∀ p, f p = f' p) : V.dep f = V.dep f' := by rw [funext h]
theorem dep_set {f : Int → Int} {q z : Int} : (V.dep f).setP q 2 z = V.dep (fun p => if p = q then z else f p) := by
  unfold Vil.setP
  have : (fun p i => if p = q ∧ i = 2 then z else (V.dep f).p p i) = fun p i => if i = 2 then (if p = q then z else f p) else V.p p i := by
    funext p i
    rw [dep_p]
    by_cases h1 : i = 2 <;> by_cases h2 : p = q <;> simp [h1, h2]
  rw [this]
  rfl
theorem dep_id : V.dep (fun p => V.p p 2) = V := by
  have : (fun p i => if i = 2 then V.p p 2 else V.p p i) = V.p := by
    funext p i
    split
    · rename_i h; rw [h]
    · rfl
  unfold Vil.dep
  rw [this]
  rfl
theorem plb_dep {f : Int → Int} {h p : Int} : plb (V.dep f) h p = plb V h p := by
  unfold plb
  rw [dep_ne (by decide), dep_ne (by decide), dep_h]
theorem plsOf_dep {f : Int → Int} {h : Int} : plsOf (V.dep f) h = plsOf V h := by
  unfold plsOf
  rw [dep_np]
  exact cnt_congr (fun p _ => plb_dep)
theorem shr_dep {f : Int → Int} {h : Int} : shr (V.dep f) h = shr V h := by
  unfold shr
  rw [plsOf_dep, dep_h]
theorem hlP_dep {f : Int → Int} {p : Int} : hlP G (V.dep f) p = hl G (V.p p 0) (f p) (V.p p 4) := by
  unfold hlP
  rw [dep_2, dep_ne (by decide), dep_ne (by decide)]
theorem isPl_dep {f : Int → Int} {h p : Int} : isPl (V.dep f) h p ↔ isPl V h p := by
  unfold isPl
  rw [dep_ne (by decide), dep_ne (by decide), dep_h]
theorem isPl_plb {h p : Int} : isPl V h p ↔ plb V h p = true := by
  unfold isPl plb
  exact decide_eq_true_iff.symm
theorem vOK.mk_p (k : vOK G V) (h1 : W.1 = V.1) (h2 : W.h = V.h) (h3 : ∀ p, 0 ≤ p → p < V.np → plOK G.n V.yr (W.p p)) : vOK G W := by
  have e1 : W.np = V.np := by unfold Vil.np; rw [h1]
  have e2 : W.nh = V.nh := by unfold Vil.nh; rw [h1]
  have e3 : W.yr = V.yr := by unfold Vil.yr; rw [h1]
  refine ⟨?_, ?_, ?_, ?_⟩
  · rw [e1, e2, e3]; exact k.1
  · rw [e1, e3]; exact h3
  · rw [e2, h2]; exact k.2.2.1
  · rw [e2, h2]; exact k.2.2.2
end VilSet
/-! the ice -/
def iceD (G : Gr) (W : Vil) (p : Int) : Int := bi G (W.p p 0) (W.p p 2) (W.p p 4)
def iceS (G : Gr) (W : Vil) (p : Int) : Vil := if W.p p 7 = -9 then (if iceD G W p = 0 then (W.setP p 2 (iceD G W p)).setP p 7 W.yr else W.setP p 2 (iceD G W p)) else W
def iceF (G : Gr) (W : Vil) (p : Int) : Int := if W.p p 7 = -9 ∧ iceD G W p = 0 then 1 else 0
def iceV (G : Gr) (V : Vil) : Nat → Vil
  | 0 => V
  | k + 1 => iceS G (iceV G V k) k
def iceC (G : Gr) (V : Vil) : Nat → Int
  | 0 => 0
  | k + 1 => iceC G V k + iceF G (iceV G V k) k
/-! the sinking -/
def snk (G : Gr) (V : Vil) (h p : Int) : Int := if hlP G V p < shr V h then (if V.p p 2 + (shr V h - hlP G V p + 4) / 5 < 15 then V.p p 2 + (shr V h - hlP G V p + 4) / 5 else 15) else V.p p 2
def snf (G : Gr) (V : Vil) (p : Int) : Nat → Int
  | 0 => V.p p 2
  | k + 1 => if plb V k p = true then snk G V k p else snf G V p k
def sinkV (G : Gr) (V : Vil) : Vil := V.dep (fun p => snf G V p V.nh.toNat)
/-! the rot -/
def isOld (G : Gr) (W : Vil) (p : Int) : Prop := W.p p 7 = -9 ∧ G.la (W.p p 1) ≤ W.yr - W.p p 5 + 1
def rotS (G : Gr) (W : Vil) (p : Int) : Vil := if W.p p 7 = -9 ∧ G.la (W.p p 1) ≤ W.yr - W.p p 5 + 1 then W.setP p 7 W.yr else W
def rotF (G : Gr) (W : Vil) (p : Int) : Int := if W.p p 7 = -9 ∧ G.la (W.p p 1) ≤ W.yr - W.p p 5 + 1 then 1 else 0
def rotV (G : Gr) (V : Vil) : Nat → Vil
  | 0 => V
  | k + 1 => rotS G (rotV G V k) k
def rotC (G : Gr) (V : Vil) : Nat → Int
  | 0 => 0
  | k + 1 => rotC G V k + rotF G (rotV G V k) k
/-! houses that are down -/
def dwnS (W : Vil) (h : Int) : Vil := if plsOf W h = 0 then W.setH h 3 1 else W
def dwnV (V : Vil) : Nat → Vil
  | 0 => V
  | k + 1 => dwnS (dwnV V k) k
def yr1 (G : Gr) (V : Vil) : Vil := iceV G V V.np.toNat
def yr3 (G : Gr) (V : Vil) : Vil := rotV G (sinkV G (yr1 G V)) V.np.toNat
def yearV (G : Gr) (V : Vil) : Vil := (dwnV (yr3 G V) V.nh.toNat).tick
def yearC (G : Gr) (V : Vil) : Int := iceC G V V.np.toNat + rotC G (sinkV G (yr1 G V)) V.np.toNat
section Year
variable {V W : Vil} {G : Gr}
theorem iceS_1 {p : Int} : (iceS G W p).1 = W.1 ∧ (iceS G W p).h = W.h := by
  unfold iceS
  split
  · split <;> exact ⟨rfl, rfl⟩
  · exact ⟨rfl, rfl⟩
theorem iceV_1 {k : Nat} : (iceV G V k).1 = V.1 ∧ (iceV G V k).h = V.h := by
  induction k with
  | zero => exact ⟨rfl, rfl⟩
  | succ k ih => exact ⟨iceS_1.1.trans ih.1, iceS_1.2.trans ih.2⟩
theorem iceD_bd {p : Int} : W.p p 2 - 1 ≤ iceD G W p ∧ iceD G W p ≤ W.p p 2 := bi_bd
theorem iceS_ok {p : Int} (k : vOK G W) (h0 : 0 ≤ p) (h1 : p < W.np) : vOK G (iceS G W p) := by
  refine k.mk_p iceS_1.1 iceS_1.2 (fun q q0 q1 => ?_)
  have kq := k.2.1 q q0 q1
  by_cases z : q = p
  · subst z
    obtain ⟨a0, a1, a2, a3, a4, a5, a7⟩ := kq
    have hb := iceD_bd (G := G) (W := W) (p := q)
    unfold iceS
    split
    · rename_i hs
      have := a7 hs
      split
      · rename_i hz
        refine ⟨?_, ?_, ?_, ?_, ?_, ?_, ?_⟩
        · rw [setP_ne (by decide), setP_ne (by decide)]; exact a0
        · rw [setP_ne (by decide), setP_ne (by decide)]; exact a1
        · rw [setP_ne (by decide), setP_self]; omega
        · rw [setP_ne (by decide), setP_ne (by decide)]; exact a3
        · rw [setP_ne (by decide), setP_ne (by decide)]; exact a4
        · rw [setP_ne (by decide), setP_ne (by decide)]; exact a5
        · rw [setP_self]; have := k.1; omega
      · rename_i hz
        refine ⟨?_, ?_, ?_, ?_, ?_, ?_, ?_⟩
        · rw [setP_ne (by decide)]; exact a0
        · rw [setP_ne (by decide)]; exact a1
        · rw [setP_self]; omega
        · rw [setP_ne (by decide)]; exact a3
        · rw [setP_ne (by decide)]; exact a4
        · rw [setP_ne (by decide)]; exact a5
        · rw [setP_self]; omega
    · exact ⟨a0, a1, a2, a3, a4, a5, a7⟩
  · have : (iceS G W p).p q = W.p q := by
      funext i
      unfold iceS
      split
      · split
        · rw [setP_nep z, setP_nep z]
        · rw [setP_nep z]
      · rfl
    rw [this]
    exact kq
theorem np_of {V W : Vil} (h : W.1 = V.1) : W.np = V.np := by unfold Vil.np; rw [h]
theorem nh_of {V W : Vil} (h : W.1 = V.1) : W.nh = V.nh := by unfold Vil.nh; rw [h]
theorem yr_of {V W : Vil} (h : W.1 = V.1) : W.yr = V.yr := by unfold Vil.yr; rw [h]
theorem iceV_ok {k : Nat} (h : vOK G V) (hk : (k : Int) ≤ V.np) : vOK G (iceV G V k) := by
  induction k with
  | zero => exact h
  | succ k ih => exact iceS_ok (ih (by omega)) (by omega) (by rw [np_of iceV_1.1]; omega)
theorem iceC_bd {k : Nat} : 0 ≤ iceC G V k ∧ iceC G V k ≤ k := by
  induction k with
  | zero => simp [iceC]
  | succ k ih =>
    simp only [iceC, iceF]
    split <;> omega
theorem snk_bd {h p : Int} (g : gOK G) (k : vOK G V) (h0 : 0 ≤ p) (h1 : p < V.np) : 0 ≤ snk G V h p ∧ snk G V h p ≤ 15 ∧ V.p p 2 ≤ snk G V h p := by
  have a2 := (k.2.1 p h0 h1).2.2.1
  unfold snk
  split
  · split <;> omega
  · omega
theorem snf_bd {p : Int} {n : Nat} (g : gOK G) (k : vOK G V) (h0 : 0 ≤ p) (h1 : p < V.np) : 0 ≤ snf G V p n ∧ snf G V p n ≤ 15 ∧ V.p p 2 ≤ snf G V p n := by
  induction n with
  | zero =>
    have a2 := (k.2.1 p h0 h1).2.2.1
    simp only [snf]
    omega
  | succ n ih =>
    simp only [snf]
    split
    · exact snk_bd g k h0 h1
    · exact ih
theorem dep_ok {f : Int → Int} (k : vOK G V) (hf : ∀ p, 0 ≤ p → p < V.np → 0 ≤ f p ∧ f p ≤ 15 ∧ V.p p 2 ≤ f p) : vOK G (V.dep f) := by
  refine k.mk_p rfl rfl (fun q q0 q1 => ?_)
  obtain ⟨a0, a1, a2, a3, a4, a5, a7⟩ := k.2.1 q q0 q1
  have := hf q q0 q1
  refine ⟨?_, ?_, ?_, ?_, ?_, ?_, ?_⟩
  · rw [dep_ne (by decide)]; exact a0
  · rw [dep_ne (by decide)]; exact a1
  · rw [dep_2]; omega
  · rw [dep_ne (by decide)]; exact a3
  · rw [dep_ne (by decide)]; exact a4
  · rw [dep_ne (by decide)]; exact a5
  · rw [dep_ne (by decide), dep_2]; intro z; have := a7 z; omega
theorem sinkV_ok (g : gOK G) (k : vOK G V) : vOK G (sinkV G V) := dep_ok k (fun _ p0 p1 => snf_bd g k p0 p1)
/-- a pole has one house -/
theorem snf_own {h p : Int} {n : Nat} (k : vOK G V) (h0 : 0 ≤ h) (h1 : h < V.nh) (hn : (n : Int) ≤ h) (hp : isPl V h p) : snf G V p n = V.p p 2 := by
  induction n with
  | zero => rfl
  | succ n ih =>
    simp only [snf]
    rw [if_neg, ih (by omega)]
    intro q
    have := k.2.2.2 h n (V.p p 0) h0 h1 (by omega) (by omega) hp.2 (isPl_plb.mpr q).2
    omega
theorem rotS_1 {p : Int} : (rotS G W p).1 = W.1 ∧ (rotS G W p).h = W.h := by
  unfold rotS
  split <;> exact ⟨rfl, rfl⟩
theorem rotV_1 {k : Nat} : (rotV G V k).1 = V.1 ∧ (rotV G V k).h = V.h := by
  induction k with
  | zero => exact ⟨rfl, rfl⟩
  | succ k ih => exact ⟨rotS_1.1.trans ih.1, rotS_1.2.trans ih.2⟩
theorem rotS_ok {p : Int} (k : vOK G W) (h0 : 0 ≤ p) (h1 : p < W.np) : vOK G (rotS G W p) := by
  refine k.mk_p rotS_1.1 rotS_1.2 (fun q q0 q1 => ?_)
  have kq := k.2.1 q q0 q1
  by_cases z : q = p
  · subst z
    obtain ⟨a0, a1, a2, a3, a4, a5, a7⟩ := kq
    unfold rotS
    split
    · refine ⟨?_, ?_, ?_, ?_, ?_, ?_, ?_⟩
      · rw [setP_ne (by decide)]; exact a0
      · rw [setP_ne (by decide)]; exact a1
      · rw [setP_ne (by decide)]; exact a2
      · rw [setP_ne (by decide)]; exact a3
      · rw [setP_ne (by decide)]; exact a4
      · rw [setP_ne (by decide)]; exact a5
      · rw [setP_self]; have := k.1; omega
    · exact ⟨a0, a1, a2, a3, a4, a5, a7⟩
  · have : (rotS G W p).p q = W.p q := by
      funext i
      unfold rotS
      split
      · rw [setP_nep z]
      · rfl
    rw [this]
    exact kq
theorem rotV_ok {k : Nat} (h : vOK G V) (hk : (k : Int) ≤ V.np) : vOK G (rotV G V k) := by
  induction k with
  | zero => exact h
  | succ k ih => exact rotS_ok (ih (by omega)) (by omega) (by rw [np_of rotV_1.1]; omega)
theorem rotC_bd {k : Nat} : 0 ≤ rotC G V k ∧ rotC G V k ≤ k := by
  induction k with
  | zero => simp [rotC]
  | succ k ih =>
    simp only [rotC, rotF]
    split <;> omega
theorem dwnS_1 {h : Int} : (dwnS W h).1 = W.1 ∧ (dwnS W h).p = W.p ∧ ∀ q j, j ≠ 3 → (dwnS W h).h q j = W.h q j := by
  unfold dwnS
  split
  · exact ⟨rfl, rfl, fun q j hj => setH_ne hj⟩
  · exact ⟨rfl, rfl, fun _ _ _ => rfl⟩
theorem dwnV_1 {k : Nat} : (dwnV V k).1 = V.1 ∧ (dwnV V k).p = V.p ∧ ∀ q j, j ≠ 3 → (dwnV V k).h q j = V.h q j := by
  induction k with
  | zero => exact ⟨rfl, rfl, fun _ _ _ => rfl⟩
  | succ k ih => exact ⟨dwnS_1.1.trans ih.1, dwnS_1.2.1.trans ih.2.1, fun q j hj => (dwnS_1.2.2 q j hj).trans (ih.2.2 q j hj)⟩
theorem dwnS_ok {h : Int} (k : vOK G W) : vOK G (dwnS W h) := by
  unfold dwnS
  split
  · refine ⟨k.1, k.2.1, fun q q0 q1 => ?_, ?_⟩
    · obtain ⟨a0, a1, a2, a3⟩ := k.2.2.1 q q0 q1
      refine ⟨?_, ?_, ?_, ?_⟩
      · rw [setH_ne (by decide)]; exact a0
      · rw [setH_ne (by decide)]; exact a1
      · rw [setH_ne (by decide)]; exact a2
      · rw [setH_h]; split
        · exact Or.inr rfl
        · exact a3
    · intro a b c a0 a1 b0 b1
      simp only [setH_ne (show (0 : Int) ≠ 3 by decide), setH_ne (show (1 : Int) ≠ 3 by decide)]
      exact k.2.2.2 a b c a0 a1 b0 b1
  · exact k
theorem dwnV_ok {k : Nat} (h : vOK G V) : vOK G (dwnV V k) := by
  induction k with
  | zero => exact h
  | succ k ih => exact dwnS_ok ih
theorem yr1_ok (k : vOK G V) : vOK G (yr1 G V) := iceV_ok k (by have := k.1; omega)
theorem yr1_1 : (yr1 G V).1 = V.1 ∧ (yr1 G V).h = V.h := iceV_1
theorem yr3_ok (g : gOK G) (k : vOK G V) : vOK G (yr3 G V) := rotV_ok (sinkV_ok g (yr1_ok k)) (by have := k.1; have e : (sinkV G (yr1 G V)).np = V.np := np_of (V := V) yr1_1.1; rw [e]; omega)
theorem yr3_1 : (yr3 G V).1 = V.1 ∧ (yr3 G V).h = V.h := ⟨rotV_1.1.trans yr1_1.1, rotV_1.2.trans yr1_1.2⟩
theorem tick_ok (k : vOK G V) (hy : V.yr < 1000000) : vOK G V.tick := by
  refine ⟨?_, fun q q0 q1 => ?_, k.2.2.1, k.2.2.2⟩
  · have := k.1
    show (0 ≤ V.np ∧ V.np ≤ 24) ∧ (0 ≤ V.nh ∧ V.nh ≤ 6) ∧ (0 ≤ V.yr + 1 ∧ V.yr + 1 ≤ 1000000)
    omega
  · obtain ⟨a0, a1, a2, a3, a4, a5, a7⟩ := k.2.1 q q0 q1
    exact ⟨a0, a1, a2, a3, a4, ⟨a5.1, by show V.p q 5 ≤ V.yr + 1; have := a5.2; omega⟩, a7⟩
theorem yearV_ok (g : gOK G) (k : vOK G V) (hy : V.yr < 1000000) : vOK G (yearV G V) := by
  refine tick_ok (dwnV_ok (yr3_ok g k)) ?_
  rw [yr_of dwnV_1.1, yr_of yr3_1.1]
  exact hy
theorem yearV_yr : (yearV G V).yr = V.yr + 1 := by
  show (dwnV (yr3 G V) V.nh.toNat).yr + 1 = V.yr + 1
  rw [yr_of dwnV_1.1, yr_of yr3_1.1]
theorem yearV_np : (yearV G V).np = V.np := by
  show (dwnV (yr3 G V) V.nh.toNat).np = V.np
  rw [np_of dwnV_1.1, np_of yr3_1.1]
theorem yearV_nh : (yearV G V).nh = V.nh := by
  show (dwnV (yr3 G V) V.nh.toNat).nh = V.nh
  rw [nh_of dwnV_1.1, nh_of yr3_1.1]
end Year
