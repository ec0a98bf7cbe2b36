/-! each call: class and reference answer alike, and stand alike behind it -/
def Bo (L : Nat) (b : Int) (p m : Nat) (as : List ab_V) (D : ab_D) : Prop := CI p (vR 0 :: as) (EE L, D) (fun r D1 => D1 1000 = D 1000 ∧ CI m (vR 69 :: as) (EE L, D1) (fun r' D2 => r = r' ∧ Rel (b + 1) D2 ∧ D2 1000 = D1 1000))
def BoL (L : Nat) (b : Int) (p m : Nat) (as : List ab_V) (D : ab_D) : Prop := CL p (vR 0 :: as) (EE L, D) (fun r D1 => D1 1000 = D 1000 ∧ CL m (vR 69 :: as) (EE L, D1) (fun r' D2 => r = r' ∧ Rel (b + 1) D2 ∧ D2 1000 = D1 1000))
section Both
variable {L : Nat} {D D' : ab_D} {b : Int} {G : Gr} {V : Vil} {W : Int → Vil} {K T T' : Int → Int} {len len' rn : Int} {rf w : Nat → Int} {fn : Int} {fc fy : Nat → Int}
theorem ups_at {a i j : Nat} {z : Int} : ups D a i z a j = if j = i then z else D a j := by
  by_cases h : j = i
  · subst h; rw [ups_self, if_pos rfl]
  · rw [ups_ne2 h, if_neg h]
theorem ups_fn {a a' i : Nat} {z : Int} (h : a' ≠ a) : ups D a i z a' = D a' := by
  funext j
  exact ups_ne1 h
theorem RP.cgT (h : ∀ a, a ≠ 0 → a ≠ 1 → D' a = D a) (hT : pTx D' T' len') (q : RP D G V W K T len rn rf w fn fc fy) : RP D' G V W K T' len' rn rf w fn fc fy := by
  obtain ⟨q1, q2, q3, q4, q5, q6, q7, q8⟩ := q
  exact ⟨q1.congr (h 7 (by decide) (by decide)) (h 8 (by decide) (by decide)), vP_cg (fun a a1 a2 => h a (by omega) (by omega)) q2, q3.cg (fun j _ => by rw [h 58 (by decide) (by decide)]) (fun a a1 a2 => h a (by omega) (by omega)), hT, q5.cg (by rw [h 59 (by decide) (by decide)]) (h 60 (by decide) (by decide)), (h 62 (by decide) (by decide)).trans q6, q7.cg (by rw [h 63 (by decide) (by decide)]) (fun a a1 a2 => h a (by omega) (by omega)), q8.cg (h 1001 (by decide) (by decide)) (h 1002 (by decide) (by decide))⟩
theorem RM.cgT (h : ∀ a, a ≠ 69 → a ≠ 73 → D' a = D a) (e : ∀ j, j ≠ 4 → D' 69 j = D 69 j) (hT : mTx D' T' len') (q : RM D G V W K T len rn rf w fn fc fy) : RM D' G V W K T' len' rn rf w fn fc fy := by
  obtain ⟨q1, q2, q3, q4, q5, q6, q7⟩ := q
  exact ⟨q1.congr (h 71 (by decide) (by decide)), vM_cg (e 8 (by decide)) (e 10 (by decide)) (e 12 (by decide)) (h 74 (by decide) (by decide)) (h 75 (by decide) (by decide)) q2, q3.cg (fun j _ => by rw [h 77 (by decide) (by decide)]) (fun k _ _ => by rw [h 78 (by decide) (by decide)]) (fun k _ _ => by rw [h 79 (by decide) (by decide)]) (fun k _ _ => by rw [h 80 (by decide) (by decide)]), hT, q5.cg (e 19 (by decide)) (h 81 (by decide) (by decide)), (h 82 (by decide) (by decide)).trans q6, q7.cg (e 22 (by decide)) (h 83 (by decide) (by decide)) (h 84 (by decide) (by decide))⟩
theorem b_write {n v : Int} (hR : Rel b D) : Bo L b 70 120 [vI n, vL v] D := by
  obtain ⟨G, V, W, K, T, len, rn, rf, w, fn, fc, fy, hS, hP, hM⟩ := hR
  have e1 := hP.2.2.2.1.1
  have e2 := hM.2.2.2.1.1
  have hl := hS.2.2.2.1
  refine (p_write (n := n) (v := v) (by omega)).mono ?_
  intro r D1 h1
  have f1 : ∀ a, a ≠ 0 → a ≠ 1 → D1 a = D a := by
    rcases h1 with ⟨_, _, rfl⟩ | ⟨_, _, _, rfl⟩ | ⟨_, _, _, h1⟩
    · exact fun _ _ _ => rfl
    · exact fun _ _ _ => rfl
    · exact h1.2.2.2.1
  have hM1 := hM.cg (D' := D1) (fun a a1 a2 => f1 a (by omega) (by omega))
  have e3 : D1 69 4 = len := hM1.2.2.2.1.1
  refine ⟨by first | rfl | exact f1 1000 (by omega) | exact f1 1000 (by omega) (by omega) | exact f1 1000 (by omega) (by omega) (by omega) | exact k1 1000 (by omega) (by omega) (by omega) | exact k1.1 1000 (by omega) (by omega) | exact ups_fn (by decide), ?_⟩
  refine (m_write (n := n) (v := v) (by omega)).mono ?_
  intro r' D2 h2
  unfold wrA at h1 h2
  rw [e1] at h1
  rw [e3] at h2
  rcases h1 with ⟨a1, rfl, rfl⟩ | ⟨a1, b1, rfl, rfl⟩ | ⟨a1, b1, rfl, h1⟩
  · rcases h2 with ⟨a2, rfl, rfl⟩ | ⟨a2, _⟩ | ⟨a2, _⟩
    · exact ⟨rfl, Rel_of hS.up hP (fun _ _ => rfl) hM⟩
    · exact absurd a2 a1
    · exact absurd a2 a1
  · rcases h2 with ⟨a2, _⟩ | ⟨a2, b2, rfl, rfl⟩ | ⟨a2, b2, _⟩
    · exact absurd a1 a2
    · exact ⟨rfl, Rel_of hS.up hP (fun _ _ => rfl) hM⟩
    · omega
  · rcases h2 with ⟨a2, _⟩ | ⟨a2, b2, _⟩ | ⟨a2, b2, rfl, h2⟩
    · exact absurd a1 a2
    · omega
    · obtain ⟨p1, p2, p3, p4, p5⟩ := h1
      obtain ⟨m1, m2, m3, m4, m5⟩ := h2
      have tp := hP.2.2.2.1.2
      have tm := hM1.2.2.2.1.2
      have bd : ∀ j : Int, 0 ≤ j → j < len + n → 0 ≤ D1 1 j.toNat ∧ D1 1 j.toNat ≤ 255 := fun j j0 j1 => by
        by_cases q : j < len
        · rw [p2 j j0 q, (tp j j0 q).1]; exact (tp j j0 q).2
        · rw [p3 j (by omega) j1, by_same (by omega)]; exact by_bd
      refine ⟨rfl, Rel_of (T := fun j => D1 1 j.toNat) (len := len + n) ?_ (hP.cgT f1 ⟨p1, fun j j0 j1 => ⟨rfl, bd j j0 j1⟩⟩) (fun a ha => m4 a (by omega) (by omega)) (hM1.cgT m4 m5 ⟨m1, fun j j0 j1 => ⟨?_, bd j j0 j1⟩⟩)⟩
      · obtain ⟨s1, s2, s3, s4, s5⟩ := hS.up
        exact ⟨s1, s2, s3, ⟨by omega, by omega⟩, s5⟩
      · show D2 73 j.toNat = D1 1 j.toNat
        by_cases q : j < len
        · rw [m2 j j0 q, (tm j j0 q).1, p2 j j0 q, (tp j j0 q).1]
        · rw [m3 j (by omega) j1, p3 j (by omega) j1, by_same (by omega)]
theorem b_wipe (hR : Rel b D) : Bo L b 71 121 [] D := by
  obtain ⟨G, V, W, K, T, len, rn, rf, w, fn, fc, fy, hS, hP, hM⟩ := hR
  have e1 := hP.2.2.2.1.1
  refine p_wipe.mono ?_
  rintro r D1 ⟨rfl, rfl⟩
  have hM1 := hM.cg (D' := ups D 0 1 0) (fun a a1 a2 => ups_fn (by omega))
  have e3 : ups D 0 1 0 69 4 = len := hM1.2.2.2.1.1
  refine ⟨by first | rfl | exact f1 1000 (by omega) | exact f1 1000 (by omega) (by omega) | exact f1 1000 (by omega) (by omega) (by omega) | exact k1 1000 (by omega) (by omega) (by omega) | exact k1.1 1000 (by omega) (by omega) | exact ups_fn (by decide), ?_⟩
  refine m_wipe.mono ?_
  rintro r' D2 ⟨rfl, rfl⟩
  refine ⟨by rw [e1, e3], Rel_of (T := T) (len := 0) ?_ (hP.cgT (fun a a0 _ => ups_fn a0) ⟨ups_self, fun j j0 j1 => absurd j1 (by omega)⟩) (fun a ha => ups_fn (by omega)) (hM1.cgT (fun a a0 _ => ups_fn a0) (fun j hj => ups_ne2 hj) ⟨ups_self, fun j j0 j1 => absurd j1 (by omega)⟩)⟩
  obtain ⟨s1, s2, s3, s4, s5⟩ := hS.up
  exact ⟨s1, s2, s3, ⟨by omega, by omega⟩, s5⟩
theorem b_fault (hR : Rel b D) : Bo L b 72 126 [] D := by
  obtain ⟨G, V, W, K, T, len, rn, rf, w, fn, fc, fy, hS, hP, hM⟩ := hR
  have hl := hS.2.2.2.1
  refine (p_fault hP.2.2.2.1.1 hP.2.2.2.1.2 hl).mono ?_
  rintro r D1 ⟨h1, f1⟩
  have hM1 := hM.cg (D' := D1) (fun a a1 a2 => f1 a (by omega) (by omega) (by omega))
  refine ⟨by first | rfl | exact f1 1000 (by omega) | exact f1 1000 (by omega) (by omega) | exact f1 1000 (by omega) (by omega) (by omega) | exact k1 1000 (by omega) (by omega) (by omega) | exact k1.1 1000 (by omega) (by omega) | exact ups_fn (by decide), ?_⟩
  refine (m_fault hM1.2.2.2.1.1 hM1.2.2.2.1.2 hl).mono ?_
  rintro r' D2 ⟨h2, f2⟩
  exact ⟨h1.trans h2.symm, Rel_of hS.up (hP.cg (D' := D1) (fun a ha => f1 a (by omega) (by omega) (by omega))) (fun a ha => f2.1 a (by omega) (by omega) (by omega)) (hM1.cgQ f2)⟩
theorem b_lake (hR : Rel b D) (hb : 0 ≤ b) : Bo L b 73 127 [] D := by
  obtain ⟨G, V, W, K, T, len, rn, rf, w, fn, fc, fy, hS, hP, hM⟩ := hR
  have hl := hS.2.2.2.1
  refine (p_lake hP.2.2.2.2.2.2.2.1 hP.2.2.2.1.1 hP.2.2.2.1.2 hl).mono ?_
  rintro r D1 (⟨h9, rfl, f1⟩ | ⟨h9, rfl, f1, g1⟩)
  · have hM1 := hM.cg (D' := D1) (fun a a1 a2 => f1 a (by omega) (by omega) (by omega))
    refine ⟨by first | rfl | exact f1 1000 (by omega) | exact f1 1000 (by omega) (by omega) | exact f1 1000 (by omega) (by omega) (by omega) | exact k1 1000 (by omega) (by omega) (by omega) | exact k1.1 1000 (by omega) (by omega) | exact ups_fn (by decide), ?_⟩
    refine (m_lake hM1.2.2.2.1.1 hM1.2.2.2.1.2 hl).mono ?_
    rintro r' D2 (⟨_, rfl, f2⟩ | ⟨q9, _⟩)
    · exact ⟨rfl, Rel_of hS.up (hP.cg (D' := D1) (fun a ha => f1 a (by omega) (by omega) (by omega))) (fun a ha => f2.1 a (by omega) (by omega) (by omega)) (hM1.cgQ f2)⟩
    · exact absurd q9 h9
  · obtain ⟨k1, k2, k3, k4, k5, k6⟩ := f1
    have hM1 := hM.cg (D' := D1) (fun a a1 a2 => k1 a (by omega) (by omega) (by omega))
    refine ⟨by first | rfl | exact f1 1000 (by omega) | exact f1 1000 (by omega) (by omega) | exact f1 1000 (by omega) (by omega) (by omega) | exact k1 1000 (by omega) (by omega) (by omega) | exact k1.1 1000 (by omega) (by omega) | exact ups_fn (by decide), ?_⟩
    refine (m_lake hM1.2.2.2.1.1 hM1.2.2.2.1.2 hl).mono ?_
    rintro r' D2 (⟨q9, _⟩ | ⟨_, rfl, f2, g2⟩)
    · exact absurd h9 q9
    · obtain ⟨l1, l2, l3, l4, l5, l6⟩ := f2
      obtain ⟨q1, q2, q3, q4, q5, q6, q7, q8⟩ := hP
      obtain ⟨t1, t2, t3, t4, t5, t6, t7⟩ := hM1
      obtain ⟨s1, s2, s3, s4, s5, s6, s7⟩ := hS
      have cE : ∀ a, (a ≤ 1 ∨ 59 ≤ a) → a ≠ 63 → D1 a = D a := fun a h h' => k1 a (by omega) (by omega) h'
      refine ⟨rfl, Rel_of (G := grd (rdT T len).2.1 (rdT T len).2.2.1) (V := emV) (W := fun _ => emV) (K := fun _ => 0) (T := T) (len := len) (rn := rn) (rf := rf) (w := w) (fn := 0) (fc := fc) (fy := fy) ⟨grd_ok (rdT_nG h9), ⟨emV_ok, by show (0 : Int) ≤ b + 1; omega⟩, fun s hs k => absurd rfl k, s4, s5, s6, ⟨by omega, fun i hi => absurd hi (by omega)⟩⟩
        ⟨g1, k3, ⟨⟨k5, fun k => absurd rfl k⟩, k6, fun k => absurd rfl k⟩, q4.cg (by rw [cE 0 (by omega) (by decide)]) (cE 1 (by omega) (by decide)), q5.cg (by rw [cE 59 (by omega) (by decide)]) (cE 60 (by omega) (by decide)), (cE 62 (by omega) (by decide)).trans q6, ⟨k4, (cE 64 (by omega) (by decide)).trans q7.2.1, (cE 65 (by omega) (by decide)).trans q7.2.2.1, ⟨fun i => i, ⟨fun i hi => absurd hi (by show ¬ i < 0; omega), fun i j hi => absurd hi (by show ¬ i < 0; omega), fun P _ i hi => absurd hi (by show ¬ i < 0; omega)⟩, fun i hi => absurd hi (by show ¬ i < 0; omega)⟩⟩, q8.cg (cE 1001 (by omega) (by decide)) (cE 1002 (by omega) (by decide))⟩
        (fun a ha => l1 a (by omega) (by omega) (by omega) (by omega) (by omega))
        ⟨g2, l3, fun s hs => ⟨?_, fun k => absurd rfl k⟩, t4.cg (l2 4 (by decide) (by decide) (by decide) (by decide) (by decide) (by decide) (by decide)) (l1 73 (by decide) (by decide) (by decide) (by decide) (by decide)), t5.cg (l2 19 (by decide) (by decide) (by decide) (by decide) (by decide) (by decide) (by decide)) (l1 81 (by decide) (by decide) (by decide) (by decide) (by decide)), (l1 82 (by decide) (by decide) (by decide) (by decide) (by decide)).trans t6, ⟨l4, (l1 83 (by decide) (by decide) (by decide) (by decide) (by decide)).trans t7.2.1, (l1 84 (by decide) (by decide) (by decide) (by decide) (by decide)).trans t7.2.2⟩⟩⟩
      have : s = 0 ∨ s = 1 := by omega
      rcases this with rfl | rfl
      · exact l5
      · exact l6
theorem g_same (hP : gP D G) (hM : gM D G) {a : Int} (ha : 0 ≤ a ∧ a < 8) : D 7 a.toNat = D 71 a.toNat := by
  obtain ⟨⟨p0, p1, p2, p3, p4⟩, p5, _⟩ := hP
  obtain ⟨⟨m0, m1, m2, m3, m4⟩, m5, _⟩ := hM
  have : a = 0 ∨ a = 1 ∨ a = 2 ∨ a = 3 ∨ a = 4 ∨ 5 ≤ a := by omega
  rcases this with rfl | rfl | rfl | rfl | rfl | h
  · exact p0.trans m0.symm
  · exact p1.trans m1.symm
  · exact p2.trans m2.symm
  · exact p3.trans m3.symm
  · exact p4.trans m4.symm
  · have q1 := p5 (a - 5) (by omega)
    have q2 := m5 (a - 5) (by omega)
    rw [show 5 + (a - 5) = a by omega] at q1 q2
    exact q1.trans q2.symm
theorem b_about {a : Int} (hR : Rel b D) : Bo L b 74 128 [vI a] D := by
  obtain ⟨G, V, W, K, T, len, rn, rf, w, fn, fc, fy, hS, hP, hM⟩ := hR
  refine p_about.mono ?_
  rintro r D1 ⟨h1, rfl⟩
  refine ⟨by first | rfl | exact f1 1000 (by omega) | exact f1 1000 (by omega) (by omega) | exact f1 1000 (by omega) (by omega) (by omega) | exact k1 1000 (by omega) (by omega) (by omega) | exact k1.1 1000 (by omega) (by omega) | exact ups_fn (by decide), ?_⟩
  refine m_about.mono ?_
  rintro r' D2 ⟨h2, rfl⟩
  refine ⟨?_, Rel_of hS.up hP (fun _ _ => rfl) hM⟩
  rcases h1 with ⟨a1, rfl⟩ | ⟨a1, rfl⟩ <;> rcases h2 with ⟨a2, rfl⟩ | ⟨a2, rfl⟩
  · rfl
  · exact absurd a2 a1
  · exact absurd a1 a2
  · exact g_same hP.1 hM.1 a1
theorem b_clay {a : Int} (hR : Rel b D) : Bo L b 75 132 [vI a] D := by
  obtain ⟨G, V, W, K, T, len, rn, rf, w, fn, fc, fy, hS, hP, hM⟩ := hR
  refine (p_clay hS.1 hP.1).mono ?_
  rintro r D1 ⟨h1, rfl⟩
  refine ⟨by first | rfl | exact f1 1000 (by omega) | exact f1 1000 (by omega) (by omega) | exact f1 1000 (by omega) (by omega) (by omega) | exact k1 1000 (by omega) (by omega) (by omega) | exact k1.1 1000 (by omega) (by omega) | exact ups_fn (by decide), ?_⟩
  refine (m_clay hS.1 hM.1).mono ?_
  rintro r' D2 ⟨h2, rfl⟩
  refine ⟨?_, Rel_of hS.up hP (fun _ _ => rfl) hM⟩
  rcases h1 with ⟨a1, rfl⟩ | ⟨a1, rfl⟩ <;> rcases h2 with ⟨a2, rfl⟩ | ⟨a2, rfl⟩
  · rfl
  · exact absurd a2 a1
  · exact absurd a1 a2
  · rfl
theorem b_pole {c x d k : Int} (hR : Rel b D) (hk : k = 0 ∨ k = 1) : Bo L b 76 138 [vI c, vI x, vI d, vI k] D := by
  obtain ⟨G, V, W, K, T, len, rn, rf, w, fn, fc, fy, hS, hP, hM⟩ := hR
  refine (p_pole hP.1 hP.2.1 hS.2.1.1 hk).mono ?_
  rintro r D1 ⟨V1, h1, f1, v1⟩
  have hM1 := hM.cg (D' := D1) (fun a a1 a2 => f1 a (by omega))
  refine ⟨by first | rfl | exact f1 1000 (by omega) | exact f1 1000 (by omega) (by omega) | exact f1 1000 (by omega) (by omega) (by omega) | exact k1 1000 (by omega) (by omega) (by omega) | exact k1.1 1000 (by omega) (by omega) | exact ups_fn (by decide), ?_⟩
  refine (m_pole hM1.1 hM1.2.1 hS.2.1.1 hk).mono ?_
  rintro r' D2 ⟨V2, h2, f2, v2⟩
  obtain ⟨rfl, rfl⟩ := plA_uniq h1 h2
  obtain ⟨o1, o2⟩ := plA_ok hS.2.1.1 hk h1
  obtain ⟨s1, s2, s3⟩ := hS.up
  exact ⟨rfl, Rel_of ⟨s1, ⟨o1, by rw [o2]; exact s2.2⟩, s3⟩ (hP.cgV f1 v1) f2.a.out (hM1.cgA f2.a v2)⟩
theorem b_told {p x : Int} (hR : Rel b D) : Bo L b 77 139 [vI p, vI x] D := by
  obtain ⟨G, V, W, K, T, len, rn, rf, w, fn, fc, fy, hS, hP, hM⟩ := hR
  refine (p_told hS.1 hP.1 hP.2.1 hS.2.1.1).mono ?_
  rintro r D1 ⟨rfl, rfl⟩
  refine ⟨by first | rfl | exact f1 1000 (by omega) | exact f1 1000 (by omega) (by omega) | exact f1 1000 (by omega) (by omega) (by omega) | exact k1 1000 (by omega) (by omega) (by omega) | exact k1.1 1000 (by omega) (by omega) | exact ups_fn (by decide), ?_⟩
  refine (m_told hS.1 hM.1 hM.2.1 hS.2.1.1).mono ?_
  rintro r' D2 ⟨rfl, rfl⟩
  exact ⟨rfl, Rel_of hS.up hP (fun _ _ => rfl) hM⟩
theorem b_house {c o x : Int} (hR : Rel b D) : Bo L b 78 141 [vI c, vI o, vI x] D := by
  obtain ⟨G, V, W, K, T, len, rn, rf, w, fn, fc, fy, hS, hP, hM⟩ := hR
  refine (p_house hS.1 hP.1 hP.2.1 hS.2.1.1).mono ?_
  rintro r D1 ⟨V1, h1, f1, v1⟩
  have hM1 := hM.cg (D' := D1) (fun a a1 a2 => f1 a (by omega))
  refine ⟨by first | rfl | exact f1 1000 (by omega) | exact f1 1000 (by omega) (by omega) | exact f1 1000 (by omega) (by omega) (by omega) | exact k1 1000 (by omega) (by omega) (by omega) | exact k1.1 1000 (by omega) (by omega) | exact ups_fn (by decide), ?_⟩
  refine (m_house hS.1 hM1.1 hM1.2.1 hS.2.1.1).mono ?_
  rintro r' D2 ⟨V2, h2, f2, v2⟩
  obtain ⟨rfl, rfl⟩ := hcA_uniq h1 h2
  obtain ⟨o1, o2⟩ := hcA_ok hS.2.1.1 h1
  obtain ⟨s1, s2, s3⟩ := hS.up
  exact ⟨rfl, Rel_of ⟨s1, ⟨o1, by rw [o2]; exact s2.2⟩, s3⟩ (hP.cgV f1 v1) f2.a.out (hM1.cgA f2.a v2)⟩
theorem b_home {h x : Int} (hR : Rel b D) : Bo L b 79 146 [vI h, vI x] D := by
  obtain ⟨G, V, W, K, T, len, rn, rf, w, fn, fc, fy, hS, hP, hM⟩ := hR
  refine (p_home hS.1 hP.2.1 hS.2.1.1).mono ?_
  rintro r D1 ⟨rfl, rfl⟩
  refine ⟨by first | rfl | exact f1 1000 (by omega) | exact f1 1000 (by omega) (by omega) | exact f1 1000 (by omega) (by omega) (by omega) | exact k1 1000 (by omega) (by omega) (by omega) | exact k1.1 1000 (by omega) (by omega) | exact ups_fn (by decide), ?_⟩
  refine (m_home hS.1 hM.2.1 hS.2.1.1).mono ?_
  rintro r' D2 ⟨rfl, rfl⟩
  exact ⟨rfl, Rel_of hS.up hP (fun _ _ => rfl) hM⟩
theorem b_year (hR : Rel b D) (hb : b ≤ 5000) : Bo L b 80 149 [] D := by
  obtain ⟨G, V, W, K, T, len, rn, rf, w, fn, fc, fy, hS, hP, hM⟩ := hR
  have hy := hS.2.1.2
  refine (p_year hS.1 hP.1 hP.2.1 hS.2.1.1 (by omega)).mono ?_
  rintro r D1 ⟨rfl, f1, v1⟩
  have hM1 := hM.cg (D' := D1) (fun a a1 a2 => f1 a (by omega))
  refine ⟨by first | rfl | exact f1 1000 (by omega) | exact f1 1000 (by omega) (by omega) | exact f1 1000 (by omega) (by omega) (by omega) | exact k1 1000 (by omega) (by omega) (by omega) | exact k1.1 1000 (by omega) (by omega) | exact ups_fn (by decide), ?_⟩
  refine (m_year hS.1 hM1.1 hM1.2.1 hS.2.1.1 (by omega)).mono ?_
  rintro r' D2 ⟨rfl, f2, v2⟩
  obtain ⟨s1, s2, s3⟩ := hS.up
  have o1 := yearV_ok hS.1 hS.2.1.1 (by omega)
  have o2 := yearV_yr (G := G) (V := V)
  exact ⟨rfl, Rel_of ⟨s1, ⟨o1, by omega⟩, s3⟩ (hP.cgV f1 v1) f2.a.out (hM1.cgA f2.a v2)⟩
theorem b_down {h n : Int} (hR : Rel b D) (hb : b ≤ 5000) : Bo L b 81 156 [vI h, vI n] D := by
  obtain ⟨G, V, W, K, T, len, rn, rf, w, fn, fc, fy, hS, hP, hM⟩ := hR
  have hy := hS.2.1.2
  refine (p_down hS.1 hP.1 hP.2.1 hS.2.1.1 (by omega)).mono ?_
  rintro r D1 ⟨h1, f1⟩
  have hM1 := hM.cg (D' := D1) (fun a a1 a2 => f1 a (by omega))
  refine ⟨by first | rfl | exact f1 1000 (by omega) | exact f1 1000 (by omega) (by omega) | exact f1 1000 (by omega) (by omega) (by omega) | exact k1 1000 (by omega) (by omega) (by omega) | exact k1.1 1000 (by omega) (by omega) | exact ups_fn (by decide), ?_⟩
  refine (m_down hS.1 hM1.1 hM1.2.1 hS.2.1.1 (by omega)).mono ?_
  rintro r' D2 ⟨h2, f2, v2⟩
  refine ⟨?_, Rel_of hS.up (hP.cg (D' := D1) (fun a ha => f1 a (by omega))) f2.out (hM1.cgA f2 v2)⟩
  rcases h1 with ⟨a1, rfl⟩ | ⟨a1, b1, rfl⟩ | ⟨a1, b1, rfl⟩ <;> rcases h2 with ⟨a2, rfl⟩ | ⟨a2, b2, rfl⟩ | ⟨a2, b2, rfl⟩ <;> first | rfl | exact absurd a1 a2 | exact absurd a2 a1 | exact absurd b1 b2 | exact absurd b2 b1
theorem b_off {h n x : Int} (hR : Rel b D) (hb : b ≤ 5000) : Bo L b 82 157 [vI h, vI n, vI x] D := by
  obtain ⟨G, V, W, K, T, len, rn, rf, w, fn, fc, fy, hS, hP, hM⟩ := hR
  have hy := hS.2.1.2
  refine (p_off hS.1 hP.1 hP.2.1 hS.2.1.1 (by omega)).mono ?_
  rintro r D1 ⟨h1, f1⟩
  have hM1 := hM.cg (D' := D1) (fun a a1 a2 => f1 a (by omega))
  refine ⟨by first | rfl | exact f1 1000 (by omega) | exact f1 1000 (by omega) (by omega) | exact f1 1000 (by omega) (by omega) (by omega) | exact k1 1000 (by omega) (by omega) (by omega) | exact k1.1 1000 (by omega) (by omega) | exact ups_fn (by decide), ?_⟩
  refine (m_offc hS.1 hM1.1 hM1.2.1 hS.2.1.1 (by omega)).mono ?_
  rintro r' D2 ⟨h2, f2, v2⟩
  refine ⟨?_, Rel_of hS.up (hP.cg (D' := D1) (fun a ha => f1 a (by omega))) f2.out (hM1.cgA f2 v2)⟩
  rcases h1 with ⟨a1, rfl⟩ | ⟨a1, b1, rfl⟩ | ⟨a1, b1, rfl⟩ <;> rcases h2 with ⟨a2, rfl⟩ | ⟨a2, b2, rfl⟩ | ⟨a2, b2, rfl⟩ <;> first | rfl | exact absurd a1 a2 | exact absurd a2 a1 | exact absurd b1 b2 | exact absurd b2 b1
theorem b_mended {rule h n : Int} (hR : Rel b D) (hb : b ≤ 5000) : Bo L b 84 159 [vI rule, vI h, vI n] D := by
  obtain ⟨G, V, W, K, T, len, rn, rf, w, fn, fc, fy, hS, hP, hM⟩ := hR
  have hy := hS.2.1.2
  refine (p_mended hS.1 hP.1 hP.2.1 hS.2.1.1 (by omega)).mono ?_
  rintro r D1 ⟨h1, f1⟩
  have hM1 := hM.cg (D' := D1) (fun a a1 a2 => f1 a (by omega))
  refine ⟨by first | rfl | exact f1 1000 (by omega) | exact f1 1000 (by omega) (by omega) | exact f1 1000 (by omega) (by omega) (by omega) | exact k1 1000 (by omega) (by omega) (by omega) | exact k1.1 1000 (by omega) (by omega) | exact ups_fn (by decide), ?_⟩
  refine (m_mended hS.1 hM1.1 hM1.2.1 hS.2.1.1 (by omega)).mono ?_
  rintro r' D2 ⟨h2, f2, v2⟩
  refine ⟨?_, Rel_of hS.up (hP.cg (D' := D1) (fun a ha => f1 a (by omega))) f2.out (hM1.cgA f2 v2)⟩
  rcases h1 with ⟨a1, rfl⟩ | ⟨a1, b1, rfl⟩ | ⟨a1, b1, rfl⟩ <;> rcases h2 with ⟨a2, rfl⟩ | ⟨a2, b2, rfl⟩ | ⟨a2, b2, rfl⟩ <;> first | rfl | exact absurd a1 a2 | exact absurd a2 a1 | exact absurd b1 b2 | exact absurd b2 b1
theorem b_bestRule {h n : Int} (hR : Rel b D) (hb : b ≤ 5000) : Bo L b 85 160 [vI h, vI n] D := by
  obtain ⟨G, V, W, K, T, len, rn, rf, w, fn, fc, fy, hS, hP, hM⟩ := hR
  have hy := hS.2.1.2
  refine (p_best hS.1 hP.1 hP.2.1 hS.2.1.1 (by omega)).mono ?_
  rintro r D1 ⟨h1, f1⟩
  have hM1 := hM.cg (D' := D1) (fun a a1 a2 => f1 a (by omega))
  refine ⟨by first | rfl | exact f1 1000 (by omega) | exact f1 1000 (by omega) (by omega) | exact f1 1000 (by omega) (by omega) (by omega) | exact k1 1000 (by omega) (by omega) (by omega) | exact k1.1 1000 (by omega) (by omega) | exact ups_fn (by decide), ?_⟩
  refine (m_best hS.1 hM1.1 hM1.2.1 hS.2.1.1 (by omega)).mono ?_
  rintro r' D2 ⟨h2, f2, v2⟩
  refine ⟨?_, Rel_of hS.up (hP.cg (D' := D1) (fun a ha => f1 a (by omega))) f2.out (hM1.cgA f2 v2)⟩
  rcases h1 with ⟨a1, rfl⟩ | ⟨a1, b1, rfl⟩ | ⟨a1, b1, rfl⟩ <;> rcases h2 with ⟨a2, rfl⟩ | ⟨a2, b2, rfl⟩ | ⟨a2, b2, rfl⟩ <;> first | rfl | exact absurd a1 a2 | exact absurd a2 a1 | exact absurd b1 b2 | exact absurd b2 b1
theorem b_takes {rule n : Int} (hR : Rel b D) (hb : b ≤ 5000) : Bo L b 83 158 [vI rule, vI n] D := by
  obtain ⟨G, V, W, K, T, len, rn, rf, w, fn, fc, fy, hS, hP, hM⟩ := hR
  have hy := hS.2.1.2
  refine (p_takes hS.1 hP.1 hP.2.1 hS.2.1.1 (by omega)).mono ?_
  rintro r D1 ⟨h1, f1⟩
  have hM1 := hM.cg (D' := D1) (fun a a1 a2 => f1 a (by omega))
  refine ⟨by first | rfl | exact f1 1000 (by omega) | exact f1 1000 (by omega) (by omega) | exact f1 1000 (by omega) (by omega) (by omega) | exact k1 1000 (by omega) (by omega) (by omega) | exact k1.1 1000 (by omega) (by omega) | exact ups_fn (by decide), ?_⟩
  refine (m_takes hS.1 hM1.1 hM1.2.1 hS.2.1.1 (by omega)).mono ?_
  rintro r' D2 ⟨h2, f2, v2⟩
  refine ⟨?_, Rel_of hS.up (hP.cg (D' := D1) (fun a ha => f1 a (by omega))) f2.out (hM1.cgA f2 v2)⟩
  rcases h1 with ⟨a1, rfl⟩ | ⟨a1, rfl⟩ <;> rcases h2 with ⟨a2, rfl⟩ | ⟨a2, rfl⟩ <;> first | rfl | exact absurd a1 a2 | exact absurd a2 a1
theorem b_build {a x n : Int} (hR : Rel b D) : Bo L b 86 162 [vI a, vI x, vI n] D := by
  obtain ⟨G, V, W, K, T, len, rn, rf, w, fn, fc, fy, hS, hP, hM⟩ := hR
  refine (p_build hS.1 hP.1).mono ?_
  rintro r D1 ⟨h1, rfl⟩
  refine ⟨by first | rfl | exact f1 1000 (by omega) | exact f1 1000 (by omega) (by omega) | exact f1 1000 (by omega) (by omega) (by omega) | exact k1 1000 (by omega) (by omega) (by omega) | exact k1.1 1000 (by omega) (by omega) | exact ups_fn (by decide), ?_⟩
  refine (m_build hS.1 hM.1).mono ?_
  rintro r' D2 ⟨h2, rfl⟩
  exact ⟨bldA_uniq h1 h2, Rel_of hS.up hP (fun _ _ => rfl) hM⟩
end Both
