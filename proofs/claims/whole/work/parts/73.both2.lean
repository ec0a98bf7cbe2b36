/-! each call, the rest: water, rings, finds, slots, count -/
section Both2
variable {L : Nat} {D D' : ab_D} {b : Int} {G : Gr} {V : Vil} {W W' : Int → Vil} {K K' T : Int → Int} {len rn rn' : Int} {rf rf' w w' : Nat → Int} {fn fn' : Int} {fc fy fc' fy' : Nat → Int}
theorem RP.cgW (h : ∀ a, a ≠ 59 → a ≠ 60 → D' a = D a) (hW : pW D' rn' rf') (q : RP D G V W K T len rn rf w fn fc fy) : RP D' G V W K T len rn' rf' w fn fc fy := by
  obtain ⟨q1, q2, q3, q4, q5, q6, q7, q8⟩ := q
  exact ⟨q1.congr (h 7 (by decide) (by decide)) (h 8 (by decide) (by decide)), vP_cg (fun a a1 a2 => h a (by omega) (by omega)) q2, q3.cg (fun j _ => by rw [h 58 (by decide) (by decide)]) (fun a a1 a2 => h a (by omega) (by omega)), q4.cg (by rw [h 0 (by decide) (by decide)]) (h 1 (by decide) (by decide)), hW, (h 62 (by decide) (by decide)).trans q6, q7.cg (by rw [h 63 (by decide) (by decide)]) (fun a a1 a2 => h a (by omega) (by omega)), q8.cg (h 1001 (by decide) (by decide)) (h 1002 (by decide) (by decide))⟩
theorem RM.cgW (h : ∀ a, a ≠ 69 → a ≠ 81 → D' a = D a) (e : ∀ j, j ≠ 19 → D' 69 j = D 69 j) (hW : mW D' rn' rf') (q : RM D G V W K T len rn rf w fn fc fy) : RM D' G V W K T len rn' rf' w fn fc fy := by
  obtain ⟨q1, q2, q3, q4, q5, q6, q7⟩ := q
  exact ⟨q1.congr (h 71 (by decide) (by decide)), vM_cg (e 8 (by decide)) (e 10 (by decide)) (e 12 (by decide)) (h 74 (by decide) (by decide)) (h 75 (by decide) (by decide)) q2, q3.cg (fun j _ => by rw [h 77 (by decide) (by decide)]) (fun k _ _ => by rw [h 78 (by decide) (by decide)]) (fun k _ _ => by rw [h 79 (by decide) (by decide)]) (fun k _ _ => by rw [h 80 (by decide) (by decide)]), q4.cg (e 4 (by decide)) (h 73 (by decide) (by decide)), hW, (h 82 (by decide) (by decide)).trans q6, q7.cg (e 22 (by decide)) (h 83 (by decide) (by decide)) (h 84 (by decide) (by decide))⟩
theorem b_rise {x : Int} (hR : Rel b D) : Bo L b 87 163 [vI x] D := by
  obtain ⟨G, V, W, K, T, len, rn, rf, w, fn, fc, fy, hS, hP, hM⟩ := hR
  obtain ⟨e1, e2⟩ := hP.2.2.2.2.1
  have hr := hS.2.2.2.2.1
  refine (p_rise (by omega)).mono ?_
  intro r D1 h1
  have f1 : ∀ a, a ≠ 59 → a ≠ 60 → D1 a = D a := by
    rcases h1 with ⟨_, _, rfl⟩ | ⟨_, _, _, rfl⟩ | ⟨_, _, _, rfl⟩
    · exact fun _ _ _ => rfl
    · exact fun _ _ _ => rfl
    · exact fun a h1 h2 => (ups_fn h1).trans (ups_fn h2)
  have hM1 := hM.cg (D' := D1) (fun a a1 a2 => f1 a (by omega) (by omega))
  obtain ⟨e3, e4⟩ := hM1.2.2.2.2.1
  refine ⟨by first | rfl | exact f1 1000 (by omega) | exact f1 1000 (by omega) (by omega) | exact f1 1000 (by omega) (by omega) (by omega) | exact k1 1000 (by omega) (by omega) (by omega) | exact k1.1 1000 (by omega) (by omega) | exact ups_fn (by decide), ?_⟩
  refine (m_rise (by omega)).mono ?_
  intro r' D2 h2
  rw [e1] at h1
  rw [e3] at h2
  rcases h1 with ⟨a1, rfl, rfl⟩ | ⟨a1, b1, rfl, rfl⟩ | ⟨a1, b1, rfl, h1⟩
  · rcases h2 with ⟨a2, rfl, rfl⟩ | ⟨a2, _⟩ | ⟨a2, _⟩
    · exact ⟨rfl, Rel_of hS.up hP (fun _ _ => rfl) hM⟩
    · exact absurd a2 a1
    · exact absurd a2 a1
  · rcases h2 with ⟨a2, _⟩ | ⟨a2, b2, rfl, rfl⟩ | ⟨a2, b2, _⟩
    · exact absurd a1 a2
    · exact ⟨rfl, Rel_of hS.up hP (fun _ _ => rfl) hM⟩
    · omega
  · rcases h2 with ⟨a2, _⟩ | ⟨a2, b2, _⟩ | ⟨a2, b2, rfl, h2⟩
    · exact absurd a1 a2
    · omega
    · have n1 : D1 59 1 = rn + 1 := by rw [h1, ups_self]
      have n2 : D2 69 19 = rn + 1 := by rw [h2, ups_self]
      have n3 : D2 81 = D1 60 := by
        funext j
        rw [h2, ups_ne1 (by decide), ups_at, e4, h1, ups_ne1 (by decide), ups_at, e2]
      refine ⟨rfl, Rel_of (rn := rn + 1) (rf := D1 60) ?_ (hP.cgW f1 ⟨n1, rfl⟩) (fun a ha => by rw [h2, ups_fn (by omega), ups_fn (by omega)]) (hM1.cgW (fun a q1 q2 => by rw [h2, ups_fn q1, ups_fn q2]) (fun j hj => by rw [h2, ups_ne2 hj, ups_ne1 (by decide)]) ⟨n2, n3⟩)⟩
      obtain ⟨s1, s2, s3, s4, s5, s6, s7⟩ := hS.up
      refine ⟨s1, s2, s3, s4, ⟨by omega, fun k hk => ?_⟩, s6, s7⟩
      rw [h1, ups_ne1 (by decide), ups_at, e2]
      split
      · omega
      · exact s5.2 k (by omega)
theorem b_calm (hR : Rel b D) : Bo L b 88 164 [] D := by
  obtain ⟨G, V, W, K, T, len, rn, rf, w, fn, fc, fy, hS, hP, hM⟩ := hR
  obtain ⟨e1, e2⟩ := hP.2.2.2.2.1
  refine p_calm.mono ?_
  rintro r D1 ⟨rfl, rfl⟩
  have hM1 := hM.cg (D' := ups D 59 1 0) (fun a a1 a2 => ups_fn (by omega))
  obtain ⟨e3, e4⟩ := hM1.2.2.2.2.1
  refine ⟨by first | rfl | exact f1 1000 (by omega) | exact f1 1000 (by omega) (by omega) | exact f1 1000 (by omega) (by omega) (by omega) | exact k1 1000 (by omega) (by omega) (by omega) | exact k1.1 1000 (by omega) (by omega) | exact ups_fn (by decide), ?_⟩
  refine m_calm.mono ?_
  rintro r' D2 ⟨rfl, rfl⟩
  refine ⟨by rw [e1, e3], Rel_of (rn := 0) (rf := rf) ?_ (hP.cgW (fun a q1 _ => ups_fn q1) ⟨ups_self, (ups_fn (by decide)).trans e2⟩) (fun a ha => ups_fn (by omega)) (hM1.cgW (fun a q1 _ => ups_fn q1) (fun j hj => ups_ne2 hj) ⟨ups_self, (ups_fn (by decide)).trans e4⟩)⟩
  obtain ⟨s1, s2, s3, s4, s5, s6, s7⟩ := hS.up
  exact ⟨s1, s2, s3, s4, ⟨by omega, fun k hk => absurd hk (by omega)⟩, s6, s7⟩
theorem b_wet {f n u : Int} (hR : Rel b D) : BoL L b 89 167 [vI f, vI n, vI u] D := by
  obtain ⟨G, V, W, K, T, len, rn, rf, w, fn, fc, fy, hS, hP, hM⟩ := hR
  obtain ⟨e1, e2⟩ := hP.2.2.2.2.1
  obtain ⟨e3, e4⟩ := hM.2.2.2.2.1
  have hr := hS.2.2.2.2.1
  refine (p_wet (by omega)).mono ?_
  rintro r D1 ⟨rfl, rfl⟩
  refine ⟨by first | rfl | exact f1 1000 (by omega) | exact f1 1000 (by omega) (by omega) | exact f1 1000 (by omega) (by omega) (by omega) | exact k1 1000 (by omega) (by omega) (by omega) | exact k1.1 1000 (by omega) (by omega) | exact ups_fn (by decide), ?_⟩
  refine (m_wet (by omega)).mono ?_
  rintro r' D2 ⟨rfl, rfl⟩
  exact ⟨by rw [e1, e2, e3, e4], Rel_of hS.up hP (fun _ _ => rfl) hM⟩
theorem b_dry {n x : Int} (hR : Rel b D) : Bo L b 90 168 [vI n, vI x] D := by
  obtain ⟨G, V, W, K, T, len, rn, rf, w, fn, fc, fy, hS, hP, hM⟩ := hR
  obtain ⟨e1, e2⟩ := hP.2.2.2.2.1
  obtain ⟨e3, e4⟩ := hM.2.2.2.2.1
  have hr := hS.2.2.2.2.1
  refine (p_dry (by omega)).mono ?_
  rintro r D1 ⟨h1, rfl⟩
  refine ⟨by first | rfl | exact f1 1000 (by omega) | exact f1 1000 (by omega) (by omega) | exact f1 1000 (by omega) (by omega) (by omega) | exact k1 1000 (by omega) (by omega) (by omega) | exact k1.1 1000 (by omega) (by omega) | exact ups_fn (by decide), ?_⟩
  refine (m_dry (by omega) (fun k hk => by rw [e4]; exact hr.2 k (by omega))).mono ?_
  rintro r' D2 ⟨h2, rfl⟩
  refine ⟨?_, Rel_of hS.up hP (fun _ _ => rfl) hM⟩
  rw [e1, e2] at h1
  rw [e3, e4] at h2
  rcases h1 with ⟨a1, rfl⟩ | ⟨a1, b1, rfl⟩ | ⟨a1, b1, h1⟩ <;> rcases h2 with ⟨a2, rfl⟩ | ⟨a2, b2, rfl⟩ | ⟨a2, b2, h2⟩
  · rfl
  · exact absurd a2 a1
  · exact absurd a2 a1
  · exact absurd a1 a2
  · rfl
  · omega
  · exact absurd a1 a2
  · omega
  · exact isDry_uniq h1 h2
theorem RP.cgR (h : ∀ a, a ≠ 62 → D' a = D a) (hW : D' 62 = w') (q : RP D G V W K T len rn rf w fn fc fy) : RP D' G V W K T len rn rf w' fn fc fy := by
  obtain ⟨q1, q2, q3, q4, q5, q6, q7, q8⟩ := q
  exact ⟨q1.congr (h 7 (by decide)) (h 8 (by decide)), vP_cg (fun a a1 a2 => h a (by omega)) q2, q3.cg (fun j _ => by rw [h 58 (by decide)]) (fun a a1 a2 => h a (by omega)), q4.cg (by rw [h 0 (by decide)]) (h 1 (by decide)), q5.cg (by rw [h 59 (by decide)]) (h 60 (by decide)), hW, q7.cg (by rw [h 63 (by decide)]) (fun a a1 a2 => h a (by omega)), q8.cg (h 1001 (by decide)) (h 1002 (by decide))⟩
theorem RM.cgR (h : ∀ a, a ≠ 82 → D' a = D a) (hW : D' 82 = w') (q : RM D G V W K T len rn rf w fn fc fy) : RM D' G V W K T len rn rf w' fn fc fy := by
  obtain ⟨q1, q2, q3, q4, q5, q6, q7⟩ := q
  have e := h 69 (by decide)
  exact ⟨q1.congr (h 71 (by decide)), vM_cg (by rw [e]) (by rw [e]) (by rw [e]) (h 74 (by decide)) (h 75 (by decide)) q2, q3.cg (fun j _ => by rw [h 77 (by decide)]) (fun k _ _ => by rw [h 78 (by decide)]) (fun k _ _ => by rw [h 79 (by decide)]) (fun k _ _ => by rw [h 80 (by decide)]), q4.cg (by rw [e]) (h 73 (by decide)), q5.cg (by rw [e]) (h 81 (by decide)), hW, q7.cg (by rw [e]) (h 83 (by decide)) (h 84 (by decide))⟩
theorem b_ring {y x : Int} (hR : Rel b D) : Bo L b 91 169 [vI y, vI x] D := by
  obtain ⟨G, V, W, K, T, len, rn, rf, w, fn, fc, fy, hS, hP, hM⟩ := hR
  have e1 := hP.2.2.2.2.2.1
  refine p_ring.mono ?_
  intro r D1 h1
  have f1 : ∀ a, a ≠ 62 → D1 a = D a := by
    rcases h1 with ⟨_, _, rfl⟩ | ⟨_, _, _, rfl⟩ | ⟨_, _, _, rfl⟩
    · exact fun _ _ => rfl
    · exact fun _ _ => rfl
    · exact fun a h1 => ups_fn h1
  have hM1 := hM.cg (D' := D1) (fun a a1 a2 => f1 a (by omega))
  have e2 := hM1.2.2.2.2.2.1
  refine ⟨by first | rfl | exact f1 1000 (by omega) | exact f1 1000 (by omega) (by omega) | exact f1 1000 (by omega) (by omega) (by omega) | exact k1 1000 (by omega) (by omega) (by omega) | exact k1.1 1000 (by omega) (by omega) | exact ups_fn (by decide), ?_⟩
  refine m_ring.mono ?_
  intro r' D2 h2
  rcases h1 with ⟨a1, rfl, rfl⟩ | ⟨a1, b1, rfl, rfl⟩ | ⟨a1, b1, rfl, h1⟩
  · rcases h2 with ⟨a2, rfl, rfl⟩ | ⟨a2, _⟩ | ⟨a2, _⟩
    · exact ⟨rfl, Rel_of hS.up hP (fun _ _ => rfl) hM⟩
    · exact absurd a2 a1
    · exact absurd a2 a1
  · rcases h2 with ⟨a2, _⟩ | ⟨a2, b2, rfl, rfl⟩ | ⟨a2, b2, _⟩
    · exact absurd a1 a2
    · exact ⟨rfl, Rel_of hS.up hP (fun _ _ => rfl) hM⟩
    · exact absurd b2 b1
  · rcases h2 with ⟨a2, _⟩ | ⟨a2, b2, _⟩ | ⟨a2, b2, rfl, h2⟩
    · exact absurd a1 a2
    · exact absurd b1 b2
    · have n3 : D2 82 = D1 62 := by
        funext j
        rw [h2, ups_at, e2, h1, ups_at, e1]
      refine ⟨by rw [e1, e2], Rel_of (w := D1 62) ?_ (hP.cgR f1 rfl) (fun a ha => by rw [h2, ups_fn (by omega)]) (hM1.cgR (fun a q1 => by rw [h2, ups_fn q1]) n3)⟩
      obtain ⟨s1, s2, s3, s4, s5, s6, s7⟩ := hS.up
      refine ⟨s1, s2, s3, s4, s5, fun k hk => ?_, s7⟩
      rw [h1, ups_at, e1]
      split
      · exact b1
      · exact s6 k hk
theorem b_match {n v y : Int} (hR : Rel b D) : Bo L b 92 172 [vI n, vI v, vI y] D := by
  obtain ⟨G, V, W, K, T, len, rn, rf, w, fn, fc, fy, hS, hP, hM⟩ := hR
  have e1 := hP.2.2.2.2.2.1
  have e2 := hM.2.2.2.2.2.1
  have hw := hS.2.2.2.2.2.1
  refine (p_match hP.2.2.2.2.2.2.2.2 (by rw [e1]; exact hw)).mono ?_
  rintro r D1 ⟨h1, rfl⟩
  refine ⟨by first | rfl | exact f1 1000 (by omega) | exact f1 1000 (by omega) (by omega) | exact f1 1000 (by omega) (by omega) (by omega) | exact k1 1000 (by omega) (by omega) (by omega) | exact k1.1 1000 (by omega) (by omega) | exact ups_fn (by decide), ?_⟩
  refine (m_match (by rw [e2]; exact hw)).mono ?_
  rintro r' D2 ⟨h2, rfl⟩
  refine ⟨?_, Rel_of hS.up hP (fun _ _ => rfl) hM⟩
  rw [e1] at h1
  rw [e2] at h2
  rcases h1 with ⟨a1, rfl⟩ | ⟨a1, b1, rfl⟩ | ⟨a1, b1, rfl⟩ <;> rcases h2 with ⟨a2, rfl⟩ | ⟨a2, b2, rfl⟩ | ⟨a2, b2, rfl⟩ <;> first | rfl | exact absurd a1 a2 | exact absurd a2 a1 | exact absurd b1 b2 | exact absurd b2 b1
theorem b_dated {n v : Int} (hR : Rel b D) : Bo L b 93 174 [vI n, vI v] D := by
  obtain ⟨G, V, W, K, T, len, rn, rf, w, fn, fc, fy, hS, hP, hM⟩ := hR
  have e1 := hP.2.2.2.2.2.1
  have e2 := hM.2.2.2.2.2.1
  have hw := hS.2.2.2.2.2.1
  refine (p_dated hP.2.2.2.2.2.2.2.2 (by rw [e1]; exact hw)).mono ?_
  rintro r D1 ⟨h1, rfl⟩
  refine ⟨by first | rfl | exact f1 1000 (by omega) | exact f1 1000 (by omega) (by omega) | exact f1 1000 (by omega) (by omega) (by omega) | exact k1 1000 (by omega) (by omega) (by omega) | exact k1.1 1000 (by omega) (by omega) | exact ups_fn (by decide), ?_⟩
  refine (m_dated (by rw [e2]; exact hw)).mono ?_
  rintro r' D2 ⟨h2, rfl⟩
  refine ⟨?_, Rel_of hS.up hP (fun _ _ => rfl) hM⟩
  rw [e1] at h1
  rw [e2] at h2
  rcases h1 with ⟨a1, rfl⟩ | ⟨a1, h1⟩ <;> rcases h2 with ⟨a2, rfl⟩ | ⟨a2, h2⟩
  · rfl
  · exact absurd a2 a1
  · exact absurd a1 a2
  · exact isArg_uniq h1 h2
theorem b_sure {n v : Int} (hR : Rel b D) : Bo L b 94 175 [vI n, vI v] D := by
  obtain ⟨G, V, W, K, T, len, rn, rf, w, fn, fc, fy, hS, hP, hM⟩ := hR
  have e1 := hP.2.2.2.2.2.1
  have e2 := hM.2.2.2.2.2.1
  have hw := hS.2.2.2.2.2.1
  refine (p_sure hP.2.2.2.2.2.2.2.2 (by rw [e1]; exact hw)).mono ?_
  rintro r D1 ⟨h1, rfl⟩
  refine ⟨by first | rfl | exact f1 1000 (by omega) | exact f1 1000 (by omega) (by omega) | exact f1 1000 (by omega) (by omega) (by omega) | exact k1 1000 (by omega) (by omega) (by omega) | exact k1.1 1000 (by omega) (by omega) | exact ups_fn (by decide), ?_⟩
  refine (m_sure (by rw [e2]; exact hw)).mono ?_
  rintro r' D2 ⟨h2, rfl⟩
  refine ⟨?_, Rel_of hS.up hP (fun _ _ => rfl) hM⟩
  rw [e1] at h1
  rw [e2] at h2
  rcases h1 with ⟨a1, rfl⟩ | ⟨a1, h1⟩ <;> rcases h2 with ⟨a2, rfl⟩ | ⟨a2, h2⟩
  · rfl
  · exact absurd a2 a1
  · exact absurd a1 a2
  · obtain ⟨x1, y1, p1, p2, rfl⟩ := h1
    obtain ⟨x2, y2, q1, q2, rfl⟩ := h2
    have z := isArg_uniq p1 q1
    subst z
    have z := isArg_uniq p2 q2
    subst z
    rfl
theorem RP.cgF (h : ∀ a, ¬ (63 ≤ a ∧ a ≤ 68) → D' a = D a) (hW : pF D' fn' fc' fy') (q : RP D G V W K T len rn rf w fn fc fy) : RP D' G V W K T len rn rf w fn' fc' fy' := by
  obtain ⟨q1, q2, q3, q4, q5, q6, q7, q8⟩ := q
  exact ⟨q1.congr (h 7 (by decide)) (h 8 (by decide)), vP_cg (fun a a1 a2 => h a (by omega)) q2, q3.cg (fun j _ => by rw [h 58 (by decide)]) (fun a a1 a2 => h a (by omega)), q4.cg (by rw [h 0 (by decide)]) (h 1 (by decide)), q5.cg (by rw [h 59 (by decide)]) (h 60 (by decide)), (h 62 (by decide)).trans q6, hW, q8.cg (h 1001 (by decide)) (h 1002 (by decide))⟩
theorem RM.cgF (h : ∀ a, a ≠ 69 → a ≠ 83 → a ≠ 84 → D' a = D a) (e : ∀ j, j ≠ 22 → D' 69 j = D 69 j) (hW : mF D' fn' fc' fy') (q : RM D G V W K T len rn rf w fn fc fy) : RM D' G V W K T len rn rf w fn' fc' fy' := by
  obtain ⟨q1, q2, q3, q4, q5, q6, q7⟩ := q
  exact ⟨q1.congr (h 71 (by decide) (by decide) (by decide)), vM_cg (e 8 (by decide)) (e 10 (by decide)) (e 12 (by decide)) (h 74 (by decide) (by decide) (by decide)) (h 75 (by decide) (by decide) (by decide)) q2, q3.cg (fun j _ => by rw [h 77 (by decide) (by decide) (by decide)]) (fun k _ _ => by rw [h 78 (by decide) (by decide) (by decide)]) (fun k _ _ => by rw [h 79 (by decide) (by decide) (by decide)]) (fun k _ _ => by rw [h 80 (by decide) (by decide) (by decide)]), q4.cg (e 4 (by decide)) (h 73 (by decide) (by decide) (by decide)), q5.cg (e 19 (by decide)) (h 81 (by decide) (by decide) (by decide)), (h 82 (by decide) (by decide) (by decide)).trans q6, hW⟩
theorem upr_fn {a a' : Nat} {f : Nat → Int} (h : a' ≠ a) : upr D a f a' = D a' := upr_ne h
theorem b_find {c x y : Int} (hR : Rel b D) : Bo L b 95 176 [vI c, vI x, vI y] D := by
  obtain ⟨G, V, W, K, T, len, rn, rf, w, fn, fc, fy, hS, hP, hM⟩ := hR
  obtain ⟨e1, e2, e3, e4⟩ := hP.2.2.2.2.2.2.1
  have hk := hS.2.2.2.2.2.2
  have hn : D 7 0 = G.n := hP.1.1.1
  have hn6 := hS.1.1
  refine (p_find (by rw [e1, e2, e3]; exact hk) (by omega)).mono ?_
  intro r D1 h1
  have f1 : ∀ a, ¬ (63 ≤ a ∧ a ≤ 68) → D1 a = D a := by
    rcases h1 with ⟨_, _, rfl⟩ | ⟨_, _, _, rfl⟩ | ⟨_, _, _, l, mm, bb, h1, _⟩
    · exact fun _ _ => rfl
    · exact fun _ _ => rfl
    · intro a ha
      rw [h1, upr_ne (by omega), upr_ne (by omega), upr_ne (by omega), ups_fn (by omega), ups_fn (by omega), ups_fn (by omega)]
  have hM1 := hM.cg (D' := D1) (fun a a1 a2 => f1 a (by omega))
  obtain ⟨g1, g2, g3⟩ := hM1.2.2.2.2.2.2
  have hm : D1 71 0 = G.n := hM1.1.1.1
  refine ⟨by first | rfl | exact f1 1000 (by omega) | exact f1 1000 (by omega) (by omega) | exact f1 1000 (by omega) (by omega) (by omega) | exact k1 1000 (by omega) (by omega) (by omega) | exact k1.1 1000 (by omega) (by omega) | exact ups_fn (by decide), ?_⟩
  refine (m_find (by rw [g1]; exact hk.1)).mono ?_
  intro r' D2 h2
  rw [hn] at h1
  rw [hm] at h2
  rcases h1 with ⟨a1, rfl, rfl⟩ | ⟨a1, b1, rfl, rfl⟩ | ⟨a1, b1, rfl, l, mm, bb, h1, hg⟩
  · rcases h2 with ⟨a2, rfl, rfl⟩ | ⟨a2, _⟩ | ⟨a2, _⟩
    · exact ⟨rfl, Rel_of hS.up hP (fun _ _ => rfl) hM⟩
    · exact absurd a2 a1
    · exact absurd a2 a1
  · rcases h2 with ⟨a2, _⟩ | ⟨a2, b2, rfl, rfl⟩ | ⟨a2, b2, _⟩
    · exact absurd a1 a2
    · exact ⟨rfl, Rel_of hS.up hP (fun _ _ => rfl) hM⟩
    · omega
  · rcases h2 with ⟨a2, _⟩ | ⟨a2, b2, _⟩ | ⟨a2, b2, rfl, h2⟩
    · exact absurd a1 a2
    · omega
    · have n1 : D1 63 1 = fn + 1 := by rw [h1, upr_ne (by decide), upr_ne (by decide), upr_ne (by decide), ups_self, e1]
      have n64 : ∀ j, D1 64 j = if j = fn.toNat then c else fc j := fun j => by rw [h1, upr_ne (by decide), upr_ne (by decide), upr_ne (by decide), ups_ne1 (by decide), ups_ne1 (by decide), ups_at, e1, e2]
      have n65 : ∀ j, D1 65 j = if j = fn.toNat then y else fy j := fun j => by rw [h1, upr_ne (by decide), upr_ne (by decide), upr_ne (by decide), ups_ne1 (by decide), ups_at, ups_fn (by decide), e1, e3]
      have n66 : D1 66 = l := by rw [h1, upr_ne (by decide), upr_ne (by decide), upr_self]
      have n67 : D1 67 = mm := by rw [h1, upr_ne (by decide), upr_self]
      have n68 : D1 68 = bb := by rw [h1, upr_self]
      have m1 : D2 69 22 = fn + 1 := by rw [h2, ups_self, g1]
      have m83 : D2 83 = D1 64 := by
        funext j
        rw [n64 j, h2, ups_ne1 (by decide), ups_ne1 (by decide), ups_at, g1, g2]
      have m84 : D2 84 = D1 65 := by
        funext j
        rw [n65 j, h2, ups_ne1 (by decide), ups_at, ups_fn (by decide), g1, g3]
      rw [e1] at hg
      refine ⟨by rw [e1, g1], Rel_of (fn := fn + 1) (fc := D1 64) (fy := D1 65) ?_ (hP.cgF f1 ⟨n1, rfl, rfl, by rw [n66, n67, n68]; exact hg⟩) (fun a ha => by rw [h2, ups_fn (by omega), ups_fn (by omega), ups_fn (by omega)]) (hM1.cgF (fun a q1 q2 q3 => by rw [h2, ups_fn q1, ups_fn q3, ups_fn q2]) (fun j hj => by rw [h2, ups_ne2 hj, ups_ne1 (by decide), ups_ne1 (by decide)]) ⟨m1, m83, m84⟩)⟩
      obtain ⟨s1, s2, s3, s4, s5, s6, s7⟩ := hS.up
      have s70 := s7.1
      refine ⟨s1, s2, s3, s4, s5, s6, ⟨by omega, fun i hi => ?_⟩⟩
      rw [n64, n65]
      by_cases q : i = fn.toNat
      · rw [if_pos q, if_pos q]
        obtain ⟨c1, c2, c3⟩ := a1
        unfold isCl at c1
        omega
      · rw [if_neg q, if_neg q]
        exact s7.2 i (by omega)
theorem b_unfind (hR : Rel b D) : Bo L b 96 177 [] D := by
  obtain ⟨G, V, W, K, T, len, rn, rf, w, fn, fc, fy, hS, hP, hM⟩ := hR
  obtain ⟨e1, e2, e3, e4⟩ := hP.2.2.2.2.2.2.1
  have hk := hS.2.2.2.2.2.2
  refine (p_unfind (by rw [e1, e2, e3]; exact hk)).mono ?_
  intro r D1 h1
  have f1 : ∀ a, ¬ (63 ≤ a ∧ a ≤ 68) → D1 a = D a := by
    rcases h1 with ⟨_, _, rfl⟩ | ⟨_, _, l, mm, bb, h1, _⟩
    · exact fun _ _ => rfl
    · intro a ha
      rw [h1, upr_ne (by omega), upr_ne (by omega), upr_ne (by omega), ups_fn (by omega)]
  have hM1 := hM.cg (D' := D1) (fun a a1 a2 => f1 a (by omega))
  obtain ⟨g1, g2, g3⟩ := hM1.2.2.2.2.2.2
  refine ⟨by first | rfl | exact f1 1000 (by omega) | exact f1 1000 (by omega) (by omega) | exact f1 1000 (by omega) (by omega) (by omega) | exact k1 1000 (by omega) (by omega) (by omega) | exact k1.1 1000 (by omega) (by omega) | exact ups_fn (by decide), ?_⟩
  refine (m_unfind (by rw [g1]; exact hk.1)).mono ?_
  intro r' D2 h2
  rcases h1 with ⟨a1, rfl, rfl⟩ | ⟨a1, rfl, l, mm, bb, h1, hg⟩
  · rcases h2 with ⟨a2, rfl, rfl⟩ | ⟨a2, _⟩
    · exact ⟨rfl, Rel_of hS.up hP (fun _ _ => rfl) hM⟩
    · omega
  · rcases h2 with ⟨a2, _⟩ | ⟨a2, rfl, h2⟩
    · omega
    · have n1 : D1 63 1 = fn - 1 := by rw [h1, upr_ne (by decide), upr_ne (by decide), upr_ne (by decide), ups_self, e1]
      have n64 : D1 64 = fc := by rw [h1, upr_ne (by decide), upr_ne (by decide), upr_ne (by decide), ups_fn (by decide), e2]
      have n65 : D1 65 = fy := by rw [h1, upr_ne (by decide), upr_ne (by decide), upr_ne (by decide), ups_fn (by decide), e3]
      have n66 : D1 66 = l := by rw [h1, upr_ne (by decide), upr_ne (by decide), upr_self]
      have n67 : D1 67 = mm := by rw [h1, upr_ne (by decide), upr_self]
      have n68 : D1 68 = bb := by rw [h1, upr_self]
      rw [e1, e2, e3] at hg
      refine ⟨by rw [e1, g1], Rel_of (fn := fn - 1) (fc := fc) (fy := fy) ?_ (hP.cgF f1 ⟨n1, n64, n65, by rw [n66, n67, n68]; exact hg⟩) (fun a ha => by rw [h2, ups_fn (by omega)]) (hM1.cgF (fun a q1 q2 q3 => by rw [h2, ups_fn q1]) (fun j hj => by rw [h2, ups_ne2 hj]) ⟨by rw [h2, ups_self, g1], by rw [h2, ups_fn (by decide), g2], by rw [h2, ups_fn (by decide), g3]⟩)⟩
      obtain ⟨s1, s2, s3, s4, s5, s6, s7⟩ := hS.up
      have s70 := s7.1
      exact ⟨s1, s2, s3, s4, s5, s6, ⟨by omega, fun i hi => s7.2 i (by omega)⟩⟩
theorem b_group {f : Int} (hR : Rel b D) : Bo L b 97 180 [vI f] D := by
  obtain ⟨G, V, W, K, T, len, rn, rf, w, fn, fc, fy, hS, hP, hM⟩ := hR
  obtain ⟨e1, e2, e3, h, hl, hg⟩ := hP.2.2.2.2.2.2.1
  obtain ⟨g1, g2, g3⟩ := hM.2.2.2.2.2.2
  have hk := hS.2.2.2.2.2.2
  refine (p_group (by rw [e1]; exact hk.1)).mono ?_
  rintro r D1 ⟨h1, rfl⟩
  refine ⟨by first | rfl | exact f1 1000 (by omega) | exact f1 1000 (by omega) (by omega) | exact f1 1000 (by omega) (by omega) (by omega) | exact k1 1000 (by omega) (by omega) (by omega) | exact k1.1 1000 (by omega) (by omega) | exact ups_fn (by decide), ?_⟩
  refine (m_group (h := h) (by rw [g1, g2, g3]; exact hk) (by rw [g1, g2, g3]; exact hl)).mono ?_
  rintro r' D2 ⟨a, b', c, rfl, h2⟩
  refine ⟨?_, Rel_of hS.up hP (fun a ha => up3_ne (by omega)) hM.cg3⟩
  rw [e1] at h1
  rw [g1] at h2
  rcases h1 with ⟨a1, rfl⟩ | ⟨a1, rfl⟩ <;> rcases h2 with ⟨a2, rfl⟩ | ⟨a2, rfl⟩
  · rfl
  · exact absurd a2 a1
  · exact absurd a1 a2
  · exact (hg f.toNat (by omega)).1
theorem gmin_lt {h : Nat → Nat} {y : Nat → Int} {g : Nat} : ∀ k, (∀ i, i < k → y i < 60) → 0 < cnt (gsz h g) k → gmin h y g k < 60 := by
  intro k
  induction k with
  | zero => intro _ q; exact absurd q (show ¬ (0 : Int) < 0 by decide)
  | succ k ih =>
    intro hy q
    have yk := hy k (by omega)
    rw [gmin]
    by_cases z : h k = g
    · rw [if_pos z]
      split <;> omega
    · rw [if_neg z]
      refine ih (fun i hi => hy i (by omega)) ?_
      rw [cnt, show gsz h g k = false from decide_eq_false z] at q
      simpa using q
theorem b_houses (hR : Rel b D) : Bo L b 98 181 [] D := by
  obtain ⟨G, V, W, K, T, len, rn, rf, w, fn, fc, fy, hS, hP, hM⟩ := hR
  obtain ⟨e1, e2, e3, h, hl, hg⟩ := hP.2.2.2.2.2.2.1
  obtain ⟨g1, g2, g3⟩ := hM.2.2.2.2.2.2
  have hk := hS.2.2.2.2.2.2
  refine (p_houses (h := h) (by rw [e1, e2, e3]; exact hk) (by rw [e1, e2, e3]; exact hl) (by rw [e1, e3]; exact hg)).mono ?_
  rintro r D1 ⟨rfl, rfl⟩
  refine ⟨by first | rfl | exact f1 1000 (by omega) | exact f1 1000 (by omega) (by omega) | exact f1 1000 (by omega) (by omega) (by omega) | exact k1 1000 (by omega) (by omega) (by omega) | exact k1.1 1000 (by omega) (by omega) | exact ups_fn (by decide), ?_⟩
  refine (m_houses (h := h) (by rw [g1, g2, g3]; exact hk) (by rw [g1, g2, g3]; exact hl)).mono ?_
  rintro r' D2 ⟨a, b', c, rfl, rfl⟩
  refine ⟨?_, Rel_of hS.up hP (fun a ha => up3_ne (by omega)) hM.cg3⟩
  rw [e1, e3, g1]
  refine cnt_congr (fun j hj => ?_)
  unfold hseBy
  by_cases z : 2 < cnt (gsz h j) fn.toNat
  · have q := gmin_lt (h := h) (y := fy) (g := j) fn.toNat (fun i hi => (hk.2 i (by omega)).2.2) (by omega)
    rw [decide_eq_true z, decide_eq_true ⟨z, by omega⟩]
  · rw [decide_eq_false z, decide_eq_false (fun q => z q.1)]
theorem b_later {f : Int} (hR : Rel b D) : Bo L b 99 182 [vI f] D := by
  obtain ⟨G, V, W, K, T, len, rn, rf, w, fn, fc, fy, hS, hP, hM⟩ := hR
  obtain ⟨e1, e2, e3, h, hl, hg⟩ := hP.2.2.2.2.2.2.1
  obtain ⟨g1, g2, g3⟩ := hM.2.2.2.2.2.2
  have hk := hS.2.2.2.2.2.2
  refine (p_later (h := h) (by rw [e1, e2, e3]; exact hk) (by rw [e1, e2, e3]; exact hl) (by rw [e1, e3]; exact hg)).mono ?_
  rintro r D1 ⟨h1, rfl⟩
  refine ⟨by first | rfl | exact f1 1000 (by omega) | exact f1 1000 (by omega) (by omega) | exact f1 1000 (by omega) (by omega) (by omega) | exact k1 1000 (by omega) (by omega) (by omega) | exact k1.1 1000 (by omega) (by omega) | exact ups_fn (by decide), ?_⟩
  refine (m_later (h := h) (by rw [g1, g2, g3]; exact hk) (by rw [g1, g2, g3]; exact hl)).mono ?_
  rintro r' D2 ⟨a, b', c, rfl, h2⟩
  refine ⟨?_, Rel_of hS.up hP (fun a ha => up3_ne (by omega)) hM.cg3⟩
  rw [e1, e2, e3] at h1
  rw [g1, g2, g3] at h2
  rcases h1 with ⟨a1, rfl⟩ | ⟨a1, h1⟩ <;> rcases h2 with ⟨a2, rfl⟩ | ⟨a2, h2⟩
  · rfl
  · exact absurd a2 a1
  · exact absurd a1 a2
  · rcases h1 with ⟨x1, rfl⟩ | ⟨x1, y1⟩ <;> rcases h2 with ⟨x2, rfl⟩ | ⟨x2, y2⟩
    · rfl
    · omega
    · omega
    · refine lbest_uniq (fun g q => ?_) y1 y2
      obtain ⟨_, o, o1, o2, o3⟩ := q
      have := hl.1 o o1
      exact ⟨by omega, o, by omega, o2, o3⟩
theorem b_grew {y : Int} (hR : Rel b D) : Bo L b 100 183 [vI y] D := by
  obtain ⟨G, V, W, K, T, len, rn, rf, w, fn, fc, fy, hS, hP, hM⟩ := hR
  obtain ⟨e1, e2, e3, h, hl, hg⟩ := hP.2.2.2.2.2.2.1
  obtain ⟨g1, g2, g3⟩ := hM.2.2.2.2.2.2
  have hk := hS.2.2.2.2.2.2
  refine (p_grew (h := h) (by rw [e1, e2, e3]; exact hk) (by rw [e1, e2, e3]; exact hl) (by rw [e1, e3]; exact hg)).mono ?_
  rintro r D1 ⟨h1, rfl⟩
  refine ⟨by first | rfl | exact f1 1000 (by omega) | exact f1 1000 (by omega) (by omega) | exact f1 1000 (by omega) (by omega) (by omega) | exact k1 1000 (by omega) (by omega) (by omega) | exact k1.1 1000 (by omega) (by omega) | exact ups_fn (by decide), ?_⟩
  refine (m_grew (h := h) (by rw [g1, g2, g3]; exact hk) (by rw [g1, g2, g3]; exact hl)).mono ?_
  rintro r' D2 ⟨a, b', c, rfl, h2⟩
  refine ⟨?_, Rel_of hS.up hP (fun a ha => up3_ne (by omega)) hM.cg3⟩
  rw [e1, e3] at h1
  rw [g1, g3] at h2
  rcases h1 with ⟨a1, rfl⟩ | ⟨a1, rfl⟩ <;> rcases h2 with ⟨a2, rfl⟩ | ⟨a2, rfl⟩ <;> first | rfl | exact absurd a1 a2 | exact absurd a2 a1
theorem b_dig (hR : Rel b D) : Bo L b 101 184 [] D := by
  obtain ⟨G, V, W, K, T, len, rn, rf, w, fn, fc, fy, hS, hP, hM⟩ := hR
  obtain ⟨e1, e2, e3, h, hl, hg⟩ := hP.2.2.2.2.2.2.1
  obtain ⟨g1, g2, g3⟩ := hM.2.2.2.2.2.2
  have hk := hS.2.2.2.2.2.2
  have hn : D 7 0 = G.n := hP.1.1.1
  have hm : D 71 0 = G.n := hM.1.1.1
  have h26 := hS.1.1
  refine (p_dig (by rw [e1, e2, e3]; exact hk) (by omega)).mono ?_
  rintro r D1 ⟨⟨m, h1⟩, rfl⟩
  refine ⟨by first | rfl | exact f1 1000 (by omega) | exact f1 1000 (by omega) (by omega) | exact f1 1000 (by omega) (by omega) (by omega) | exact k1 1000 (by omega) (by omega) (by omega) | exact k1.1 1000 (by omega) (by omega) | exact ups_fn (by decide), ?_⟩
  refine (m_dig (by rw [g1, g2, g3]; exact hk) (by omega)).mono ?_
  rintro r' D2 ⟨⟨m', h2⟩, rfl⟩
  refine ⟨?_, Rel_of hS.up hP (fun _ _ => rfl) hM⟩
  rw [e1, e2, hn] at h1
  rw [g1, g2, hm] at h2
  exact dgb_uniq (fun a => Iff.rfl) h1 h2
theorem RP.cgK {v j : Nat} (h : kpD D D' v j) (hv : v = 34 ∨ v = 46) (hK : pS D' K' W') (q : RP D G V W K T len rn rf w fn fc fy) : RP D' G V W' K' T len rn rf w fn fc fy := by
  obtain ⟨q1, q2, q3, q4, q5, q6, q7, q8⟩ := q
  obtain ⟨h, _⟩ := h
  exact ⟨q1.congr (h 7 (by omega) (by decide)) (h 8 (by omega) (by decide)), vP_cg (fun a a1 a2 => h a (by omega) (by omega)) q2, hK, q4.cg (by rw [h 0 (by omega) (by decide)]) (h 1 (by omega) (by decide)), q5.cg (by rw [h 59 (by omega) (by decide)]) (h 60 (by omega) (by decide)), (h 62 (by omega) (by decide)).trans q6, q7.cg (by rw [h 63 (by omega) (by decide)]) (fun a a1 a2 => h a (by omega) (by omega)), q8.cg (h 1001 (by omega) (by decide)) (h 1002 (by omega) (by decide))⟩
theorem RM.cgK {s : Int} (h : frK s D D') (hK : mS D' K' W') (q : RM D G V W K T len rn rf w fn fc fy) : RM D' G V W' K' T len rn rf w fn fc fy := by
  obtain ⟨q1, q2, q3, q4, q5, q6, q7⟩ := q
  obtain ⟨h, _⟩ := h
  have e := h 69 (by decide) (by decide) (by decide) (by decide)
  exact ⟨q1.congr (h 71 (by decide) (by decide) (by decide) (by decide)), vM_cg (by rw [e]) (by rw [e]) (by rw [e]) (h 74 (by decide) (by decide) (by decide) (by decide)) (h 75 (by decide) (by decide) (by decide) (by decide)) q2, hK, q4.cg (by rw [e]) (h 73 (by decide) (by decide) (by decide) (by decide)), q5.cg (by rw [e]) (h 81 (by decide) (by decide) (by decide) (by decide)), (h 82 (by decide) (by decide) (by decide) (by decide)).trans q6, q7.cg (by rw [e]) (h 83 (by decide) (by decide) (by decide) (by decide)) (h 84 (by decide) (by decide) (by decide) (by decide))⟩
theorem b_keep {s : Int} (hR : Rel b D) : Bo L b 102 186 [vI s] D := by
  obtain ⟨G, V, W, K, T, len, rn, rf, w, fn, fc, fy, hS, hP, hM⟩ := hR
  refine (p_keep hP.2.1 hS.2.1.1).mono ?_
  rintro r D1 (⟨a1, rfl, rfl⟩ | ⟨v, j, hv, rfl, k1, v1, o1⟩)
  · refine ⟨rfl, (m_keep hM.2.1 hS.2.1.1).mono ?_⟩
    rintro r' D2 (⟨a2, rfl, rfl⟩ | ⟨a2, _⟩)
    · exact ⟨rfl, Rel_of hS.up hP (fun _ _ => rfl) hM⟩
    · exact absurd a2 a1
  · have hM1 := hM.cg (D' := D1) (fun a a1 a2 => k1.1 a (by omega) (by omega))
    refine ⟨by first | rfl | exact f1 1000 (by omega) | exact f1 1000 (by omega) (by omega) | exact f1 1000 (by omega) (by omega) (by omega) | exact k1 1000 (by omega) (by omega) (by omega) | exact k1.1 1000 (by omega) (by omega) | exact ups_fn (by decide), ?_⟩
    refine (m_keep hM1.2.1 hS.2.1.1).mono ?_
    rintro r' D2 (⟨a2, _⟩ | ⟨a2, rfl, k2, v2, o2⟩)
    · omega
    · have hp := hP.2.2.1
      have hm := hM1.2.2.1
      refine ⟨rfl, Rel_of (K := fun t => if t = s then 1 else K t) (W := fun t => if t = s then V else W t) ?_ (hP.cgK k1 (by omega) ?_) (fun a ha => k2.1 a (by omega) (by omega) (by omega) (by omega)) (hM1.cgK k2 ?_)⟩
      · obtain ⟨s1, s2, s3, s4⟩ := hS.up
        refine ⟨s1, s2, fun t ht k => ?_, s4⟩
        by_cases q : t = s
        · simp only [if_pos q]; exact s2
        · simp only [if_neg q] at k ⊢; exact s3 t ht k
      · rcases hv with ⟨rfl, rfl, rfl⟩ | ⟨rfl, rfl, rfl⟩
        · refine ⟨⟨o1, fun _ => v1⟩, ?_, fun k => ?_⟩
          · show D1 58 1 = K 1
            rw [k1.2 1 (by decide)]; exact hp.2.1
          · exact vP_cg (fun a a1 a2 => k1.1 a (by omega) (by omega)) (hp.2.2 k)
        · refine ⟨⟨?_, fun k => ?_⟩, o1, fun _ => v1⟩
          · show D1 58 0 = K 0
            rw [k1.2 0 (by decide)]; exact hp.1.1
          · exact vP_cg (fun a a1 a2 => k1.1 a (by omega) (by omega)) (hp.1.2 k)
      · intro t ht
        by_cases q : t = s
        · subst q
          simp only [if_pos rfl]
          exact ⟨o2, fun _ => v2⟩
        · simp only [if_neg q]
          refine ⟨?_, fun k => vK_fr (by omega) q k2 ((hm t ht).2 k)⟩
          rw [k2.2.1 t.toNat (by omega)]
          exact (hm t ht).1
theorem frB.out {D D' : ab_D} (h : frB D D') : frA D D' := h.a
theorem b_again {s : Int} (hR : Rel b D) : Bo L b 103 187 [vI s] D := by
  obtain ⟨G, V, W, K, T, len, rn, rf, w, fn, fc, fy, hS, hP, hM⟩ := hR
  have hp := hP.2.2.1
  have so := hS.2.2.1
  refine (p_again (G := G) (W := W) (fun k => ⟨hp.1.2 (by rw [← hp.1.1]; exact k), (so 0 (by omega) (by rw [← hp.1.1]; exact k)).1⟩) (fun k => ⟨hp.2.2 (by rw [← hp.2.1]; exact k), (so 1 (by omega) (by rw [← hp.2.1]; exact k)).1⟩)).mono ?_
  have eK : ∀ t : Int, 0 ≤ t ∧ t ≤ 1 → D 58 t.toNat = K t := fun t ht => by
    have : t = 0 ∨ t = 1 := by omega
    rcases this with rfl | rfl
    · exact hp.1.1
    · exact hp.2.1
  intro r D1 h1
  have f1 : fr 9 D D1 := by
    rcases h1 with ⟨_, _, rfl⟩ | ⟨_, _, _, rfl⟩ | ⟨_, _, _, h, _⟩
    · exact fr.refl
    · exact fr.refl
    · exact h
  have hM1 := hM.cg (D' := D1) (fun a a1 a2 => f1 a (by omega))
  have hm := hM1.2.2.1
  refine ⟨by first | rfl | exact f1 1000 (by omega) | exact f1 1000 (by omega) (by omega) | exact f1 1000 (by omega) (by omega) (by omega) | exact k1 1000 (by omega) (by omega) (by omega) | exact k1.1 1000 (by omega) (by omega) | exact ups_fn (by decide), ?_⟩
  refine (m_again (G := G) (W := W) (fun t ht k => ⟨(hm t ht).2 (by rw [← (hm t ht).1]; exact k), (so t ht (by rw [← (hm t ht).1]; exact k)).1⟩)).mono ?_
  intro r' D2 h2
  rcases h1 with ⟨a1, rfl, rfl⟩ | ⟨a1, b1, rfl, rfl⟩ | ⟨a1, b1, rfl, _, v1⟩
  · rcases h2 with ⟨a2, rfl, rfl⟩ | ⟨a2, _⟩ | ⟨a2, _⟩
    · exact ⟨rfl, Rel_of hS.up hP (fun _ _ => rfl) hM⟩
    · exact absurd a2 a1
    · exact absurd a2 a1
  · rw [eK s a1] at b1
    rcases h2 with ⟨a2, _⟩ | ⟨a2, b2, rfl, rfl⟩ | ⟨a2, b2, _⟩
    · exact absurd a1 a2
    · exact ⟨rfl, Rel_of hS.up hP (fun _ _ => rfl) hM⟩
    · rw [(hm s a1).1] at b2
      exact absurd b1 b2
  · rw [eK s a1] at b1
    rcases h2 with ⟨a2, _⟩ | ⟨a2, b2, _⟩ | ⟨a2, b2, rfl, f2, v2⟩
    · exact absurd a1 a2
    · rw [(hm s a1).1] at b2
      exact absurd b2 b1
    · obtain ⟨s1, s2, s3, s4⟩ := hS.up
      exact ⟨rfl, Rel_of ⟨s1, s3 s a1 b1, s3, s4⟩ (hP.cgV f1 v1) f2.a.out (hM1.cgA f2.a v2)⟩
theorem b_count {x : Int} (hR : Rel b D) : Bo L b 104 188 [vI x] D := by
  obtain ⟨G, V, W, K, T, len, rn, rf, w, fn, fc, fy, hS, hP, hM⟩ := hR
  refine (p_count hP.2.1 hS.2.1.1).mono ?_
  rintro r D1 ⟨rfl, rfl⟩
  refine ⟨by first | rfl | exact f1 1000 (by omega) | exact f1 1000 (by omega) (by omega) | exact f1 1000 (by omega) (by omega) (by omega) | exact k1 1000 (by omega) (by omega) (by omega) | exact k1.1 1000 (by omega) (by omega) | exact ups_fn (by decide), ?_⟩
  refine (m_count hM.2.1 hS.2.1.1).mono ?_
  rintro r' D2 ⟨rfl, rfl⟩
  refine ⟨?_, Rel_of hS.up hP (fun _ _ => rfl) hM⟩
  rw [hP.2.2.2.1.1, hP.2.2.2.2.2.2.1.1, hM.2.2.2.1.1, hM.2.2.2.2.2.2.1]
end Both2
