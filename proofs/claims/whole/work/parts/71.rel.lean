/-! class and reference stand alike -/
def pS (D : ab_D) (K : Int → Int) (W : Int → Vil) : Prop := (D 58 0 = K 0 ∧ (K 0 ≠ 0 → vP D 34 (W 0))) ∧ D 58 1 = K 1 ∧ (K 1 ≠ 0 → vP D 46 (W 1))
def pTx (D : ab_D) (T : Int → Int) (len : Int) : Prop := D 0 1 = len ∧ txt D 1 T len
def pW (D : ab_D) (rn : Int) (rf : Nat → Int) : Prop := D 59 1 = rn ∧ D 60 = rf
def pF (D : ab_D) (fn : Int) (fc fy : Nat → Int) : Prop := D 63 1 = fn ∧ D 64 = fc ∧ D 65 = fy ∧ fG fn fc fy (D 66) (D 67) (D 68)
def pE (D : ab_D) : Prop := elsT D ∧ ∀ j, j < 10 → D 1002 j = ipw 10 j
def mS (D : ab_D) (K : Int → Int) (W : Int → Vil) : Prop := ∀ s : Int, (0 ≤ s ∧ s ≤ 1) → D 77 s.toNat = K s ∧ (K s ≠ 0 → vK D s (W s))
def mTx (D : ab_D) (T : Int → Int) (len : Int) : Prop := D 69 4 = len ∧ txt D 73 T len
def mW (D : ab_D) (rn : Int) (rf : Nat → Int) : Prop := D 69 19 = rn ∧ D 81 = rf
def mF (D : ab_D) (fn : Int) (fc fy : Nat → Int) : Prop := D 69 22 = fn ∧ D 83 = fc ∧ D 84 = fy
def RP (D : ab_D) (G : Gr) (V : Vil) (W : Int → Vil) (K T : Int → Int) (len rn : Int) (rf w : Nat → Int) (fn : Int) (fc fy : Nat → Int) : Prop := gP D G ∧ vP D 9 V ∧ pS D K W ∧ pTx D T len ∧ pW D rn rf ∧ D 62 = w ∧ pF D fn fc fy ∧ pE D
def RM (D : ab_D) (G : Gr) (V : Vil) (W : Int → Vil) (K T : Int → Int) (len rn : Int) (rf w : Nat → Int) (fn : Int) (fc fy : Nat → Int) : Prop := gM D G ∧ vM D V ∧ mS D K W ∧ mTx D T len ∧ mW D rn rf ∧ D 82 = w ∧ mF D fn fc fy
def SO (b : Int) (G : Gr) (V : Vil) (W : Int → Vil) (K : Int → Int) (len rn : Int) (rf w : Nat → Int) (fn : Int) (fc fy : Nat → Int) : Prop := gOK G ∧ (vOK G V ∧ V.yr ≤ b) ∧ (∀ s : Int, (0 ≤ s ∧ s ≤ 1) → K s ≠ 0 → vOK G (W s) ∧ (W s).yr ≤ b) ∧ (0 ≤ len ∧ len ≤ 64) ∧ ((0 ≤ rn ∧ rn ≤ 8) ∧ ∀ k : Nat, (k : Int) < rn → rf k ≤ 20) ∧ rgW w ∧ fOK fn fc fy
def Rel (b : Int) (D : ab_D) : Prop := ∃ G V W K T len rn rf w fn fc fy, SO b G V W K len rn rf w fn fc fy ∧ RP D G V W K T len rn rf w fn fc fy ∧ RM D G V W K T len rn rf w fn fc fy
section Rel
variable {D D' D2 : ab_D} {G : Gr} {V : Vil} {W : Int → Vil} {K T : Int → Int} {b len rn : Int} {rf w : Nat → Int} {fn : Int} {fc fy : Nat → Int}
theorem pS.cg (h58 : ∀ j, j < 2 → D' 58 j = D 58 j) (h : ∀ a, 34 ≤ a → a ≤ 57 → D' a = D a) (q : pS D K W) : pS D' K W := ⟨⟨(h58 0 (by decide)).trans q.1.1, fun k => vP_cg (fun a a1 a2 => h a a1 (by omega)) (q.1.2 k)⟩, (h58 1 (by decide)).trans q.2.1, fun k => vP_cg (fun a a1 a2 => h a (by omega) a2) (q.2.2 k)⟩
theorem txt_cg {p : Nat} (h : D' p = D p) (q : txt D p T len) : txt D' p T len := fun j j0 j1 => by rw [h]; exact q j j0 j1
theorem pTx.cg (h0 : D' 0 1 = D 0 1) (h1 : D' 1 = D 1) (q : pTx D T len) : pTx D' T len := ⟨h0.trans q.1, txt_cg h1 q.2⟩
theorem pW.cg (h0 : D' 59 1 = D 59 1) (h1 : D' 60 = D 60) (q : pW D rn rf) : pW D' rn rf := ⟨h0.trans q.1, h1.trans q.2⟩
theorem pF.cg (h0 : D' 63 1 = D 63 1) (h : ∀ a, 64 ≤ a → a ≤ 68 → D' a = D a) (q : pF D fn fc fy) : pF D' fn fc fy := ⟨h0.trans q.1, (h 64 (by decide) (by decide)).trans q.2.1, (h 65 (by decide) (by decide)).trans q.2.2.1, by rw [h 66 (by decide) (by decide), h 67 (by decide) (by decide), h 68 (by decide) (by decide)]; exact q.2.2.2⟩
theorem pE.cg (h1 : D' 1001 = D 1001) (h2 : D' 1002 = D 1002) (q : pE D) : pE D' := by
  unfold pE elsT at *
  rw [h1, h2]
  exact q
theorem mS.cg (h77 : ∀ j, j < 2 → D' 77 j = D 77 j) (h78 : ∀ k : Int, 0 ≤ k → k < 384 → D' 78 k.toNat = D 78 k.toNat) (h79 : ∀ k : Int, 0 ≤ k → k < 48 → D' 79 k.toNat = D 79 k.toNat) (h80 : ∀ k : Int, 0 ≤ k → k < 6 → D' 80 k.toNat = D 80 k.toNat) (q : mS D K W) : mS D' K W := fun s hs => ⟨(h77 s.toNat (by omega)).trans (q s hs).1, fun k => by
  obtain ⟨P, H, a1, a2, a3, a4, a5, a6⟩ := (q s hs).2 k
  refine ⟨P, H, a1, fun k k0 k1 => ?_, fun k k0 k1 => ?_, ?_, ?_, ?_⟩
  · rw [h78 _ (by omega) (by omega)]; exact a2 k k0 k1
  · rw [h79 _ (by omega) (by omega)]; exact a3 k k0 k1
  · rw [h80 _ (by omega) (by omega)]; exact a4
  · rw [h80 _ (by omega) (by omega)]; exact a5
  · rw [h80 _ (by omega) (by omega)]; exact a6⟩
theorem mTx.cg (h0 : D' 69 4 = D 69 4) (h1 : D' 73 = D 73) (q : mTx D T len) : mTx D' T len := ⟨h0.trans q.1, txt_cg h1 q.2⟩
theorem mW.cg (h0 : D' 69 19 = D 69 19) (h1 : D' 81 = D 81) (q : mW D rn rf) : mW D' rn rf := ⟨h0.trans q.1, h1.trans q.2⟩
theorem mF.cg (h0 : D' 69 22 = D 69 22) (h1 : D' 83 = D 83) (h2 : D' 84 = D 84) (q : mF D fn fc fy) : mF D' fn fc fy := ⟨h0.trans q.1, h1.trans q.2.1, h2.trans q.2.2⟩
/-- places that the class's standing doesn't rest on: the reader's 2, 4, 5 and the trial's 21 to 32 -/
theorem RP.cg (h : ∀ a, ¬ (a = 2 ∨ a = 4 ∨ a = 5 ∨ (21 ≤ a ∧ a ≤ 32) ∨ (69 ≤ a ∧ a < 88)) → D' a = D a) (q : RP D G V W K T len rn rf w fn fc fy) : RP D' G V W K T len rn rf w fn fc fy := by
  obtain ⟨q1, q2, q3, q4, q5, q6, q7, q8⟩ := q
  exact ⟨q1.congr (h 7 (by omega)) (h 8 (by omega)), vP_cg (fun a a1 a2 => h a (by omega)) q2, q3.cg (fun j _ => by rw [h 58 (by omega)]) (fun a a1 a2 => h a (by omega)), q4.cg (by rw [h 0 (by omega)]) (h 1 (by omega)), q5.cg (by rw [h 59 (by omega)]) (h 60 (by omega)), (h 62 (by omega)).trans q6, q7.cg (by rw [h 63 (by omega)]) (fun a a1 a2 => h a (by omega)), q8.cg (h 1001 (by omega)) (h 1002 (by omega))⟩
theorem RM.cg (h : ∀ a, 69 ≤ a → a < 88 → D' a = D a) (q : RM D G V W K T len rn rf w fn fc fy) : RM D' G V W K T len rn rf w fn fc fy := by
  obtain ⟨q1, q2, q3, q4, q5, q6, q7⟩ := q
  have e := h 69 (by decide) (by decide)
  exact ⟨q1.congr (h 71 (by decide) (by decide)), vM_cg (by rw [e]) (by rw [e]) (by rw [e]) (h 74 (by decide) (by decide)) (h 75 (by decide) (by decide)) q2, q3.cg (fun j _ => by rw [h 77 (by decide) (by decide)]) (fun k _ _ => by rw [h 78 (by decide) (by decide)]) (fun k _ _ => by rw [h 79 (by decide) (by decide)]) (fun k _ _ => by rw [h 80 (by decide) (by decide)]), q4.cg (by rw [e]) (h 73 (by decide) (by decide)), q5.cg (by rw [e]) (h 81 (by decide) (by decide)), (h 82 (by decide) (by decide)).trans q6, q7.cg (by rw [e]) (h 83 (by decide) (by decide)) (h 84 (by decide) (by decide))⟩
theorem SO.up (q : SO b G V W K len rn rf w fn fc fy) : SO (b + 1) G V W K len rn rf w fn fc fy := ⟨q.1, ⟨q.2.1.1, by have := q.2.1.2; omega⟩, fun s hs k => ⟨(q.2.2.1 s hs k).1, by have := (q.2.2.1 s hs k).2; omega⟩, q.2.2.2⟩
/-- only the reference's sets changed that it makes anew: 70, 72, 85 to 87, its fields 5 to 7 -/
theorem RM.cgQ (h : frQ D D') (q : RM D G V W K T len rn rf w fn fc fy) : RM D' G V W K T len rn rf w fn fc fy := by
  obtain ⟨q1, q2, q3, q4, q5, q6, q7⟩ := q
  obtain ⟨h, e⟩ := h
  exact ⟨q1.congr (h 71 (by decide) (by decide) (by decide)), vM_cg (e 8 (by decide) (by decide) (by decide)) (e 10 (by decide) (by decide) (by decide)) (e 12 (by decide) (by decide) (by decide)) (h 74 (by decide) (by decide) (by decide)) (h 75 (by decide) (by decide) (by decide)) q2, q3.cg (fun j _ => by rw [h 77 (by decide) (by decide) (by decide)]) (fun k _ _ => by rw [h 78 (by decide) (by decide) (by decide)]) (fun k _ _ => by rw [h 79 (by decide) (by decide) (by decide)]) (fun k _ _ => by rw [h 80 (by decide) (by decide) (by decide)]), q4.cg (e 4 (by decide) (by decide) (by decide)) (h 73 (by decide) (by decide) (by decide)), q5.cg (e 19 (by decide) (by decide) (by decide)) (h 81 (by decide) (by decide) (by decide)), (h 82 (by decide) (by decide) (by decide)).trans q6, q7.cg (e 22 (by decide) (by decide) (by decide)) (h 83 (by decide) (by decide) (by decide)) (h 84 (by decide) (by decide) (by decide))⟩
theorem up3_ne {a b c : Nat → Int} {p : Nat} (h : p ≠ 85 ∧ p ≠ 86 ∧ p ≠ 87) : up3 D a b c p = D p := by
  unfold up3
  rw [upr_ne h.2.2, upr_ne h.2.1, upr_ne h.1]
theorem RM.cg3 {a b c : Nat → Int} (q : RM D G V W K T len rn rf w fn fc fy) : RM (up3 D a b c) G V W K T len rn rf w fn fc fy := by
  obtain ⟨q1, q2, q3, q4, q5, q6, q7⟩ := q
  have h : ∀ p, p < 85 → up3 D a b c p = D p := fun p hp => up3_ne (by omega)
  have e := h 69 (by decide)
  exact ⟨q1.congr (h 71 (by decide)), vM_cg (by rw [e]) (by rw [e]) (by rw [e]) (h 74 (by decide)) (h 75 (by decide)) q2, q3.cg (fun j _ => by rw [h 77 (by decide)]) (fun k _ _ => by rw [h 78 (by decide)]) (fun k _ _ => by rw [h 79 (by decide)]) (fun k _ _ => by rw [h 80 (by decide)]), q4.cg (by rw [e]) (h 73 (by decide)), q5.cg (by rw [e]) (h 81 (by decide)), (h 82 (by decide)).trans q6, q7.cg (by rw [e]) (h 83 (by decide)) (h 84 (by decide))⟩
/-- the reference's village is another, or the same made anew -/
theorem RM.cgA {V' : Vil} (h : frA D D') (hV : vM D' V') (q : RM D G V W K T len rn rf w fn fc fy) : RM D' G V' W K T len rn rf w fn fc fy := by
  obtain ⟨q1, q2, q3, q4, q5, q6, q7⟩ := q
  obtain ⟨h, e, h77, h78, h79, h80⟩ := h
  have hh : ∀ a, (a = 71 ∨ a = 73 ∨ (81 ≤ a ∧ a ≤ 84)) → D' a = D a := fun a ha => h a (by omega) (by omega) (by omega) (by omega) (by omega) (by omega) (by omega) (by omega)
  exact ⟨q1.congr (hh 71 (by omega)), hV, q3.cg (fun j hj => h77 j (by omega)) h78 h79 h80, q4.cg (e 4 (by decide) (by decide) (by decide) (by decide)) (hh 73 (by omega)), q5.cg (e 19 (by decide) (by decide) (by decide) (by decide)) (hh 81 (by omega)), (hh 82 (by omega)).trans q6, q7.cg (e 22 (by decide) (by decide) (by decide) (by decide)) (hh 83 (by omega)) (hh 84 (by omega))⟩
theorem frM.a {D D' : ab_D} (h : frM D D') : frA D D' := frT.a ⟨h.1, fun j h1 h2 h3 _ => h.2 j h1 h2 h3⟩
theorem frA.out (h : frA D D') : ∀ a, ¬ (69 ≤ a ∧ a < 88) → D' a = D a := fun a ha => h.1 a (by omega) (by omega) (by omega) (by omega) (by omega) (by omega) (by omega) (by omega)
/-- the class's village is another -/
theorem RP.cgV {V' : Vil} (h : fr 9 D D') (hV : vP D' 9 V') (q : RP D G V W K T len rn rf w fn fc fy) : RP D' G V' W K T len rn rf w fn fc fy := by
  obtain ⟨q1, q2, q3, q4, q5, q6, q7, q8⟩ := q
  exact ⟨q1.congr (h 7 (by omega)) (h 8 (by omega)), hV, q3.cg (fun j _ => by rw [h 58 (by omega)]) (fun a a1 a2 => h a (by omega)), q4.cg (by rw [h 0 (by omega)]) (h 1 (by omega)), q5.cg (by rw [h 59 (by omega)]) (h 60 (by omega)), (h 62 (by omega)).trans q6, q7.cg (by rw [h 63 (by omega)]) (fun a a1 a2 => h a (by omega)), q8.cg (h 1001 (by omega)) (h 1002 (by omega))⟩
theorem Rel_of (h1 : SO b G V W K len rn rf w fn fc fy) (h2 : RP D' G V W K T len rn rf w fn fc fy) (h : ∀ a, ¬ (69 ≤ a ∧ a < 88) → D2 a = D' a) (h3 : RM D2 G V W K T len rn rf w fn fc fy) : Rel b D2 ∧ D2 1000 = D' 1000 := ⟨⟨G, V, W, K, T, len, rn, rf, w, fn, fc, fy, h1, h2.cg (fun a ha => h a (by omega)), h3⟩, h 1000 (by decide)⟩
end Rel
