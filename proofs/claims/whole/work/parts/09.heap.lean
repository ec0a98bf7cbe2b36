/-! the heap: fields, arrays -/
theorem cls_at {c : Nat} (h : c < 8) : cls[c]? = some (cN c, fT c, nF c) := by
  match c, h with
  | 0, _ | 1, _ | 2, _ | 3, _ | 4, _ | 5, _ | 6, _ | 7, _ => rfl
theorem ck_u : ∀ c, c < 8 → (u_ws (cN c) (fT c) (nF c)).all (fun w => decide (w ∈ lw_tbl) && goodWord w) = true := by decide +kernel
theorem ck_par : ∀ c, c < 8 → ∀ k, k < nF c → parseFieldDescriptor (fT c k).2.2.1 = some (cY c k) := by decide +kernel
theorem ck_nm : ∀ c, c < 8 → ∀ a, a < nF c → ∀ b, b < nF c → a ≠ b → (fT c a).2.1 ≠ (fT c b).2.1 := by decide +kernel
def tyK (t : FieldType) : Bool := match t with
  | .int | .object _ | .array _ => true
  | _ => false
theorem ck_ty : ∀ c, c < 8 → ∀ k, k < nF c → tyK (cY c k) = true := by decide +kernel
theorem ty_ref {c k : Nat} (h : tyK (cY c k) = true) (hr : fRf c k = true) (a : Nat) : narrow (cY c k) (.ref a) = .ref a ∧ fits (cY c k) (.ref a) = true ∧ defaultValue (cY c k) = .null := by
  unfold fRf at hr
  generalize cY c k = t at h hr
  cases t <;> first | exact ⟨rfl, rfl, rfl⟩ | (simp at hr; done) | (simp [tyK] at h; done)
theorem ty_int {c k : Nat} (hr : fRf c k = false) (x : Int32) : narrow (cY c k) (.int x) = .int x ∧ fits (cY c k) (.int x) = true ∧ defaultValue (cY c k) = .int 0 := by
  unfold fRf at hr
  generalize cY c k = t at hr
  cases t <;> first | exact ⟨rfl, rfl, rfl⟩ | (simp at hr; done)
theorem u_in {args : Array Value} {s : State} {c : Nat} (hc : c < 8) (hts : ∀ w ∈ lw_tbl, goodWord w = true → w.before args s = true) : ∀ w ∈ u_ws (cN c) (fT c) (nF c), w.before args s = true := by
  intro w hw
  have h1 := List.all_eq_true.mp (ck_u c hc) w hw
  simp only [Bool.and_eq_true, decide_eq_true_eq] at h1
  exact hts w h1.1 h1.2
theorem enc_obj {ac : Nat → Nat × ClassId} {h : ab_H} {i c : Nat} (hs : (h.1.2.1 i).1 = c + 3) : ab_enc ac h i = .inr (c, (List.range (nF c)).map (fun j => ab_fv ac h i c j)) := by
  unfold ab_enc
  generalize h.1.2.1 i = q at hs
  obtain ⟨a, b⟩ := q
  subst hs
  rfl
theorem enc_i {ac : Nat → Nat × ClassId} {h : ab_H} {i : Nat} (hs : (h.1.2.1 i).1 = 0) : ab_enc ac h i = .inl ((ac i).2, (h.1.2.1 i).2, .inl (fun j => Int32.ofInt (h.2 i j))) := by
  unfold ab_enc
  generalize h.1.2.1 i = q at hs
  obtain ⟨a, b⟩ := q
  subst hs
  rfl
theorem enc_z {ac : Nat → Nat × ClassId} {h : ab_H} {i : Nat} (hs : (h.1.2.1 i).1 = 1) : ab_enc ac h i = .inl ((ac i).2, (h.1.2.1 i).2, .inl (fun j => Int32.ofInt (h.2 i j))) := by
  unfold ab_enc
  generalize h.1.2.1 i = q at hs
  obtain ⟨a, b⟩ := q
  subst hs
  rfl
theorem enc_q {ac : Nat → Nat × ClassId} {h : ab_H} {i : Nat} (hs : (h.1.2.1 i).1 = 2) : ab_enc ac h i = .inl ((ac i).2, (h.1.2.1 i).2, .inr (.inr (.inr (.inr (fun j => (h.1.2.2 i j).map (fun i => (ac i).1)))))) := by
  unfold ab_enc
  generalize h.1.2.1 i = q at hs
  obtain ⟨a, b⟩ := q
  subst hs
  rfl
/-- a cell's contents depend on its own row alone -/
theorem enc_ext {ac ac' : Nat → Nat × ClassId} {h h' : ab_H} {j : Nat} (hs : h'.1.2.1 j = h.1.2.1 j) (hd : h'.2 j = h.2 j) (hr : h'.1.2.2 j = h.1.2.2 j) (ha : (ac' j).2 = (ac j).2) (hl : ∀ x i, h.1.2.2 j x = some i → (ac' i).1 = (ac i).1) : ab_enc ac' h' j = ab_enc ac h j := by
  have e : ∀ x, (h'.1.2.2 j x).map (fun i => (ac' i).1) = (h.1.2.2 j x).map (fun i => (ac i).1) := by
    intro x
    rw [hr]
    cases hx : h.1.2.2 j x with
    | none => rfl
    | some i => simp [hl x i hx]
  have ef : ∀ c x, ab_fv ac' h' j c x = ab_fv ac h j c x := by
    intro c x
    unfold ab_fv
    rw [e x, hd]
  unfold ab_enc
  rw [hs]
  generalize h.1.2.1 j = q
  match q with
  | (0, N) => simp only [ab_encS, ha, hd]
  | (1, N) => simp only [ab_encS, ha, hd]
  | (2, N) => simp only [ab_encS, ha, e]
  | (c + 3, N) => simp only [ab_encS, ef]
theorem kind_eta {q : Nat × Nat} {a : Nat} (h : q.1 = a) : q = (a, q.2) := by
  obtain ⟨x, z⟩ := q
  subst h
  rfl
/-- the world behind a write -/
theorem sm_R.upd {dC : Nat → ClassId} {dI : Nat → Nat → Nat} {base : Nat} {ac : Nat → Nat × ClassId} {s : State} {H H1 : Heap} {h h' : ab_H} {locs locs1 : List Loc} (r : sm_R dC dI base ac s H h) (hb : base ≤ s.heap.size) (hS : va_S (fun q => base ≤ q) s.heap H locs) (hS1 : va_S (fun q => base ≤ q) s.heap H1 locs1) (hP1 : va_P (dC, dI) cls (ab_ws ac h') H1) (hD1 : va_D (fun q => base ≤ q) (ab_ws ac h')) (hn : h'.1.1 = h.1.1) (hs : h'.1.2.1 = h.1.2.1) (hd : ∀ k j, i32 (h'.2 k j)) (hr : ∀ k j i, h'.1.2.2 k j = some i → i < h.1.1) (hro : ∀ k, 1000 ≤ k → h'.2 k = h.2 k) : sm_R dC dI base ac s H1 h' := by
  obtain ⟨r1, r2, r3, ⟨r4, r5, r6⟩, r7, r8, r9, r10, r11, r12⟩ := r
  have key : ∀ a : Nat, ¬ base ≤ a → H1[a]? = H[a]? := fun a ha => by rw [hS1.2.1 a (by omega) ha, hS.2.1 a (by omega) ha]
  refine ⟨r1, hP1, hD1, ⟨fun k hk N hN => r4 k (by omega) N (by rw [← hs]; exact hN), fun k hk N hN => r5 k (by omega) N (by rw [← hs]; exact hN), fun k hk N hN => r6 k (by omega) N (by rw [← hs]; exact hN)⟩, hd, fun k j i q => by rw [hn]; exact hr k j i q, by omega, fun k hk N hN => ?_, r11.kept (fun a _ ha => key a ha), r12.kept (fun a _ ha => key a ha)⟩
  obtain ⟨q1, cell, q2, q3, q4, q5, q6, q7, q8⟩ := r10 k hk N (by rw [← hs]; exact hN)
  exact ⟨q1, cell, by rw [key _ (by omega)]; exact q2, q3, q4, q5, q6, q7, fun j hj => by rw [hro k hk]; exact q8 j hj⟩
section Steps
variable {y n pc len : Nat} {ax : List Nat} {ct : ab_C} {K : Nat → ab_C} {lo st : List ab_V} {h : ab_H} {u : Nat × Nat} {Q : Option ab_V → ab_H → Prop}
theorem x_get {idx : Nat} (hh : okX y (pc, .getfield idx, len, ax) = true) : len = 3 ∧ ∃ c k r t, ax = [c, k, r, t] ∧ Jvm.Cond.fieldLink (mN y).cls idx (fT c k).1 (fT c k).2.1 (fT c k).2.2.1 ∈ lw_tbl ∧ c < 8 ∧ k < nF c ∧ fRf c k = (r == 1) ∧ r ≤ 1 := by
  rcases len with _ | _ | _ | _ | len <;> rcases ax with _ | ⟨a, _ | ⟨b, _ | ⟨d, _ | ⟨e, _ | ⟨f, ax⟩⟩⟩⟩⟩
  all_goals first | exact absurd (show false = true from hh) (by decide) | skip
  have h1 := Bool.and_eq_true_iff.mp hh
  have h2 := of_decide_eq_true h1.2
  exact ⟨rfl, a, b, d, e, rfl, ix_mem h1.1, h2⟩
theorem s_get {idx : Nat} (F : Fq y n (pc, .getfield idx, len, ax)) (hc : ∀ lo st h u, ct lo st h u → Sem y (n + 1) lo st h u Q) (hw : wI y Q K (pc, .getfield idx, len, ax) ct lo st h u) : Sem y n lo st h u Q := by
  obtain ⟨rfl, c, k, r, t, rfl, hm, hc8, hk, hf, hr⟩ := x_get F.x
  match st, hw with
  | .inr (.inr (some i)) :: rest, hw =>
    obtain ⟨⟨hi, hsh⟩, hw⟩ := hw
    intro p l e s m args below meth cd dC dI base Z hC hb ac H locs ls hRet hR hS hL hlo hst hu
    have row : ∀ v : Value, ab_fv ac h i c k = v → W p l e (mRm y) s m args below meth cd H locs u.1 u.2 Z (F0 m (pcN y n + 3) ls (v :: rest.map (cv ac))) → W p l e (mRm y) s m args below meth cd H locs u.1 u.2 Z (F0 m (pcN y n) ls (.ref (ac i).1 :: rest.map (cv ac))) := by
      intro v hv kk
      refine va_get (D := (dC, dI)) (ci := c) (C := cN c) (T := fT c) (N := nF c) hC.1 hC.2.1 (u_in hc8 hC.2.2.2.2.1) (fun _ q => q) hC.2.2.2.1 hR.1 hR.2.1 i (by rw [ab_ws_at hi, enc_obj hsh]) (cls_at hc8) k hk (hC.2.2.2.2.1 _ hm rfl) (fun _ q => q) ?_ F.dec kk
      rw [List.getElem?_map, List.getElem?_range hk, ← hv]
      rfl
    match r, hr, hw, hf with
    | 0, _, hw, hf =>
      refine row (cv ac (.inl (h.2 i k))) ?_ ?_
      · unfold ab_fv
        rw [hf]
        rfl
      · have := hc _ _ _ _ hw p l e s m args below meth cd dC dI base Z hC hb ac H locs ls hRet hR hS hL hlo (al_cons.mpr ⟨hR.2.2.2.2.1 i k, (al_cons.mp hst).2⟩) hu
        rw [F.nx] at this
        exact this
    | 1, _, hw, hf =>
      have hw : (match h.1.2.2 i k with
        | some j => ct lo (.inr (.inr (some j)) :: rest) h u
        | none => False) := hw
      split at hw
      · rename_i j hj
        refine row (cv ac (.inr (.inr (some j)))) ?_ ?_
        · unfold ab_fv
          rw [hf, hj]
          rfl
        · have := hc _ _ _ _ hw p l e s m args below meth cd dC dI base Z hC hb ac H locs ls hRet hR hS hL hlo (al_cons.mpr ⟨Or.inl (hR.2.2.2.2.2.1 i k j hj), (al_cons.mp hst).2⟩) hu
          rw [F.nx] at this
          exact this
      · exact hw.elim
    | r + 2, hr, _, _ => exact absurd hr (by omega)
theorem x_put {idx : Nat} (hh : okX y (pc, .putfield idx, len, ax) = true) : len = 3 ∧ ∃ c k r t, ax = [c, k, r, t] ∧ Jvm.Cond.fieldLink (mN y).cls idx (fT c k).1 (fT c k).2.1 (fT c k).2.2.1 ∈ lw_tbl ∧ c < 8 ∧ k < nF c ∧ fRf c k = (r == 1) ∧ r ≤ 1 ∧ ((fT c k).2.2.2 = true → (mN y).name = "<init>" ∧ (fT c k).1 = (mN y).cls) := by
  rcases len with _ | _ | _ | _ | len <;> rcases ax with _ | ⟨a, _ | ⟨b, _ | ⟨d, _ | ⟨e, _ | ⟨f, ax⟩⟩⟩⟩⟩
  all_goals first | exact absurd (show false = true from hh) (by decide) | skip
  have h1 := Bool.and_eq_true_iff.mp hh
  have h2 := of_decide_eq_true h1.2
  exact ⟨rfl, a, b, d, e, rfl, ix_mem h1.1, h2⟩
theorem fv_set {ac : Nat → Nat × ClassId} {h h' : ab_H} {i c k : Nat} {v : Value} (hk : k < nF c) (hv : ab_fv ac h' i c k = v) (ho : ∀ j, j ≠ k → ab_fv ac h' i c j = ab_fv ac h i c j) : (List.range (nF c)).map (fun j => ab_fv ac h' i c j) = ((List.range (nF c)).map (fun j => ab_fv ac h i c j)).set k v := by
  apply List.ext_getElem?
  intro j
  by_cases hj : j < nF c
  · rw [List.getElem?_map, List.getElem?_range hj]
    by_cases hjk : j = k
    · subst hjk
      rw [List.getElem?_set_self (by simpa using hj)]
      simp [hv]
    · rw [List.getElem?_set_ne (fun q => hjk q.symm), List.getElem?_map, List.getElem?_range hj]
      simp [ho j hjk]
  · rw [List.getElem?_eq_none (by simpa using hj), List.getElem?_eq_none (by simpa using hj)]
theorem ups_i32 {D : ab_D} {a i : Nat} {z : Int} (hD : ∀ k j, i32 (D k j)) (hz : i32 z) : ∀ k j, i32 (ups D a i z k j) := by
  intro k j
  unfold ups
  split
  · exact hz
  · exact hD k j
theorem ups_row {D : ab_D} {a i : Nat} {z : Int} {j : Nat} (h : j ≠ a) : ups D a i z j = D j := by
  funext x
  unfold ups
  rw [if_neg (fun q => h q.1)]
theorem upq_row {rf : Nat → Nat → Option Nat} {a i z j : Nat} (h : j ≠ a) : upq rf a i z j = rf j := by
  funext x
  unfold upq
  rw [if_neg (fun q => h q.1)]
theorem upq_lt {rf : Nat → Nat → Option Nat} {a i z N : Nat} (hr : ∀ k j x, rf k j = some x → x < N) (hz : z < N) : ∀ k j x, upq rf a i z k j = some x → x < N := by
  intro k j x q
  unfold upq at q
  split at q
  · cases q
    exact hz
  · exact hr k j x q
theorem s_put {idx : Nat} (F : Fq y n (pc, .putfield idx, len, ax)) (hc : ∀ lo st h u, ct lo st h u → Sem y (n + 1) lo st h u Q) (hw : wI y Q K (pc, .putfield idx, len, ax) ct lo st h u) : Sem y n lo st h u Q := by
  obtain ⟨rfl, c, k, r, t, rfl, hm, hc8, hk, hf, hr, hfin⟩ := x_put F.x
  have row : ∀ (i : Nat) (w : ab_V) (rest : List ab_V) (h' : ab_H), i < h.1.1 → (h.1.2.1 i).1 = c + 3 → (∀ ac, narrow (cY c k) (cv ac w) = cv ac w ∧ fits (cY c k) (cv ac w) = true) → (∀ ac, ab_fv ac h' i c k = cv ac w) → (∀ ac j, j ≠ k → ab_fv ac h' i c j = ab_fv ac h i c j) → h'.1.1 = h.1.1 → h'.1.2.1 = h.1.2.1 → (∀ j, j ≠ i → h'.2 j = h.2 j) → (∀ j, j ≠ i → h'.1.2.2 j = h.1.2.2 j) → ((∀ k j, i32 (h.2 k j)) → ab_ok h.1.1 w → ∀ k j, i32 (h'.2 k j)) → ((∀ k j x, h.1.2.2 k j = some x → x < h.1.1) → ∀ k j x, h'.1.2.2 k j = some x → x < h.1.1) → Sem y (n + 1) lo rest h' u Q → Sem y n lo (w :: .inr (.inr (some i)) :: rest) h u Q := by
    intro i w rest h' hi hsh hty hv ho hn hs hd hrf hD' hR' kS
    intro p l e s m args below meth cd dC dI base Z hC hb ac H locs ls hRet hR hS hL hlo hst hu
    have he : (ab_ws ac h)[i]? = some ((ac i).1, .inr (c, (List.range (nF c)).map (fun j => ab_fv ac h i c j))) := by rw [ab_ws_at hi, enc_obj hsh]
    have key : ∀ (H1 : Heap) (locs1 : List Loc), va_P (dC, dI) cls ((ab_ws ac h).set i ((ac i).1, .inr (c, ((List.range (nF c)).map (fun j => ab_fv ac h i c j)).set k (cv ac w)))) H1 → va_D (fun q => base ≤ q) ((ab_ws ac h).set i ((ac i).1, .inr (c, ((List.range (nF c)).map (fun j => ab_fv ac h i c j)).set k (cv ac w)))) → va_S (fun q => base ≤ q) s.heap H1 locs1 → W p l e (mRm y) s m args below meth cd H1 locs1 u.1 u.2 Z (F0 m (pcN y n + 3) ls (rest.map (cv ac))) := by
      intro H1 locs1 hP1 hD1 hS1
      have e1 : (ab_ws ac h).set i ((ac i).1, .inr (c, ((List.range (nF c)).map (fun j => ab_fv ac h i c j)).set k (cv ac w))) = ab_ws ac h' := by
        refine ab_ws_set hn hi ?_ (fun j hj => enc_ext (by rw [hs]) (hd j hj) (hrf j hj) rfl (fun _ _ _ => rfl))
        rw [enc_obj (by rw [hs]; exact hsh), fv_set hk (hv ac) (ho ac)]
      rw [e1] at hP1 hD1
      have hR1 : sm_R dC dI base ac s H1 h' := hR.upd hb hS hS1 hP1 hD1 hn hs (hD' hR.2.2.2.2.1 (al_cons.mp hst).1) (hR' hR.2.2.2.2.2.1) (fun k hk => hd k (by have := hR.2.2.2.2.2.2.1; omega))
      have := kS p l e s m args below meth cd dC dI base Z hC hb ac H1 locs1 ls (by rw [hn]; exact hRet) hR1 hS1 hL (by rw [hn]; exact hlo) (by rw [hn]; exact (al_cons.mp (al_cons.mp hst).2).2) hu
      rw [F.nx] at this
      exact this
    by_cases hfn : (fT c k).2.2.2 = true
    · obtain ⟨hin, hdc⟩ := hfin hfn
      exact va_putF (D := (dC, dI)) (ci := c) (C := cN c) (T := fT c) (N := nF c) hC.1 hC.2.1 (u_in hc8 hC.2.2.2.2.1) (fun _ q => q) (cY c) (ck_par c hc8) (ck_nm c hc8) hC.2.2.2.1 hR.1 hR.2.1 hR.2.2.1 hS i he (cls_at hc8) k hk (hC.2.2.2.2.1 _ hm rfl) (fun _ q => q) hfn (hC.2.2.2.2.2.2 hin) hdc (ck_par c hc8 k hk) (hty ac).1 (hty ac).2 (by simpa using hk) F.dec key
    · exact va_put (D := (dC, dI)) (ci := c) (C := cN c) (T := fT c) (N := nF c) hC.1 hC.2.1 (u_in hc8 hC.2.2.2.2.1) (fun _ q => q) (cY c) (ck_par c hc8) (ck_nm c hc8) hC.2.2.2.1 hR.1 hR.2.1 hR.2.2.1 hS i he (cls_at hc8) k hk (hC.2.2.2.2.1 _ hm rfl) (fun _ q => q) (by simpa using hfn) (ck_par c hc8 k hk) (hty ac).1 (hty ac).2 (by simpa using hk) F.dec key
  match r, st, hw, hr, hf with
  | 0, .inl z :: .inr (.inr (some i)) :: rest, hw, _, hf =>
    obtain ⟨⟨hi, hsh⟩, hw⟩ := hw
    have hfv : ∀ (ac : Nat → Nat × ClassId) (h : ab_H) j, fRf c j = false → ab_fv ac h i c j = .int (Int32.ofInt (h.2 i j)) := by
      intro ac h j q
      unfold ab_fv
      rw [q]
      rfl
    refine row i (.inl z) rest (h.1, ups h.2 i k z) hi hsh (fun ac => ⟨(ty_int hf _).1, (ty_int hf _).2.1⟩) (fun ac => ?_) (fun ac j hj => ?_) rfl rfl (fun j hj => ups_row hj) (fun _ _ => rfl) (fun hD hz => ups_i32 hD hz) (fun q => q) (hc _ _ _ _ hw)
    · rw [hfv ac _ k hf]
      simp [ups, cv]
    · unfold ab_fv
      simp [ups, hj]
  | 1, .inr (.inr (some x)) :: .inr (.inr (some i)) :: rest, hw, _, hf =>
    obtain ⟨⟨hi, hsh, hx⟩, hw⟩ := hw
    have hf1 : fRf c k = true := hf
    refine row i (.inr (.inr (some x))) rest ((h.1.1, h.1.2.1, upq h.1.2.2 i k x), h.2) hi hsh (fun ac => ⟨(ty_ref (ck_ty c hc8 k hk) hf1 _).1, (ty_ref (ck_ty c hc8 k hk) hf1 _).2.1⟩) (fun ac => ?_) (fun ac j hj => ?_) rfl rfl (fun _ _ => rfl) (fun j hj => upq_row hj) (fun hD hz => hD) (fun q => upq_lt q hx) (hc _ _ _ _ hw)
    · unfold ab_fv
      rw [hf1]
      simp [upq, cv, va_rf]
    · unfold ab_fv
      simp [upq, hj]
/-! arrays -/
theorem s_iaload (F : Fq y n (pc, .iaload, len, ax)) (hc : ∀ lo st h u, ct lo st h u → Sem y (n + 1) lo st h u Q) (hw : wI y Q K (pc, .iaload, len, ax) ct lo st h u) : Sem y n lo st h u Q := by
  obtain rfl := x_iaload F.x
  match st, hw with
  | .inl x :: .inr (.inr (some i)) :: rest, hw =>
    obtain ⟨hia, ⟨h0, h1⟩, hw⟩ := hw
    intro p l e s m args below meth cd dC dI base Z hC hb ac H locs ls hRet hR hS hL hlo hst hu
    have hx : i32 x := (al_cons.mp hst).1
    have kk : W p l e (mRm y) s m args below meth cd H locs u.1 u.2 Z (F0 m (pcN y n + 1) ls (.int (Int32.ofInt (h.2 i x.toNat)) :: rest.map (cv ac))) := by
      have := hc _ _ _ _ hw p l e s m args below meth cd dC dI base Z hC hb ac H locs ls hRet hR hS hL hlo (al_cons.mpr ⟨hR.2.2.2.2.1 i _, (al_cons.mp (al_cons.mp hst).2).2⟩) hu
      rw [F.nx] at this
      exact this
    rcases hia with ⟨hi, hk⟩ | ⟨hi, hk⟩
    · refine va_iald (D := (dC, dI)) (cl := cls) hC.1 hC.2.1 (hR.2.2.2.1.1 i hi _ (kind_eta hk)) hR.2.1 i 0 (by rw [ab_ws_at hi, enc_i hk]) rfl (n_in hx h0 h1) F.dec ?_
      rw [n_cl hx]
      exact kk
    · obtain ⟨q1, cell, q2, q3, q4, q5, q6, q7, q8⟩ := hR.2.2.2.2.2.2.2.1 i hi _ (kind_eta hk)
      refine W.iald (v := .int (Int32.ofInt (h.2 i x.toNat))) hC.1 hC.2.1 q2 q3 q4 ?_ ?_ rfl rfl F.dec kk
      · have := n_in hx h0 h1
        intro z
        rcases z with z | z
        · exact this (Or.inl z)
        · exact this (Or.inr (by omega))
      · rw [n_cl hx]
        exact q8 _ (by omega)
theorem s_baload (F : Fq y n (pc, .baload, len, ax)) (hc : ∀ lo st h u, ct lo st h u → Sem y (n + 1) lo st h u Q) (hw : wI y Q K (pc, .baload, len, ax) ct lo st h u) : Sem y n lo st h u Q := by
  obtain rfl := x_baload F.x
  match st, hw with
  | .inl x :: .inr (.inr (some i)) :: rest, hw =>
    obtain ⟨⟨hi, hk⟩, ⟨h0, h1⟩, hw⟩ := hw
    intro p l e s m args below meth cd dC dI base Z hC hb ac H locs ls hRet hR hS hL hlo hst hu
    have hx : i32 x := (al_cons.mp hst).1
    refine va_zald (D := (dC, dI)) (cl := cls) hC.1 hC.2.1 (hR.2.2.2.1.2.1 i hi _ (kind_eta hk)) hR.2.1 i 0 (by rw [ab_ws_at hi, enc_z hk]) rfl (n_in hx h0 h1) F.dec ?_
    rw [n_cl hx]
    have := hc _ _ _ _ hw p l e s m args below meth cd dC dI base Z hC hb ac H locs ls hRet hR hS hL hlo (al_cons.mpr ⟨hR.2.2.2.2.1 i _, (al_cons.mp (al_cons.mp hst).2).2⟩) hu
    rw [F.nx] at this
    exact this
theorem s_aaload (F : Fq y n (pc, .aaload, len, ax)) (hc : ∀ lo st h u, ct lo st h u → Sem y (n + 1) lo st h u Q) (hw : wI y Q K (pc, .aaload, len, ax) ct lo st h u) : Sem y n lo st h u Q := by
  obtain rfl := x_aaload F.x
  match st, hw with
  | .inl x :: .inr (.inr (some i)) :: rest, hw =>
    obtain ⟨⟨hi, hk⟩, ⟨h0, h1⟩, hw⟩ := hw
    split at hw
    · rename_i j hj
      intro p l e s m args below meth cd dC dI base Z hC hb ac H locs ls hRet hR hS hL hlo hst hu
      have hx : i32 x := (al_cons.mp hst).1
      refine va_aldq (D := (dC, dI)) (cl := cls) hC.1 hC.2.1 (hR.2.2.2.1.2.2 i hi _ (kind_eta hk)) hR.2.1 i 0 (by rw [ab_ws_at hi, enc_q hk]) rfl (n_in hx h0 h1) F.dec ?_
      rw [n_cl hx, hj]
      have := hc _ _ _ _ hw p l e s m args below meth cd dC dI base Z hC hb ac H locs ls hRet hR hS hL hlo (al_cons.mpr ⟨Or.inl (hR.2.2.2.2.2.1 i _ j hj), (al_cons.mp (al_cons.mp hst).2).2⟩) hu
      rw [F.nx] at this
      exact this
    · exact hw.elim
theorem s_alen (F : Fq y n (pc, .arraylength, len, ax)) (hc : ∀ lo st h u, ct lo st h u → Sem y (n + 1) lo st h u Q) (hw : wI y Q K (pc, .arraylength, len, ax) ct lo st h u) : Sem y n lo st h u Q := by
  obtain rfl := x_arraylength F.x
  match st, hw with
  | .inr (.inr (some i)) :: rest, hw =>
    obtain ⟨hia, hlt, hw⟩ := hw
    intro p l e s m args below meth cd dC dI base Z hC hb ac H locs ls hRet hR hS hL hlo hst hu
    have kk : W p l e (mRm y) s m args below meth cd H locs u.1 u.2 Z (F0 m (pcN y n + 1) ls (.int (Int32.ofInt ((h.1.2.1 i).2 : Nat)) :: rest.map (cv ac))) := by
      have := hc _ _ _ _ hw p l e s m args below meth cd dC dI base Z hC hb ac H locs ls hRet hR hS hL hlo (al_cons.mpr ⟨⟨by omega, by omega⟩, (al_cons.mp hst).2⟩) hu
      rw [F.nx] at this
      exact this
    rcases hia with ⟨hi, hk⟩ | ⟨hi, hk⟩
    · exact va_alen (D := (dC, dI)) (cl := cls) hC.1 hC.2.1 (hR.2.2.2.1.1 i hi _ (kind_eta hk)) hR.2.1 i 0 (by rw [ab_ws_at hi, enc_i hk]) rfl Int32.ofInt_eq_ofNat.symm F.dec kk
    · obtain ⟨q1, cell, q2, q3, q4, q5, q6, q7, q8⟩ := hR.2.2.2.2.2.2.2.1 i hi _ (kind_eta hk)
      exact W.alen hC.1 hC.2.1 q2 q3 q6 rfl rfl F.dec kk
theorem s_iastore (F : Fq y n (pc, .iastore, len, ax)) (hc : ∀ lo st h u, ct lo st h u → Sem y (n + 1) lo st h u Q) (hw : wI y Q K (pc, .iastore, len, ax) ct lo st h u) : Sem y n lo st h u Q := by
  obtain rfl := x_iastore F.x
  match st, hw with
  | .inl z :: .inl x :: .inr (.inr (some i)) :: rest, hw =>
    obtain ⟨⟨hi, hk⟩, ⟨h0, h1⟩, hw⟩ := hw
    intro p l e s m args below meth cd dC dI base Z hC hb ac H locs ls hRet hR hS hL hlo hst hu
    have hz : i32 z := (al_cons.mp hst).1
    have hx : i32 x := (al_cons.mp (al_cons.mp hst).2).1
    have hrest := (al_cons.mp (al_cons.mp (al_cons.mp hst).2).2).2
    refine va_iast (D := (dC, dI)) (cl := cls) (A := fun q => base ≤ q) hC.1 hC.2.1 (hR.2.2.2.1.1 i hi _ (kind_eta hk)) hR.2.1 hR.2.2.1 hS i 0 (by rw [ab_ws_at hi, enc_i hk]) rfl (n_in hx h0 h1) F.dec (fun H1 locs1 hP1 hD1 hS1 => ?_)
    have e1 : (ab_ws ac h).set i ((ac i).1, .inl ((ac i).2, (h.1.2.1 i).2, .inl (upd (fun j => Int32.ofInt (h.2 i j)) (Int32.ofInt x).toNatClampNeg (Int32.ofInt z)))) = ab_ws ac (h.1, ups h.2 i x.toNat z) := by
      refine ab_ws_set rfl hi ?_ (fun j hj => enc_ext rfl (ups_row hj) rfl rfl (fun _ _ _ => rfl))
      rw [enc_i (h := (h.1, ups h.2 i x.toNat z)) hk, n_cl hx]
      congr 4
      funext j
      by_cases hj : j = x.toNat
      · simp [upd, ups, hj]
      · simp [upd, ups, hj]
    rw [e1] at hP1 hD1
    have hR1 : sm_R dC dI base ac s H1 (h.1, ups h.2 i x.toNat z) := hR.upd hb hS hS1 hP1 hD1 rfl rfl (ups_i32 hR.2.2.2.2.1 hz) hR.2.2.2.2.2.1 (fun k hk => ups_row (by have := hR.2.2.2.2.2.2.1; omega))
    have := hc _ _ _ _ hw p l e s m args below meth cd dC dI base Z hC hb ac H1 locs1 ls hRet hR1 hS1 hL hlo hrest hu
    rw [F.nx] at this
    exact this
theorem nar_z {z : Int} (h : z = 0 ∨ z = 1) : vp_nar .boolean (Int32.ofInt z) = Int32.ofInt z := by
  rcases h with rfl | rfl <;> rfl
theorem s_bastore (F : Fq y n (pc, .bastore, len, ax)) (hc : ∀ lo st h u, ct lo st h u → Sem y (n + 1) lo st h u Q) (hw : wI y Q K (pc, .bastore, len, ax) ct lo st h u) : Sem y n lo st h u Q := by
  obtain rfl := x_bastore F.x
  match st, hw with
  | .inl z :: .inl x :: .inr (.inr (some i)) :: rest, hw =>
    obtain ⟨⟨hi, hk⟩, ⟨h0, h1⟩, h01, hw⟩ := hw
    intro p l e s m args below meth cd dC dI base Z hC hb ac H locs ls hRet hR hS hL hlo hst hu
    have hz : i32 z := (al_cons.mp hst).1
    have hx : i32 x := (al_cons.mp (al_cons.mp hst).2).1
    have hrest := (al_cons.mp (al_cons.mp (al_cons.mp hst).2).2).2
    refine va_zast (D := (dC, dI)) (cl := cls) (A := fun q => base ≤ q) hC.1 hC.2.1 (hR.2.2.2.1.2.1 i hi _ (kind_eta hk)) hR.2.1 hR.2.2.1 hS i 0 (by rw [ab_ws_at hi, enc_z hk]) rfl (n_in hx h0 h1) F.dec (fun H1 locs1 hP1 hD1 hS1 => ?_)
    have e1 : (ab_ws ac h).set i ((ac i).1, .inl ((ac i).2, (h.1.2.1 i).2, .inl (upd (fun j => Int32.ofInt (h.2 i j)) (Int32.ofInt x).toNatClampNeg (vp_nar .boolean (Int32.ofInt z))))) = ab_ws ac (h.1, ups h.2 i x.toNat z) := by
      refine ab_ws_set rfl hi ?_ (fun j hj => enc_ext rfl (ups_row hj) rfl rfl (fun _ _ _ => rfl))
      rw [enc_z (h := (h.1, ups h.2 i x.toNat z)) hk, n_cl hx, nar_z h01]
      congr 4
      funext j
      by_cases hj : j = x.toNat
      · simp [upd, ups, hj]
      · simp [upd, ups, hj]
    rw [e1] at hP1 hD1
    have hR1 : sm_R dC dI base ac s H1 (h.1, ups h.2 i x.toNat z) := hR.upd hb hS hS1 hP1 hD1 rfl rfl (ups_i32 hR.2.2.2.2.1 hz) hR.2.2.2.2.2.1 (fun k hk => ups_row (by have := hR.2.2.2.2.2.2.1; omega))
    have := hc _ _ _ _ hw p l e s m args below meth cd dC dI base Z hC hb ac H1 locs1 ls hRet hR1 hS1 hL hlo hrest hu
    rw [F.nx] at this
    exact this
theorem s_aastore (F : Fq y n (pc, .aastore, len, ax)) (hc : ∀ lo st h u, ct lo st h u → Sem y (n + 1) lo st h u Q) (hw : wI y Q K (pc, .aastore, len, ax) ct lo st h u) : Sem y n lo st h u Q := by
  obtain rfl := x_aastore F.x
  match st, hw with
  | .inr (.inr (some v)) :: .inl x :: .inr (.inr (some i)) :: rest, hw =>
    obtain ⟨⟨hi, hk⟩, ⟨h0, h1⟩, ⟨hv, hv7⟩, hw⟩ := hw
    intro p l e s m args below meth cd dC dI base Z hC hb ac H locs ls hRet hR hS hL hlo hst hu
    have hx : i32 x := (al_cons.mp (al_cons.mp hst).2).1
    have hrest := (al_cons.mp (al_cons.mp (al_cons.mp hst).2).2).2
    refine va_astq (D := (dC, dI)) (cl := cls) (A := fun q => base ≤ q) (r := (cN 4, fT 4, nF 4)) hC.1 hC.2.1 (hR.2.2.2.1.2.2 i hi _ (kind_eta hk)) hR.2.1 hR.2.2.1 hS i 0 v 4 (by rw [ab_ws_at hi, enc_q hk]) rfl (by rw [ab_ws_at hv, enc_obj (c := 4) hv7]) (cls_at (by decide)) (n_in hx h0 h1) F.dec (fun H1 locs1 hP1 hD1 hS1 => ?_)
    have e1 : (ab_ws ac h).set i ((ac i).1, .inl ((ac i).2, (h.1.2.1 i).2, .inr (.inr (.inr (.inr (va_up (fun j => (h.1.2.2 i j).map (fun i => (ac i).1)) (Int32.ofInt x).toNatClampNeg (some (ac v).1))))))) = ab_ws ac ((h.1.1, h.1.2.1, upq h.1.2.2 i x.toNat v), h.2) := by
      refine ab_ws_set rfl hi ?_ (fun j hj => enc_ext rfl rfl (upq_row hj) rfl (fun _ _ _ => rfl))
      rw [enc_q (h := ((h.1.1, h.1.2.1, upq h.1.2.2 i x.toNat v), h.2)) hk, n_cl hx]
      congr 7
      funext j
      by_cases hj : j = x.toNat
      · simp [va_up, upq, hj]
      · simp [va_up, upq, hj]
    rw [e1] at hP1 hD1
    have hR1 : sm_R dC dI base ac s H1 ((h.1.1, h.1.2.1, upq h.1.2.2 i x.toNat v), h.2) := hR.upd hb hS hS1 hP1 hD1 rfl rfl hR.2.2.2.2.1 (upq_lt hR.2.2.2.2.2.1 hv) (fun k hk => rfl)
    have := hc _ _ _ _ hw p l e s m args below meth cd dC dI base Z hC hb ac H1 locs1 ls hRet hR1 hS1 hL hlo hrest hu
    rw [F.nx] at this
    exact this
end Steps
