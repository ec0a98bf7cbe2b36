/-! every instruction of the abstract machine is the machine's -/
theorem pcS_succ {L : List ab_I} {n : Nat} {q : ab_I} (h : L[n]? = some q) : pcS L (n + 1) = pcS L n + q.2.2.1 := by
  induction L generalizing n with
  | nil => simp at h
  | cons a r ih =>
    cases n with
    | zero =>
      simp at h
      subst h
      cases r <;> simp [pcS]
    | succ n =>
      simp at h
      show a.2.2.1 + pcS r (n + 1) = a.2.2.1 + pcS r n + q.2.2.1
      rw [ih h]
      omega
theorem okL_at {L : List ab_I} {a n : Nat} {q : ab_I} (hk : okL a L = true) (h : L[n]? = some q) : q.1 = a + pcS L n := by
  induction L generalizing a n with
  | nil => simp at h
  | cons b r ih =>
    simp only [okL, Bool.and_eq_true, decide_eq_true_eq] at hk
    cases n with
    | zero =>
      simp at h
      subst h
      simpa [pcS] using hk.1
    | succ n =>
      simp at h
      have := ih hk.2 h
      show q.1 = a + (b.2.2.1 + pcS r n)
      omega
def Fq (y n : Nat) (q : ab_I) : Prop := (4 ≤ y ∧ y < 190) ∧ (mC y)[n]? = some q
theorem Fq.dec {y n : Nat} {q : ab_I} (F : Fq y n q) : decode (mB y) (pcN y n) = .ok (q.2.1, q.2.2.1) := by
  obtain ⟨h1, h2⟩ := ck_D y F.1.1 F.1.2
  have h3 := List.all_eq_true.mp h1 q (List.mem_of_getElem? F.2)
  have h4 := okL_at h2 F.2
  simp only [okD, decide_eq_true_eq] at h3
  rw [h4, Nat.zero_add] at h3
  exact h3
theorem Fq.pc {y n : Nat} {q : ab_I} (F : Fq y n q) : q.1 = pcN y n := by
  have h4 := okL_at (ck_D y F.1.1 F.1.2).2 F.2
  rw [h4, Nat.zero_add]
  rfl
theorem Fq.nx {y n : Nat} {q : ab_I} (F : Fq y n q) : pcN y (n + 1) = pcN y n + q.2.2.1 := pcS_succ F.2
theorem Fq.x {y n : Nat} {q : ab_I} (F : Fq y n q) : okX y q = true := List.all_eq_true.mp (ck_X y F.1.1 F.1.2) q (List.mem_of_getElem? F.2)
theorem ix_mem {t : Nat} {w : Jvm.Cond} (h : ix t w = true) : w ∈ lw_tbl := List.mem_of_getElem? (of_decide_eq_true h)
/-- an instruction that leaves heap and locals -/
theorem sm_pure {y n : Nat} {q : ab_I} {lo st st' : List ab_V} {h : ab_H} {u : Nat × Nat} {Q : Option ab_V → ab_H → Prop} (F : Fq y n q) (k : Sem y (n + 1) lo st' h u Q)
    (row : ∀ (p : Program) (l : Launch) (e : Env) (s : State) (m : MethodId) (args : Array Value) (below : List Frame) (meth : Method) (c : Code) (H : Heap) (locs : List Loc) (cells slots : Nat) (Z : State → Prop) (ls : Array Slot) (ac : Nat → Nat × ClassId), sm_C y p s m args meth c → sm_L (mL y) ls ac lo → (∀ v ∈ lo, ab_ok h.1.1 v) → (∀ v ∈ st, ab_ok h.1.1 v) → decode (mB y) (pcN y n) = .ok (q.2.1, q.2.2.1) → cells ≤ (mRm y).cells ∧ slots ≤ (mRm y).slots →
      W p l e (mRm y) s m args below meth c H locs cells slots Z (F0 m (pcN y n + q.2.2.1) ls (st'.map (cv ac))) → W p l e (mRm y) s m args below meth c H locs cells slots Z (F0 m (pcN y n) ls (st.map (cv ac))))
    (hok : (∀ v ∈ lo, ab_ok h.1.1 v) → (∀ v ∈ st, ab_ok h.1.1 v) → ∀ v ∈ st', ab_ok h.1.1 v) : Sem y n lo st h u Q := by
  intro p l e s m args below meth c dC dI base Z hC hb ac H locs ls hRet hR hS hL hlo hst hu
  refine row p l e s m args below meth c H locs u.1 u.2 Z ls ac hC hL hlo hst F.dec hu ?_
  have := k p l e s m args below meth c dC dI base Z hC hb ac H locs ls hRet hR hS hL hlo (hok hlo hst) hu
  rw [F.nx] at this
  exact this
theorem ld_get {lo : List ab_V} {k : Nat} {v : ab_V} (h : ab_ld lo k = v) (hv : v ≠ vU) : lo[k]? = some v := by
  unfold ab_ld at h
  rw [List.getD_eq_getElem?_getD] at h
  cases hk : lo[k]? with
  | none => rw [hk] at h; exact absurd h.symm hv
  | some w => rw [hk] at h; rw [← h]; rfl
theorem al_cons {n : Nat} {v : ab_V} {r : List ab_V} : (∀ w ∈ v :: r, ab_ok n w) ↔ ab_ok n v ∧ ∀ w ∈ r, ab_ok n w := List.forall_mem_cons
section Steps
variable {y n pc len : Nat} {ax : List Nat} {ct : ab_C} {K : Nat → ab_C} {lo st : List ab_V} {h : ab_H} {u : Nat × Nat} {Q : Option ab_V → ab_H → Prop}
/-! constants -/
theorem s_const {i : Instr} {z : Int} (F : Fq y n (pc, i, len, ax)) (hz : i32 z)
    (row : ∀ (p : Program) (l : Launch) (e : Env) (s : State) (m : MethodId) (args : Array Value) (below : List Frame) (meth : Method) (c : Code) (H : Heap) (locs : List Loc) (cells slots : Nat) (Z : State → Prop) (ls : Array Slot) (rest : List Value), p.tables.exec = Jvm.exec → c.code = mB y → decode (mB y) (pcN y n) = .ok (i, len) → W p l e (mRm y) s m args below meth c H locs cells slots Z (F0 m (pcN y n + len) ls (.int (Int32.ofInt z) :: rest)) → W p l e (mRm y) s m args below meth c H locs cells slots Z (F0 m (pcN y n) ls rest))
    (k : Sem y (n + 1) lo (.inl z :: st) h u Q) : Sem y n lo st h u Q :=
  sm_pure F k (fun p l e s m args below meth c H locs cells slots Z ls ac hC hL hlo hst hd hu kk => row p l e s m args below meth c H locs cells slots Z ls _ hC.1 hC.2.1 hd kk) (fun _ hst => al_cons.mpr ⟨hz, hst⟩)
theorem x_iconst {z : Int} (h : okX y (pc, .iconst z, len, ax) = true) : len = 1 ∧ i32 z := by
  rcases len with _ | _ | len <;> rcases ax with _ | ⟨a, ax⟩
  all_goals first | exact absurd (show false = true from h) (by decide) | exact ⟨rfl, (of_decide_eq_true h : -2147483648 ≤ z ∧ z < 2147483648)⟩
theorem x_bipush {z : Int} (h : okX y (pc, .bipush z, len, ax) = true) : len = 2 ∧ i32 z ∧ (Int8.ofInt z).toInt32 = Int32.ofInt z := by
  rcases len with _ | _ | _ | len <;> rcases ax with _ | ⟨a, ax⟩
  all_goals first | exact absurd (show false = true from h) (by decide) | (have := of_decide_eq_true h; exact ⟨rfl, ⟨this.1, this.2.1⟩, this.2.2⟩)
theorem x_sipush {z : Int} (h : okX y (pc, .sipush z, len, ax) = true) : len = 3 ∧ i32 z ∧ (Int16.ofInt z).toInt32 = Int32.ofInt z := by
  rcases len with _ | _ | _ | _ | len <;> rcases ax with _ | ⟨a, ax⟩
  all_goals first | exact absurd (show false = true from h) (by decide) | (have := of_decide_eq_true h; exact ⟨rfl, ⟨this.1, this.2.1⟩, this.2.2⟩)
theorem s_iconst {z : Int} (F : Fq y n (pc, .iconst z, len, ax)) (hc : ∀ lo st h u, ct lo st h u → Sem y (n + 1) lo st h u Q) (hw : wI y Q K (pc, .iconst z, len, ax) ct lo st h u) : Sem y n lo st h u Q := by
  obtain ⟨rfl, hz⟩ := x_iconst F.x
  exact s_const F hz (fun p l e s m args below meth c H locs cells slots Z ls rest hx hb hd kk => lv_iconst hx hb hd rfl kk) (hc _ _ _ _ hw)
theorem s_bipush {z : Int} (F : Fq y n (pc, .bipush z, len, ax)) (hc : ∀ lo st h u, ct lo st h u → Sem y (n + 1) lo st h u Q) (hw : wI y Q K (pc, .bipush z, len, ax) ct lo st h u) : Sem y n lo st h u Q := by
  obtain ⟨rfl, hz, h8⟩ := x_bipush F.x
  exact s_const F hz (fun p l e s m args below meth c H locs cells slots Z ls rest hx hb hd kk => lv_bipush hx hb hd h8 kk) (hc _ _ _ _ hw)
theorem s_sipush {z : Int} (F : Fq y n (pc, .sipush z, len, ax)) (hc : ∀ lo st h u, ct lo st h u → Sem y (n + 1) lo st h u Q) (hw : wI y Q K (pc, .sipush z, len, ax) ct lo st h u) : Sem y n lo st h u Q := by
  obtain ⟨rfl, hz, h8⟩ := x_sipush F.x
  exact s_const F hz (fun p l e s m args below meth c H locs cells slots Z ls rest hx hb hd kk => lv_sipush hx hb hd h8 kk) (hc _ _ _ _ hw)
theorem x_lconst {z : Fin 2} (h : okX y (pc, .lconst z, len, ax) = true) : len = 1 ∧ ax = [z.val] := by
  rcases len with _ | _ | len <;> rcases ax with _ | ⟨a, _ | ⟨b, ax⟩⟩
  all_goals first | exact absurd (show false = true from h) (by decide) | (have := of_decide_eq_true h; exact ⟨rfl, by rw [this]⟩)
theorem s_lconst {z : Fin 2} (F : Fq y n (pc, .lconst z, len, ax)) (hc : ∀ lo st h u, ct lo st h u → Sem y (n + 1) lo st h u Q) (hw : wI y Q K (pc, .lconst z, len, ax) ct lo st h u) : Sem y n lo st h u Q := by
  obtain ⟨rfl, rfl⟩ := x_lconst F.x
  refine sm_pure F (hc _ _ _ _ hw) (fun p l e s m args below meth c H locs cells slots Z ls ac hC hL hlo hst hd hu kk => lv_lconst hC.1 hC.2.1 hd ?_ kk) (fun _ hst => al_cons.mpr ⟨?_, hst⟩)
  · exact Int64.ofInt_eq_ofNat.symm
  · have := z.isLt
    exact ⟨by omega, by omega⟩
theorem x_ldc2 {idx : Nat} (h : okX y (pc, .ldc2_w idx, len, ax) = true) : len = 3 ∧ ∃ t sg a, ax = [t, sg, a] ∧ a < 4294967296 ∧ Jvm.Cond.constantLong (mN y).cls idx (Int64.ofInt (if sg = 1 then -(a : Int) else (a : Int))) ∈ lw_tbl := by
  rcases len with _ | _ | _ | _ | len <;> rcases ax with _ | ⟨a, _ | ⟨b, _ | ⟨d, _ | ⟨e, ax⟩⟩⟩⟩
  all_goals first | exact absurd (show false = true from h) (by decide) | skip
  have h1 := Bool.and_eq_true_iff.mp h
  exact ⟨rfl, a, b, d, rfl, of_decide_eq_true h1.2, ix_mem h1.1⟩
theorem s_ldc2 {idx : Nat} (F : Fq y n (pc, .ldc2_w idx, len, ax)) (hc : ∀ lo st h u, ct lo st h u → Sem y (n + 1) lo st h u Q) (hw : wI y Q K (pc, .ldc2_w idx, len, ax) ct lo st h u) : Sem y n lo st h u Q := by
  obtain ⟨rfl, t, sg, a, rfl, ha, hm⟩ := x_ldc2 F.x
  refine sm_pure F (hc _ _ _ _ hw) (fun p l e s m args below meth c H locs cells slots Z ls ac hC hL hlo hst hd hu kk => lv_ldc2 hC.1 hC.2.1 hC.2.2.2.1 (hC.2.2.2.2.1 _ hm rfl) hd kk) (fun _ hst => al_cons.mpr ⟨?_, hst⟩)
  show i64 (if sg = 1 then -(a : Int) else (a : Int))
  unfold i64
  split <;> omega
/-! loads -/
theorem s_ldI {i : Instr} {k : Nat} (F : Fq y n (pc, i, len, ax))
    (row : ∀ (p : Program) (l : Launch) (e : Env) (s : State) (m : MethodId) (args : Array Value) (below : List Frame) (meth : Method) (c : Code) (H : Heap) (locs : List Loc) (cells slots : Nat) (Z : State → Prop) (ls : Array Slot) (rest : List Value) (x : Int32), p.tables.exec = Jvm.exec → c.code = mB y → decode (mB y) (pcN y n) = .ok (i, len) → ls[k]? = some (.val (.int x)) → W p l e (mRm y) s m args below meth c H locs cells slots Z (F0 m (pcN y n + len) ls (.int x :: rest)) → W p l e (mRm y) s m args below meth c H locs cells slots Z (F0 m (pcN y n) ls rest))
    (hc : ∀ lo st h u, ct lo st h u → Sem y (n + 1) lo st h u Q) (hw : wLd k ct lo st h u) : Sem y n lo st h u Q := by
  unfold wLd at hw
  split at hw
  · rename_i z hz
    have hg := ld_get hz (fun q => by cases q)
    exact sm_pure F (hc _ _ _ _ hw) (fun p l e s m args below meth c H locs cells slots Z ls ac hC hL hlo hst hd hu kk => row p l e s m args below meth c H locs cells slots Z ls _ _ hC.1 hC.2.1 hd (hL.2.2.2 k _ hg (fun q => by cases q)) kk) (fun hlo hst => al_cons.mpr ⟨hlo _ (List.mem_of_getElem? hg), hst⟩)
  · exact hw.elim
theorem s_ldJ {i : Instr} {k : Nat} (F : Fq y n (pc, i, len, ax))
    (row : ∀ (p : Program) (l : Launch) (e : Env) (s : State) (m : MethodId) (args : Array Value) (below : List Frame) (meth : Method) (c : Code) (H : Heap) (locs : List Loc) (cells slots : Nat) (Z : State → Prop) (ls : Array Slot) (rest : List Value) (x : Int64), p.tables.exec = Jvm.exec → c.code = mB y → decode (mB y) (pcN y n) = .ok (i, len) → ls[k]? = some (.val (.long x)) → W p l e (mRm y) s m args below meth c H locs cells slots Z (F0 m (pcN y n + len) ls (.long x :: rest)) → W p l e (mRm y) s m args below meth c H locs cells slots Z (F0 m (pcN y n) ls rest))
    (hc : ∀ lo st h u, ct lo st h u → Sem y (n + 1) lo st h u Q) (hw : wLdL k ct lo st h u) : Sem y n lo st h u Q := by
  unfold wLdL at hw
  split at hw
  · rename_i z hz
    have hg := ld_get hz (fun q => by cases q)
    exact sm_pure F (hc _ _ _ _ hw) (fun p l e s m args below meth c H locs cells slots Z ls ac hC hL hlo hst hd hu kk => row p l e s m args below meth c H locs cells slots Z ls _ _ hC.1 hC.2.1 hd (hL.2.2.2 k _ hg (fun q => by cases q)) kk) (fun hlo hst => al_cons.mpr ⟨hlo _ (List.mem_of_getElem? hg), hst⟩)
  · exact hw.elim
theorem s_ldA {i : Instr} {k : Nat} (F : Fq y n (pc, i, len, ax))
    (row : ∀ (p : Program) (l : Launch) (e : Env) (s : State) (m : MethodId) (args : Array Value) (below : List Frame) (meth : Method) (c : Code) (H : Heap) (locs : List Loc) (cells slots : Nat) (Z : State → Prop) (ls : Array Slot) (rest : List Value) (x : Nat), p.tables.exec = Jvm.exec → c.code = mB y → decode (mB y) (pcN y n) = .ok (i, len) → ls[k]? = some (.val (.ref x)) → W p l e (mRm y) s m args below meth c H locs cells slots Z (F0 m (pcN y n + len) ls (.ref x :: rest)) → W p l e (mRm y) s m args below meth c H locs cells slots Z (F0 m (pcN y n) ls rest))
    (hc : ∀ lo st h u, ct lo st h u → Sem y (n + 1) lo st h u Q) (hw : wLdA k ct lo st h u) : Sem y n lo st h u Q := by
  unfold wLdA at hw
  split at hw
  · rename_i z hz
    have hg := ld_get hz (fun q => by cases q)
    exact sm_pure F (hc _ _ _ _ hw) (fun p l e s m args below meth c H locs cells slots Z ls ac hC hL hlo hst hd hu kk => row p l e s m args below meth c H locs cells slots Z ls _ _ hC.1 hC.2.1 hd (hL.2.2.2 k _ hg (fun q => by cases q)) kk) (fun hlo hst => al_cons.mpr ⟨hlo _ (List.mem_of_getElem? hg), hst⟩)
  · exact hw.elim
theorem x_iload_n {k : Fin 4} (h : okX y (pc, .iload_n k, len, ax) = true) : len = 1 ∧ ax = [k.val] := by
  rcases len with _ | _ | len <;> rcases ax with _ | ⟨a, _ | ⟨b, ax⟩⟩
  all_goals first | exact absurd (show false = true from h) (by decide) | (have := of_decide_eq_true h; exact ⟨rfl, by rw [this]⟩)
theorem s_iload_n {k : Fin 4} (F : Fq y n (pc, .iload_n k, len, ax)) (hc : ∀ lo st h u, ct lo st h u → Sem y (n + 1) lo st h u Q) (hw : wI y Q K (pc, .iload_n k, len, ax) ct lo st h u) : Sem y n lo st h u Q := by
  obtain ⟨rfl, rfl⟩ := x_iload_n F.x
  exact s_ldI F (fun p l e s m args below meth c H locs cells slots Z ls rest x hx hb hd hl kk => lv_iload_n hx hb hd rfl hl kk) hc hw
theorem x_aload_n {k : Fin 4} (h : okX y (pc, .aload_n k, len, ax) = true) : len = 1 ∧ ax = [k.val] := by
  rcases len with _ | _ | len <;> rcases ax with _ | ⟨a, _ | ⟨b, ax⟩⟩
  all_goals first | exact absurd (show false = true from h) (by decide) | (have := of_decide_eq_true h; exact ⟨rfl, by rw [this]⟩)
theorem s_aload_n {k : Fin 4} (F : Fq y n (pc, .aload_n k, len, ax)) (hc : ∀ lo st h u, ct lo st h u → Sem y (n + 1) lo st h u Q) (hw : wI y Q K (pc, .aload_n k, len, ax) ct lo st h u) : Sem y n lo st h u Q := by
  obtain ⟨rfl, rfl⟩ := x_aload_n F.x
  exact s_ldA F (fun p l e s m args below meth c H locs cells slots Z ls rest x hx hb hd hl kk => lv_aload_n hx hb hd rfl hl kk) hc hw
theorem x_lload_n {k : Fin 4} (h : okX y (pc, .lload_n k, len, ax) = true) : len = 1 ∧ ax = [k.val] := by
  rcases len with _ | _ | len <;> rcases ax with _ | ⟨a, _ | ⟨b, ax⟩⟩
  all_goals first | exact absurd (show false = true from h) (by decide) | (have := of_decide_eq_true h; exact ⟨rfl, by rw [this]⟩)
theorem s_lload_n {k : Fin 4} (F : Fq y n (pc, .lload_n k, len, ax)) (hc : ∀ lo st h u, ct lo st h u → Sem y (n + 1) lo st h u Q) (hw : wI y Q K (pc, .lload_n k, len, ax) ct lo st h u) : Sem y n lo st h u Q := by
  obtain ⟨rfl, rfl⟩ := x_lload_n F.x
  exact s_ldJ F (fun p l e s m args below meth c H locs cells slots Z ls rest x hx hb hd hl kk => lv_lload_n hx hb hd rfl hl kk) hc hw
theorem x_iload {k : Nat} (h : okX y (pc, .iload k, len, ax) = true) : len = 2 ∧ ax = [k] := by
  rcases len with _ | _ | _ | len <;> rcases ax with _ | ⟨a, _ | ⟨b, ax⟩⟩
  all_goals first | exact absurd (show false = true from h) (by decide) | (have := of_decide_eq_true h; exact ⟨rfl, by rw [this]⟩)
theorem s_iload {k : Nat} (F : Fq y n (pc, .iload k, len, ax)) (hc : ∀ lo st h u, ct lo st h u → Sem y (n + 1) lo st h u Q) (hw : wI y Q K (pc, .iload k, len, ax) ct lo st h u) : Sem y n lo st h u Q := by
  obtain ⟨rfl, rfl⟩ := x_iload F.x
  exact s_ldI F (fun p l e s m args below meth c H locs cells slots Z ls rest x hx hb hd hl kk => lv_iload hx hb hd hl kk) hc hw
theorem x_aload {k : Nat} (h : okX y (pc, .aload k, len, ax) = true) : len = 2 ∧ ax = [k] := by
  rcases len with _ | _ | _ | len <;> rcases ax with _ | ⟨a, _ | ⟨b, ax⟩⟩
  all_goals first | exact absurd (show false = true from h) (by decide) | (have := of_decide_eq_true h; exact ⟨rfl, by rw [this]⟩)
theorem s_aload {k : Nat} (F : Fq y n (pc, .aload k, len, ax)) (hc : ∀ lo st h u, ct lo st h u → Sem y (n + 1) lo st h u Q) (hw : wI y Q K (pc, .aload k, len, ax) ct lo st h u) : Sem y n lo st h u Q := by
  obtain ⟨rfl, rfl⟩ := x_aload F.x
  exact s_ldA F (fun p l e s m args below meth c H locs cells slots Z ls rest x hx hb hd hl kk => lv_aload hx hb hd hl kk) hc hw
theorem x_lload {k : Nat} (h : okX y (pc, .lload k, len, ax) = true) : len = 2 ∧ ax = [k] := by
  rcases len with _ | _ | _ | len <;> rcases ax with _ | ⟨a, _ | ⟨b, ax⟩⟩
  all_goals first | exact absurd (show false = true from h) (by decide) | (have := of_decide_eq_true h; exact ⟨rfl, by rw [this]⟩)
theorem s_lload {k : Nat} (F : Fq y n (pc, .lload k, len, ax)) (hc : ∀ lo st h u, ct lo st h u → Sem y (n + 1) lo st h u Q) (hw : wI y Q K (pc, .lload k, len, ax) ct lo st h u) : Sem y n lo st h u Q := by
  obtain ⟨rfl, rfl⟩ := x_lload F.x
  exact s_ldJ F (fun p l e s m args below meth c H locs cells slots Z ls rest x hx hb hd hl kk => lv_lload hx hb hd hl kk) hc hw
/-! arithmetic -/
theorem s_bin {i : Instr} {ok : Int → Int → Prop} {f : Int → Int → Int} (g : Int32 → Int32 → Int32) (F : Fq y n (pc, i, len, ax)) (hl : len = 1)
    (row : ∀ (p : Program) (l : Launch) (e : Env) (s : State) (m : MethodId) (args : Array Value) (below : List Frame) (meth : Method) (c : Code) (H : Heap) (locs : List Loc) (cells slots : Nat) (Z : State → Prop) (ls : Array Slot) (rest : List Value) (a b : Int), i32 a → i32 b → ok a b → p.tables.exec = Jvm.exec → c.code = mB y → decode (mB y) (pcN y n) = .ok (i, 1) → W p l e (mRm y) s m args below meth c H locs cells slots Z (F0 m (pcN y n + 1) ls (.int (g (Int32.ofInt a) (Int32.ofInt b)) :: rest)) → W p l e (mRm y) s m args below meth c H locs cells slots Z (F0 m (pcN y n) ls (.int (Int32.ofInt b) :: .int (Int32.ofInt a) :: rest)))
    (hg : ∀ a b, i32 a → i32 b → ok a b → g (Int32.ofInt a) (Int32.ofInt b) = Int32.ofInt (f a b) ∧ i32 (f a b))
    (hc : ∀ lo st h u, ct lo st h u → Sem y (n + 1) lo st h u Q) (hw : wBin ok f ct lo st h u) : Sem y n lo st h u Q := by
  subst hl
  unfold wBin at hw
  split at hw
  · rename_i b a r
    obtain ⟨h1, h2⟩ := hw
    refine sm_pure F (hc _ _ _ _ h2) (fun p l e s m args below meth c H locs cells slots Z ls ac hC hL hlo hst hd hu kk => ?_) (fun hlo hst => ?_)
    · obtain ⟨hb, ha, hr⟩ := (al_cons.mp hst).imp id al_cons.mp
      refine row p l e s m args below meth c H locs cells slots Z ls _ a b ha hb h1 hC.1 hC.2.1 hd ?_
      rw [(hg a b ha hb h1).1]
      exact kk
    · obtain ⟨hb, ha, hr⟩ := (al_cons.mp hst).imp id al_cons.mp
      exact al_cons.mpr ⟨(hg a b ha hb h1).2, hr⟩
  · exact hw.elim
theorem s_binL {i : Instr} {ok : Int → Int → Prop} {f : Int → Int → Int} (g : Int64 → Int64 → Int64) (F : Fq y n (pc, i, len, ax)) (hl : len = 1)
    (row : ∀ (p : Program) (l : Launch) (e : Env) (s : State) (m : MethodId) (args : Array Value) (below : List Frame) (meth : Method) (c : Code) (H : Heap) (locs : List Loc) (cells slots : Nat) (Z : State → Prop) (ls : Array Slot) (rest : List Value) (a b : Int), i64 a → i64 b → ok a b → p.tables.exec = Jvm.exec → c.code = mB y → decode (mB y) (pcN y n) = .ok (i, 1) → W p l e (mRm y) s m args below meth c H locs cells slots Z (F0 m (pcN y n + 1) ls (.long (g (Int64.ofInt a) (Int64.ofInt b)) :: rest)) → W p l e (mRm y) s m args below meth c H locs cells slots Z (F0 m (pcN y n) ls (.long (Int64.ofInt b) :: .long (Int64.ofInt a) :: rest)))
    (hg : ∀ a b, i64 a → i64 b → ok a b → g (Int64.ofInt a) (Int64.ofInt b) = Int64.ofInt (f a b) ∧ i64 (f a b))
    (hc : ∀ lo st h u, ct lo st h u → Sem y (n + 1) lo st h u Q) (hw : wBinL ok f ct lo st h u) : Sem y n lo st h u Q := by
  subst hl
  unfold wBinL at hw
  split at hw
  · rename_i b a r
    obtain ⟨h1, h2⟩ := hw
    refine sm_pure F (hc _ _ _ _ h2) (fun p l e s m args below meth c H locs cells slots Z ls ac hC hL hlo hst hd hu kk => ?_) (fun hlo hst => ?_)
    · obtain ⟨hb, ha, hr⟩ := (al_cons.mp hst).imp id al_cons.mp
      refine row p l e s m args below meth c H locs cells slots Z ls _ a b ha hb h1 hC.1 hC.2.1 hd ?_
      rw [(hg a b ha hb h1).1]
      exact kk
    · obtain ⟨hb, ha, hr⟩ := (al_cons.mp hst).imp id al_cons.mp
      exact al_cons.mpr ⟨(hg a b ha hb h1).2, hr⟩
  · exact hw.elim
theorem s_shL {i : Instr} {f : Int → Int → Int} (g : Int64 → Int32 → Int64) (F : Fq y n (pc, i, len, ax)) (hl : len = 1)
    (row : ∀ (p : Program) (l : Launch) (e : Env) (s : State) (m : MethodId) (args : Array Value) (below : List Frame) (meth : Method) (c : Code) (H : Heap) (locs : List Loc) (cells slots : Nat) (Z : State → Prop) (ls : Array Slot) (rest : List Value) (a b : Int), p.tables.exec = Jvm.exec → c.code = mB y → decode (mB y) (pcN y n) = .ok (i, 1) → W p l e (mRm y) s m args below meth c H locs cells slots Z (F0 m (pcN y n + 1) ls (.long (g (Int64.ofInt a) (Int32.ofInt b)) :: rest)) → W p l e (mRm y) s m args below meth c H locs cells slots Z (F0 m (pcN y n) ls (.int (Int32.ofInt b) :: .long (Int64.ofInt a) :: rest)))
    (hg : ∀ a b, f a b = (g (Int64.ofInt a) (Int32.ofInt b)).toInt)
    (hc : ∀ lo st h u, ct lo st h u → Sem y (n + 1) lo st h u Q) (hw : wShL f ct lo st h u) : Sem y n lo st h u Q := by
  subst hl
  unfold wShL at hw
  split at hw
  · rename_i b a r
    refine sm_pure F (hc _ _ _ _ hw) (fun p l e s m args below meth c H locs cells slots Z ls ac hC hL hlo hst hd hu kk => ?_) (fun hlo hst => ?_)
    · refine row p l e s m args below meth c H locs cells slots Z ls _ a b hC.1 hC.2.1 hd ?_
      have e1 : cv ac (.inr (.inl (f a b))) = .long (g (Int64.ofInt a) (Int32.ofInt b)) := by show Value.long (Int64.ofInt (f a b)) = _; rw [hg, Int64.ofInt_toInt]
      rw [List.map_cons, e1] at kk
      exact kk
    · obtain ⟨hb, ha, hr⟩ := (al_cons.mp hst).imp id al_cons.mp
      exact al_cons.mpr ⟨by rw [hg]; exact n_ofl _, hr⟩
  · exact hw.elim
theorem x_iadd (h : okX y (pc, .iadd, len, ax) = true) : len = 1 := by
  rcases len with _ | _ | len <;> rcases ax with _ | ⟨a, ax⟩
  all_goals first | exact absurd (show false = true from h) (by decide) | rfl
theorem x_isub (h : okX y (pc, .isub, len, ax) = true) : len = 1 := by
  rcases len with _ | _ | len <;> rcases ax with _ | ⟨a, ax⟩
  all_goals first | exact absurd (show false = true from h) (by decide) | rfl
theorem x_imul (h : okX y (pc, .imul, len, ax) = true) : len = 1 := by
  rcases len with _ | _ | len <;> rcases ax with _ | ⟨a, ax⟩
  all_goals first | exact absurd (show false = true from h) (by decide) | rfl
theorem x_idiv (h : okX y (pc, .idiv, len, ax) = true) : len = 1 := by
  rcases len with _ | _ | len <;> rcases ax with _ | ⟨a, ax⟩
  all_goals first | exact absurd (show false = true from h) (by decide) | rfl
theorem x_irem (h : okX y (pc, .irem, len, ax) = true) : len = 1 := by
  rcases len with _ | _ | len <;> rcases ax with _ | ⟨a, ax⟩
  all_goals first | exact absurd (show false = true from h) (by decide) | rfl
theorem x_ineg (h : okX y (pc, .ineg, len, ax) = true) : len = 1 := by
  rcases len with _ | _ | len <;> rcases ax with _ | ⟨a, ax⟩
  all_goals first | exact absurd (show false = true from h) (by decide) | rfl
theorem x_iand (h : okX y (pc, .iand, len, ax) = true) : len = 1 := by
  rcases len with _ | _ | len <;> rcases ax with _ | ⟨a, ax⟩
  all_goals first | exact absurd (show false = true from h) (by decide) | rfl
theorem x_ior (h : okX y (pc, .ior, len, ax) = true) : len = 1 := by
  rcases len with _ | _ | len <;> rcases ax with _ | ⟨a, ax⟩
  all_goals first | exact absurd (show false = true from h) (by decide) | rfl
theorem x_ishl (h : okX y (pc, .ishl, len, ax) = true) : len = 1 := by
  rcases len with _ | _ | len <;> rcases ax with _ | ⟨a, ax⟩
  all_goals first | exact absurd (show false = true from h) (by decide) | rfl
theorem x_ishr (h : okX y (pc, .ishr, len, ax) = true) : len = 1 := by
  rcases len with _ | _ | len <;> rcases ax with _ | ⟨a, ax⟩
  all_goals first | exact absurd (show false = true from h) (by decide) | rfl
theorem x_lsub (h : okX y (pc, .lsub, len, ax) = true) : len = 1 := by
  rcases len with _ | _ | len <;> rcases ax with _ | ⟨a, ax⟩
  all_goals first | exact absurd (show false = true from h) (by decide) | rfl
theorem x_lmul (h : okX y (pc, .lmul, len, ax) = true) : len = 1 := by
  rcases len with _ | _ | len <;> rcases ax with _ | ⟨a, ax⟩
  all_goals first | exact absurd (show false = true from h) (by decide) | rfl
theorem x_ldiv (h : okX y (pc, .ldiv, len, ax) = true) : len = 1 := by
  rcases len with _ | _ | len <;> rcases ax with _ | ⟨a, ax⟩
  all_goals first | exact absurd (show false = true from h) (by decide) | rfl
theorem x_lrem (h : okX y (pc, .lrem, len, ax) = true) : len = 1 := by
  rcases len with _ | _ | len <;> rcases ax with _ | ⟨a, ax⟩
  all_goals first | exact absurd (show false = true from h) (by decide) | rfl
theorem x_land (h : okX y (pc, .land, len, ax) = true) : len = 1 := by
  rcases len with _ | _ | len <;> rcases ax with _ | ⟨a, ax⟩
  all_goals first | exact absurd (show false = true from h) (by decide) | rfl
theorem x_lor (h : okX y (pc, .lor, len, ax) = true) : len = 1 := by
  rcases len with _ | _ | len <;> rcases ax with _ | ⟨a, ax⟩
  all_goals first | exact absurd (show false = true from h) (by decide) | rfl
theorem x_lshl (h : okX y (pc, .lshl, len, ax) = true) : len = 1 := by
  rcases len with _ | _ | len <;> rcases ax with _ | ⟨a, ax⟩
  all_goals first | exact absurd (show false = true from h) (by decide) | rfl
theorem x_lshr (h : okX y (pc, .lshr, len, ax) = true) : len = 1 := by
  rcases len with _ | _ | len <;> rcases ax with _ | ⟨a, ax⟩
  all_goals first | exact absurd (show false = true from h) (by decide) | rfl
theorem x_lushr (h : okX y (pc, .lushr, len, ax) = true) : len = 1 := by
  rcases len with _ | _ | len <;> rcases ax with _ | ⟨a, ax⟩
  all_goals first | exact absurd (show false = true from h) (by decide) | rfl
theorem x_i2l (h : okX y (pc, .i2l, len, ax) = true) : len = 1 := by
  rcases len with _ | _ | len <;> rcases ax with _ | ⟨a, ax⟩
  all_goals first | exact absurd (show false = true from h) (by decide) | rfl
theorem x_l2i (h : okX y (pc, .l2i, len, ax) = true) : len = 1 := by
  rcases len with _ | _ | len <;> rcases ax with _ | ⟨a, ax⟩
  all_goals first | exact absurd (show false = true from h) (by decide) | rfl
theorem x_lcmp (h : okX y (pc, .lcmp, len, ax) = true) : len = 1 := by
  rcases len with _ | _ | len <;> rcases ax with _ | ⟨a, ax⟩
  all_goals first | exact absurd (show false = true from h) (by decide) | rfl
theorem x_dup (h : okX y (pc, .dup, len, ax) = true) : len = 1 := by
  rcases len with _ | _ | len <;> rcases ax with _ | ⟨a, ax⟩
  all_goals first | exact absurd (show false = true from h) (by decide) | rfl
theorem x_dup2 (h : okX y (pc, .dup2, len, ax) = true) : len = 1 := by
  rcases len with _ | _ | len <;> rcases ax with _ | ⟨a, ax⟩
  all_goals first | exact absurd (show false = true from h) (by decide) | rfl
theorem x_pop (h : okX y (pc, .pop, len, ax) = true) : len = 1 := by
  rcases len with _ | _ | len <;> rcases ax with _ | ⟨a, ax⟩
  all_goals first | exact absurd (show false = true from h) (by decide) | rfl
theorem x_iaload (h : okX y (pc, .iaload, len, ax) = true) : len = 1 := by
  rcases len with _ | _ | len <;> rcases ax with _ | ⟨a, ax⟩
  all_goals first | exact absurd (show false = true from h) (by decide) | rfl
theorem x_iastore (h : okX y (pc, .iastore, len, ax) = true) : len = 1 := by
  rcases len with _ | _ | len <;> rcases ax with _ | ⟨a, ax⟩
  all_goals first | exact absurd (show false = true from h) (by decide) | rfl
theorem x_baload (h : okX y (pc, .baload, len, ax) = true) : len = 1 := by
  rcases len with _ | _ | len <;> rcases ax with _ | ⟨a, ax⟩
  all_goals first | exact absurd (show false = true from h) (by decide) | rfl
theorem x_bastore (h : okX y (pc, .bastore, len, ax) = true) : len = 1 := by
  rcases len with _ | _ | len <;> rcases ax with _ | ⟨a, ax⟩
  all_goals first | exact absurd (show false = true from h) (by decide) | rfl
theorem x_aaload (h : okX y (pc, .aaload, len, ax) = true) : len = 1 := by
  rcases len with _ | _ | len <;> rcases ax with _ | ⟨a, ax⟩
  all_goals first | exact absurd (show false = true from h) (by decide) | rfl
theorem x_aastore (h : okX y (pc, .aastore, len, ax) = true) : len = 1 := by
  rcases len with _ | _ | len <;> rcases ax with _ | ⟨a, ax⟩
  all_goals first | exact absurd (show false = true from h) (by decide) | rfl
theorem x_arraylength (h : okX y (pc, .arraylength, len, ax) = true) : len = 1 := by
  rcases len with _ | _ | len <;> rcases ax with _ | ⟨a, ax⟩
  all_goals first | exact absurd (show false = true from h) (by decide) | rfl
theorem s_iadd (F : Fq y n (pc, .iadd, len, ax)) (hc : ∀ lo st h u, ct lo st h u → Sem y (n + 1) lo st h u Q) (hw : wI y Q K (pc, .iadd, len, ax) ct lo st h u) : Sem y n lo st h u Q :=
  s_bin (fun x y => x + y) F (x_iadd F.x) (fun p l e s m args below meth c H locs cells slots Z ls rest a b _ _ _ hx hb hd kk => lv_iadd hx hb hd kk) (fun a b _ _ hk => ⟨(Int32.ofInt_add a b).symm, hk⟩) hc hw
theorem s_isub (F : Fq y n (pc, .isub, len, ax)) (hc : ∀ lo st h u, ct lo st h u → Sem y (n + 1) lo st h u Q) (hw : wI y Q K (pc, .isub, len, ax) ct lo st h u) : Sem y n lo st h u Q :=
  s_bin (fun x y => x - y) F (x_isub F.x) (fun p l e s m args below meth c H locs cells slots Z ls rest a b _ _ _ hx hb hd kk => lv_isub hx hb hd kk) (fun a b _ _ hk => ⟨(Int32.ofInt_sub a b).symm, hk⟩) hc hw
theorem s_imul (F : Fq y n (pc, .imul, len, ax)) (hc : ∀ lo st h u, ct lo st h u → Sem y (n + 1) lo st h u Q) (hw : wI y Q K (pc, .imul, len, ax) ct lo st h u) : Sem y n lo st h u Q :=
  s_bin (fun x y => x * y) F (x_imul F.x) (fun p l e s m args below meth c H locs cells slots Z ls rest a b _ _ _ hx hb hd kk => lv_imul hx hb hd kk) (fun a b _ _ hk => ⟨(Int32.ofInt_mul a b).symm, hk⟩) hc hw
theorem i_divr {a b : Int} (ha : i32 a) (h0 : 0 ≤ a) (h1 : 0 < b) : i32 (a / b) ∧ i32 (a % b) := by
  have h2 := Int.ediv_nonneg h0 (Int.le_of_lt h1)
  have h3 := Int.ediv_le_self b h0
  have h4 := Int.emod_nonneg a (Int.ne_of_gt h1)
  have h5 : a % b ≤ a := by
    have h6 := Int.mul_ediv_add_emod a b
    have h7 : 0 ≤ b * (a / b) := Int.mul_nonneg (Int.le_of_lt h1) h2
    omega
  obtain ⟨g1, g2⟩ := ha
  exact ⟨⟨by omega, by omega⟩, ⟨by omega, by omega⟩⟩
theorem i_divl {a b : Int} (ha : i64 a) (h0 : 0 ≤ a) (h1 : 0 < b) : i64 (a / b) ∧ i64 (a % b) := by
  have h2 := Int.ediv_nonneg h0 (Int.le_of_lt h1)
  have h3 := Int.ediv_le_self b h0
  have h4 := Int.emod_nonneg a (Int.ne_of_gt h1)
  have h5 : a % b ≤ a := by
    have h6 := Int.mul_ediv_add_emod a b
    have h7 : 0 ≤ b * (a / b) := Int.mul_nonneg (Int.le_of_lt h1) h2
    omega
  obtain ⟨g1, g2⟩ := ha
  exact ⟨⟨by omega, by omega⟩, ⟨by omega, by omega⟩⟩
theorem s_idiv (F : Fq y n (pc, .idiv, len, ax)) (hc : ∀ lo st h u, ct lo st h u → Sem y (n + 1) lo st h u Q) (hw : wI y Q K (pc, .idiv, len, ax) ct lo st h u) : Sem y n lo st h u Q :=
  s_bin (fun x y => x / y) F (x_idiv F.x) (fun p l e s m args below meth c H locs cells slots Z ls rest a b ha hb2 hk hx hb hd kk => lv_idiv hx hb hd (n_ne0 hb2 hk.2) kk) (fun a b ha hb hk => ⟨n_div ha hb hk.1 hk.2, (i_divr ha hk.1 hk.2).1⟩) hc hw
theorem s_irem (F : Fq y n (pc, .irem, len, ax)) (hc : ∀ lo st h u, ct lo st h u → Sem y (n + 1) lo st h u Q) (hw : wI y Q K (pc, .irem, len, ax) ct lo st h u) : Sem y n lo st h u Q :=
  s_bin (fun x y => x - x / y * y) F (x_irem F.x) (fun p l e s m args below meth c H locs cells slots Z ls rest a b ha hb2 hk hx hb hd kk => lv_irem hx hb hd (n_ne0 hb2 hk.2) kk) (fun a b ha hb hk => ⟨n_rem ha hb hk.1 hk.2, (i_divr ha hk.1 hk.2).2⟩) hc hw
theorem s_iand (F : Fq y n (pc, .iand, len, ax)) (hc : ∀ lo st h u, ct lo st h u → Sem y (n + 1) lo st h u Q) (hw : wI y Q K (pc, .iand, len, ax) ct lo st h u) : Sem y n lo st h u Q :=
  s_bin (fun x y => x &&& y) F (x_iand F.x) (fun p l e s m args below meth c H locs cells slots Z ls rest a b _ _ _ hx hb hd kk => lv_iand hx hb hd kk) (fun a b _ _ _ => ⟨(Int32.ofInt_toInt _).symm, n_of _⟩) hc hw
theorem s_ior (F : Fq y n (pc, .ior, len, ax)) (hc : ∀ lo st h u, ct lo st h u → Sem y (n + 1) lo st h u Q) (hw : wI y Q K (pc, .ior, len, ax) ct lo st h u) : Sem y n lo st h u Q :=
  s_bin (fun x y => x ||| y) F (x_ior F.x) (fun p l e s m args below meth c H locs cells slots Z ls rest a b _ _ _ hx hb hd kk => lv_ior hx hb hd kk) (fun a b _ _ _ => ⟨(Int32.ofInt_toInt _).symm, n_of _⟩) hc hw
theorem s_ishl (F : Fq y n (pc, .ishl, len, ax)) (hc : ∀ lo st h u, ct lo st h u → Sem y (n + 1) lo st h u Q) (hw : wI y Q K (pc, .ishl, len, ax) ct lo st h u) : Sem y n lo st h u Q :=
  s_bin (fun x y => x <<< (y &&& 31)) F (x_ishl F.x) (fun p l e s m args below meth c H locs cells slots Z ls rest a b _ _ _ hx hb hd kk => lv_ishl hx hb hd kk) (fun a b _ _ _ => ⟨(Int32.ofInt_toInt _).symm, n_of _⟩) hc hw
theorem s_ishr (F : Fq y n (pc, .ishr, len, ax)) (hc : ∀ lo st h u, ct lo st h u → Sem y (n + 1) lo st h u Q) (hw : wI y Q K (pc, .ishr, len, ax) ct lo st h u) : Sem y n lo st h u Q :=
  s_bin (fun x y => x >>> (y &&& 31)) F (x_ishr F.x) (fun p l e s m args below meth c H locs cells slots Z ls rest a b _ _ _ hx hb hd kk => lv_ishr hx hb hd kk) (fun a b _ _ _ => ⟨(Int32.ofInt_toInt _).symm, n_of _⟩) hc hw
theorem s_lsub (F : Fq y n (pc, .lsub, len, ax)) (hc : ∀ lo st h u, ct lo st h u → Sem y (n + 1) lo st h u Q) (hw : wI y Q K (pc, .lsub, len, ax) ct lo st h u) : Sem y n lo st h u Q :=
  s_binL (fun x y => x - y) F (x_lsub F.x) (fun p l e s m args below meth c H locs cells slots Z ls rest a b _ _ _ hx hb hd kk => lv_lsub hx hb hd kk) (fun a b _ _ hk => ⟨(Int64.ofInt_sub a b).symm, hk⟩) hc hw
theorem s_lmul (F : Fq y n (pc, .lmul, len, ax)) (hc : ∀ lo st h u, ct lo st h u → Sem y (n + 1) lo st h u Q) (hw : wI y Q K (pc, .lmul, len, ax) ct lo st h u) : Sem y n lo st h u Q :=
  s_binL (fun x y => x * y) F (x_lmul F.x) (fun p l e s m args below meth c H locs cells slots Z ls rest a b _ _ _ hx hb hd kk => lv_lmul hx hb hd kk) (fun a b _ _ hk => ⟨(Int64.ofInt_mul a b).symm, hk⟩) hc hw
theorem s_ldiv (F : Fq y n (pc, .ldiv, len, ax)) (hc : ∀ lo st h u, ct lo st h u → Sem y (n + 1) lo st h u Q) (hw : wI y Q K (pc, .ldiv, len, ax) ct lo st h u) : Sem y n lo st h u Q :=
  s_binL (fun x y => x / y) F (x_ldiv F.x) (fun p l e s m args below meth c H locs cells slots Z ls rest a b ha hb2 hk hx hb hd kk => lv_ldiv hx hb hd (n_ne0l hb2 hk.2) kk) (fun a b ha hb hk => ⟨n_divl ha hb hk.1 hk.2, (i_divl ha hk.1 hk.2).1⟩) hc hw
theorem s_lrem (F : Fq y n (pc, .lrem, len, ax)) (hc : ∀ lo st h u, ct lo st h u → Sem y (n + 1) lo st h u Q) (hw : wI y Q K (pc, .lrem, len, ax) ct lo st h u) : Sem y n lo st h u Q :=
  s_binL (fun x y => x - x / y * y) F (x_lrem F.x) (fun p l e s m args below meth c H locs cells slots Z ls rest a b ha hb2 hk hx hb hd kk => lv_lrem hx hb hd (n_ne0l hb2 hk.2) kk) (fun a b ha hb hk => ⟨n_reml ha hb hk.1 hk.2, (i_divl ha hk.1 hk.2).2⟩) hc hw
theorem s_land (F : Fq y n (pc, .land, len, ax)) (hc : ∀ lo st h u, ct lo st h u → Sem y (n + 1) lo st h u Q) (hw : wI y Q K (pc, .land, len, ax) ct lo st h u) : Sem y n lo st h u Q :=
  s_binL (fun x y => x &&& y) F (x_land F.x) (fun p l e s m args below meth c H locs cells slots Z ls rest a b _ _ _ hx hb hd kk => lv_land hx hb hd kk) (fun a b _ _ _ => ⟨(Int64.ofInt_toInt _).symm, n_ofl _⟩) hc hw
theorem s_lor (F : Fq y n (pc, .lor, len, ax)) (hc : ∀ lo st h u, ct lo st h u → Sem y (n + 1) lo st h u Q) (hw : wI y Q K (pc, .lor, len, ax) ct lo st h u) : Sem y n lo st h u Q :=
  s_binL (fun x y => x ||| y) F (x_lor F.x) (fun p l e s m args below meth c H locs cells slots Z ls rest a b _ _ _ hx hb hd kk => lv_lor hx hb hd kk) (fun a b _ _ _ => ⟨(Int64.ofInt_toInt _).symm, n_ofl _⟩) hc hw
theorem s_lshl (F : Fq y n (pc, .lshl, len, ax)) (hc : ∀ lo st h u, ct lo st h u → Sem y (n + 1) lo st h u Q) (hw : wI y Q K (pc, .lshl, len, ax) ct lo st h u) : Sem y n lo st h u Q :=
  s_shL (fun x y => x <<< (y.toInt64 &&& 63)) F (x_lshl F.x) (fun p l e s m args below meth c H locs cells slots Z ls rest a b hx hb hd kk => lv_lshl hx hb hd rfl kk) (fun a b => rfl) hc hw
theorem s_lshr (F : Fq y n (pc, .lshr, len, ax)) (hc : ∀ lo st h u, ct lo st h u → Sem y (n + 1) lo st h u Q) (hw : wI y Q K (pc, .lshr, len, ax) ct lo st h u) : Sem y n lo st h u Q :=
  s_shL (fun x y => x >>> (y.toInt64 &&& 63)) F (x_lshr F.x) (fun p l e s m args below meth c H locs cells slots Z ls rest a b hx hb hd kk => lv_lshr hx hb hd rfl kk) (fun a b => rfl) hc hw
theorem s_lushr (F : Fq y n (pc, .lushr, len, ax)) (hc : ∀ lo st h u, ct lo st h u → Sem y (n + 1) lo st h u Q) (hw : wI y Q K (pc, .lushr, len, ax) ct lo st h u) : Sem y n lo st h u Q :=
  s_shL (fun x y => (x.toUInt64 >>> (y.toInt64.toUInt64 &&& Int64.toUInt64 63)).toInt64) F (x_lushr F.x) (fun p l e s m args below meth c H locs cells slots Z ls rest a b hx hb hd kk => lv_lushr hx hb hd rfl kk) (fun a b => rfl) hc hw
theorem s_ineg (F : Fq y n (pc, .ineg, len, ax)) (hc : ∀ lo st h u, ct lo st h u → Sem y (n + 1) lo st h u Q) (hw : wI y Q K (pc, .ineg, len, ax) ct lo st h u) : Sem y n lo st h u Q := by
  obtain rfl := x_ineg F.x
  match st, hw with
  | .inl a :: r, hw =>
    obtain ⟨h1, h2⟩ := hw
    refine sm_pure F (hc _ _ _ _ h2) (fun p l e s m args below meth c H locs cells slots Z ls ac hC hL hlo hst hd hu kk => lv_ineg hC.1 hC.2.1 hd ?_) (fun hlo hst => al_cons.mpr ⟨h1, (al_cons.mp hst).2⟩)
    have e1 : cv ac (.inl (-a)) = .int (-Int32.ofInt a) := by show Value.int _ = _; rw [Int32.ofInt_neg]
    rw [List.map_cons, e1] at kk
    exact kk
theorem s_i2l (F : Fq y n (pc, .i2l, len, ax)) (hc : ∀ lo st h u, ct lo st h u → Sem y (n + 1) lo st h u Q) (hw : wI y Q K (pc, .i2l, len, ax) ct lo st h u) : Sem y n lo st h u Q := by
  obtain rfl := x_i2l F.x
  match st, hw with
  | .inl a :: r, hw =>
    refine sm_pure F (hc _ _ _ _ hw) (fun p l e s m args below meth c H locs cells slots Z ls ac hC hL hlo hst hd hu kk => lv_i2l hC.1 hC.2.1 hd (n_i2l (al_cons.mp hst).1) kk) (fun hlo hst => al_cons.mpr ⟨?_, (al_cons.mp hst).2⟩)
    have h1 : i32 a := (al_cons.mp hst).1
    obtain ⟨g1, g2⟩ := h1
    exact ⟨by omega, by omega⟩
theorem s_l2i (F : Fq y n (pc, .l2i, len, ax)) (hc : ∀ lo st h u, ct lo st h u → Sem y (n + 1) lo st h u Q) (hw : wI y Q K (pc, .l2i, len, ax) ct lo st h u) : Sem y n lo st h u Q := by
  obtain rfl := x_l2i F.x
  match st, hw with
  | .inr (.inl a) :: r, hw =>
    exact sm_pure F (hc _ _ _ _ hw) (fun p l e s m args below meth c H locs cells slots Z ls ac hC hL hlo hst hd hu kk => lv_l2i hC.1 hC.2.1 hd (Int32.ofInt_toInt _).symm kk) (fun hlo hst => al_cons.mpr ⟨n_of _, (al_cons.mp hst).2⟩)
theorem n_lcmp {a b : Int} (ha : i64 a) (hb : i64 b) : lg_cmp (Int64.ofInt a) (Int64.ofInt b) = Int32.ofInt (if b < a then 1 else if a = b then 0 else -1) := by
  unfold lg_cmp
  simp only [gt_iff_lt, Int64.lt_iff_toInt_lt, ← Int64.toInt_inj, n_tl ha, n_tl hb]
  repeat' split
  all_goals rfl
theorem s_lcmp (F : Fq y n (pc, .lcmp, len, ax)) (hc : ∀ lo st h u, ct lo st h u → Sem y (n + 1) lo st h u Q) (hw : wI y Q K (pc, .lcmp, len, ax) ct lo st h u) : Sem y n lo st h u Q := by
  obtain rfl := x_lcmp F.x
  match st, hw with
  | .inr (.inl b) :: .inr (.inl a) :: r, hw =>
    refine sm_pure F (hc _ _ _ _ hw) (fun p l e s m args below meth c H locs cells slots Z ls ac hC hL hlo hst hd hu kk => W.lcmp hC.1 hC.2.1 hd ?_) (fun hlo hst => al_cons.mpr ⟨?_, (al_cons.mp (al_cons.mp hst).2).2⟩)
    · rw [n_lcmp (al_cons.mp (al_cons.mp hst).2).1 (al_cons.mp hst).1]
      exact kk
    · show i32 (if b < a then 1 else if a = b then 0 else -1)
      unfold i32
      repeat' split
      all_goals omega
theorem s_dup (F : Fq y n (pc, .dup, len, ax)) (hc : ∀ lo st h u, ct lo st h u → Sem y (n + 1) lo st h u Q) (hw : wI y Q K (pc, .dup, len, ax) ct lo st h u) : Sem y n lo st h u Q := by
  obtain rfl := x_dup F.x
  match st, hw with
  | .inl a :: r, hw => exact sm_pure F (hc _ _ _ _ hw) (fun p l e s m args below meth c H locs cells slots Z ls ac hC hL hlo hst hd hu kk => lv_dup hC.1 hC.2.1 hd rfl kk) (fun hlo hst => al_cons.mpr ⟨(al_cons.mp hst).1, hst⟩)
  | .inr (.inr (some a)) :: r, hw => exact sm_pure F (hc _ _ _ _ hw) (fun p l e s m args below meth c H locs cells slots Z ls ac hC hL hlo hst hd hu kk => lv_dup hC.1 hC.2.1 hd rfl kk) (fun hlo hst => al_cons.mpr ⟨(al_cons.mp hst).1, hst⟩)
theorem s_dup2 (F : Fq y n (pc, .dup2, len, ax)) (hc : ∀ lo st h u, ct lo st h u → Sem y (n + 1) lo st h u Q) (hw : wI y Q K (pc, .dup2, len, ax) ct lo st h u) : Sem y n lo st h u Q := by
  obtain rfl := x_dup2 F.x
  match st, hw with
  | .inl a :: .inr (.inr (some b)) :: r, hw => exact sm_pure F (hc _ _ _ _ hw) (fun p l e s m args below meth c H locs cells slots Z ls ac hC hL hlo hst hd hu kk => lv_dup2_11 hC.1 hC.2.1 hd rfl rfl kk) (fun hlo hst => al_cons.mpr ⟨(al_cons.mp hst).1, al_cons.mpr ⟨(al_cons.mp (al_cons.mp hst).2).1, hst⟩⟩)
theorem s_pop (F : Fq y n (pc, .pop, len, ax)) (hc : ∀ lo st h u, ct lo st h u → Sem y (n + 1) lo st h u Q) (hw : wI y Q K (pc, .pop, len, ax) ct lo st h u) : Sem y n lo st h u Q := by
  obtain rfl := x_pop F.x
  match st, hw with
  | .inl a :: r, hw => exact sm_pure F (hc _ _ _ _ hw) (fun p l e s m args below meth c H locs cells slots Z ls ac hC hL hlo hst hd hu kk => lv_pop hC.1 hC.2.1 hd rfl kk) (fun hlo hst => (al_cons.mp hst).2)
end Steps
