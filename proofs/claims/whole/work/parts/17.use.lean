/-! how contracts are used -/
theorem CI.use {z : Nat} {a : List ab_V} {h : ab_H} {P : Int → ab_D → Prop} {R : Int} {D1 : ab_D} (c : CI z a h (fun r D' => r = R ∧ D' = D1)) (k : P R D1) : CI z a h P := c.mono (by rintro _ _ ⟨rfl, rfl⟩; exact k)
theorem CL.use {z : Nat} {a : List ab_V} {h : ab_H} {P : Int → ab_D → Prop} {R : Int} {D1 : ab_D} (c : CL z a h (fun r D' => r = R ∧ D' = D1)) (k : P R D1) : CL z a h P := c.mono (by rintro _ _ ⟨rfl, rfl⟩; exact k)
theorem CV.use {z : Nat} {a : List ab_V} {h : ab_H} {P : ab_D → Prop} {D1 : ab_D} (c : CV z a h (fun D' => D' = D1)) (k : P D1) : CV z a h P := c.mono (by rintro _ rfl; exact k)
/-- a method that only asks whether -/
def CB (z : Nat) (a : List ab_V) (E : ab_E) (D : ab_D) (c : Prop) : Prop := CI z a (E, D) (fun r D' => ((c ∧ r = 1) ∨ (¬ c ∧ r = 0)) ∧ D' = D)
theorem CB.use {z : Nat} {a : List ab_V} {E : ab_E} {D : ab_D} {P : Int → ab_D → Prop} {c : Prop} (q : CB z a E D c) (k1 : c → P 1 D) (k0 : ¬ c → P 0 D) : CI z a (E, D) P := q.mono (by
  rintro r D' ⟨⟨h1, rfl⟩ | ⟨h1, rfl⟩, rfl⟩
  · exact k1 h1
  · exact k0 h1)
theorem CB.iff {z : Nat} {a : List ab_V} {E : ab_E} {D : ab_D} {c c' : Prop} (q : CB z a E D c) (h : c ↔ c') : CB z a E D c' := q.mono (by
  rintro r D' ⟨h1, rfl⟩
  refine ⟨?_, rfl⟩
  rw [← h]
  exact h1)
theorem ups_self {D : ab_D} {a i : Nat} {z : Int} : ups D a i z a i = z := by simp [ups]
theorem ups_ne1 {D : ab_D} {a i a' i' : Nat} {z : Int} (h : a' ≠ a) : ups D a i z a' i' = D a' i' := by simp [ups, h]
theorem ups_ne2 {D : ab_D} {a i a' i' : Nat} {z : Int} (h : i' ≠ i) : ups D a i z a' i' = D a' i' := by simp [ups, h]
theorem upr_self {D : ab_D} {a : Nat} {f : Nat → Int} : upr D a f a = f := by simp [upr]
theorem upr_ne {D : ab_D} {a a' : Nat} {f : Nat → Int} (h : a' ≠ a) : upr D a f a' = D a' := by simp [upr, h]
theorem ups_upr {D : ab_D} {a i : Nat} {z : Int} {f g : Nat → Int} (h : ∀ j, g j = if j = i then z else f j) : ups (upr D a f) a i z = upr D a g := by
  funext a' j
  by_cases ha : a' = a
  · subst ha
    simp [ups, upr, h j]
  · simp [ups, upr, ha]
theorem upr_id {D : ab_D} {a : Nat} {f : Nat → Int} (h : ∀ j, f j = D a j) : upr D a f = D := by
  funext a' j
  by_cases ha : a' = a
  · subst ha
    simp [upr, h j]
  · simp [upr, ha]
theorem i32_of {z : Int} (h1 : -2147483648 ≤ z) (h2 : z < 2147483648) : i32 z := ⟨h1, h2⟩
theorem i64_of {z : Int} (h1 : -9223372036854775808 ≤ z) (h2 : z < 9223372036854775808) : i64 z := ⟨h1, h2⟩
theorem lc_lt {a b : Int} : ((if b < a then (1 : Int) else if a = b then 0 else -1) < 0) = (a < b) := by
  apply propext
  constructor
  · intro h
    repeat' split at h
    all_goals omega
  · intro h
    rw [if_neg (by omega), if_neg (by omega)]
    decide
theorem lc_le {a b : Int} : ((if b < a then (1 : Int) else if a = b then 0 else -1) ≤ 0) = (a ≤ b) := by
  apply propext
  constructor
  · intro h
    repeat' split at h
    all_goals omega
  · intro h
    rw [if_neg (by omega)]
    split <;> decide
theorem lc_gt {a b : Int} : (0 < (if b < a then (1 : Int) else if a = b then 0 else -1)) = (b < a) := by
  apply propext
  constructor
  · intro h
    repeat' split at h
    all_goals omega
  · intro h
    rw [if_pos h]
    decide
theorem lc_ge {a b : Int} : (0 ≤ (if b < a then (1 : Int) else if a = b then 0 else -1)) = (b ≤ a) := by
  apply propext
  constructor
  · intro h
    repeat' split at h
    all_goals omega
  · intro h
    by_cases q : b < a
    · rw [if_pos q]; decide
    · rw [if_neg q, if_pos (by omega)]; decide
theorem lc_eq {a b : Int} : ((if b < a then (1 : Int) else if a = b then 0 else -1) = 0) = (a = b) := by
  apply propext
  constructor
  · intro h
    repeat' split at h
    all_goals omega
  · intro h
    rw [if_neg (by omega), if_pos h]
theorem retB1 {E : ab_E} {D : ab_D} {c : Prop} (h : c) : ∃ x D', (some (Sum.inl 1) : Option ab_V) = some (Sum.inl x) ∧ (E, D) = (E, D') ∧ ((c ∧ x = 1) ∨ (¬ c ∧ x = 0)) ∧ D' = D := ⟨1, D, rfl, rfl, Or.inl ⟨h, rfl⟩, rfl⟩
theorem retB0 {E : ab_E} {D : ab_D} {c : Prop} (h : ¬ c) : ∃ x D', (some (Sum.inl 0) : Option ab_V) = some (Sum.inl x) ∧ (E, D) = (E, D') ∧ ((c ∧ x = 1) ∨ (¬ c ∧ x = 0)) ∧ D' = D := ⟨0, D, rfl, rfl, Or.inr ⟨h, rfl⟩, rfl⟩
theorem retI {E : ab_E} {D1 : ab_D} {z : Int} {P : Int → ab_D → Prop} (h : P z D1) : ∃ x D', (some (Sum.inl z) : Option ab_V) = some (Sum.inl x) ∧ (E, D1) = (E, D') ∧ P x D' := ⟨z, D1, rfl, rfl, h⟩
theorem retL {E : ab_E} {D1 : ab_D} {z : Int} {P : Int → ab_D → Prop} (h : P z D1) : ∃ x D', (some (Sum.inr (Sum.inl z)) : Option ab_V) = some (Sum.inr (Sum.inl x)) ∧ (E, D1) = (E, D') ∧ P x D' := ⟨z, D1, rfl, rfl, h⟩
theorem retV {E : ab_E} {D1 : ab_D} {P : ab_D → Prop} (h : P D1) : ∃ D', (none : Option ab_V) = none ∧ (E, D1) = (E, D') ∧ P D' := ⟨D1, rfl, rfl, h⟩
/-! counting, powers -/
def cnt (P : Nat → Bool) : Nat → Int
  | 0 => 0
  | k + 1 => cnt P k + if P k then 1 else 0
theorem cnt_bd (P : Nat → Bool) (k : Nat) : 0 ≤ cnt P k ∧ cnt P k ≤ k := by
  induction k with
  | zero => simp [cnt]
  | succ k ih =>
    simp only [cnt]
    split <;> omega
theorem cnt_congr {P P' : Nat → Bool} {k : Nat} (h : ∀ j, j < k → P j = P' j) : cnt P k = cnt P' k := by
  induction k with
  | zero => rfl
  | succ k ih =>
    simp only [cnt]
    rw [ih (fun j hj => h j (by omega)), h k (by omega)]
def ipw (b : Int) : Nat → Int
  | 0 => 1
  | k + 1 => ipw b k * b
theorem ipw_mono {b c : Int} (h0 : 0 ≤ b) (h1 : b ≤ c) (k : Nat) : 0 ≤ ipw b k ∧ ipw b k ≤ ipw c k := by
  induction k with
  | zero => simp [ipw]
  | succ k ih =>
    simp only [ipw]
    exact ⟨Int.mul_nonneg ih.1 h0, Int.mul_le_mul ih.2 h1 h0 (by omega)⟩
theorem ipw_10 {k : Nat} (h : k ≤ 9) : ipw 10 k ≤ 1000000000 := by
  match k, h with
  | 0, _ | 1, _ | 2, _ | 3, _ | 4, _ | 5, _ | 6, _ | 7, _ | 8, _ | 9, _ => decide
theorem ipw_8 {k : Nat} (h : k ≤ 6) : ipw 8 k ≤ 262144 := by
  match k, h with
  | 0, _ | 1, _ | 2, _ | 3, _ | 4, _ | 5, _ | 6, _ => decide
theorem ipw_pos {b : Int} (h : 1 ≤ b) (k : Nat) : 1 ≤ ipw b k := by
  have := (ipw_mono (b := 1) (c := b) (by decide) h k).2
  have e : ∀ k, ipw 1 k = 1 := by
    intro k
    induction k with
    | zero => rfl
    | succ k ih => simp [ipw, ih]
  rw [e k] at this
  exact this
