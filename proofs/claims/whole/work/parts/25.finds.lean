/-! finds: cells that touch, groups -/
section Labels
/-- P is the same at both ends of every edge among the first N -/
def inva (N : Nat) (R : Nat → Nat → Prop) (P : Nat → Prop) : Prop := ∀ a b, a < N → b < N → R a b → (P a ↔ P b)
/-- h tells of each of the first N the least that it hangs together with -/
def isLab (N : Nat) (R : Nat → Nat → Prop) (h : Nat → Nat) : Prop := (∀ i, i < N → h i ≤ i) ∧ (∀ i j, i < N → j < N → R i j → h i = h j) ∧ ∀ P, inva N R P → ∀ i, i < N → (P i ↔ P (h i))
theorem isLab_idem {N : Nat} {R : Nat → Nat → Prop} {h : Nat → Nat} (k : isLab N R h) {i : Nat} (hi : i < N) : h (h i) = h i := by
  have := (k.2.2 (fun a => h a = h i) (fun a b ha hb r => by dsimp only; rw [k.2.1 a b ha hb r]) i hi).mp rfl
  exact this
theorem isLab_uniq {N : Nat} {R : Nat → Nat → Prop} {h h' : Nat → Nat} (k : isLab N R h) (k' : isLab N R h') : ∀ i, i < N → h i = h' i := by
  have key : ∀ {h h' : Nat → Nat}, isLab N R h → isLab N R h' → ∀ i, i < N → h' i ≤ h i := by
    intro h h' k k' i hi
    have h1 := (k.2.2 (fun a => h' a = h' i) (fun a b ha hb r => by dsimp only; rw [k'.2.1 a b ha hb r]) i hi).mp rfl
    have h2 := k'.1 (h i) (by have := k.1 i hi; omega)
    have h1 : h' (h i) = h' i := h1
    omega
  intro i hi
  exact Nat.le_antisymm (key k' k i hi) (key k k' i hi)
/-- one edge more -/
theorem isLab_join {N : Nat} {R : Nat → Nat → Prop} {h : Nat → Nat} (k : isLab N R h) {a b : Nat} (ha : a < N) (hb : b < N) : isLab N (fun x y => R x y ∨ (x = a ∧ y = b)) (fun i => if h i = max (h a) (h b) then min (h a) (h b) else h i) := by
  refine ⟨fun i hi => ?_, fun i j hi hj r => ?_, fun P hP i hi => ?_⟩
  · have := k.1 i hi
    dsimp only
    split <;> omega
  · dsimp only
    rcases r with r | ⟨rfl, rfl⟩
    · rw [k.2.1 i j hi hj r]
    · split <;> split <;> omega
  · have hP0 : inva N R P := fun x y hx hy r => hP x y hx hy (Or.inl r)
    have e0 := k.2.2 P hP0 i hi
    dsimp only
    split
    · rename_i q
      rw [e0, q]
      have e1 := k.2.2 P hP0 a ha
      have e2 := k.2.2 P hP0 b hb
      have e3 := hP a b ha hb (Or.inr ⟨rfl, rfl⟩)
      rcases Nat.le_total (h a) (h b) with z | z
      · rw [Nat.max_eq_right z, Nat.min_eq_left z, ← e1, ← e2, e3]
      · rw [Nat.max_eq_left z, Nat.min_eq_right z, ← e1, ← e2, e3]
    · exact e0
theorem isLab_eqv {N : Nat} {R R' : Nat → Nat → Prop} {h h' : Nat → Nat} (k : isLab N R h) (hh : ∀ i, i < N → h' i = h i) (h1 : ∀ i j, i < N → j < N → R' i j → h i = h j) (h2 : ∀ i j, i < N → j < N → R i j → R' i j) : isLab N R' h' := by
  refine ⟨fun i hi => by rw [hh i hi]; exact k.1 i hi, fun i j hi hj r => by rw [hh i hi, hh j hj]; exact h1 i j hi hj r, fun P hP i hi => ?_⟩
  rw [hh i hi]
  exact k.2.2 P (fun a b ha hb r => hP a b ha hb (h2 a b ha hb r)) i hi
/-- one more, without edges yet -/
theorem isLab_new {N : Nat} {R : Nat → Nat → Prop} {h : Nat → Nat} (k : isLab N R h) (hR : ∀ i j, R i j → i < N ∧ j < N) (hN : h N = N) : isLab (N + 1) R h := by
  refine ⟨fun i hi => ?_, fun i j hi hj r => ?_, fun P hP i hi => ?_⟩
  · by_cases q : i = N
    · subst q; omega
    · exact k.1 i (by omega)
  · have := hR i j r
    exact k.2.1 i j this.1 this.2 r
  · by_cases q : i = N
    · subst q
      rw [hN]
    · exact k.2.2 P (fun a b ha hb r => hP a b (by omega) (by omega) r) i (by omega)
theorem cnt_lt {P P' : Nat → Bool} {N : Nat} (h : ∀ i, i < N → P i = true → P' i = true) (hx : ∃ i, i < N ∧ P i = false ∧ P' i = true) : cnt P N + 1 ≤ cnt P' N := by
  have le : ∀ k, k ≤ N → cnt P k ≤ cnt P' k := by
    intro k
    induction k with
    | zero => intro _; simp [cnt]
    | succ k ih =>
      intro hk
      have := ih (by omega)
      have h1 := h k (by omega)
      simp only [cnt]
      cases hp : P k with
      | false => simp; split <;> omega
      | true => rw [h1 hp]; simp; omega
  obtain ⟨i, hi, h1, h2⟩ := hx
  have key : ∀ k, i < k → k ≤ N → cnt P k + 1 ≤ cnt P' k := by
    intro k
    induction k with
    | zero => intro q; omega
    | succ k ih =>
      intro q1 q2
      simp only [cnt]
      by_cases q : i = k
      · subst q
        have := le i (by omega)
        rw [h1, h2]
        simp
        omega
      · have := ih (by omega) (by omega)
        have h3 := h k (by omega)
        cases hp : P k with
        | false => simp; split <;> omega
        | true => rw [h3 hp]; simp; omega
  exact key N hi (Nat.le_refl _)
theorem cnt_all {P : Nat → Bool} {N : Nat} (h : (N : Int) ≤ cnt P N) : ∀ i, i < N → P i = true := by
  induction N with
  | zero => intro i hi; omega
  | succ N ih =>
    have hb := cnt_bd P N
    simp only [cnt] at h
    have hN : P N = true := by
      cases hp : P N with
      | false => rw [hp] at h; simp at h; omega
      | true => rfl
    rw [hN] at h
    simp at h
    intro i hi
    by_cases q : i = N
    · subst q; exact hN
    · exact ih (by omega) i (by omega)
end Labels
