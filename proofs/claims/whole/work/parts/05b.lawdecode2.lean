theorem ck_L189 : okL 0 (mC 189) = true := by decide +kernel
theorem ck_W : ∀ i, i < 48 → (((mC 189).drop (18 * i)).take 18).all (okD 189) = true := by
  intro i hi
  match i, hi with
  | 0, _ => exact ck_W0
  | 1, _ => exact ck_W1
  | 2, _ => exact ck_W2
  | 3, _ => exact ck_W3
  | 4, _ => exact ck_W4
  | 5, _ => exact ck_W5
  | 6, _ => exact ck_W6
  | 7, _ => exact ck_W7
  | 8, _ => exact ck_W8
  | 9, _ => exact ck_W9
  | 10, _ => exact ck_W10
  | 11, _ => exact ck_W11
  | 12, _ => exact ck_W12
  | 13, _ => exact ck_W13
  | 14, _ => exact ck_W14
  | 15, _ => exact ck_W15
  | 16, _ => exact ck_W16
  | 17, _ => exact ck_W17
  | 18, _ => exact ck_W18
  | 19, _ => exact ck_W19
  | 20, _ => exact ck_W20
  | 21, _ => exact ck_W21
  | 22, _ => exact ck_W22
  | 23, _ => exact ck_W23
  | 24, _ => exact ck_W24
  | 25, _ => exact ck_W25
  | 26, _ => exact ck_W26
  | 27, _ => exact ck_W27
  | 28, _ => exact ck_W28
  | 29, _ => exact ck_W29
  | 30, _ => exact ck_W30
  | 31, _ => exact ck_W31
  | 32, _ => exact ck_W32
  | 33, _ => exact ck_W33
  | 34, _ => exact ck_W34
  | 35, _ => exact ck_W35
  | 36, _ => exact ck_W36
  | 37, _ => exact ck_W37
  | 38, _ => exact ck_W38
  | 39, _ => exact ck_W39
  | 40, _ => exact ck_W40
  | 41, _ => exact ck_W41
  | 42, _ => exact ck_W42
  | 43, _ => exact ck_W43
  | 44, _ => exact ck_W44
  | 45, _ => exact ck_W45
  | 46, _ => exact ck_W46
  | 47, _ => exact ck_W47
  | i + 48, hi => exact absurd hi (by omega)
theorem ck_len189 : (mC 189).length = 852 := by decide +kernel
theorem ck_D189 : (mC 189).all (okD 189) = true := by
  rw [List.all_eq_true]
  intro q hq
  obtain ⟨j, hj⟩ := List.getElem?_of_mem hq
  have hl : j < 852 := by have := (List.getElem?_eq_some_iff.mp hj).1; rw [ck_len189] at this; exact this
  have h := List.all_eq_true.mp (ck_W (j / 18) (by omega)) q
  apply h
  apply List.mem_of_getElem? (i := j % 18)
  rw [List.getElem?_take_of_lt (Nat.mod_lt _ (by decide)), List.getElem?_drop, show 18 * (j / 18) + j % 18 = j by omega]
  exact hj
theorem ck_D (y : Nat) (h4 : 4 ≤ y) (h : y < 190) : (mC y).all (okD y) = true ∧ okL 0 (mC y) = true := by
  have key : ∀ a b : Nat, ckD a b = true → a ≤ y → y < b → (mC y).all (okD y) = true ∧ okL 0 (mC y) = true := by
    intro a b hc h1 h2
    have h3 := List.all_eq_true.mp hc (y - a) (List.mem_range.mpr (by omega))
    rw [show a + (y - a) = y by omega] at h3
    simpa only [Bool.and_eq_true] using h3

  by_cases c0 : y < 25
  · exact key 4 25 ck_D0 (by omega) c0
  by_cases c1 : y < 45
  · exact key 25 45 ck_D1 (by omega) c1
  by_cases c2 : y < 62
  · exact key 45 62 ck_D2 (by omega) c2
  by_cases c3 : y < 80
  · exact key 62 80 ck_D3 (by omega) c3
  by_cases c4 : y < 100
  · exact key 80 100 ck_D4 (by omega) c4
  by_cases c5 : y < 116
  · exact key 100 116 ck_D5 (by omega) c5
  by_cases c6 : y < 140
  · exact key 116 140 ck_D6 (by omega) c6
  by_cases c7 : y < 160
  · exact key 140 160 ck_D7 (by omega) c7
  by_cases c8 : y < 175
  · exact key 160 175 ck_D8 (by omega) c8
  by_cases c9 : y < 189
  · exact key 175 189 ck_D9 (by omega) c9
  have e : y = 189 := by omega
  subst e
  exact ⟨ck_D189, ck_L189⟩
