/-! the checks: decode rows, code words -/
def ckD (a b : Nat) : Bool := (List.range (b - a)).all (fun i => (mC (a + i)).all (okD (a + i)) && okL 0 (mC (a + i)))
theorem ck_D0 : ckD 4 25 = true := by decide +kernel
theorem ck_D1 : ckD 25 45 = true := by decide +kernel
theorem ck_D2 : ckD 45 62 = true := by decide +kernel
theorem ck_D3 : ckD 62 80 = true := by decide +kernel
theorem ck_D4 : ckD 80 100 = true := by decide +kernel
theorem ck_D5 : ckD 100 116 = true := by decide +kernel
theorem ck_D6 : ckD 116 140 = true := by decide +kernel
theorem ck_D7 : ckD 140 160 = true := by decide +kernel
theorem ck_D8 : ckD 160 175 = true := by decide +kernel
theorem ck_D9 : ckD 175 189 = true := by decide +kernel
theorem ck_X (y : Nat) (h4 : 4 ≤ y) (h : y < 190) : (mC y).all (okX y) = true := by
  have key : ∀ a b : Nat, ckX a b = true → a ≤ y → y < b → (mC y).all (okX y) = true := by
    intro a b hc h1 h2
    have h3 := List.all_eq_true.mp hc (y - a) (List.mem_range.mpr (by omega))
    rw [show a + (y - a) = y by omega] at h3
    exact h3

  by_cases c0 : y < 45
  · exact key 4 45 ck_X0 (by omega) c0
  by_cases c1 : y < 80
  · exact key 45 80 ck_X1 (by omega) c1
  by_cases c2 : y < 116
  · exact key 80 116 ck_X2 (by omega) c2
  by_cases c3 : y < 160
  · exact key 116 160 ck_X3 (by omega) c3
  by_cases c4 : y < 189
  · exact key 160 189 ck_X4 (by omega) c4
  by_cases c5 : y < 190
  · exact key 189 190 ck_X5 (by omega) c5
  omega
set_option maxRecDepth 200000 in
theorem ck_C4 : Jvm.Cond.code (mN 4) (mB 4) (mL 4) (mT 4) ∈ lw_tbl := List.mem_of_getElem? (i := (mPs 4).1) rfl
set_option maxRecDepth 200000 in
theorem ck_C5 : Jvm.Cond.code (mN 5) (mB 5) (mL 5) (mT 5) ∈ lw_tbl := List.mem_of_getElem? (i := (mPs 5).1) rfl
set_option maxRecDepth 200000 in
theorem ck_C6 : Jvm.Cond.code (mN 6) (mB 6) (mL 6) (mT 6) ∈ lw_tbl := List.mem_of_getElem? (i := (mPs 6).1) rfl
set_option maxRecDepth 200000 in
theorem ck_C7 : Jvm.Cond.code (mN 7) (mB 7) (mL 7) (mT 7) ∈ lw_tbl := List.mem_of_getElem? (i := (mPs 7).1) rfl
set_option maxRecDepth 200000 in
theorem ck_C8 : Jvm.Cond.code (mN 8) (mB 8) (mL 8) (mT 8) ∈ lw_tbl := List.mem_of_getElem? (i := (mPs 8).1) rfl
set_option maxRecDepth 200000 in
theorem ck_C9 : Jvm.Cond.code (mN 9) (mB 9) (mL 9) (mT 9) ∈ lw_tbl := List.mem_of_getElem? (i := (mPs 9).1) rfl
set_option maxRecDepth 200000 in
theorem ck_C10 : Jvm.Cond.code (mN 10) (mB 10) (mL 10) (mT 10) ∈ lw_tbl := List.mem_of_getElem? (i := (mPs 10).1) rfl
set_option maxRecDepth 200000 in
theorem ck_C11 : Jvm.Cond.code (mN 11) (mB 11) (mL 11) (mT 11) ∈ lw_tbl := List.mem_of_getElem? (i := (mPs 11).1) rfl
set_option maxRecDepth 200000 in
theorem ck_C12 : Jvm.Cond.code (mN 12) (mB 12) (mL 12) (mT 12) ∈ lw_tbl := List.mem_of_getElem? (i := (mPs 12).1) rfl
set_option maxRecDepth 200000 in
theorem ck_C13 : Jvm.Cond.code (mN 13) (mB 13) (mL 13) (mT 13) ∈ lw_tbl := List.mem_of_getElem? (i := (mPs 13).1) rfl
set_option maxRecDepth 200000 in
theorem ck_C14 : Jvm.Cond.code (mN 14) (mB 14) (mL 14) (mT 14) ∈ lw_tbl := List.mem_of_getElem? (i := (mPs 14).1) rfl
set_option maxRecDepth 200000 in
theorem ck_C15 : Jvm.Cond.code (mN 15) (mB 15) (mL 15) (mT 15) ∈ lw_tbl := List.mem_of_getElem? (i := (mPs 15).1) rfl
set_option maxRecDepth 200000 in
theorem ck_C16 : Jvm.Cond.code (mN 16) (mB 16) (mL 16) (mT 16) ∈ lw_tbl := List.mem_of_getElem? (i := (mPs 16).1) rfl
set_option maxRecDepth 200000 in
theorem ck_C17 : Jvm.Cond.code (mN 17) (mB 17) (mL 17) (mT 17) ∈ lw_tbl := List.mem_of_getElem? (i := (mPs 17).1) rfl
set_option maxRecDepth 200000 in
theorem ck_C18 : Jvm.Cond.code (mN 18) (mB 18) (mL 18) (mT 18) ∈ lw_tbl := List.mem_of_getElem? (i := (mPs 18).1) rfl
set_option maxRecDepth 200000 in
theorem ck_C19 : Jvm.Cond.code (mN 19) (mB 19) (mL 19) (mT 19) ∈ lw_tbl := List.mem_of_getElem? (i := (mPs 19).1) rfl
set_option maxRecDepth 200000 in
theorem ck_C20 : Jvm.Cond.code (mN 20) (mB 20) (mL 20) (mT 20) ∈ lw_tbl := List.mem_of_getElem? (i := (mPs 20).1) rfl
set_option maxRecDepth 200000 in
theorem ck_C21 : Jvm.Cond.code (mN 21) (mB 21) (mL 21) (mT 21) ∈ lw_tbl := List.mem_of_getElem? (i := (mPs 21).1) rfl
set_option maxRecDepth 200000 in
theorem ck_C22 : Jvm.Cond.code (mN 22) (mB 22) (mL 22) (mT 22) ∈ lw_tbl := List.mem_of_getElem? (i := (mPs 22).1) rfl
set_option maxRecDepth 200000 in
theorem ck_C23 : Jvm.Cond.code (mN 23) (mB 23) (mL 23) (mT 23) ∈ lw_tbl := List.mem_of_getElem? (i := (mPs 23).1) rfl
set_option maxRecDepth 200000 in
theorem ck_C24 : Jvm.Cond.code (mN 24) (mB 24) (mL 24) (mT 24) ∈ lw_tbl := List.mem_of_getElem? (i := (mPs 24).1) rfl
set_option maxRecDepth 200000 in
theorem ck_C25 : Jvm.Cond.code (mN 25) (mB 25) (mL 25) (mT 25) ∈ lw_tbl := List.mem_of_getElem? (i := (mPs 25).1) rfl
set_option maxRecDepth 200000 in
theorem ck_C26 : Jvm.Cond.code (mN 26) (mB 26) (mL 26) (mT 26) ∈ lw_tbl := List.mem_of_getElem? (i := (mPs 26).1) rfl
set_option maxRecDepth 200000 in
theorem ck_C27 : Jvm.Cond.code (mN 27) (mB 27) (mL 27) (mT 27) ∈ lw_tbl := List.mem_of_getElem? (i := (mPs 27).1) rfl
set_option maxRecDepth 200000 in
theorem ck_C28 : Jvm.Cond.code (mN 28) (mB 28) (mL 28) (mT 28) ∈ lw_tbl := List.mem_of_getElem? (i := (mPs 28).1) rfl
set_option maxRecDepth 200000 in
theorem ck_C29 : Jvm.Cond.code (mN 29) (mB 29) (mL 29) (mT 29) ∈ lw_tbl := List.mem_of_getElem? (i := (mPs 29).1) rfl
set_option maxRecDepth 200000 in
theorem ck_C30 : Jvm.Cond.code (mN 30) (mB 30) (mL 30) (mT 30) ∈ lw_tbl := List.mem_of_getElem? (i := (mPs 30).1) rfl
set_option maxRecDepth 200000 in
theorem ck_C31 : Jvm.Cond.code (mN 31) (mB 31) (mL 31) (mT 31) ∈ lw_tbl := List.mem_of_getElem? (i := (mPs 31).1) rfl
set_option maxRecDepth 200000 in
theorem ck_C32 : Jvm.Cond.code (mN 32) (mB 32) (mL 32) (mT 32) ∈ lw_tbl := List.mem_of_getElem? (i := (mPs 32).1) rfl
set_option maxRecDepth 200000 in
theorem ck_C33 : Jvm.Cond.code (mN 33) (mB 33) (mL 33) (mT 33) ∈ lw_tbl := List.mem_of_getElem? (i := (mPs 33).1) rfl
set_option maxRecDepth 200000 in
theorem ck_C34 : Jvm.Cond.code (mN 34) (mB 34) (mL 34) (mT 34) ∈ lw_tbl := List.mem_of_getElem? (i := (mPs 34).1) rfl
set_option maxRecDepth 200000 in
theorem ck_C35 : Jvm.Cond.code (mN 35) (mB 35) (mL 35) (mT 35) ∈ lw_tbl := List.mem_of_getElem? (i := (mPs 35).1) rfl
set_option maxRecDepth 200000 in
theorem ck_C36 : Jvm.Cond.code (mN 36) (mB 36) (mL 36) (mT 36) ∈ lw_tbl := List.mem_of_getElem? (i := (mPs 36).1) rfl
set_option maxRecDepth 200000 in
theorem ck_C37 : Jvm.Cond.code (mN 37) (mB 37) (mL 37) (mT 37) ∈ lw_tbl := List.mem_of_getElem? (i := (mPs 37).1) rfl
set_option maxRecDepth 200000 in
theorem ck_C38 : Jvm.Cond.code (mN 38) (mB 38) (mL 38) (mT 38) ∈ lw_tbl := List.mem_of_getElem? (i := (mPs 38).1) rfl
set_option maxRecDepth 200000 in
theorem ck_C39 : Jvm.Cond.code (mN 39) (mB 39) (mL 39) (mT 39) ∈ lw_tbl := List.mem_of_getElem? (i := (mPs 39).1) rfl
set_option maxRecDepth 200000 in
theorem ck_C40 : Jvm.Cond.code (mN 40) (mB 40) (mL 40) (mT 40) ∈ lw_tbl := List.mem_of_getElem? (i := (mPs 40).1) rfl
set_option maxRecDepth 200000 in
theorem ck_C41 : Jvm.Cond.code (mN 41) (mB 41) (mL 41) (mT 41) ∈ lw_tbl := List.mem_of_getElem? (i := (mPs 41).1) rfl
set_option maxRecDepth 200000 in
theorem ck_C42 : Jvm.Cond.code (mN 42) (mB 42) (mL 42) (mT 42) ∈ lw_tbl := List.mem_of_getElem? (i := (mPs 42).1) rfl
set_option maxRecDepth 200000 in
theorem ck_C43 : Jvm.Cond.code (mN 43) (mB 43) (mL 43) (mT 43) ∈ lw_tbl := List.mem_of_getElem? (i := (mPs 43).1) rfl
set_option maxRecDepth 200000 in
theorem ck_C44 : Jvm.Cond.code (mN 44) (mB 44) (mL 44) (mT 44) ∈ lw_tbl := List.mem_of_getElem? (i := (mPs 44).1) rfl
set_option maxRecDepth 200000 in
theorem ck_C45 : Jvm.Cond.code (mN 45) (mB 45) (mL 45) (mT 45) ∈ lw_tbl := List.mem_of_getElem? (i := (mPs 45).1) rfl
set_option maxRecDepth 200000 in
theorem ck_C46 : Jvm.Cond.code (mN 46) (mB 46) (mL 46) (mT 46) ∈ lw_tbl := List.mem_of_getElem? (i := (mPs 46).1) rfl
set_option maxRecDepth 200000 in
theorem ck_C47 : Jvm.Cond.code (mN 47) (mB 47) (mL 47) (mT 47) ∈ lw_tbl := List.mem_of_getElem? (i := (mPs 47).1) rfl
set_option maxRecDepth 200000 in
theorem ck_C48 : Jvm.Cond.code (mN 48) (mB 48) (mL 48) (mT 48) ∈ lw_tbl := List.mem_of_getElem? (i := (mPs 48).1) rfl
set_option maxRecDepth 200000 in
theorem ck_C49 : Jvm.Cond.code (mN 49) (mB 49) (mL 49) (mT 49) ∈ lw_tbl := List.mem_of_getElem? (i := (mPs 49).1) rfl
set_option maxRecDepth 200000 in
theorem ck_C50 : Jvm.Cond.code (mN 50) (mB 50) (mL 50) (mT 50) ∈ lw_tbl := List.mem_of_getElem? (i := (mPs 50).1) rfl
set_option maxRecDepth 200000 in
theorem ck_C51 : Jvm.Cond.code (mN 51) (mB 51) (mL 51) (mT 51) ∈ lw_tbl := List.mem_of_getElem? (i := (mPs 51).1) rfl
set_option maxRecDepth 200000 in
theorem ck_C52 : Jvm.Cond.code (mN 52) (mB 52) (mL 52) (mT 52) ∈ lw_tbl := List.mem_of_getElem? (i := (mPs 52).1) rfl
set_option maxRecDepth 200000 in
theorem ck_C53 : Jvm.Cond.code (mN 53) (mB 53) (mL 53) (mT 53) ∈ lw_tbl := List.mem_of_getElem? (i := (mPs 53).1) rfl
set_option maxRecDepth 200000 in
theorem ck_C54 : Jvm.Cond.code (mN 54) (mB 54) (mL 54) (mT 54) ∈ lw_tbl := List.mem_of_getElem? (i := (mPs 54).1) rfl
set_option maxRecDepth 200000 in
theorem ck_C55 : Jvm.Cond.code (mN 55) (mB 55) (mL 55) (mT 55) ∈ lw_tbl := List.mem_of_getElem? (i := (mPs 55).1) rfl
set_option maxRecDepth 200000 in
theorem ck_C56 : Jvm.Cond.code (mN 56) (mB 56) (mL 56) (mT 56) ∈ lw_tbl := List.mem_of_getElem? (i := (mPs 56).1) rfl
set_option maxRecDepth 200000 in
theorem ck_C57 : Jvm.Cond.code (mN 57) (mB 57) (mL 57) (mT 57) ∈ lw_tbl := List.mem_of_getElem? (i := (mPs 57).1) rfl
set_option maxRecDepth 200000 in
theorem ck_C58 : Jvm.Cond.code (mN 58) (mB 58) (mL 58) (mT 58) ∈ lw_tbl := List.mem_of_getElem? (i := (mPs 58).1) rfl
set_option maxRecDepth 200000 in
theorem ck_C59 : Jvm.Cond.code (mN 59) (mB 59) (mL 59) (mT 59) ∈ lw_tbl := List.mem_of_getElem? (i := (mPs 59).1) rfl
set_option maxRecDepth 200000 in
theorem ck_C60 : Jvm.Cond.code (mN 60) (mB 60) (mL 60) (mT 60) ∈ lw_tbl := List.mem_of_getElem? (i := (mPs 60).1) rfl
set_option maxRecDepth 200000 in
theorem ck_C61 : Jvm.Cond.code (mN 61) (mB 61) (mL 61) (mT 61) ∈ lw_tbl := List.mem_of_getElem? (i := (mPs 61).1) rfl
set_option maxRecDepth 200000 in
theorem ck_C62 : Jvm.Cond.code (mN 62) (mB 62) (mL 62) (mT 62) ∈ lw_tbl := List.mem_of_getElem? (i := (mPs 62).1) rfl
set_option maxRecDepth 200000 in
theorem ck_C63 : Jvm.Cond.code (mN 63) (mB 63) (mL 63) (mT 63) ∈ lw_tbl := List.mem_of_getElem? (i := (mPs 63).1) rfl
set_option maxRecDepth 200000 in
theorem ck_C64 : Jvm.Cond.code (mN 64) (mB 64) (mL 64) (mT 64) ∈ lw_tbl := List.mem_of_getElem? (i := (mPs 64).1) rfl
set_option maxRecDepth 200000 in
theorem ck_C65 : Jvm.Cond.code (mN 65) (mB 65) (mL 65) (mT 65) ∈ lw_tbl := List.mem_of_getElem? (i := (mPs 65).1) rfl
set_option maxRecDepth 200000 in
theorem ck_C66 : Jvm.Cond.code (mN 66) (mB 66) (mL 66) (mT 66) ∈ lw_tbl := List.mem_of_getElem? (i := (mPs 66).1) rfl
set_option maxRecDepth 200000 in
theorem ck_C67 : Jvm.Cond.code (mN 67) (mB 67) (mL 67) (mT 67) ∈ lw_tbl := List.mem_of_getElem? (i := (mPs 67).1) rfl
set_option maxRecDepth 200000 in
theorem ck_C68 : Jvm.Cond.code (mN 68) (mB 68) (mL 68) (mT 68) ∈ lw_tbl := List.mem_of_getElem? (i := (mPs 68).1) rfl
set_option maxRecDepth 200000 in
theorem ck_C69 : Jvm.Cond.code (mN 69) (mB 69) (mL 69) (mT 69) ∈ lw_tbl := List.mem_of_getElem? (i := (mPs 69).1) rfl
set_option maxRecDepth 200000 in
theorem ck_C70 : Jvm.Cond.code (mN 70) (mB 70) (mL 70) (mT 70) ∈ lw_tbl := List.mem_of_getElem? (i := (mPs 70).1) rfl
set_option maxRecDepth 200000 in
theorem ck_C71 : Jvm.Cond.code (mN 71) (mB 71) (mL 71) (mT 71) ∈ lw_tbl := List.mem_of_getElem? (i := (mPs 71).1) rfl
set_option maxRecDepth 200000 in
theorem ck_C72 : Jvm.Cond.code (mN 72) (mB 72) (mL 72) (mT 72) ∈ lw_tbl := List.mem_of_getElem? (i := (mPs 72).1) rfl
set_option maxRecDepth 200000 in
theorem ck_C73 : Jvm.Cond.code (mN 73) (mB 73) (mL 73) (mT 73) ∈ lw_tbl := List.mem_of_getElem? (i := (mPs 73).1) rfl
set_option maxRecDepth 200000 in
theorem ck_C74 : Jvm.Cond.code (mN 74) (mB 74) (mL 74) (mT 74) ∈ lw_tbl := List.mem_of_getElem? (i := (mPs 74).1) rfl
set_option maxRecDepth 200000 in
theorem ck_C75 : Jvm.Cond.code (mN 75) (mB 75) (mL 75) (mT 75) ∈ lw_tbl := List.mem_of_getElem? (i := (mPs 75).1) rfl
set_option maxRecDepth 200000 in
theorem ck_C76 : Jvm.Cond.code (mN 76) (mB 76) (mL 76) (mT 76) ∈ lw_tbl := List.mem_of_getElem? (i := (mPs 76).1) rfl
set_option maxRecDepth 200000 in
theorem ck_C77 : Jvm.Cond.code (mN 77) (mB 77) (mL 77) (mT 77) ∈ lw_tbl := List.mem_of_getElem? (i := (mPs 77).1) rfl
set_option maxRecDepth 200000 in
theorem ck_C78 : Jvm.Cond.code (mN 78) (mB 78) (mL 78) (mT 78) ∈ lw_tbl := List.mem_of_getElem? (i := (mPs 78).1) rfl
set_option maxRecDepth 200000 in
theorem ck_C79 : Jvm.Cond.code (mN 79) (mB 79) (mL 79) (mT 79) ∈ lw_tbl := List.mem_of_getElem? (i := (mPs 79).1) rfl
set_option maxRecDepth 200000 in
theorem ck_C80 : Jvm.Cond.code (mN 80) (mB 80) (mL 80) (mT 80) ∈ lw_tbl := List.mem_of_getElem? (i := (mPs 80).1) rfl
set_option maxRecDepth 200000 in
theorem ck_C81 : Jvm.Cond.code (mN 81) (mB 81) (mL 81) (mT 81) ∈ lw_tbl := List.mem_of_getElem? (i := (mPs 81).1) rfl
set_option maxRecDepth 200000 in
theorem ck_C82 : Jvm.Cond.code (mN 82) (mB 82) (mL 82) (mT 82) ∈ lw_tbl := List.mem_of_getElem? (i := (mPs 82).1) rfl
set_option maxRecDepth 200000 in
theorem ck_C83 : Jvm.Cond.code (mN 83) (mB 83) (mL 83) (mT 83) ∈ lw_tbl := List.mem_of_getElem? (i := (mPs 83).1) rfl
set_option maxRecDepth 200000 in
theorem ck_C84 : Jvm.Cond.code (mN 84) (mB 84) (mL 84) (mT 84) ∈ lw_tbl := List.mem_of_getElem? (i := (mPs 84).1) rfl
set_option maxRecDepth 200000 in
theorem ck_C85 : Jvm.Cond.code (mN 85) (mB 85) (mL 85) (mT 85) ∈ lw_tbl := List.mem_of_getElem? (i := (mPs 85).1) rfl
set_option maxRecDepth 200000 in
theorem ck_C86 : Jvm.Cond.code (mN 86) (mB 86) (mL 86) (mT 86) ∈ lw_tbl := List.mem_of_getElem? (i := (mPs 86).1) rfl
set_option maxRecDepth 200000 in
theorem ck_C87 : Jvm.Cond.code (mN 87) (mB 87) (mL 87) (mT 87) ∈ lw_tbl := List.mem_of_getElem? (i := (mPs 87).1) rfl
set_option maxRecDepth 200000 in
theorem ck_C88 : Jvm.Cond.code (mN 88) (mB 88) (mL 88) (mT 88) ∈ lw_tbl := List.mem_of_getElem? (i := (mPs 88).1) rfl
set_option maxRecDepth 200000 in
theorem ck_C89 : Jvm.Cond.code (mN 89) (mB 89) (mL 89) (mT 89) ∈ lw_tbl := List.mem_of_getElem? (i := (mPs 89).1) rfl
set_option maxRecDepth 200000 in
theorem ck_C90 : Jvm.Cond.code (mN 90) (mB 90) (mL 90) (mT 90) ∈ lw_tbl := List.mem_of_getElem? (i := (mPs 90).1) rfl
set_option maxRecDepth 200000 in
theorem ck_C91 : Jvm.Cond.code (mN 91) (mB 91) (mL 91) (mT 91) ∈ lw_tbl := List.mem_of_getElem? (i := (mPs 91).1) rfl
set_option maxRecDepth 200000 in
theorem ck_C92 : Jvm.Cond.code (mN 92) (mB 92) (mL 92) (mT 92) ∈ lw_tbl := List.mem_of_getElem? (i := (mPs 92).1) rfl
set_option maxRecDepth 200000 in
theorem ck_C93 : Jvm.Cond.code (mN 93) (mB 93) (mL 93) (mT 93) ∈ lw_tbl := List.mem_of_getElem? (i := (mPs 93).1) rfl
set_option maxRecDepth 200000 in
theorem ck_C94 : Jvm.Cond.code (mN 94) (mB 94) (mL 94) (mT 94) ∈ lw_tbl := List.mem_of_getElem? (i := (mPs 94).1) rfl
set_option maxRecDepth 200000 in
theorem ck_C95 : Jvm.Cond.code (mN 95) (mB 95) (mL 95) (mT 95) ∈ lw_tbl := List.mem_of_getElem? (i := (mPs 95).1) rfl
set_option maxRecDepth 200000 in
theorem ck_C96 : Jvm.Cond.code (mN 96) (mB 96) (mL 96) (mT 96) ∈ lw_tbl := List.mem_of_getElem? (i := (mPs 96).1) rfl
set_option maxRecDepth 200000 in
theorem ck_C97 : Jvm.Cond.code (mN 97) (mB 97) (mL 97) (mT 97) ∈ lw_tbl := List.mem_of_getElem? (i := (mPs 97).1) rfl
set_option maxRecDepth 200000 in
theorem ck_C98 : Jvm.Cond.code (mN 98) (mB 98) (mL 98) (mT 98) ∈ lw_tbl := List.mem_of_getElem? (i := (mPs 98).1) rfl
set_option maxRecDepth 200000 in
theorem ck_C99 : Jvm.Cond.code (mN 99) (mB 99) (mL 99) (mT 99) ∈ lw_tbl := List.mem_of_getElem? (i := (mPs 99).1) rfl
set_option maxRecDepth 200000 in
theorem ck_C100 : Jvm.Cond.code (mN 100) (mB 100) (mL 100) (mT 100) ∈ lw_tbl := List.mem_of_getElem? (i := (mPs 100).1) rfl
set_option maxRecDepth 200000 in
theorem ck_C101 : Jvm.Cond.code (mN 101) (mB 101) (mL 101) (mT 101) ∈ lw_tbl := List.mem_of_getElem? (i := (mPs 101).1) rfl
set_option maxRecDepth 200000 in
theorem ck_C102 : Jvm.Cond.code (mN 102) (mB 102) (mL 102) (mT 102) ∈ lw_tbl := List.mem_of_getElem? (i := (mPs 102).1) rfl
set_option maxRecDepth 200000 in
theorem ck_C103 : Jvm.Cond.code (mN 103) (mB 103) (mL 103) (mT 103) ∈ lw_tbl := List.mem_of_getElem? (i := (mPs 103).1) rfl
set_option maxRecDepth 200000 in
theorem ck_C104 : Jvm.Cond.code (mN 104) (mB 104) (mL 104) (mT 104) ∈ lw_tbl := List.mem_of_getElem? (i := (mPs 104).1) rfl
set_option maxRecDepth 200000 in
theorem ck_C105 : Jvm.Cond.code (mN 105) (mB 105) (mL 105) (mT 105) ∈ lw_tbl := List.mem_of_getElem? (i := (mPs 105).1) rfl
set_option maxRecDepth 200000 in
theorem ck_C106 : Jvm.Cond.code (mN 106) (mB 106) (mL 106) (mT 106) ∈ lw_tbl := List.mem_of_getElem? (i := (mPs 106).1) rfl
set_option maxRecDepth 200000 in
theorem ck_C107 : Jvm.Cond.code (mN 107) (mB 107) (mL 107) (mT 107) ∈ lw_tbl := List.mem_of_getElem? (i := (mPs 107).1) rfl
set_option maxRecDepth 200000 in
theorem ck_C108 : Jvm.Cond.code (mN 108) (mB 108) (mL 108) (mT 108) ∈ lw_tbl := List.mem_of_getElem? (i := (mPs 108).1) rfl
set_option maxRecDepth 200000 in
theorem ck_C109 : Jvm.Cond.code (mN 109) (mB 109) (mL 109) (mT 109) ∈ lw_tbl := List.mem_of_getElem? (i := (mPs 109).1) rfl
set_option maxRecDepth 200000 in
theorem ck_C110 : Jvm.Cond.code (mN 110) (mB 110) (mL 110) (mT 110) ∈ lw_tbl := List.mem_of_getElem? (i := (mPs 110).1) rfl
set_option maxRecDepth 200000 in
theorem ck_C111 : Jvm.Cond.code (mN 111) (mB 111) (mL 111) (mT 111) ∈ lw_tbl := List.mem_of_getElem? (i := (mPs 111).1) rfl
set_option maxRecDepth 200000 in
theorem ck_C112 : Jvm.Cond.code (mN 112) (mB 112) (mL 112) (mT 112) ∈ lw_tbl := List.mem_of_getElem? (i := (mPs 112).1) rfl
set_option maxRecDepth 200000 in
theorem ck_C113 : Jvm.Cond.code (mN 113) (mB 113) (mL 113) (mT 113) ∈ lw_tbl := List.mem_of_getElem? (i := (mPs 113).1) rfl
set_option maxRecDepth 200000 in
theorem ck_C114 : Jvm.Cond.code (mN 114) (mB 114) (mL 114) (mT 114) ∈ lw_tbl := List.mem_of_getElem? (i := (mPs 114).1) rfl
set_option maxRecDepth 200000 in
theorem ck_C115 : Jvm.Cond.code (mN 115) (mB 115) (mL 115) (mT 115) ∈ lw_tbl := List.mem_of_getElem? (i := (mPs 115).1) rfl
set_option maxRecDepth 200000 in
theorem ck_C116 : Jvm.Cond.code (mN 116) (mB 116) (mL 116) (mT 116) ∈ lw_tbl := List.mem_of_getElem? (i := (mPs 116).1) rfl
set_option maxRecDepth 200000 in
theorem ck_C117 : Jvm.Cond.code (mN 117) (mB 117) (mL 117) (mT 117) ∈ lw_tbl := List.mem_of_getElem? (i := (mPs 117).1) rfl
set_option maxRecDepth 200000 in
theorem ck_C118 : Jvm.Cond.code (mN 118) (mB 118) (mL 118) (mT 118) ∈ lw_tbl := List.mem_of_getElem? (i := (mPs 118).1) rfl
set_option maxRecDepth 200000 in
theorem ck_C119 : Jvm.Cond.code (mN 119) (mB 119) (mL 119) (mT 119) ∈ lw_tbl := List.mem_of_getElem? (i := (mPs 119).1) rfl
set_option maxRecDepth 200000 in
theorem ck_C120 : Jvm.Cond.code (mN 120) (mB 120) (mL 120) (mT 120) ∈ lw_tbl := List.mem_of_getElem? (i := (mPs 120).1) rfl
set_option maxRecDepth 200000 in
theorem ck_C121 : Jvm.Cond.code (mN 121) (mB 121) (mL 121) (mT 121) ∈ lw_tbl := List.mem_of_getElem? (i := (mPs 121).1) rfl
set_option maxRecDepth 200000 in
theorem ck_C122 : Jvm.Cond.code (mN 122) (mB 122) (mL 122) (mT 122) ∈ lw_tbl := List.mem_of_getElem? (i := (mPs 122).1) rfl
set_option maxRecDepth 200000 in
theorem ck_C123 : Jvm.Cond.code (mN 123) (mB 123) (mL 123) (mT 123) ∈ lw_tbl := List.mem_of_getElem? (i := (mPs 123).1) rfl
set_option maxRecDepth 200000 in
theorem ck_C124 : Jvm.Cond.code (mN 124) (mB 124) (mL 124) (mT 124) ∈ lw_tbl := List.mem_of_getElem? (i := (mPs 124).1) rfl
set_option maxRecDepth 200000 in
theorem ck_C125 : Jvm.Cond.code (mN 125) (mB 125) (mL 125) (mT 125) ∈ lw_tbl := List.mem_of_getElem? (i := (mPs 125).1) rfl
set_option maxRecDepth 200000 in
theorem ck_C126 : Jvm.Cond.code (mN 126) (mB 126) (mL 126) (mT 126) ∈ lw_tbl := List.mem_of_getElem? (i := (mPs 126).1) rfl
set_option maxRecDepth 200000 in
theorem ck_C127 : Jvm.Cond.code (mN 127) (mB 127) (mL 127) (mT 127) ∈ lw_tbl := List.mem_of_getElem? (i := (mPs 127).1) rfl
set_option maxRecDepth 200000 in
theorem ck_C128 : Jvm.Cond.code (mN 128) (mB 128) (mL 128) (mT 128) ∈ lw_tbl := List.mem_of_getElem? (i := (mPs 128).1) rfl
set_option maxRecDepth 200000 in
theorem ck_C129 : Jvm.Cond.code (mN 129) (mB 129) (mL 129) (mT 129) ∈ lw_tbl := List.mem_of_getElem? (i := (mPs 129).1) rfl
set_option maxRecDepth 200000 in
theorem ck_C130 : Jvm.Cond.code (mN 130) (mB 130) (mL 130) (mT 130) ∈ lw_tbl := List.mem_of_getElem? (i := (mPs 130).1) rfl
set_option maxRecDepth 200000 in
theorem ck_C131 : Jvm.Cond.code (mN 131) (mB 131) (mL 131) (mT 131) ∈ lw_tbl := List.mem_of_getElem? (i := (mPs 131).1) rfl
set_option maxRecDepth 200000 in
theorem ck_C132 : Jvm.Cond.code (mN 132) (mB 132) (mL 132) (mT 132) ∈ lw_tbl := List.mem_of_getElem? (i := (mPs 132).1) rfl
set_option maxRecDepth 200000 in
theorem ck_C133 : Jvm.Cond.code (mN 133) (mB 133) (mL 133) (mT 133) ∈ lw_tbl := List.mem_of_getElem? (i := (mPs 133).1) rfl
set_option maxRecDepth 200000 in
theorem ck_C134 : Jvm.Cond.code (mN 134) (mB 134) (mL 134) (mT 134) ∈ lw_tbl := List.mem_of_getElem? (i := (mPs 134).1) rfl
set_option maxRecDepth 200000 in
theorem ck_C135 : Jvm.Cond.code (mN 135) (mB 135) (mL 135) (mT 135) ∈ lw_tbl := List.mem_of_getElem? (i := (mPs 135).1) rfl
set_option maxRecDepth 200000 in
theorem ck_C136 : Jvm.Cond.code (mN 136) (mB 136) (mL 136) (mT 136) ∈ lw_tbl := List.mem_of_getElem? (i := (mPs 136).1) rfl
set_option maxRecDepth 200000 in
theorem ck_C137 : Jvm.Cond.code (mN 137) (mB 137) (mL 137) (mT 137) ∈ lw_tbl := List.mem_of_getElem? (i := (mPs 137).1) rfl
set_option maxRecDepth 200000 in
theorem ck_C138 : Jvm.Cond.code (mN 138) (mB 138) (mL 138) (mT 138) ∈ lw_tbl := List.mem_of_getElem? (i := (mPs 138).1) rfl
set_option maxRecDepth 200000 in
theorem ck_C139 : Jvm.Cond.code (mN 139) (mB 139) (mL 139) (mT 139) ∈ lw_tbl := List.mem_of_getElem? (i := (mPs 139).1) rfl
set_option maxRecDepth 200000 in
theorem ck_C140 : Jvm.Cond.code (mN 140) (mB 140) (mL 140) (mT 140) ∈ lw_tbl := List.mem_of_getElem? (i := (mPs 140).1) rfl
set_option maxRecDepth 200000 in
theorem ck_C141 : Jvm.Cond.code (mN 141) (mB 141) (mL 141) (mT 141) ∈ lw_tbl := List.mem_of_getElem? (i := (mPs 141).1) rfl
set_option maxRecDepth 200000 in
theorem ck_C142 : Jvm.Cond.code (mN 142) (mB 142) (mL 142) (mT 142) ∈ lw_tbl := List.mem_of_getElem? (i := (mPs 142).1) rfl
set_option maxRecDepth 200000 in
theorem ck_C143 : Jvm.Cond.code (mN 143) (mB 143) (mL 143) (mT 143) ∈ lw_tbl := List.mem_of_getElem? (i := (mPs 143).1) rfl
set_option maxRecDepth 200000 in
theorem ck_C144 : Jvm.Cond.code (mN 144) (mB 144) (mL 144) (mT 144) ∈ lw_tbl := List.mem_of_getElem? (i := (mPs 144).1) rfl
set_option maxRecDepth 200000 in
theorem ck_C145 : Jvm.Cond.code (mN 145) (mB 145) (mL 145) (mT 145) ∈ lw_tbl := List.mem_of_getElem? (i := (mPs 145).1) rfl
set_option maxRecDepth 200000 in
theorem ck_C146 : Jvm.Cond.code (mN 146) (mB 146) (mL 146) (mT 146) ∈ lw_tbl := List.mem_of_getElem? (i := (mPs 146).1) rfl
set_option maxRecDepth 200000 in
theorem ck_C147 : Jvm.Cond.code (mN 147) (mB 147) (mL 147) (mT 147) ∈ lw_tbl := List.mem_of_getElem? (i := (mPs 147).1) rfl
set_option maxRecDepth 200000 in
theorem ck_C148 : Jvm.Cond.code (mN 148) (mB 148) (mL 148) (mT 148) ∈ lw_tbl := List.mem_of_getElem? (i := (mPs 148).1) rfl
set_option maxRecDepth 200000 in
theorem ck_C149 : Jvm.Cond.code (mN 149) (mB 149) (mL 149) (mT 149) ∈ lw_tbl := List.mem_of_getElem? (i := (mPs 149).1) rfl
set_option maxRecDepth 200000 in
theorem ck_C150 : Jvm.Cond.code (mN 150) (mB 150) (mL 150) (mT 150) ∈ lw_tbl := List.mem_of_getElem? (i := (mPs 150).1) rfl
set_option maxRecDepth 200000 in
theorem ck_C151 : Jvm.Cond.code (mN 151) (mB 151) (mL 151) (mT 151) ∈ lw_tbl := List.mem_of_getElem? (i := (mPs 151).1) rfl
set_option maxRecDepth 200000 in
theorem ck_C152 : Jvm.Cond.code (mN 152) (mB 152) (mL 152) (mT 152) ∈ lw_tbl := List.mem_of_getElem? (i := (mPs 152).1) rfl
set_option maxRecDepth 200000 in
theorem ck_C153 : Jvm.Cond.code (mN 153) (mB 153) (mL 153) (mT 153) ∈ lw_tbl := List.mem_of_getElem? (i := (mPs 153).1) rfl
set_option maxRecDepth 200000 in
theorem ck_C154 : Jvm.Cond.code (mN 154) (mB 154) (mL 154) (mT 154) ∈ lw_tbl := List.mem_of_getElem? (i := (mPs 154).1) rfl
set_option maxRecDepth 200000 in
theorem ck_C155 : Jvm.Cond.code (mN 155) (mB 155) (mL 155) (mT 155) ∈ lw_tbl := List.mem_of_getElem? (i := (mPs 155).1) rfl
set_option maxRecDepth 200000 in
theorem ck_C156 : Jvm.Cond.code (mN 156) (mB 156) (mL 156) (mT 156) ∈ lw_tbl := List.mem_of_getElem? (i := (mPs 156).1) rfl
set_option maxRecDepth 200000 in
theorem ck_C157 : Jvm.Cond.code (mN 157) (mB 157) (mL 157) (mT 157) ∈ lw_tbl := List.mem_of_getElem? (i := (mPs 157).1) rfl
set_option maxRecDepth 200000 in
theorem ck_C158 : Jvm.Cond.code (mN 158) (mB 158) (mL 158) (mT 158) ∈ lw_tbl := List.mem_of_getElem? (i := (mPs 158).1) rfl
set_option maxRecDepth 200000 in
theorem ck_C159 : Jvm.Cond.code (mN 159) (mB 159) (mL 159) (mT 159) ∈ lw_tbl := List.mem_of_getElem? (i := (mPs 159).1) rfl
set_option maxRecDepth 200000 in
theorem ck_C160 : Jvm.Cond.code (mN 160) (mB 160) (mL 160) (mT 160) ∈ lw_tbl := List.mem_of_getElem? (i := (mPs 160).1) rfl
set_option maxRecDepth 200000 in
theorem ck_C161 : Jvm.Cond.code (mN 161) (mB 161) (mL 161) (mT 161) ∈ lw_tbl := List.mem_of_getElem? (i := (mPs 161).1) rfl
set_option maxRecDepth 200000 in
theorem ck_C162 : Jvm.Cond.code (mN 162) (mB 162) (mL 162) (mT 162) ∈ lw_tbl := List.mem_of_getElem? (i := (mPs 162).1) rfl
set_option maxRecDepth 200000 in
theorem ck_C163 : Jvm.Cond.code (mN 163) (mB 163) (mL 163) (mT 163) ∈ lw_tbl := List.mem_of_getElem? (i := (mPs 163).1) rfl
set_option maxRecDepth 200000 in
theorem ck_C164 : Jvm.Cond.code (mN 164) (mB 164) (mL 164) (mT 164) ∈ lw_tbl := List.mem_of_getElem? (i := (mPs 164).1) rfl
set_option maxRecDepth 200000 in
theorem ck_C165 : Jvm.Cond.code (mN 165) (mB 165) (mL 165) (mT 165) ∈ lw_tbl := List.mem_of_getElem? (i := (mPs 165).1) rfl
set_option maxRecDepth 200000 in
theorem ck_C166 : Jvm.Cond.code (mN 166) (mB 166) (mL 166) (mT 166) ∈ lw_tbl := List.mem_of_getElem? (i := (mPs 166).1) rfl
set_option maxRecDepth 200000 in
theorem ck_C167 : Jvm.Cond.code (mN 167) (mB 167) (mL 167) (mT 167) ∈ lw_tbl := List.mem_of_getElem? (i := (mPs 167).1) rfl
set_option maxRecDepth 200000 in
theorem ck_C168 : Jvm.Cond.code (mN 168) (mB 168) (mL 168) (mT 168) ∈ lw_tbl := List.mem_of_getElem? (i := (mPs 168).1) rfl
set_option maxRecDepth 200000 in
theorem ck_C169 : Jvm.Cond.code (mN 169) (mB 169) (mL 169) (mT 169) ∈ lw_tbl := List.mem_of_getElem? (i := (mPs 169).1) rfl
set_option maxRecDepth 200000 in
theorem ck_C170 : Jvm.Cond.code (mN 170) (mB 170) (mL 170) (mT 170) ∈ lw_tbl := List.mem_of_getElem? (i := (mPs 170).1) rfl
set_option maxRecDepth 200000 in
theorem ck_C171 : Jvm.Cond.code (mN 171) (mB 171) (mL 171) (mT 171) ∈ lw_tbl := List.mem_of_getElem? (i := (mPs 171).1) rfl
set_option maxRecDepth 200000 in
theorem ck_C172 : Jvm.Cond.code (mN 172) (mB 172) (mL 172) (mT 172) ∈ lw_tbl := List.mem_of_getElem? (i := (mPs 172).1) rfl
set_option maxRecDepth 200000 in
theorem ck_C173 : Jvm.Cond.code (mN 173) (mB 173) (mL 173) (mT 173) ∈ lw_tbl := List.mem_of_getElem? (i := (mPs 173).1) rfl
set_option maxRecDepth 200000 in
theorem ck_C174 : Jvm.Cond.code (mN 174) (mB 174) (mL 174) (mT 174) ∈ lw_tbl := List.mem_of_getElem? (i := (mPs 174).1) rfl
set_option maxRecDepth 200000 in
theorem ck_C175 : Jvm.Cond.code (mN 175) (mB 175) (mL 175) (mT 175) ∈ lw_tbl := List.mem_of_getElem? (i := (mPs 175).1) rfl
set_option maxRecDepth 200000 in
theorem ck_C176 : Jvm.Cond.code (mN 176) (mB 176) (mL 176) (mT 176) ∈ lw_tbl := List.mem_of_getElem? (i := (mPs 176).1) rfl
set_option maxRecDepth 200000 in
theorem ck_C177 : Jvm.Cond.code (mN 177) (mB 177) (mL 177) (mT 177) ∈ lw_tbl := List.mem_of_getElem? (i := (mPs 177).1) rfl
set_option maxRecDepth 200000 in
theorem ck_C178 : Jvm.Cond.code (mN 178) (mB 178) (mL 178) (mT 178) ∈ lw_tbl := List.mem_of_getElem? (i := (mPs 178).1) rfl
set_option maxRecDepth 200000 in
theorem ck_C179 : Jvm.Cond.code (mN 179) (mB 179) (mL 179) (mT 179) ∈ lw_tbl := List.mem_of_getElem? (i := (mPs 179).1) rfl
set_option maxRecDepth 200000 in
theorem ck_C180 : Jvm.Cond.code (mN 180) (mB 180) (mL 180) (mT 180) ∈ lw_tbl := List.mem_of_getElem? (i := (mPs 180).1) rfl
set_option maxRecDepth 200000 in
theorem ck_C181 : Jvm.Cond.code (mN 181) (mB 181) (mL 181) (mT 181) ∈ lw_tbl := List.mem_of_getElem? (i := (mPs 181).1) rfl
set_option maxRecDepth 200000 in
theorem ck_C182 : Jvm.Cond.code (mN 182) (mB 182) (mL 182) (mT 182) ∈ lw_tbl := List.mem_of_getElem? (i := (mPs 182).1) rfl
set_option maxRecDepth 200000 in
theorem ck_C183 : Jvm.Cond.code (mN 183) (mB 183) (mL 183) (mT 183) ∈ lw_tbl := List.mem_of_getElem? (i := (mPs 183).1) rfl
set_option maxRecDepth 200000 in
theorem ck_C184 : Jvm.Cond.code (mN 184) (mB 184) (mL 184) (mT 184) ∈ lw_tbl := List.mem_of_getElem? (i := (mPs 184).1) rfl
set_option maxRecDepth 200000 in
theorem ck_C185 : Jvm.Cond.code (mN 185) (mB 185) (mL 185) (mT 185) ∈ lw_tbl := List.mem_of_getElem? (i := (mPs 185).1) rfl
set_option maxRecDepth 200000 in
theorem ck_C186 : Jvm.Cond.code (mN 186) (mB 186) (mL 186) (mT 186) ∈ lw_tbl := List.mem_of_getElem? (i := (mPs 186).1) rfl
set_option maxRecDepth 200000 in
theorem ck_C187 : Jvm.Cond.code (mN 187) (mB 187) (mL 187) (mT 187) ∈ lw_tbl := List.mem_of_getElem? (i := (mPs 187).1) rfl
set_option maxRecDepth 200000 in
theorem ck_C188 : Jvm.Cond.code (mN 188) (mB 188) (mL 188) (mT 188) ∈ lw_tbl := List.mem_of_getElem? (i := (mPs 188).1) rfl
theorem ck_C : ∀ z, 4 ≤ z → z < 189 → Jvm.Cond.code (mN z) (mB z) (mL z) (mT z) ∈ lw_tbl := by
  intro z h4 hz
  match z, h4, hz with
  | 0, h4, _ | 1, h4, _ | 2, h4, _ | 3, h4, _ => exact absurd h4 (by decide)
  | 4, _, _ => exact ck_C4
  | 5, _, _ => exact ck_C5
  | 6, _, _ => exact ck_C6
  | 7, _, _ => exact ck_C7
  | 8, _, _ => exact ck_C8
  | 9, _, _ => exact ck_C9
  | 10, _, _ => exact ck_C10
  | 11, _, _ => exact ck_C11
  | 12, _, _ => exact ck_C12
  | 13, _, _ => exact ck_C13
  | 14, _, _ => exact ck_C14
  | 15, _, _ => exact ck_C15
  | 16, _, _ => exact ck_C16
  | 17, _, _ => exact ck_C17
  | 18, _, _ => exact ck_C18
  | 19, _, _ => exact ck_C19
  | 20, _, _ => exact ck_C20
  | 21, _, _ => exact ck_C21
  | 22, _, _ => exact ck_C22
  | 23, _, _ => exact ck_C23
  | 24, _, _ => exact ck_C24
  | 25, _, _ => exact ck_C25
  | 26, _, _ => exact ck_C26
  | 27, _, _ => exact ck_C27
  | 28, _, _ => exact ck_C28
  | 29, _, _ => exact ck_C29
  | 30, _, _ => exact ck_C30
  | 31, _, _ => exact ck_C31
  | 32, _, _ => exact ck_C32
  | 33, _, _ => exact ck_C33
  | 34, _, _ => exact ck_C34
  | 35, _, _ => exact ck_C35
  | 36, _, _ => exact ck_C36
  | 37, _, _ => exact ck_C37
  | 38, _, _ => exact ck_C38
  | 39, _, _ => exact ck_C39
  | 40, _, _ => exact ck_C40
  | 41, _, _ => exact ck_C41
  | 42, _, _ => exact ck_C42
  | 43, _, _ => exact ck_C43
  | 44, _, _ => exact ck_C44
  | 45, _, _ => exact ck_C45
  | 46, _, _ => exact ck_C46
  | 47, _, _ => exact ck_C47
  | 48, _, _ => exact ck_C48
  | 49, _, _ => exact ck_C49
  | 50, _, _ => exact ck_C50
  | 51, _, _ => exact ck_C51
  | 52, _, _ => exact ck_C52
  | 53, _, _ => exact ck_C53
  | 54, _, _ => exact ck_C54
  | 55, _, _ => exact ck_C55
  | 56, _, _ => exact ck_C56
  | 57, _, _ => exact ck_C57
  | 58, _, _ => exact ck_C58
  | 59, _, _ => exact ck_C59
  | 60, _, _ => exact ck_C60
  | 61, _, _ => exact ck_C61
  | 62, _, _ => exact ck_C62
  | 63, _, _ => exact ck_C63
  | 64, _, _ => exact ck_C64
  | 65, _, _ => exact ck_C65
  | 66, _, _ => exact ck_C66
  | 67, _, _ => exact ck_C67
  | 68, _, _ => exact ck_C68
  | 69, _, _ => exact ck_C69
  | 70, _, _ => exact ck_C70
  | 71, _, _ => exact ck_C71
  | 72, _, _ => exact ck_C72
  | 73, _, _ => exact ck_C73
  | 74, _, _ => exact ck_C74
  | 75, _, _ => exact ck_C75
  | 76, _, _ => exact ck_C76
  | 77, _, _ => exact ck_C77
  | 78, _, _ => exact ck_C78
  | 79, _, _ => exact ck_C79
  | 80, _, _ => exact ck_C80
  | 81, _, _ => exact ck_C81
  | 82, _, _ => exact ck_C82
  | 83, _, _ => exact ck_C83
  | 84, _, _ => exact ck_C84
  | 85, _, _ => exact ck_C85
  | 86, _, _ => exact ck_C86
  | 87, _, _ => exact ck_C87
  | 88, _, _ => exact ck_C88
  | 89, _, _ => exact ck_C89
  | 90, _, _ => exact ck_C90
  | 91, _, _ => exact ck_C91
  | 92, _, _ => exact ck_C92
  | 93, _, _ => exact ck_C93
  | 94, _, _ => exact ck_C94
  | 95, _, _ => exact ck_C95
  | 96, _, _ => exact ck_C96
  | 97, _, _ => exact ck_C97
  | 98, _, _ => exact ck_C98
  | 99, _, _ => exact ck_C99
  | 100, _, _ => exact ck_C100
  | 101, _, _ => exact ck_C101
  | 102, _, _ => exact ck_C102
  | 103, _, _ => exact ck_C103
  | 104, _, _ => exact ck_C104
  | 105, _, _ => exact ck_C105
  | 106, _, _ => exact ck_C106
  | 107, _, _ => exact ck_C107
  | 108, _, _ => exact ck_C108
  | 109, _, _ => exact ck_C109
  | 110, _, _ => exact ck_C110
  | 111, _, _ => exact ck_C111
  | 112, _, _ => exact ck_C112
  | 113, _, _ => exact ck_C113
  | 114, _, _ => exact ck_C114
  | 115, _, _ => exact ck_C115
  | 116, _, _ => exact ck_C116
  | 117, _, _ => exact ck_C117
  | 118, _, _ => exact ck_C118
  | 119, _, _ => exact ck_C119
  | 120, _, _ => exact ck_C120
  | 121, _, _ => exact ck_C121
  | 122, _, _ => exact ck_C122
  | 123, _, _ => exact ck_C123
  | 124, _, _ => exact ck_C124
  | 125, _, _ => exact ck_C125
  | 126, _, _ => exact ck_C126
  | 127, _, _ => exact ck_C127
  | 128, _, _ => exact ck_C128
  | 129, _, _ => exact ck_C129
  | 130, _, _ => exact ck_C130
  | 131, _, _ => exact ck_C131
  | 132, _, _ => exact ck_C132
  | 133, _, _ => exact ck_C133
  | 134, _, _ => exact ck_C134
  | 135, _, _ => exact ck_C135
  | 136, _, _ => exact ck_C136
  | 137, _, _ => exact ck_C137
  | 138, _, _ => exact ck_C138
  | 139, _, _ => exact ck_C139
  | 140, _, _ => exact ck_C140
  | 141, _, _ => exact ck_C141
  | 142, _, _ => exact ck_C142
  | 143, _, _ => exact ck_C143
  | 144, _, _ => exact ck_C144
  | 145, _, _ => exact ck_C145
  | 146, _, _ => exact ck_C146
  | 147, _, _ => exact ck_C147
  | 148, _, _ => exact ck_C148
  | 149, _, _ => exact ck_C149
  | 150, _, _ => exact ck_C150
  | 151, _, _ => exact ck_C151
  | 152, _, _ => exact ck_C152
  | 153, _, _ => exact ck_C153
  | 154, _, _ => exact ck_C154
  | 155, _, _ => exact ck_C155
  | 156, _, _ => exact ck_C156
  | 157, _, _ => exact ck_C157
  | 158, _, _ => exact ck_C158
  | 159, _, _ => exact ck_C159
  | 160, _, _ => exact ck_C160
  | 161, _, _ => exact ck_C161
  | 162, _, _ => exact ck_C162
  | 163, _, _ => exact ck_C163
  | 164, _, _ => exact ck_C164
  | 165, _, _ => exact ck_C165
  | 166, _, _ => exact ck_C166
  | 167, _, _ => exact ck_C167
  | 168, _, _ => exact ck_C168
  | 169, _, _ => exact ck_C169
  | 170, _, _ => exact ck_C170
  | 171, _, _ => exact ck_C171
  | 172, _, _ => exact ck_C172
  | 173, _, _ => exact ck_C173
  | 174, _, _ => exact ck_C174
  | 175, _, _ => exact ck_C175
  | 176, _, _ => exact ck_C176
  | 177, _, _ => exact ck_C177
  | 178, _, _ => exact ck_C178
  | 179, _, _ => exact ck_C179
  | 180, _, _ => exact ck_C180
  | 181, _, _ => exact ck_C181
  | 182, _, _ => exact ck_C182
  | 183, _, _ => exact ck_C183
  | 184, _, _ => exact ck_C184
  | 185, _, _ => exact ck_C185
  | 186, _, _ => exact ck_C186
  | 187, _, _ => exact ck_C187
  | 188, _, _ => exact ck_C188
  | z + 189, _, hz => exact absurd hz (by omega)
