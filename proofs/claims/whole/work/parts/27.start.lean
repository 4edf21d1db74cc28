/-- LEVEL 2, what is left of the claim: some relation between the two objects holds behind their constructors and is kept by every call, with equal answers -/
def Level2 : Prop := ∃ (N : Nat) (Inv : Nat → Nat → PS → Prop), (∀ (x mm : Nat) (S : PS), Inv x mm S → ∀ o a1 a2 a3 a4 a5 : Int32, lawCase N x mm (Inv x mm) S o a1 a2 a3 a4 a5) ∧ (∀ (S : PS) (x : Nat) (S1 : PS), (∀ a, S.K a = 0) → S1 = S.newO x 11 → wp_X10_init N S1 x (fun S2 => ∀ (mm : Nat) (S3 : PS), S2.K mm = 0 → S3 = S2.newO mm 12 → wp_X11_init N S3 mm (fun S4 => Inv x mm S4)))
def stT (i : Nat) : Term := .string RX8 (STi.getD i 0)

theorem st_ex_0 : Cond.exactly (stT 0) "java/lang/String" ∈ flatC (Jvm.Cond.and given_1 narrow_1) := List.mem_of_getElem? (i := 69) (by decide +kernel)
theorem st_co_0 : Cond.eq (.field (stT 0) "java/lang/String" "coder" "B") (.int 0) ∈ flatC (Jvm.Cond.and given_1 narrow_1) := List.mem_of_getElem? (i := 70) (by decide +kernel)
theorem st_ar_0 : Cond.arrayOf (.field (stT 0) "java/lang/String" "value" "[B") .byte ∈ flatC (Jvm.Cond.and given_1 narrow_1) := List.mem_of_getElem? (i := 71) (by decide +kernel)
theorem st_le_0 : Cond.eq (.length (.field (stT 0) "java/lang/String" "value" "[B")) (.int (Int32.ofNat (STl.getD 0 0))) ∈ flatC (Jvm.Cond.and given_1 narrow_1) := List.mem_of_getElem? (i := 72) (by decide +kernel)
theorem st_el_0_0 : Cond.eq (.elem (.field (stT 0) "java/lang/String" "value" "[B") (.int (Int32.ofNat 0))) (.int ((STb.getD 0 []).getD 0 0)) ∈ flatC (Jvm.Cond.and given_1 narrow_1) := List.mem_of_getElem? (i := 73) (by decide +kernel)
theorem st_el_0_1 : Cond.eq (.elem (.field (stT 0) "java/lang/String" "value" "[B") (.int (Int32.ofNat 1))) (.int ((STb.getD 0 []).getD 1 0)) ∈ flatC (Jvm.Cond.and given_1 narrow_1) := List.mem_of_getElem? (i := 74) (by decide +kernel)
theorem st_el_0_2 : Cond.eq (.elem (.field (stT 0) "java/lang/String" "value" "[B") (.int (Int32.ofNat 2))) (.int ((STb.getD 0 []).getD 2 0)) ∈ flatC (Jvm.Cond.and given_1 narrow_1) := List.mem_of_getElem? (i := 75) (by decide +kernel)
theorem st_el_0_3 : Cond.eq (.elem (.field (stT 0) "java/lang/String" "value" "[B") (.int (Int32.ofNat 3))) (.int ((STb.getD 0 []).getD 3 0)) ∈ flatC (Jvm.Cond.and given_1 narrow_1) := List.mem_of_getElem? (i := 76) (by decide +kernel)
theorem st_el_0_4 : Cond.eq (.elem (.field (stT 0) "java/lang/String" "value" "[B") (.int (Int32.ofNat 4))) (.int ((STb.getD 0 []).getD 4 0)) ∈ flatC (Jvm.Cond.and given_1 narrow_1) := List.mem_of_getElem? (i := 77) (by decide +kernel)
theorem st_el_0_5 : Cond.eq (.elem (.field (stT 0) "java/lang/String" "value" "[B") (.int (Int32.ofNat 5))) (.int ((STb.getD 0 []).getD 5 0)) ∈ flatC (Jvm.Cond.and given_1 narrow_1) := List.mem_of_getElem? (i := 78) (by decide +kernel)
theorem st_el_0_6 : Cond.eq (.elem (.field (stT 0) "java/lang/String" "value" "[B") (.int (Int32.ofNat 6))) (.int ((STb.getD 0 []).getD 6 0)) ∈ flatC (Jvm.Cond.and given_1 narrow_1) := List.mem_of_getElem? (i := 79) (by decide +kernel)
theorem st_ex_1 : Cond.exactly (stT 1) "java/lang/String" ∈ flatC (Jvm.Cond.and given_1 narrow_1) := List.mem_of_getElem? (i := 80) (by decide +kernel)
theorem st_co_1 : Cond.eq (.field (stT 1) "java/lang/String" "coder" "B") (.int 0) ∈ flatC (Jvm.Cond.and given_1 narrow_1) := List.mem_of_getElem? (i := 81) (by decide +kernel)
theorem st_ar_1 : Cond.arrayOf (.field (stT 1) "java/lang/String" "value" "[B") .byte ∈ flatC (Jvm.Cond.and given_1 narrow_1) := List.mem_of_getElem? (i := 82) (by decide +kernel)
theorem st_le_1 : Cond.eq (.length (.field (stT 1) "java/lang/String" "value" "[B")) (.int (Int32.ofNat (STl.getD 1 0))) ∈ flatC (Jvm.Cond.and given_1 narrow_1) := List.mem_of_getElem? (i := 83) (by decide +kernel)
theorem st_el_1_0 : Cond.eq (.elem (.field (stT 1) "java/lang/String" "value" "[B") (.int (Int32.ofNat 0))) (.int ((STb.getD 1 []).getD 0 0)) ∈ flatC (Jvm.Cond.and given_1 narrow_1) := List.mem_of_getElem? (i := 84) (by decide +kernel)
theorem st_el_1_1 : Cond.eq (.elem (.field (stT 1) "java/lang/String" "value" "[B") (.int (Int32.ofNat 1))) (.int ((STb.getD 1 []).getD 1 0)) ∈ flatC (Jvm.Cond.and given_1 narrow_1) := List.mem_of_getElem? (i := 85) (by decide +kernel)
theorem st_el_1_2 : Cond.eq (.elem (.field (stT 1) "java/lang/String" "value" "[B") (.int (Int32.ofNat 2))) (.int ((STb.getD 1 []).getD 2 0)) ∈ flatC (Jvm.Cond.and given_1 narrow_1) := List.mem_of_getElem? (i := 86) (by decide +kernel)
theorem st_el_1_3 : Cond.eq (.elem (.field (stT 1) "java/lang/String" "value" "[B") (.int (Int32.ofNat 3))) (.int ((STb.getD 1 []).getD 3 0)) ∈ flatC (Jvm.Cond.and given_1 narrow_1) := List.mem_of_getElem? (i := 87) (by decide +kernel)
theorem st_el_1_4 : Cond.eq (.elem (.field (stT 1) "java/lang/String" "value" "[B") (.int (Int32.ofNat 4))) (.int ((STb.getD 1 []).getD 4 0)) ∈ flatC (Jvm.Cond.and given_1 narrow_1) := List.mem_of_getElem? (i := 88) (by decide +kernel)
theorem st_ex_2 : Cond.exactly (stT 2) "java/lang/String" ∈ flatC (Jvm.Cond.and given_1 narrow_1) := List.mem_of_getElem? (i := 90) (by decide +kernel)
theorem st_co_2 : Cond.eq (.field (stT 2) "java/lang/String" "coder" "B") (.int 0) ∈ flatC (Jvm.Cond.and given_1 narrow_1) := List.mem_of_getElem? (i := 91) (by decide +kernel)
theorem st_ar_2 : Cond.arrayOf (.field (stT 2) "java/lang/String" "value" "[B") .byte ∈ flatC (Jvm.Cond.and given_1 narrow_1) := List.mem_of_getElem? (i := 92) (by decide +kernel)
theorem st_le_2 : Cond.eq (.length (.field (stT 2) "java/lang/String" "value" "[B")) (.int (Int32.ofNat (STl.getD 2 0))) ∈ flatC (Jvm.Cond.and given_1 narrow_1) := List.mem_of_getElem? (i := 93) (by decide +kernel)
theorem st_el_2_0 : Cond.eq (.elem (.field (stT 2) "java/lang/String" "value" "[B") (.int (Int32.ofNat 0))) (.int ((STb.getD 2 []).getD 0 0)) ∈ flatC (Jvm.Cond.and given_1 narrow_1) := List.mem_of_getElem? (i := 94) (by decide +kernel)
theorem st_el_2_1 : Cond.eq (.elem (.field (stT 2) "java/lang/String" "value" "[B") (.int (Int32.ofNat 1))) (.int ((STb.getD 2 []).getD 1 0)) ∈ flatC (Jvm.Cond.and given_1 narrow_1) := List.mem_of_getElem? (i := 95) (by decide +kernel)
theorem st_ex_3 : Cond.exactly (stT 3) "java/lang/String" ∈ flatC (Jvm.Cond.and given_1 narrow_1) := List.mem_of_getElem? (i := 98) (by decide +kernel)
theorem st_co_3 : Cond.eq (.field (stT 3) "java/lang/String" "coder" "B") (.int 0) ∈ flatC (Jvm.Cond.and given_1 narrow_1) := List.mem_of_getElem? (i := 99) (by decide +kernel)
theorem st_ar_3 : Cond.arrayOf (.field (stT 3) "java/lang/String" "value" "[B") .byte ∈ flatC (Jvm.Cond.and given_1 narrow_1) := List.mem_of_getElem? (i := 100) (by decide +kernel)
theorem st_le_3 : Cond.eq (.length (.field (stT 3) "java/lang/String" "value" "[B")) (.int (Int32.ofNat (STl.getD 3 0))) ∈ flatC (Jvm.Cond.and given_1 narrow_1) := List.mem_of_getElem? (i := 101) (by decide +kernel)
theorem st_el_3_0 : Cond.eq (.elem (.field (stT 3) "java/lang/String" "value" "[B") (.int (Int32.ofNat 0))) (.int ((STb.getD 3 []).getD 0 0)) ∈ flatC (Jvm.Cond.and given_1 narrow_1) := List.mem_of_getElem? (i := 102) (by decide +kernel)
theorem st_el_3_1 : Cond.eq (.elem (.field (stT 3) "java/lang/String" "value" "[B") (.int (Int32.ofNat 1))) (.int ((STb.getD 3 []).getD 1 0)) ∈ flatC (Jvm.Cond.and given_1 narrow_1) := List.mem_of_getElem? (i := 103) (by decide +kernel)
theorem st_el_3_2 : Cond.eq (.elem (.field (stT 3) "java/lang/String" "value" "[B") (.int (Int32.ofNat 2))) (.int ((STb.getD 3 []).getD 2 0)) ∈ flatC (Jvm.Cond.and given_1 narrow_1) := List.mem_of_getElem? (i := 104) (by decide +kernel)
theorem st_el_3_3 : Cond.eq (.elem (.field (stT 3) "java/lang/String" "value" "[B") (.int (Int32.ofNat 3))) (.int ((STb.getD 3 []).getD 3 0)) ∈ flatC (Jvm.Cond.and given_1 narrow_1) := List.mem_of_getElem? (i := 105) (by decide +kernel)
theorem st_ex_4 : Cond.exactly (stT 4) "java/lang/String" ∈ flatC (Jvm.Cond.and given_1 narrow_1) := List.mem_of_getElem? (i := 109) (by decide +kernel)
theorem st_co_4 : Cond.eq (.field (stT 4) "java/lang/String" "coder" "B") (.int 0) ∈ flatC (Jvm.Cond.and given_1 narrow_1) := List.mem_of_getElem? (i := 110) (by decide +kernel)
theorem st_ar_4 : Cond.arrayOf (.field (stT 4) "java/lang/String" "value" "[B") .byte ∈ flatC (Jvm.Cond.and given_1 narrow_1) := List.mem_of_getElem? (i := 111) (by decide +kernel)
theorem st_le_4 : Cond.eq (.length (.field (stT 4) "java/lang/String" "value" "[B")) (.int (Int32.ofNat (STl.getD 4 0))) ∈ flatC (Jvm.Cond.and given_1 narrow_1) := List.mem_of_getElem? (i := 112) (by decide +kernel)
theorem st_el_4_0 : Cond.eq (.elem (.field (stT 4) "java/lang/String" "value" "[B") (.int (Int32.ofNat 0))) (.int ((STb.getD 4 []).getD 0 0)) ∈ flatC (Jvm.Cond.and given_1 narrow_1) := List.mem_of_getElem? (i := 113) (by decide +kernel)
theorem st_el_4_1 : Cond.eq (.elem (.field (stT 4) "java/lang/String" "value" "[B") (.int (Int32.ofNat 1))) (.int ((STb.getD 4 []).getD 1 0)) ∈ flatC (Jvm.Cond.and given_1 narrow_1) := List.mem_of_getElem? (i := 114) (by decide +kernel)
theorem st_el_4_2 : Cond.eq (.elem (.field (stT 4) "java/lang/String" "value" "[B") (.int (Int32.ofNat 2))) (.int ((STb.getD 4 []).getD 2 0)) ∈ flatC (Jvm.Cond.and given_1 narrow_1) := List.mem_of_getElem? (i := 115) (by decide +kernel)
theorem st_el_4_3 : Cond.eq (.elem (.field (stT 4) "java/lang/String" "value" "[B") (.int (Int32.ofNat 3))) (.int ((STb.getD 4 []).getD 3 0)) ∈ flatC (Jvm.Cond.and given_1 narrow_1) := List.mem_of_getElem? (i := 116) (by decide +kernel)
theorem st_ex_5 : Cond.exactly (stT 5) "java/lang/String" ∈ flatC (Jvm.Cond.and given_1 narrow_1) := List.mem_of_getElem? (i := 121) (by decide +kernel)
theorem st_co_5 : Cond.eq (.field (stT 5) "java/lang/String" "coder" "B") (.int 0) ∈ flatC (Jvm.Cond.and given_1 narrow_1) := List.mem_of_getElem? (i := 122) (by decide +kernel)
theorem st_ar_5 : Cond.arrayOf (.field (stT 5) "java/lang/String" "value" "[B") .byte ∈ flatC (Jvm.Cond.and given_1 narrow_1) := List.mem_of_getElem? (i := 123) (by decide +kernel)
theorem st_le_5 : Cond.eq (.length (.field (stT 5) "java/lang/String" "value" "[B")) (.int (Int32.ofNat (STl.getD 5 0))) ∈ flatC (Jvm.Cond.and given_1 narrow_1) := List.mem_of_getElem? (i := 124) (by decide +kernel)
theorem st_el_5_0 : Cond.eq (.elem (.field (stT 5) "java/lang/String" "value" "[B") (.int (Int32.ofNat 0))) (.int ((STb.getD 5 []).getD 0 0)) ∈ flatC (Jvm.Cond.and given_1 narrow_1) := List.mem_of_getElem? (i := 125) (by decide +kernel)
theorem st_el_5_1 : Cond.eq (.elem (.field (stT 5) "java/lang/String" "value" "[B") (.int (Int32.ofNat 1))) (.int ((STb.getD 5 []).getD 1 0)) ∈ flatC (Jvm.Cond.and given_1 narrow_1) := List.mem_of_getElem? (i := 126) (by decide +kernel)
theorem st_el_5_2 : Cond.eq (.elem (.field (stT 5) "java/lang/String" "value" "[B") (.int (Int32.ofNat 2))) (.int ((STb.getD 5 []).getD 2 0)) ∈ flatC (Jvm.Cond.and given_1 narrow_1) := List.mem_of_getElem? (i := 127) (by decide +kernel)
theorem st_ex_6 : Cond.exactly (stT 6) "java/lang/String" ∈ flatC (Jvm.Cond.and given_1 narrow_1) := List.mem_of_getElem? (i := 133) (by decide +kernel)
theorem st_co_6 : Cond.eq (.field (stT 6) "java/lang/String" "coder" "B") (.int 0) ∈ flatC (Jvm.Cond.and given_1 narrow_1) := List.mem_of_getElem? (i := 134) (by decide +kernel)
theorem st_ar_6 : Cond.arrayOf (.field (stT 6) "java/lang/String" "value" "[B") .byte ∈ flatC (Jvm.Cond.and given_1 narrow_1) := List.mem_of_getElem? (i := 135) (by decide +kernel)
theorem st_le_6 : Cond.eq (.length (.field (stT 6) "java/lang/String" "value" "[B")) (.int (Int32.ofNat (STl.getD 6 0))) ∈ flatC (Jvm.Cond.and given_1 narrow_1) := List.mem_of_getElem? (i := 136) (by decide +kernel)
theorem st_el_6_0 : Cond.eq (.elem (.field (stT 6) "java/lang/String" "value" "[B") (.int (Int32.ofNat 0))) (.int ((STb.getD 6 []).getD 0 0)) ∈ flatC (Jvm.Cond.and given_1 narrow_1) := List.mem_of_getElem? (i := 137) (by decide +kernel)
theorem st_el_6_1 : Cond.eq (.elem (.field (stT 6) "java/lang/String" "value" "[B") (.int (Int32.ofNat 1))) (.int ((STb.getD 6 []).getD 1 0)) ∈ flatC (Jvm.Cond.and given_1 narrow_1) := List.mem_of_getElem? (i := 138) (by decide +kernel)
theorem st_ex_7 : Cond.exactly (stT 7) "java/lang/String" ∈ flatC (Jvm.Cond.and given_1 narrow_1) := List.mem_of_getElem? (i := 145) (by decide +kernel)
theorem st_co_7 : Cond.eq (.field (stT 7) "java/lang/String" "coder" "B") (.int 0) ∈ flatC (Jvm.Cond.and given_1 narrow_1) := List.mem_of_getElem? (i := 146) (by decide +kernel)
theorem st_ar_7 : Cond.arrayOf (.field (stT 7) "java/lang/String" "value" "[B") .byte ∈ flatC (Jvm.Cond.and given_1 narrow_1) := List.mem_of_getElem? (i := 147) (by decide +kernel)
theorem st_le_7 : Cond.eq (.length (.field (stT 7) "java/lang/String" "value" "[B")) (.int (Int32.ofNat (STl.getD 7 0))) ∈ flatC (Jvm.Cond.and given_1 narrow_1) := List.mem_of_getElem? (i := 148) (by decide +kernel)
theorem st_el_7_0 : Cond.eq (.elem (.field (stT 7) "java/lang/String" "value" "[B") (.int (Int32.ofNat 0))) (.int ((STb.getD 7 []).getD 0 0)) ∈ flatC (Jvm.Cond.and given_1 narrow_1) := List.mem_of_getElem? (i := 149) (by decide +kernel)
theorem st_el_7_1 : Cond.eq (.elem (.field (stT 7) "java/lang/String" "value" "[B") (.int (Int32.ofNat 1))) (.int ((STb.getD 7 []).getD 1 0)) ∈ flatC (Jvm.Cond.and given_1 narrow_1) := List.mem_of_getElem? (i := 150) (by decide +kernel)
theorem st_el_7_2 : Cond.eq (.elem (.field (stT 7) "java/lang/String" "value" "[B") (.int (Int32.ofNat 2))) (.int ((STb.getD 7 []).getD 2 0)) ∈ flatC (Jvm.Cond.and given_1 narrow_1) := List.mem_of_getElem? (i := 151) (by decide +kernel)
theorem st_ex_8 : Cond.exactly (stT 8) "java/lang/String" ∈ flatC (Jvm.Cond.and given_1 narrow_1) := List.mem_of_getElem? (i := 159) (by decide +kernel)
theorem st_co_8 : Cond.eq (.field (stT 8) "java/lang/String" "coder" "B") (.int 0) ∈ flatC (Jvm.Cond.and given_1 narrow_1) := List.mem_of_getElem? (i := 160) (by decide +kernel)
theorem st_ar_8 : Cond.arrayOf (.field (stT 8) "java/lang/String" "value" "[B") .byte ∈ flatC (Jvm.Cond.and given_1 narrow_1) := List.mem_of_getElem? (i := 161) (by decide +kernel)
theorem st_le_8 : Cond.eq (.length (.field (stT 8) "java/lang/String" "value" "[B")) (.int (Int32.ofNat (STl.getD 8 0))) ∈ flatC (Jvm.Cond.and given_1 narrow_1) := List.mem_of_getElem? (i := 162) (by decide +kernel)
theorem st_el_8_0 : Cond.eq (.elem (.field (stT 8) "java/lang/String" "value" "[B") (.int (Int32.ofNat 0))) (.int ((STb.getD 8 []).getD 0 0)) ∈ flatC (Jvm.Cond.and given_1 narrow_1) := List.mem_of_getElem? (i := 163) (by decide +kernel)
theorem st_el_8_1 : Cond.eq (.elem (.field (stT 8) "java/lang/String" "value" "[B") (.int (Int32.ofNat 1))) (.int ((STb.getD 8 []).getD 1 0)) ∈ flatC (Jvm.Cond.and given_1 narrow_1) := List.mem_of_getElem? (i := 164) (by decide +kernel)
theorem st_el_8_2 : Cond.eq (.elem (.field (stT 8) "java/lang/String" "value" "[B") (.int (Int32.ofNat 2))) (.int ((STb.getD 8 []).getD 2 0)) ∈ flatC (Jvm.Cond.and given_1 narrow_1) := List.mem_of_getElem? (i := 165) (by decide +kernel)
theorem st_ex_9 : Cond.exactly (stT 9) "java/lang/String" ∈ flatC (Jvm.Cond.and given_1 narrow_1) := List.mem_of_getElem? (i := 174) (by decide +kernel)
theorem st_co_9 : Cond.eq (.field (stT 9) "java/lang/String" "coder" "B") (.int 0) ∈ flatC (Jvm.Cond.and given_1 narrow_1) := List.mem_of_getElem? (i := 175) (by decide +kernel)
theorem st_ar_9 : Cond.arrayOf (.field (stT 9) "java/lang/String" "value" "[B") .byte ∈ flatC (Jvm.Cond.and given_1 narrow_1) := List.mem_of_getElem? (i := 176) (by decide +kernel)
theorem st_le_9 : Cond.eq (.length (.field (stT 9) "java/lang/String" "value" "[B")) (.int (Int32.ofNat (STl.getD 9 0))) ∈ flatC (Jvm.Cond.and given_1 narrow_1) := List.mem_of_getElem? (i := 177) (by decide +kernel)
theorem st_el_9_0 : Cond.eq (.elem (.field (stT 9) "java/lang/String" "value" "[B") (.int (Int32.ofNat 0))) (.int ((STb.getD 9 []).getD 0 0)) ∈ flatC (Jvm.Cond.and given_1 narrow_1) := List.mem_of_getElem? (i := 178) (by decide +kernel)
theorem st_el_9_1 : Cond.eq (.elem (.field (stT 9) "java/lang/String" "value" "[B") (.int (Int32.ofNat 1))) (.int ((STb.getD 9 []).getD 1 0)) ∈ flatC (Jvm.Cond.and given_1 narrow_1) := List.mem_of_getElem? (i := 179) (by decide +kernel)
theorem st_el_9_2 : Cond.eq (.elem (.field (stT 9) "java/lang/String" "value" "[B") (.int (Int32.ofNat 2))) (.int ((STb.getD 9 []).getD 2 0)) ∈ flatC (Jvm.Cond.and given_1 narrow_1) := List.mem_of_getElem? (i := 180) (by decide +kernel)
theorem st_el_9_3 : Cond.eq (.elem (.field (stT 9) "java/lang/String" "value" "[B") (.int (Int32.ofNat 3))) (.int ((STb.getD 9 []).getD 3 0)) ∈ flatC (Jvm.Cond.and given_1 narrow_1) := List.mem_of_getElem? (i := 181) (by decide +kernel)
theorem st_ex_10 : Cond.exactly (stT 10) "java/lang/String" ∈ flatC (Jvm.Cond.and given_1 narrow_1) := List.mem_of_getElem? (i := 191) (by decide +kernel)
theorem st_co_10 : Cond.eq (.field (stT 10) "java/lang/String" "coder" "B") (.int 0) ∈ flatC (Jvm.Cond.and given_1 narrow_1) := List.mem_of_getElem? (i := 192) (by decide +kernel)
theorem st_ar_10 : Cond.arrayOf (.field (stT 10) "java/lang/String" "value" "[B") .byte ∈ flatC (Jvm.Cond.and given_1 narrow_1) := List.mem_of_getElem? (i := 193) (by decide +kernel)
theorem st_le_10 : Cond.eq (.length (.field (stT 10) "java/lang/String" "value" "[B")) (.int (Int32.ofNat (STl.getD 10 0))) ∈ flatC (Jvm.Cond.and given_1 narrow_1) := List.mem_of_getElem? (i := 194) (by decide +kernel)
theorem st_el_10_0 : Cond.eq (.elem (.field (stT 10) "java/lang/String" "value" "[B") (.int (Int32.ofNat 0))) (.int ((STb.getD 10 []).getD 0 0)) ∈ flatC (Jvm.Cond.and given_1 narrow_1) := List.mem_of_getElem? (i := 195) (by decide +kernel)
theorem st_el_10_1 : Cond.eq (.elem (.field (stT 10) "java/lang/String" "value" "[B") (.int (Int32.ofNat 1))) (.int ((STb.getD 10 []).getD 1 0)) ∈ flatC (Jvm.Cond.and given_1 narrow_1) := List.mem_of_getElem? (i := 196) (by decide +kernel)
theorem st_el_10_2 : Cond.eq (.elem (.field (stT 10) "java/lang/String" "value" "[B") (.int (Int32.ofNat 2))) (.int ((STb.getD 10 []).getD 2 0)) ∈ flatC (Jvm.Cond.and given_1 narrow_1) := List.mem_of_getElem? (i := 197) (by decide +kernel)
theorem st_el_10_3 : Cond.eq (.elem (.field (stT 10) "java/lang/String" "value" "[B") (.int (Int32.ofNat 3))) (.int ((STb.getD 10 []).getD 3 0)) ∈ flatC (Jvm.Cond.and given_1 narrow_1) := List.mem_of_getElem? (i := 198) (by decide +kernel)
theorem st_ex_11 : Cond.exactly (stT 11) "java/lang/String" ∈ flatC (Jvm.Cond.and given_1 narrow_1) := List.mem_of_getElem? (i := 209) (by decide +kernel)
theorem st_co_11 : Cond.eq (.field (stT 11) "java/lang/String" "coder" "B") (.int 0) ∈ flatC (Jvm.Cond.and given_1 narrow_1) := List.mem_of_getElem? (i := 210) (by decide +kernel)
theorem st_ar_11 : Cond.arrayOf (.field (stT 11) "java/lang/String" "value" "[B") .byte ∈ flatC (Jvm.Cond.and given_1 narrow_1) := List.mem_of_getElem? (i := 211) (by decide +kernel)
theorem st_le_11 : Cond.eq (.length (.field (stT 11) "java/lang/String" "value" "[B")) (.int (Int32.ofNat (STl.getD 11 0))) ∈ flatC (Jvm.Cond.and given_1 narrow_1) := List.mem_of_getElem? (i := 212) (by decide +kernel)
theorem st_el_11_0 : Cond.eq (.elem (.field (stT 11) "java/lang/String" "value" "[B") (.int (Int32.ofNat 0))) (.int ((STb.getD 11 []).getD 0 0)) ∈ flatC (Jvm.Cond.and given_1 narrow_1) := List.mem_of_getElem? (i := 213) (by decide +kernel)
theorem st_el_11_1 : Cond.eq (.elem (.field (stT 11) "java/lang/String" "value" "[B") (.int (Int32.ofNat 1))) (.int ((STb.getD 11 []).getD 1 0)) ∈ flatC (Jvm.Cond.and given_1 narrow_1) := List.mem_of_getElem? (i := 214) (by decide +kernel)
theorem st_el_11_2 : Cond.eq (.elem (.field (stT 11) "java/lang/String" "value" "[B") (.int (Int32.ofNat 2))) (.int ((STb.getD 11 []).getD 2 0)) ∈ flatC (Jvm.Cond.and given_1 narrow_1) := List.mem_of_getElem? (i := 215) (by decide +kernel)
theorem st_el_11_3 : Cond.eq (.elem (.field (stT 11) "java/lang/String" "value" "[B") (.int (Int32.ofNat 3))) (.int ((STb.getD 11 []).getD 3 0)) ∈ flatC (Jvm.Cond.and given_1 narrow_1) := List.mem_of_getElem? (i := 216) (by decide +kernel)
theorem st_el_11_4 : Cond.eq (.elem (.field (stT 11) "java/lang/String" "value" "[B") (.int (Int32.ofNat 4))) (.int ((STb.getD 11 []).getD 4 0)) ∈ flatC (Jvm.Cond.and given_1 narrow_1) := List.mem_of_getElem? (i := 217) (by decide +kernel)
theorem st_ex_12 : Cond.exactly (stT 12) "java/lang/String" ∈ flatC (Jvm.Cond.and given_1 narrow_1) := List.mem_of_getElem? (i := 229) (by decide +kernel)
theorem st_co_12 : Cond.eq (.field (stT 12) "java/lang/String" "coder" "B") (.int 0) ∈ flatC (Jvm.Cond.and given_1 narrow_1) := List.mem_of_getElem? (i := 230) (by decide +kernel)
theorem st_ar_12 : Cond.arrayOf (.field (stT 12) "java/lang/String" "value" "[B") .byte ∈ flatC (Jvm.Cond.and given_1 narrow_1) := List.mem_of_getElem? (i := 231) (by decide +kernel)
theorem st_le_12 : Cond.eq (.length (.field (stT 12) "java/lang/String" "value" "[B")) (.int (Int32.ofNat (STl.getD 12 0))) ∈ flatC (Jvm.Cond.and given_1 narrow_1) := List.mem_of_getElem? (i := 232) (by decide +kernel)
theorem st_el_12_0 : Cond.eq (.elem (.field (stT 12) "java/lang/String" "value" "[B") (.int (Int32.ofNat 0))) (.int ((STb.getD 12 []).getD 0 0)) ∈ flatC (Jvm.Cond.and given_1 narrow_1) := List.mem_of_getElem? (i := 233) (by decide +kernel)
theorem st_el_12_1 : Cond.eq (.elem (.field (stT 12) "java/lang/String" "value" "[B") (.int (Int32.ofNat 1))) (.int ((STb.getD 12 []).getD 1 0)) ∈ flatC (Jvm.Cond.and given_1 narrow_1) := List.mem_of_getElem? (i := 234) (by decide +kernel)
theorem st_el_12_2 : Cond.eq (.elem (.field (stT 12) "java/lang/String" "value" "[B") (.int (Int32.ofNat 2))) (.int ((STb.getD 12 []).getD 2 0)) ∈ flatC (Jvm.Cond.and given_1 narrow_1) := List.mem_of_getElem? (i := 235) (by decide +kernel)
theorem st_el_12_3 : Cond.eq (.elem (.field (stT 12) "java/lang/String" "value" "[B") (.int (Int32.ofNat 3))) (.int ((STb.getD 12 []).getD 3 0)) ∈ flatC (Jvm.Cond.and given_1 narrow_1) := List.mem_of_getElem? (i := 236) (by decide +kernel)
theorem st_el_12_4 : Cond.eq (.elem (.field (stT 12) "java/lang/String" "value" "[B") (.int (Int32.ofNat 4))) (.int ((STb.getD 12 []).getD 4 0)) ∈ flatC (Jvm.Cond.and given_1 narrow_1) := List.mem_of_getElem? (i := 237) (by decide +kernel)
theorem st_ex_13 : Cond.exactly (stT 13) "java/lang/String" ∈ flatC (Jvm.Cond.and given_1 narrow_1) := List.mem_of_getElem? (i := 250) (by decide +kernel)
theorem st_co_13 : Cond.eq (.field (stT 13) "java/lang/String" "coder" "B") (.int 0) ∈ flatC (Jvm.Cond.and given_1 narrow_1) := List.mem_of_getElem? (i := 251) (by decide +kernel)
theorem st_ar_13 : Cond.arrayOf (.field (stT 13) "java/lang/String" "value" "[B") .byte ∈ flatC (Jvm.Cond.and given_1 narrow_1) := List.mem_of_getElem? (i := 252) (by decide +kernel)
theorem st_le_13 : Cond.eq (.length (.field (stT 13) "java/lang/String" "value" "[B")) (.int (Int32.ofNat (STl.getD 13 0))) ∈ flatC (Jvm.Cond.and given_1 narrow_1) := List.mem_of_getElem? (i := 253) (by decide +kernel)
theorem st_el_13_0 : Cond.eq (.elem (.field (stT 13) "java/lang/String" "value" "[B") (.int (Int32.ofNat 0))) (.int ((STb.getD 13 []).getD 0 0)) ∈ flatC (Jvm.Cond.and given_1 narrow_1) := List.mem_of_getElem? (i := 254) (by decide +kernel)
theorem st_el_13_1 : Cond.eq (.elem (.field (stT 13) "java/lang/String" "value" "[B") (.int (Int32.ofNat 1))) (.int ((STb.getD 13 []).getD 1 0)) ∈ flatC (Jvm.Cond.and given_1 narrow_1) := List.mem_of_getElem? (i := 255) (by decide +kernel)
theorem st_el_13_2 : Cond.eq (.elem (.field (stT 13) "java/lang/String" "value" "[B") (.int (Int32.ofNat 2))) (.int ((STb.getD 13 []).getD 2 0)) ∈ flatC (Jvm.Cond.and given_1 narrow_1) := List.mem_of_getElem? (i := 256) (by decide +kernel)
theorem st_el_13_3 : Cond.eq (.elem (.field (stT 13) "java/lang/String" "value" "[B") (.int (Int32.ofNat 3))) (.int ((STb.getD 13 []).getD 3 0)) ∈ flatC (Jvm.Cond.and given_1 narrow_1) := List.mem_of_getElem? (i := 257) (by decide +kernel)
theorem st_ex_14 : Cond.exactly (stT 14) "java/lang/String" ∈ flatC (Jvm.Cond.and given_1 narrow_1) := List.mem_of_getElem? (i := 271) (by decide +kernel)
theorem st_co_14 : Cond.eq (.field (stT 14) "java/lang/String" "coder" "B") (.int 0) ∈ flatC (Jvm.Cond.and given_1 narrow_1) := List.mem_of_getElem? (i := 272) (by decide +kernel)
theorem st_ar_14 : Cond.arrayOf (.field (stT 14) "java/lang/String" "value" "[B") .byte ∈ flatC (Jvm.Cond.and given_1 narrow_1) := List.mem_of_getElem? (i := 273) (by decide +kernel)
theorem st_le_14 : Cond.eq (.length (.field (stT 14) "java/lang/String" "value" "[B")) (.int (Int32.ofNat (STl.getD 14 0))) ∈ flatC (Jvm.Cond.and given_1 narrow_1) := List.mem_of_getElem? (i := 274) (by decide +kernel)
theorem st_el_14_0 : Cond.eq (.elem (.field (stT 14) "java/lang/String" "value" "[B") (.int (Int32.ofNat 0))) (.int ((STb.getD 14 []).getD 0 0)) ∈ flatC (Jvm.Cond.and given_1 narrow_1) := List.mem_of_getElem? (i := 275) (by decide +kernel)
theorem st_el_14_1 : Cond.eq (.elem (.field (stT 14) "java/lang/String" "value" "[B") (.int (Int32.ofNat 1))) (.int ((STb.getD 14 []).getD 1 0)) ∈ flatC (Jvm.Cond.and given_1 narrow_1) := List.mem_of_getElem? (i := 276) (by decide +kernel)
theorem st_el_14_2 : Cond.eq (.elem (.field (stT 14) "java/lang/String" "value" "[B") (.int (Int32.ofNat 2))) (.int ((STb.getD 14 []).getD 2 0)) ∈ flatC (Jvm.Cond.and given_1 narrow_1) := List.mem_of_getElem? (i := 277) (by decide +kernel)
theorem st_el_14_3 : Cond.eq (.elem (.field (stT 14) "java/lang/String" "value" "[B") (.int (Int32.ofNat 3))) (.int ((STb.getD 14 []).getD 3 0)) ∈ flatC (Jvm.Cond.and given_1 narrow_1) := List.mem_of_getElem? (i := 278) (by decide +kernel)
theorem st_el_14_4 : Cond.eq (.elem (.field (stT 14) "java/lang/String" "value" "[B") (.int (Int32.ofNat 4))) (.int ((STb.getD 14 []).getD 4 0)) ∈ flatC (Jvm.Cond.and given_1 narrow_1) := List.mem_of_getElem? (i := 279) (by decide +kernel)
theorem st_el_14_5 : Cond.eq (.elem (.field (stT 14) "java/lang/String" "value" "[B") (.int (Int32.ofNat 5))) (.int ((STb.getD 14 []).getD 5 0)) ∈ flatC (Jvm.Cond.and given_1 narrow_1) := List.mem_of_getElem? (i := 280) (by decide +kernel)
theorem st_ex_15 : Cond.exactly (stT 15) "java/lang/String" ∈ flatC (Jvm.Cond.and given_1 narrow_1) := List.mem_of_getElem? (i := 295) (by decide +kernel)
theorem st_co_15 : Cond.eq (.field (stT 15) "java/lang/String" "coder" "B") (.int 0) ∈ flatC (Jvm.Cond.and given_1 narrow_1) := List.mem_of_getElem? (i := 296) (by decide +kernel)
theorem st_ar_15 : Cond.arrayOf (.field (stT 15) "java/lang/String" "value" "[B") .byte ∈ flatC (Jvm.Cond.and given_1 narrow_1) := List.mem_of_getElem? (i := 297) (by decide +kernel)
theorem st_le_15 : Cond.eq (.length (.field (stT 15) "java/lang/String" "value" "[B")) (.int (Int32.ofNat (STl.getD 15 0))) ∈ flatC (Jvm.Cond.and given_1 narrow_1) := List.mem_of_getElem? (i := 298) (by decide +kernel)
theorem st_ne_0_1 : Cond.not (Cond.eq (stT 0) (stT 1)) ∈ flatC (Jvm.Cond.and given_1 narrow_1) := List.mem_of_getElem? (i := 89) (by decide +kernel)
theorem st_ne_0_2 : Cond.not (Cond.eq (stT 0) (stT 2)) ∈ flatC (Jvm.Cond.and given_1 narrow_1) := List.mem_of_getElem? (i := 96) (by decide +kernel)
theorem st_ne_0_3 : Cond.not (Cond.eq (stT 0) (stT 3)) ∈ flatC (Jvm.Cond.and given_1 narrow_1) := List.mem_of_getElem? (i := 106) (by decide +kernel)
theorem st_ne_0_4 : Cond.not (Cond.eq (stT 0) (stT 4)) ∈ flatC (Jvm.Cond.and given_1 narrow_1) := List.mem_of_getElem? (i := 117) (by decide +kernel)
theorem st_ne_0_5 : Cond.not (Cond.eq (stT 0) (stT 5)) ∈ flatC (Jvm.Cond.and given_1 narrow_1) := List.mem_of_getElem? (i := 128) (by decide +kernel)
theorem st_ne_0_6 : Cond.not (Cond.eq (stT 0) (stT 6)) ∈ flatC (Jvm.Cond.and given_1 narrow_1) := List.mem_of_getElem? (i := 139) (by decide +kernel)
theorem st_ne_0_7 : Cond.not (Cond.eq (stT 0) (stT 7)) ∈ flatC (Jvm.Cond.and given_1 narrow_1) := List.mem_of_getElem? (i := 152) (by decide +kernel)
theorem st_ne_0_8 : Cond.not (Cond.eq (stT 0) (stT 8)) ∈ flatC (Jvm.Cond.and given_1 narrow_1) := List.mem_of_getElem? (i := 166) (by decide +kernel)
theorem st_ne_0_9 : Cond.not (Cond.eq (stT 0) (stT 9)) ∈ flatC (Jvm.Cond.and given_1 narrow_1) := List.mem_of_getElem? (i := 182) (by decide +kernel)
theorem st_ne_0_10 : Cond.not (Cond.eq (stT 0) (stT 10)) ∈ flatC (Jvm.Cond.and given_1 narrow_1) := List.mem_of_getElem? (i := 199) (by decide +kernel)
theorem st_ne_0_11 : Cond.not (Cond.eq (stT 0) (stT 11)) ∈ flatC (Jvm.Cond.and given_1 narrow_1) := List.mem_of_getElem? (i := 218) (by decide +kernel)
theorem st_ne_0_12 : Cond.not (Cond.eq (stT 0) (stT 12)) ∈ flatC (Jvm.Cond.and given_1 narrow_1) := List.mem_of_getElem? (i := 238) (by decide +kernel)
theorem st_ne_0_13 : Cond.not (Cond.eq (stT 0) (stT 13)) ∈ flatC (Jvm.Cond.and given_1 narrow_1) := List.mem_of_getElem? (i := 258) (by decide +kernel)
theorem st_ne_0_14 : Cond.not (Cond.eq (stT 0) (stT 14)) ∈ flatC (Jvm.Cond.and given_1 narrow_1) := List.mem_of_getElem? (i := 281) (by decide +kernel)
theorem st_ne_0_15 : Cond.not (Cond.eq (stT 0) (stT 15)) ∈ flatC (Jvm.Cond.and given_1 narrow_1) := List.mem_of_getElem? (i := 299) (by decide +kernel)
theorem st_ne_1_2 : Cond.not (Cond.eq (stT 1) (stT 2)) ∈ flatC (Jvm.Cond.and given_1 narrow_1) := List.mem_of_getElem? (i := 97) (by decide +kernel)
theorem st_ne_1_3 : Cond.not (Cond.eq (stT 1) (stT 3)) ∈ flatC (Jvm.Cond.and given_1 narrow_1) := List.mem_of_getElem? (i := 107) (by decide +kernel)
theorem st_ne_1_4 : Cond.not (Cond.eq (stT 1) (stT 4)) ∈ flatC (Jvm.Cond.and given_1 narrow_1) := List.mem_of_getElem? (i := 118) (by decide +kernel)
theorem st_ne_1_5 : Cond.not (Cond.eq (stT 1) (stT 5)) ∈ flatC (Jvm.Cond.and given_1 narrow_1) := List.mem_of_getElem? (i := 129) (by decide +kernel)
theorem st_ne_1_6 : Cond.not (Cond.eq (stT 1) (stT 6)) ∈ flatC (Jvm.Cond.and given_1 narrow_1) := List.mem_of_getElem? (i := 140) (by decide +kernel)
theorem st_ne_1_7 : Cond.not (Cond.eq (stT 1) (stT 7)) ∈ flatC (Jvm.Cond.and given_1 narrow_1) := List.mem_of_getElem? (i := 153) (by decide +kernel)
theorem st_ne_1_8 : Cond.not (Cond.eq (stT 1) (stT 8)) ∈ flatC (Jvm.Cond.and given_1 narrow_1) := List.mem_of_getElem? (i := 167) (by decide +kernel)
theorem st_ne_1_9 : Cond.not (Cond.eq (stT 1) (stT 9)) ∈ flatC (Jvm.Cond.and given_1 narrow_1) := List.mem_of_getElem? (i := 183) (by decide +kernel)
theorem st_ne_1_10 : Cond.not (Cond.eq (stT 1) (stT 10)) ∈ flatC (Jvm.Cond.and given_1 narrow_1) := List.mem_of_getElem? (i := 200) (by decide +kernel)
theorem st_ne_1_11 : Cond.not (Cond.eq (stT 1) (stT 11)) ∈ flatC (Jvm.Cond.and given_1 narrow_1) := List.mem_of_getElem? (i := 219) (by decide +kernel)
theorem st_ne_1_12 : Cond.not (Cond.eq (stT 1) (stT 12)) ∈ flatC (Jvm.Cond.and given_1 narrow_1) := List.mem_of_getElem? (i := 239) (by decide +kernel)
theorem st_ne_1_13 : Cond.not (Cond.eq (stT 1) (stT 13)) ∈ flatC (Jvm.Cond.and given_1 narrow_1) := List.mem_of_getElem? (i := 259) (by decide +kernel)
theorem st_ne_1_14 : Cond.not (Cond.eq (stT 1) (stT 14)) ∈ flatC (Jvm.Cond.and given_1 narrow_1) := List.mem_of_getElem? (i := 282) (by decide +kernel)
theorem st_ne_1_15 : Cond.not (Cond.eq (stT 1) (stT 15)) ∈ flatC (Jvm.Cond.and given_1 narrow_1) := List.mem_of_getElem? (i := 300) (by decide +kernel)
theorem st_ne_2_3 : Cond.not (Cond.eq (stT 2) (stT 3)) ∈ flatC (Jvm.Cond.and given_1 narrow_1) := List.mem_of_getElem? (i := 108) (by decide +kernel)
theorem st_ne_2_4 : Cond.not (Cond.eq (stT 2) (stT 4)) ∈ flatC (Jvm.Cond.and given_1 narrow_1) := List.mem_of_getElem? (i := 119) (by decide +kernel)
theorem st_ne_2_5 : Cond.not (Cond.eq (stT 2) (stT 5)) ∈ flatC (Jvm.Cond.and given_1 narrow_1) := List.mem_of_getElem? (i := 130) (by decide +kernel)
theorem st_ne_2_6 : Cond.not (Cond.eq (stT 2) (stT 6)) ∈ flatC (Jvm.Cond.and given_1 narrow_1) := List.mem_of_getElem? (i := 141) (by decide +kernel)
theorem st_ne_2_7 : Cond.not (Cond.eq (stT 2) (stT 7)) ∈ flatC (Jvm.Cond.and given_1 narrow_1) := List.mem_of_getElem? (i := 154) (by decide +kernel)
theorem st_ne_2_8 : Cond.not (Cond.eq (stT 2) (stT 8)) ∈ flatC (Jvm.Cond.and given_1 narrow_1) := List.mem_of_getElem? (i := 168) (by decide +kernel)
theorem st_ne_2_9 : Cond.not (Cond.eq (stT 2) (stT 9)) ∈ flatC (Jvm.Cond.and given_1 narrow_1) := List.mem_of_getElem? (i := 184) (by decide +kernel)
theorem st_ne_2_10 : Cond.not (Cond.eq (stT 2) (stT 10)) ∈ flatC (Jvm.Cond.and given_1 narrow_1) := List.mem_of_getElem? (i := 201) (by decide +kernel)
theorem st_ne_2_11 : Cond.not (Cond.eq (stT 2) (stT 11)) ∈ flatC (Jvm.Cond.and given_1 narrow_1) := List.mem_of_getElem? (i := 220) (by decide +kernel)
theorem st_ne_2_12 : Cond.not (Cond.eq (stT 2) (stT 12)) ∈ flatC (Jvm.Cond.and given_1 narrow_1) := List.mem_of_getElem? (i := 240) (by decide +kernel)
theorem st_ne_2_13 : Cond.not (Cond.eq (stT 2) (stT 13)) ∈ flatC (Jvm.Cond.and given_1 narrow_1) := List.mem_of_getElem? (i := 260) (by decide +kernel)
theorem st_ne_2_14 : Cond.not (Cond.eq (stT 2) (stT 14)) ∈ flatC (Jvm.Cond.and given_1 narrow_1) := List.mem_of_getElem? (i := 283) (by decide +kernel)
theorem st_ne_2_15 : Cond.not (Cond.eq (stT 2) (stT 15)) ∈ flatC (Jvm.Cond.and given_1 narrow_1) := List.mem_of_getElem? (i := 301) (by decide +kernel)
theorem st_ne_3_4 : Cond.not (Cond.eq (stT 3) (stT 4)) ∈ flatC (Jvm.Cond.and given_1 narrow_1) := List.mem_of_getElem? (i := 120) (by decide +kernel)
theorem st_ne_3_5 : Cond.not (Cond.eq (stT 3) (stT 5)) ∈ flatC (Jvm.Cond.and given_1 narrow_1) := List.mem_of_getElem? (i := 131) (by decide +kernel)
theorem st_ne_3_6 : Cond.not (Cond.eq (stT 3) (stT 6)) ∈ flatC (Jvm.Cond.and given_1 narrow_1) := List.mem_of_getElem? (i := 142) (by decide +kernel)
theorem st_ne_3_7 : Cond.not (Cond.eq (stT 3) (stT 7)) ∈ flatC (Jvm.Cond.and given_1 narrow_1) := List.mem_of_getElem? (i := 155) (by decide +kernel)
theorem st_ne_3_8 : Cond.not (Cond.eq (stT 3) (stT 8)) ∈ flatC (Jvm.Cond.and given_1 narrow_1) := List.mem_of_getElem? (i := 169) (by decide +kernel)
theorem st_ne_3_9 : Cond.not (Cond.eq (stT 3) (stT 9)) ∈ flatC (Jvm.Cond.and given_1 narrow_1) := List.mem_of_getElem? (i := 185) (by decide +kernel)
theorem st_ne_3_10 : Cond.not (Cond.eq (stT 3) (stT 10)) ∈ flatC (Jvm.Cond.and given_1 narrow_1) := List.mem_of_getElem? (i := 202) (by decide +kernel)
theorem st_ne_3_11 : Cond.not (Cond.eq (stT 3) (stT 11)) ∈ flatC (Jvm.Cond.and given_1 narrow_1) := List.mem_of_getElem? (i := 221) (by decide +kernel)
theorem st_ne_3_12 : Cond.not (Cond.eq (stT 3) (stT 12)) ∈ flatC (Jvm.Cond.and given_1 narrow_1) := List.mem_of_getElem? (i := 241) (by decide +kernel)
theorem st_ne_3_13 : Cond.not (Cond.eq (stT 3) (stT 13)) ∈ flatC (Jvm.Cond.and given_1 narrow_1) := List.mem_of_getElem? (i := 261) (by decide +kernel)
theorem st_ne_3_14 : Cond.not (Cond.eq (stT 3) (stT 14)) ∈ flatC (Jvm.Cond.and given_1 narrow_1) := List.mem_of_getElem? (i := 284) (by decide +kernel)
theorem st_ne_3_15 : Cond.not (Cond.eq (stT 3) (stT 15)) ∈ flatC (Jvm.Cond.and given_1 narrow_1) := List.mem_of_getElem? (i := 302) (by decide +kernel)
theorem st_ne_4_5 : Cond.not (Cond.eq (stT 4) (stT 5)) ∈ flatC (Jvm.Cond.and given_1 narrow_1) := List.mem_of_getElem? (i := 132) (by decide +kernel)
theorem st_ne_4_6 : Cond.not (Cond.eq (stT 4) (stT 6)) ∈ flatC (Jvm.Cond.and given_1 narrow_1) := List.mem_of_getElem? (i := 143) (by decide +kernel)
theorem st_ne_4_7 : Cond.not (Cond.eq (stT 4) (stT 7)) ∈ flatC (Jvm.Cond.and given_1 narrow_1) := List.mem_of_getElem? (i := 156) (by decide +kernel)
theorem st_ne_4_8 : Cond.not (Cond.eq (stT 4) (stT 8)) ∈ flatC (Jvm.Cond.and given_1 narrow_1) := List.mem_of_getElem? (i := 170) (by decide +kernel)
theorem st_ne_4_9 : Cond.not (Cond.eq (stT 4) (stT 9)) ∈ flatC (Jvm.Cond.and given_1 narrow_1) := List.mem_of_getElem? (i := 186) (by decide +kernel)
theorem st_ne_4_10 : Cond.not (Cond.eq (stT 4) (stT 10)) ∈ flatC (Jvm.Cond.and given_1 narrow_1) := List.mem_of_getElem? (i := 203) (by decide +kernel)
theorem st_ne_4_11 : Cond.not (Cond.eq (stT 4) (stT 11)) ∈ flatC (Jvm.Cond.and given_1 narrow_1) := List.mem_of_getElem? (i := 222) (by decide +kernel)
theorem st_ne_4_12 : Cond.not (Cond.eq (stT 4) (stT 12)) ∈ flatC (Jvm.Cond.and given_1 narrow_1) := List.mem_of_getElem? (i := 242) (by decide +kernel)
theorem st_ne_4_13 : Cond.not (Cond.eq (stT 4) (stT 13)) ∈ flatC (Jvm.Cond.and given_1 narrow_1) := List.mem_of_getElem? (i := 262) (by decide +kernel)
theorem st_ne_4_14 : Cond.not (Cond.eq (stT 4) (stT 14)) ∈ flatC (Jvm.Cond.and given_1 narrow_1) := List.mem_of_getElem? (i := 285) (by decide +kernel)
theorem st_ne_4_15 : Cond.not (Cond.eq (stT 4) (stT 15)) ∈ flatC (Jvm.Cond.and given_1 narrow_1) := List.mem_of_getElem? (i := 303) (by decide +kernel)
theorem st_ne_5_6 : Cond.not (Cond.eq (stT 5) (stT 6)) ∈ flatC (Jvm.Cond.and given_1 narrow_1) := List.mem_of_getElem? (i := 144) (by decide +kernel)
theorem st_ne_5_7 : Cond.not (Cond.eq (stT 5) (stT 7)) ∈ flatC (Jvm.Cond.and given_1 narrow_1) := List.mem_of_getElem? (i := 157) (by decide +kernel)
theorem st_ne_5_8 : Cond.not (Cond.eq (stT 5) (stT 8)) ∈ flatC (Jvm.Cond.and given_1 narrow_1) := List.mem_of_getElem? (i := 171) (by decide +kernel)
theorem st_ne_5_9 : Cond.not (Cond.eq (stT 5) (stT 9)) ∈ flatC (Jvm.Cond.and given_1 narrow_1) := List.mem_of_getElem? (i := 187) (by decide +kernel)
theorem st_ne_5_10 : Cond.not (Cond.eq (stT 5) (stT 10)) ∈ flatC (Jvm.Cond.and given_1 narrow_1) := List.mem_of_getElem? (i := 204) (by decide +kernel)
theorem st_ne_5_11 : Cond.not (Cond.eq (stT 5) (stT 11)) ∈ flatC (Jvm.Cond.and given_1 narrow_1) := List.mem_of_getElem? (i := 223) (by decide +kernel)
theorem st_ne_5_12 : Cond.not (Cond.eq (stT 5) (stT 12)) ∈ flatC (Jvm.Cond.and given_1 narrow_1) := List.mem_of_getElem? (i := 243) (by decide +kernel)
theorem st_ne_5_13 : Cond.not (Cond.eq (stT 5) (stT 13)) ∈ flatC (Jvm.Cond.and given_1 narrow_1) := List.mem_of_getElem? (i := 263) (by decide +kernel)
theorem st_ne_5_14 : Cond.not (Cond.eq (stT 5) (stT 14)) ∈ flatC (Jvm.Cond.and given_1 narrow_1) := List.mem_of_getElem? (i := 286) (by decide +kernel)
theorem st_ne_5_15 : Cond.not (Cond.eq (stT 5) (stT 15)) ∈ flatC (Jvm.Cond.and given_1 narrow_1) := List.mem_of_getElem? (i := 304) (by decide +kernel)
theorem st_ne_6_7 : Cond.not (Cond.eq (stT 6) (stT 7)) ∈ flatC (Jvm.Cond.and given_1 narrow_1) := List.mem_of_getElem? (i := 158) (by decide +kernel)
theorem st_ne_6_8 : Cond.not (Cond.eq (stT 6) (stT 8)) ∈ flatC (Jvm.Cond.and given_1 narrow_1) := List.mem_of_getElem? (i := 172) (by decide +kernel)
theorem st_ne_6_9 : Cond.not (Cond.eq (stT 6) (stT 9)) ∈ flatC (Jvm.Cond.and given_1 narrow_1) := List.mem_of_getElem? (i := 188) (by decide +kernel)
theorem st_ne_6_10 : Cond.not (Cond.eq (stT 6) (stT 10)) ∈ flatC (Jvm.Cond.and given_1 narrow_1) := List.mem_of_getElem? (i := 205) (by decide +kernel)
theorem st_ne_6_11 : Cond.not (Cond.eq (stT 6) (stT 11)) ∈ flatC (Jvm.Cond.and given_1 narrow_1) := List.mem_of_getElem? (i := 224) (by decide +kernel)
theorem st_ne_6_12 : Cond.not (Cond.eq (stT 6) (stT 12)) ∈ flatC (Jvm.Cond.and given_1 narrow_1) := List.mem_of_getElem? (i := 244) (by decide +kernel)
theorem st_ne_6_13 : Cond.not (Cond.eq (stT 6) (stT 13)) ∈ flatC (Jvm.Cond.and given_1 narrow_1) := List.mem_of_getElem? (i := 264) (by decide +kernel)
theorem st_ne_6_14 : Cond.not (Cond.eq (stT 6) (stT 14)) ∈ flatC (Jvm.Cond.and given_1 narrow_1) := List.mem_of_getElem? (i := 287) (by decide +kernel)
theorem st_ne_6_15 : Cond.not (Cond.eq (stT 6) (stT 15)) ∈ flatC (Jvm.Cond.and given_1 narrow_1) := List.mem_of_getElem? (i := 305) (by decide +kernel)
theorem st_ne_7_8 : Cond.not (Cond.eq (stT 7) (stT 8)) ∈ flatC (Jvm.Cond.and given_1 narrow_1) := List.mem_of_getElem? (i := 173) (by decide +kernel)
theorem st_ne_7_9 : Cond.not (Cond.eq (stT 7) (stT 9)) ∈ flatC (Jvm.Cond.and given_1 narrow_1) := List.mem_of_getElem? (i := 189) (by decide +kernel)
theorem st_ne_7_10 : Cond.not (Cond.eq (stT 7) (stT 10)) ∈ flatC (Jvm.Cond.and given_1 narrow_1) := List.mem_of_getElem? (i := 206) (by decide +kernel)
theorem st_ne_7_11 : Cond.not (Cond.eq (stT 7) (stT 11)) ∈ flatC (Jvm.Cond.and given_1 narrow_1) := List.mem_of_getElem? (i := 225) (by decide +kernel)
theorem st_ne_7_12 : Cond.not (Cond.eq (stT 7) (stT 12)) ∈ flatC (Jvm.Cond.and given_1 narrow_1) := List.mem_of_getElem? (i := 245) (by decide +kernel)
theorem st_ne_7_13 : Cond.not (Cond.eq (stT 7) (stT 13)) ∈ flatC (Jvm.Cond.and given_1 narrow_1) := List.mem_of_getElem? (i := 265) (by decide +kernel)
theorem st_ne_7_14 : Cond.not (Cond.eq (stT 7) (stT 14)) ∈ flatC (Jvm.Cond.and given_1 narrow_1) := List.mem_of_getElem? (i := 288) (by decide +kernel)
theorem st_ne_7_15 : Cond.not (Cond.eq (stT 7) (stT 15)) ∈ flatC (Jvm.Cond.and given_1 narrow_1) := List.mem_of_getElem? (i := 306) (by decide +kernel)
theorem st_ne_8_9 : Cond.not (Cond.eq (stT 8) (stT 9)) ∈ flatC (Jvm.Cond.and given_1 narrow_1) := List.mem_of_getElem? (i := 190) (by decide +kernel)
theorem st_ne_8_10 : Cond.not (Cond.eq (stT 8) (stT 10)) ∈ flatC (Jvm.Cond.and given_1 narrow_1) := List.mem_of_getElem? (i := 207) (by decide +kernel)
theorem st_ne_8_11 : Cond.not (Cond.eq (stT 8) (stT 11)) ∈ flatC (Jvm.Cond.and given_1 narrow_1) := List.mem_of_getElem? (i := 226) (by decide +kernel)
theorem st_ne_8_12 : Cond.not (Cond.eq (stT 8) (stT 12)) ∈ flatC (Jvm.Cond.and given_1 narrow_1) := List.mem_of_getElem? (i := 246) (by decide +kernel)
theorem st_ne_8_13 : Cond.not (Cond.eq (stT 8) (stT 13)) ∈ flatC (Jvm.Cond.and given_1 narrow_1) := List.mem_of_getElem? (i := 266) (by decide +kernel)
theorem st_ne_8_14 : Cond.not (Cond.eq (stT 8) (stT 14)) ∈ flatC (Jvm.Cond.and given_1 narrow_1) := List.mem_of_getElem? (i := 289) (by decide +kernel)
theorem st_ne_8_15 : Cond.not (Cond.eq (stT 8) (stT 15)) ∈ flatC (Jvm.Cond.and given_1 narrow_1) := List.mem_of_getElem? (i := 307) (by decide +kernel)
theorem st_ne_9_10 : Cond.not (Cond.eq (stT 9) (stT 10)) ∈ flatC (Jvm.Cond.and given_1 narrow_1) := List.mem_of_getElem? (i := 208) (by decide +kernel)
theorem st_ne_9_11 : Cond.not (Cond.eq (stT 9) (stT 11)) ∈ flatC (Jvm.Cond.and given_1 narrow_1) := List.mem_of_getElem? (i := 227) (by decide +kernel)
theorem st_ne_9_12 : Cond.not (Cond.eq (stT 9) (stT 12)) ∈ flatC (Jvm.Cond.and given_1 narrow_1) := List.mem_of_getElem? (i := 247) (by decide +kernel)
theorem st_ne_9_13 : Cond.not (Cond.eq (stT 9) (stT 13)) ∈ flatC (Jvm.Cond.and given_1 narrow_1) := List.mem_of_getElem? (i := 267) (by decide +kernel)
theorem st_ne_9_14 : Cond.not (Cond.eq (stT 9) (stT 14)) ∈ flatC (Jvm.Cond.and given_1 narrow_1) := List.mem_of_getElem? (i := 290) (by decide +kernel)
theorem st_ne_9_15 : Cond.not (Cond.eq (stT 9) (stT 15)) ∈ flatC (Jvm.Cond.and given_1 narrow_1) := List.mem_of_getElem? (i := 308) (by decide +kernel)
theorem st_ne_10_11 : Cond.not (Cond.eq (stT 10) (stT 11)) ∈ flatC (Jvm.Cond.and given_1 narrow_1) := List.mem_of_getElem? (i := 228) (by decide +kernel)
theorem st_ne_10_12 : Cond.not (Cond.eq (stT 10) (stT 12)) ∈ flatC (Jvm.Cond.and given_1 narrow_1) := List.mem_of_getElem? (i := 248) (by decide +kernel)
theorem st_ne_10_13 : Cond.not (Cond.eq (stT 10) (stT 13)) ∈ flatC (Jvm.Cond.and given_1 narrow_1) := List.mem_of_getElem? (i := 268) (by decide +kernel)
theorem st_ne_10_14 : Cond.not (Cond.eq (stT 10) (stT 14)) ∈ flatC (Jvm.Cond.and given_1 narrow_1) := List.mem_of_getElem? (i := 291) (by decide +kernel)
theorem st_ne_10_15 : Cond.not (Cond.eq (stT 10) (stT 15)) ∈ flatC (Jvm.Cond.and given_1 narrow_1) := List.mem_of_getElem? (i := 309) (by decide +kernel)
theorem st_ne_11_12 : Cond.not (Cond.eq (stT 11) (stT 12)) ∈ flatC (Jvm.Cond.and given_1 narrow_1) := List.mem_of_getElem? (i := 249) (by decide +kernel)
theorem st_ne_11_13 : Cond.not (Cond.eq (stT 11) (stT 13)) ∈ flatC (Jvm.Cond.and given_1 narrow_1) := List.mem_of_getElem? (i := 269) (by decide +kernel)
theorem st_ne_11_14 : Cond.not (Cond.eq (stT 11) (stT 14)) ∈ flatC (Jvm.Cond.and given_1 narrow_1) := List.mem_of_getElem? (i := 292) (by decide +kernel)
theorem st_ne_11_15 : Cond.not (Cond.eq (stT 11) (stT 15)) ∈ flatC (Jvm.Cond.and given_1 narrow_1) := List.mem_of_getElem? (i := 310) (by decide +kernel)
theorem st_ne_12_13 : Cond.not (Cond.eq (stT 12) (stT 13)) ∈ flatC (Jvm.Cond.and given_1 narrow_1) := List.mem_of_getElem? (i := 270) (by decide +kernel)
theorem st_ne_12_14 : Cond.not (Cond.eq (stT 12) (stT 14)) ∈ flatC (Jvm.Cond.and given_1 narrow_1) := List.mem_of_getElem? (i := 293) (by decide +kernel)
theorem st_ne_12_15 : Cond.not (Cond.eq (stT 12) (stT 15)) ∈ flatC (Jvm.Cond.and given_1 narrow_1) := List.mem_of_getElem? (i := 311) (by decide +kernel)
theorem st_ne_13_14 : Cond.not (Cond.eq (stT 13) (stT 14)) ∈ flatC (Jvm.Cond.and given_1 narrow_1) := List.mem_of_getElem? (i := 294) (by decide +kernel)
theorem st_ne_13_15 : Cond.not (Cond.eq (stT 13) (stT 15)) ∈ flatC (Jvm.Cond.and given_1 narrow_1) := List.mem_of_getElem? (i := 312) (by decide +kernel)
theorem st_ne_14_15 : Cond.not (Cond.eq (stT 14) (stT 15)) ∈ flatC (Jvm.Cond.and given_1 narrow_1) := List.mem_of_getElem? (i := 313) (by decide +kernel)
theorem st_ex : ∀ i, i < 16 → Cond.exactly (stT i) "java/lang/String" ∈ flatC (Jvm.Cond.and given_1 narrow_1) := fun i hi => match i, hi with
  | 0, _ => st_ex_0
  | 1, _ => st_ex_1
  | 2, _ => st_ex_2
  | 3, _ => st_ex_3
  | 4, _ => st_ex_4
  | 5, _ => st_ex_5
  | 6, _ => st_ex_6
  | 7, _ => st_ex_7
  | 8, _ => st_ex_8
  | 9, _ => st_ex_9
  | 10, _ => st_ex_10
  | 11, _ => st_ex_11
  | 12, _ => st_ex_12
  | 13, _ => st_ex_13
  | 14, _ => st_ex_14
  | 15, _ => st_ex_15
  | k + 16, h => absurd h (by omega)
theorem st_co : ∀ i, i < 16 → Cond.eq (.field (stT i) "java/lang/String" "coder" "B") (.int 0) ∈ flatC (Jvm.Cond.and given_1 narrow_1) := fun i hi => match i, hi with
  | 0, _ => st_co_0
  | 1, _ => st_co_1
  | 2, _ => st_co_2
  | 3, _ => st_co_3
  | 4, _ => st_co_4
  | 5, _ => st_co_5
  | 6, _ => st_co_6
  | 7, _ => st_co_7
  | 8, _ => st_co_8
  | 9, _ => st_co_9
  | 10, _ => st_co_10
  | 11, _ => st_co_11
  | 12, _ => st_co_12
  | 13, _ => st_co_13
  | 14, _ => st_co_14
  | 15, _ => st_co_15
  | k + 16, h => absurd h (by omega)
theorem st_ar : ∀ i, i < 16 → Cond.arrayOf (.field (stT i) "java/lang/String" "value" "[B") .byte ∈ flatC (Jvm.Cond.and given_1 narrow_1) := fun i hi => match i, hi with
  | 0, _ => st_ar_0
  | 1, _ => st_ar_1
  | 2, _ => st_ar_2
  | 3, _ => st_ar_3
  | 4, _ => st_ar_4
  | 5, _ => st_ar_5
  | 6, _ => st_ar_6
  | 7, _ => st_ar_7
  | 8, _ => st_ar_8
  | 9, _ => st_ar_9
  | 10, _ => st_ar_10
  | 11, _ => st_ar_11
  | 12, _ => st_ar_12
  | 13, _ => st_ar_13
  | 14, _ => st_ar_14
  | 15, _ => st_ar_15
  | k + 16, h => absurd h (by omega)
theorem st_le : ∀ i, i < 16 → Cond.eq (.length (.field (stT i) "java/lang/String" "value" "[B")) (.int (Int32.ofNat (STl.getD i 0))) ∈ flatC (Jvm.Cond.and given_1 narrow_1) := fun i hi => match i, hi with
  | 0, _ => st_le_0
  | 1, _ => st_le_1
  | 2, _ => st_le_2
  | 3, _ => st_le_3
  | 4, _ => st_le_4
  | 5, _ => st_le_5
  | 6, _ => st_le_6
  | 7, _ => st_le_7
  | 8, _ => st_le_8
  | 9, _ => st_le_9
  | 10, _ => st_le_10
  | 11, _ => st_le_11
  | 12, _ => st_le_12
  | 13, _ => st_le_13
  | 14, _ => st_le_14
  | 15, _ => st_le_15
  | k + 16, h => absurd h (by omega)
theorem st_el_0 : ∀ j, j < STl.getD 0 0 → Cond.eq (.elem (.field (stT 0) "java/lang/String" "value" "[B") (.int (Int32.ofNat j))) (.int ((STb.getD 0 []).getD j 0)) ∈ flatC (Jvm.Cond.and given_1 narrow_1) := fun j hj => match j, hj with
  | 0, _ => st_el_0_0
  | 1, _ => st_el_0_1
  | 2, _ => st_el_0_2
  | 3, _ => st_el_0_3
  | 4, _ => st_el_0_4
  | 5, _ => st_el_0_5
  | 6, _ => st_el_0_6
  | j + 7, h => absurd (show j + 7 < 7 from h) (by omega)
theorem st_el_1 : ∀ j, j < STl.getD 1 0 → Cond.eq (.elem (.field (stT 1) "java/lang/String" "value" "[B") (.int (Int32.ofNat j))) (.int ((STb.getD 1 []).getD j 0)) ∈ flatC (Jvm.Cond.and given_1 narrow_1) := fun j hj => match j, hj with
  | 0, _ => st_el_1_0
  | 1, _ => st_el_1_1
  | 2, _ => st_el_1_2
  | 3, _ => st_el_1_3
  | 4, _ => st_el_1_4
  | j + 5, h => absurd (show j + 5 < 5 from h) (by omega)
theorem st_el_2 : ∀ j, j < STl.getD 2 0 → Cond.eq (.elem (.field (stT 2) "java/lang/String" "value" "[B") (.int (Int32.ofNat j))) (.int ((STb.getD 2 []).getD j 0)) ∈ flatC (Jvm.Cond.and given_1 narrow_1) := fun j hj => match j, hj with
  | 0, _ => st_el_2_0
  | 1, _ => st_el_2_1
  | j + 2, h => absurd (show j + 2 < 2 from h) (by omega)
theorem st_el_3 : ∀ j, j < STl.getD 3 0 → Cond.eq (.elem (.field (stT 3) "java/lang/String" "value" "[B") (.int (Int32.ofNat j))) (.int ((STb.getD 3 []).getD j 0)) ∈ flatC (Jvm.Cond.and given_1 narrow_1) := fun j hj => match j, hj with
  | 0, _ => st_el_3_0
  | 1, _ => st_el_3_1
  | 2, _ => st_el_3_2
  | 3, _ => st_el_3_3
  | j + 4, h => absurd (show j + 4 < 4 from h) (by omega)
theorem st_el_4 : ∀ j, j < STl.getD 4 0 → Cond.eq (.elem (.field (stT 4) "java/lang/String" "value" "[B") (.int (Int32.ofNat j))) (.int ((STb.getD 4 []).getD j 0)) ∈ flatC (Jvm.Cond.and given_1 narrow_1) := fun j hj => match j, hj with
  | 0, _ => st_el_4_0
  | 1, _ => st_el_4_1
  | 2, _ => st_el_4_2
  | 3, _ => st_el_4_3
  | j + 4, h => absurd (show j + 4 < 4 from h) (by omega)
theorem st_el_5 : ∀ j, j < STl.getD 5 0 → Cond.eq (.elem (.field (stT 5) "java/lang/String" "value" "[B") (.int (Int32.ofNat j))) (.int ((STb.getD 5 []).getD j 0)) ∈ flatC (Jvm.Cond.and given_1 narrow_1) := fun j hj => match j, hj with
  | 0, _ => st_el_5_0
  | 1, _ => st_el_5_1
  | 2, _ => st_el_5_2
  | j + 3, h => absurd (show j + 3 < 3 from h) (by omega)
theorem st_el_6 : ∀ j, j < STl.getD 6 0 → Cond.eq (.elem (.field (stT 6) "java/lang/String" "value" "[B") (.int (Int32.ofNat j))) (.int ((STb.getD 6 []).getD j 0)) ∈ flatC (Jvm.Cond.and given_1 narrow_1) := fun j hj => match j, hj with
  | 0, _ => st_el_6_0
  | 1, _ => st_el_6_1
  | j + 2, h => absurd (show j + 2 < 2 from h) (by omega)
theorem st_el_7 : ∀ j, j < STl.getD 7 0 → Cond.eq (.elem (.field (stT 7) "java/lang/String" "value" "[B") (.int (Int32.ofNat j))) (.int ((STb.getD 7 []).getD j 0)) ∈ flatC (Jvm.Cond.and given_1 narrow_1) := fun j hj => match j, hj with
  | 0, _ => st_el_7_0
  | 1, _ => st_el_7_1
  | 2, _ => st_el_7_2
  | j + 3, h => absurd (show j + 3 < 3 from h) (by omega)
theorem st_el_8 : ∀ j, j < STl.getD 8 0 → Cond.eq (.elem (.field (stT 8) "java/lang/String" "value" "[B") (.int (Int32.ofNat j))) (.int ((STb.getD 8 []).getD j 0)) ∈ flatC (Jvm.Cond.and given_1 narrow_1) := fun j hj => match j, hj with
  | 0, _ => st_el_8_0
  | 1, _ => st_el_8_1
  | 2, _ => st_el_8_2
  | j + 3, h => absurd (show j + 3 < 3 from h) (by omega)
theorem st_el_9 : ∀ j, j < STl.getD 9 0 → Cond.eq (.elem (.field (stT 9) "java/lang/String" "value" "[B") (.int (Int32.ofNat j))) (.int ((STb.getD 9 []).getD j 0)) ∈ flatC (Jvm.Cond.and given_1 narrow_1) := fun j hj => match j, hj with
  | 0, _ => st_el_9_0
  | 1, _ => st_el_9_1
  | 2, _ => st_el_9_2
  | 3, _ => st_el_9_3
  | j + 4, h => absurd (show j + 4 < 4 from h) (by omega)
theorem st_el_10 : ∀ j, j < STl.getD 10 0 → Cond.eq (.elem (.field (stT 10) "java/lang/String" "value" "[B") (.int (Int32.ofNat j))) (.int ((STb.getD 10 []).getD j 0)) ∈ flatC (Jvm.Cond.and given_1 narrow_1) := fun j hj => match j, hj with
  | 0, _ => st_el_10_0
  | 1, _ => st_el_10_1
  | 2, _ => st_el_10_2
  | 3, _ => st_el_10_3
  | j + 4, h => absurd (show j + 4 < 4 from h) (by omega)
theorem st_el_11 : ∀ j, j < STl.getD 11 0 → Cond.eq (.elem (.field (stT 11) "java/lang/String" "value" "[B") (.int (Int32.ofNat j))) (.int ((STb.getD 11 []).getD j 0)) ∈ flatC (Jvm.Cond.and given_1 narrow_1) := fun j hj => match j, hj with
  | 0, _ => st_el_11_0
  | 1, _ => st_el_11_1
  | 2, _ => st_el_11_2
  | 3, _ => st_el_11_3
  | 4, _ => st_el_11_4
  | j + 5, h => absurd (show j + 5 < 5 from h) (by omega)
theorem st_el_12 : ∀ j, j < STl.getD 12 0 → Cond.eq (.elem (.field (stT 12) "java/lang/String" "value" "[B") (.int (Int32.ofNat j))) (.int ((STb.getD 12 []).getD j 0)) ∈ flatC (Jvm.Cond.and given_1 narrow_1) := fun j hj => match j, hj with
  | 0, _ => st_el_12_0
  | 1, _ => st_el_12_1
  | 2, _ => st_el_12_2
  | 3, _ => st_el_12_3
  | 4, _ => st_el_12_4
  | j + 5, h => absurd (show j + 5 < 5 from h) (by omega)
theorem st_el_13 : ∀ j, j < STl.getD 13 0 → Cond.eq (.elem (.field (stT 13) "java/lang/String" "value" "[B") (.int (Int32.ofNat j))) (.int ((STb.getD 13 []).getD j 0)) ∈ flatC (Jvm.Cond.and given_1 narrow_1) := fun j hj => match j, hj with
  | 0, _ => st_el_13_0
  | 1, _ => st_el_13_1
  | 2, _ => st_el_13_2
  | 3, _ => st_el_13_3
  | j + 4, h => absurd (show j + 4 < 4 from h) (by omega)
theorem st_el_14 : ∀ j, j < STl.getD 14 0 → Cond.eq (.elem (.field (stT 14) "java/lang/String" "value" "[B") (.int (Int32.ofNat j))) (.int ((STb.getD 14 []).getD j 0)) ∈ flatC (Jvm.Cond.and given_1 narrow_1) := fun j hj => match j, hj with
  | 0, _ => st_el_14_0
  | 1, _ => st_el_14_1
  | 2, _ => st_el_14_2
  | 3, _ => st_el_14_3
  | 4, _ => st_el_14_4
  | 5, _ => st_el_14_5
  | j + 6, h => absurd (show j + 6 < 6 from h) (by omega)
theorem st_el_15 : ∀ j, j < STl.getD 15 0 → Cond.eq (.elem (.field (stT 15) "java/lang/String" "value" "[B") (.int (Int32.ofNat j))) (.int ((STb.getD 15 []).getD j 0)) ∈ flatC (Jvm.Cond.and given_1 narrow_1) := fun j hj => match j, hj with
  | j + 0, h => absurd (show j + 0 < 0 from h) (by omega)
theorem st_el : ∀ i, i < 16 → ∀ j, j < STl.getD i 0 → Cond.eq (.elem (.field (stT i) "java/lang/String" "value" "[B") (.int (Int32.ofNat j))) (.int ((STb.getD i []).getD j 0)) ∈ flatC (Jvm.Cond.and given_1 narrow_1) := fun i hi => match i, hi with
  | 0, _ => st_el_0
  | 1, _ => st_el_1
  | 2, _ => st_el_2
  | 3, _ => st_el_3
  | 4, _ => st_el_4
  | 5, _ => st_el_5
  | 6, _ => st_el_6
  | 7, _ => st_el_7
  | 8, _ => st_el_8
  | 9, _ => st_el_9
  | 10, _ => st_el_10
  | 11, _ => st_el_11
  | 12, _ => st_el_12
  | 13, _ => st_el_13
  | 14, _ => st_el_14
  | 15, _ => st_el_15
  | k + 16, h => absurd h (by omega)
theorem st_ne_0 : ∀ j, j < 16 → 0 ≠ j → (Cond.not (Cond.eq (stT 0) (stT j)) ∈ flatC (Jvm.Cond.and given_1 narrow_1) ∨ Cond.not (Cond.eq (stT j) (stT 0)) ∈ flatC (Jvm.Cond.and given_1 narrow_1)) := fun j hj hne => match j, hj, hne with
  | 0, _, h => absurd rfl h
  | 1, _, _ => Or.inl st_ne_0_1
  | 2, _, _ => Or.inl st_ne_0_2
  | 3, _, _ => Or.inl st_ne_0_3
  | 4, _, _ => Or.inl st_ne_0_4
  | 5, _, _ => Or.inl st_ne_0_5
  | 6, _, _ => Or.inl st_ne_0_6
  | 7, _, _ => Or.inl st_ne_0_7
  | 8, _, _ => Or.inl st_ne_0_8
  | 9, _, _ => Or.inl st_ne_0_9
  | 10, _, _ => Or.inl st_ne_0_10
  | 11, _, _ => Or.inl st_ne_0_11
  | 12, _, _ => Or.inl st_ne_0_12
  | 13, _, _ => Or.inl st_ne_0_13
  | 14, _, _ => Or.inl st_ne_0_14
  | 15, _, _ => Or.inl st_ne_0_15
  | k + 16, h, _ => absurd h (by omega)
theorem st_ne_1 : ∀ j, j < 16 → 1 ≠ j → (Cond.not (Cond.eq (stT 1) (stT j)) ∈ flatC (Jvm.Cond.and given_1 narrow_1) ∨ Cond.not (Cond.eq (stT j) (stT 1)) ∈ flatC (Jvm.Cond.and given_1 narrow_1)) := fun j hj hne => match j, hj, hne with
  | 0, _, _ => Or.inr st_ne_0_1
  | 1, _, h => absurd rfl h
  | 2, _, _ => Or.inl st_ne_1_2
  | 3, _, _ => Or.inl st_ne_1_3
  | 4, _, _ => Or.inl st_ne_1_4
  | 5, _, _ => Or.inl st_ne_1_5
  | 6, _, _ => Or.inl st_ne_1_6
  | 7, _, _ => Or.inl st_ne_1_7
  | 8, _, _ => Or.inl st_ne_1_8
  | 9, _, _ => Or.inl st_ne_1_9
  | 10, _, _ => Or.inl st_ne_1_10
  | 11, _, _ => Or.inl st_ne_1_11
  | 12, _, _ => Or.inl st_ne_1_12
  | 13, _, _ => Or.inl st_ne_1_13
  | 14, _, _ => Or.inl st_ne_1_14
  | 15, _, _ => Or.inl st_ne_1_15
  | k + 16, h, _ => absurd h (by omega)
theorem st_ne_2 : ∀ j, j < 16 → 2 ≠ j → (Cond.not (Cond.eq (stT 2) (stT j)) ∈ flatC (Jvm.Cond.and given_1 narrow_1) ∨ Cond.not (Cond.eq (stT j) (stT 2)) ∈ flatC (Jvm.Cond.and given_1 narrow_1)) := fun j hj hne => match j, hj, hne with
  | 0, _, _ => Or.inr st_ne_0_2
  | 1, _, _ => Or.inr st_ne_1_2
  | 2, _, h => absurd rfl h
  | 3, _, _ => Or.inl st_ne_2_3
  | 4, _, _ => Or.inl st_ne_2_4
  | 5, _, _ => Or.inl st_ne_2_5
  | 6, _, _ => Or.inl st_ne_2_6
  | 7, _, _ => Or.inl st_ne_2_7
  | 8, _, _ => Or.inl st_ne_2_8
  | 9, _, _ => Or.inl st_ne_2_9
  | 10, _, _ => Or.inl st_ne_2_10
  | 11, _, _ => Or.inl st_ne_2_11
  | 12, _, _ => Or.inl st_ne_2_12
  | 13, _, _ => Or.inl st_ne_2_13
  | 14, _, _ => Or.inl st_ne_2_14
  | 15, _, _ => Or.inl st_ne_2_15
  | k + 16, h, _ => absurd h (by omega)
theorem st_ne_3 : ∀ j, j < 16 → 3 ≠ j → (Cond.not (Cond.eq (stT 3) (stT j)) ∈ flatC (Jvm.Cond.and given_1 narrow_1) ∨ Cond.not (Cond.eq (stT j) (stT 3)) ∈ flatC (Jvm.Cond.and given_1 narrow_1)) := fun j hj hne => match j, hj, hne with
  | 0, _, _ => Or.inr st_ne_0_3
  | 1, _, _ => Or.inr st_ne_1_3
  | 2, _, _ => Or.inr st_ne_2_3
  | 3, _, h => absurd rfl h
  | 4, _, _ => Or.inl st_ne_3_4
  | 5, _, _ => Or.inl st_ne_3_5
  | 6, _, _ => Or.inl st_ne_3_6
  | 7, _, _ => Or.inl st_ne_3_7
  | 8, _, _ => Or.inl st_ne_3_8
  | 9, _, _ => Or.inl st_ne_3_9
  | 10, _, _ => Or.inl st_ne_3_10
  | 11, _, _ => Or.inl st_ne_3_11
  | 12, _, _ => Or.inl st_ne_3_12
  | 13, _, _ => Or.inl st_ne_3_13
  | 14, _, _ => Or.inl st_ne_3_14
  | 15, _, _ => Or.inl st_ne_3_15
  | k + 16, h, _ => absurd h (by omega)
theorem st_ne_4 : ∀ j, j < 16 → 4 ≠ j → (Cond.not (Cond.eq (stT 4) (stT j)) ∈ flatC (Jvm.Cond.and given_1 narrow_1) ∨ Cond.not (Cond.eq (stT j) (stT 4)) ∈ flatC (Jvm.Cond.and given_1 narrow_1)) := fun j hj hne => match j, hj, hne with
  | 0, _, _ => Or.inr st_ne_0_4
  | 1, _, _ => Or.inr st_ne_1_4
  | 2, _, _ => Or.inr st_ne_2_4
  | 3, _, _ => Or.inr st_ne_3_4
  | 4, _, h => absurd rfl h
  | 5, _, _ => Or.inl st_ne_4_5
  | 6, _, _ => Or.inl st_ne_4_6
  | 7, _, _ => Or.inl st_ne_4_7
  | 8, _, _ => Or.inl st_ne_4_8
  | 9, _, _ => Or.inl st_ne_4_9
  | 10, _, _ => Or.inl st_ne_4_10
  | 11, _, _ => Or.inl st_ne_4_11
  | 12, _, _ => Or.inl st_ne_4_12
  | 13, _, _ => Or.inl st_ne_4_13
  | 14, _, _ => Or.inl st_ne_4_14
  | 15, _, _ => Or.inl st_ne_4_15
  | k + 16, h, _ => absurd h (by omega)
theorem st_ne_5 : ∀ j, j < 16 → 5 ≠ j → (Cond.not (Cond.eq (stT 5) (stT j)) ∈ flatC (Jvm.Cond.and given_1 narrow_1) ∨ Cond.not (Cond.eq (stT j) (stT 5)) ∈ flatC (Jvm.Cond.and given_1 narrow_1)) := fun j hj hne => match j, hj, hne with
  | 0, _, _ => Or.inr st_ne_0_5
  | 1, _, _ => Or.inr st_ne_1_5
  | 2, _, _ => Or.inr st_ne_2_5
  | 3, _, _ => Or.inr st_ne_3_5
  | 4, _, _ => Or.inr st_ne_4_5
  | 5, _, h => absurd rfl h
  | 6, _, _ => Or.inl st_ne_5_6
  | 7, _, _ => Or.inl st_ne_5_7
  | 8, _, _ => Or.inl st_ne_5_8
  | 9, _, _ => Or.inl st_ne_5_9
  | 10, _, _ => Or.inl st_ne_5_10
  | 11, _, _ => Or.inl st_ne_5_11
  | 12, _, _ => Or.inl st_ne_5_12
  | 13, _, _ => Or.inl st_ne_5_13
  | 14, _, _ => Or.inl st_ne_5_14
  | 15, _, _ => Or.inl st_ne_5_15
  | k + 16, h, _ => absurd h (by omega)
theorem st_ne_6 : ∀ j, j < 16 → 6 ≠ j → (Cond.not (Cond.eq (stT 6) (stT j)) ∈ flatC (Jvm.Cond.and given_1 narrow_1) ∨ Cond.not (Cond.eq (stT j) (stT 6)) ∈ flatC (Jvm.Cond.and given_1 narrow_1)) := fun j hj hne => match j, hj, hne with
  | 0, _, _ => Or.inr st_ne_0_6
  | 1, _, _ => Or.inr st_ne_1_6
  | 2, _, _ => Or.inr st_ne_2_6
  | 3, _, _ => Or.inr st_ne_3_6
  | 4, _, _ => Or.inr st_ne_4_6
  | 5, _, _ => Or.inr st_ne_5_6
  | 6, _, h => absurd rfl h
  | 7, _, _ => Or.inl st_ne_6_7
  | 8, _, _ => Or.inl st_ne_6_8
  | 9, _, _ => Or.inl st_ne_6_9
  | 10, _, _ => Or.inl st_ne_6_10
  | 11, _, _ => Or.inl st_ne_6_11
  | 12, _, _ => Or.inl st_ne_6_12
  | 13, _, _ => Or.inl st_ne_6_13
  | 14, _, _ => Or.inl st_ne_6_14
  | 15, _, _ => Or.inl st_ne_6_15
  | k + 16, h, _ => absurd h (by omega)
theorem st_ne_7 : ∀ j, j < 16 → 7 ≠ j → (Cond.not (Cond.eq (stT 7) (stT j)) ∈ flatC (Jvm.Cond.and given_1 narrow_1) ∨ Cond.not (Cond.eq (stT j) (stT 7)) ∈ flatC (Jvm.Cond.and given_1 narrow_1)) := fun j hj hne => match j, hj, hne with
  | 0, _, _ => Or.inr st_ne_0_7
  | 1, _, _ => Or.inr st_ne_1_7
  | 2, _, _ => Or.inr st_ne_2_7
  | 3, _, _ => Or.inr st_ne_3_7
  | 4, _, _ => Or.inr st_ne_4_7
  | 5, _, _ => Or.inr st_ne_5_7
  | 6, _, _ => Or.inr st_ne_6_7
  | 7, _, h => absurd rfl h
  | 8, _, _ => Or.inl st_ne_7_8
  | 9, _, _ => Or.inl st_ne_7_9
  | 10, _, _ => Or.inl st_ne_7_10
  | 11, _, _ => Or.inl st_ne_7_11
  | 12, _, _ => Or.inl st_ne_7_12
  | 13, _, _ => Or.inl st_ne_7_13
  | 14, _, _ => Or.inl st_ne_7_14
  | 15, _, _ => Or.inl st_ne_7_15
  | k + 16, h, _ => absurd h (by omega)
theorem st_ne_8 : ∀ j, j < 16 → 8 ≠ j → (Cond.not (Cond.eq (stT 8) (stT j)) ∈ flatC (Jvm.Cond.and given_1 narrow_1) ∨ Cond.not (Cond.eq (stT j) (stT 8)) ∈ flatC (Jvm.Cond.and given_1 narrow_1)) := fun j hj hne => match j, hj, hne with
  | 0, _, _ => Or.inr st_ne_0_8
  | 1, _, _ => Or.inr st_ne_1_8
  | 2, _, _ => Or.inr st_ne_2_8
  | 3, _, _ => Or.inr st_ne_3_8
  | 4, _, _ => Or.inr st_ne_4_8
  | 5, _, _ => Or.inr st_ne_5_8
  | 6, _, _ => Or.inr st_ne_6_8
  | 7, _, _ => Or.inr st_ne_7_8
  | 8, _, h => absurd rfl h
  | 9, _, _ => Or.inl st_ne_8_9
  | 10, _, _ => Or.inl st_ne_8_10
  | 11, _, _ => Or.inl st_ne_8_11
  | 12, _, _ => Or.inl st_ne_8_12
  | 13, _, _ => Or.inl st_ne_8_13
  | 14, _, _ => Or.inl st_ne_8_14
  | 15, _, _ => Or.inl st_ne_8_15
  | k + 16, h, _ => absurd h (by omega)
theorem st_ne_9 : ∀ j, j < 16 → 9 ≠ j → (Cond.not (Cond.eq (stT 9) (stT j)) ∈ flatC (Jvm.Cond.and given_1 narrow_1) ∨ Cond.not (Cond.eq (stT j) (stT 9)) ∈ flatC (Jvm.Cond.and given_1 narrow_1)) := fun j hj hne => match j, hj, hne with
  | 0, _, _ => Or.inr st_ne_0_9
  | 1, _, _ => Or.inr st_ne_1_9
  | 2, _, _ => Or.inr st_ne_2_9
  | 3, _, _ => Or.inr st_ne_3_9
  | 4, _, _ => Or.inr st_ne_4_9
  | 5, _, _ => Or.inr st_ne_5_9
  | 6, _, _ => Or.inr st_ne_6_9
  | 7, _, _ => Or.inr st_ne_7_9
  | 8, _, _ => Or.inr st_ne_8_9
  | 9, _, h => absurd rfl h
  | 10, _, _ => Or.inl st_ne_9_10
  | 11, _, _ => Or.inl st_ne_9_11
  | 12, _, _ => Or.inl st_ne_9_12
  | 13, _, _ => Or.inl st_ne_9_13
  | 14, _, _ => Or.inl st_ne_9_14
  | 15, _, _ => Or.inl st_ne_9_15
  | k + 16, h, _ => absurd h (by omega)
theorem st_ne_10 : ∀ j, j < 16 → 10 ≠ j → (Cond.not (Cond.eq (stT 10) (stT j)) ∈ flatC (Jvm.Cond.and given_1 narrow_1) ∨ Cond.not (Cond.eq (stT j) (stT 10)) ∈ flatC (Jvm.Cond.and given_1 narrow_1)) := fun j hj hne => match j, hj, hne with
  | 0, _, _ => Or.inr st_ne_0_10
  | 1, _, _ => Or.inr st_ne_1_10
  | 2, _, _ => Or.inr st_ne_2_10
  | 3, _, _ => Or.inr st_ne_3_10
  | 4, _, _ => Or.inr st_ne_4_10
  | 5, _, _ => Or.inr st_ne_5_10
  | 6, _, _ => Or.inr st_ne_6_10
  | 7, _, _ => Or.inr st_ne_7_10
  | 8, _, _ => Or.inr st_ne_8_10
  | 9, _, _ => Or.inr st_ne_9_10
  | 10, _, h => absurd rfl h
  | 11, _, _ => Or.inl st_ne_10_11
  | 12, _, _ => Or.inl st_ne_10_12
  | 13, _, _ => Or.inl st_ne_10_13
  | 14, _, _ => Or.inl st_ne_10_14
  | 15, _, _ => Or.inl st_ne_10_15
  | k + 16, h, _ => absurd h (by omega)
theorem st_ne_11 : ∀ j, j < 16 → 11 ≠ j → (Cond.not (Cond.eq (stT 11) (stT j)) ∈ flatC (Jvm.Cond.and given_1 narrow_1) ∨ Cond.not (Cond.eq (stT j) (stT 11)) ∈ flatC (Jvm.Cond.and given_1 narrow_1)) := fun j hj hne => match j, hj, hne with
  | 0, _, _ => Or.inr st_ne_0_11
  | 1, _, _ => Or.inr st_ne_1_11
  | 2, _, _ => Or.inr st_ne_2_11
  | 3, _, _ => Or.inr st_ne_3_11
  | 4, _, _ => Or.inr st_ne_4_11
  | 5, _, _ => Or.inr st_ne_5_11
  | 6, _, _ => Or.inr st_ne_6_11
  | 7, _, _ => Or.inr st_ne_7_11
  | 8, _, _ => Or.inr st_ne_8_11
  | 9, _, _ => Or.inr st_ne_9_11
  | 10, _, _ => Or.inr st_ne_10_11
  | 11, _, h => absurd rfl h
  | 12, _, _ => Or.inl st_ne_11_12
  | 13, _, _ => Or.inl st_ne_11_13
  | 14, _, _ => Or.inl st_ne_11_14
  | 15, _, _ => Or.inl st_ne_11_15
  | k + 16, h, _ => absurd h (by omega)
theorem st_ne_12 : ∀ j, j < 16 → 12 ≠ j → (Cond.not (Cond.eq (stT 12) (stT j)) ∈ flatC (Jvm.Cond.and given_1 narrow_1) ∨ Cond.not (Cond.eq (stT j) (stT 12)) ∈ flatC (Jvm.Cond.and given_1 narrow_1)) := fun j hj hne => match j, hj, hne with
  | 0, _, _ => Or.inr st_ne_0_12
  | 1, _, _ => Or.inr st_ne_1_12
  | 2, _, _ => Or.inr st_ne_2_12
  | 3, _, _ => Or.inr st_ne_3_12
  | 4, _, _ => Or.inr st_ne_4_12
  | 5, _, _ => Or.inr st_ne_5_12
  | 6, _, _ => Or.inr st_ne_6_12
  | 7, _, _ => Or.inr st_ne_7_12
  | 8, _, _ => Or.inr st_ne_8_12
  | 9, _, _ => Or.inr st_ne_9_12
  | 10, _, _ => Or.inr st_ne_10_12
  | 11, _, _ => Or.inr st_ne_11_12
  | 12, _, h => absurd rfl h
  | 13, _, _ => Or.inl st_ne_12_13
  | 14, _, _ => Or.inl st_ne_12_14
  | 15, _, _ => Or.inl st_ne_12_15
  | k + 16, h, _ => absurd h (by omega)
theorem st_ne_13 : ∀ j, j < 16 → 13 ≠ j → (Cond.not (Cond.eq (stT 13) (stT j)) ∈ flatC (Jvm.Cond.and given_1 narrow_1) ∨ Cond.not (Cond.eq (stT j) (stT 13)) ∈ flatC (Jvm.Cond.and given_1 narrow_1)) := fun j hj hne => match j, hj, hne with
  | 0, _, _ => Or.inr st_ne_0_13
  | 1, _, _ => Or.inr st_ne_1_13
  | 2, _, _ => Or.inr st_ne_2_13
  | 3, _, _ => Or.inr st_ne_3_13
  | 4, _, _ => Or.inr st_ne_4_13
  | 5, _, _ => Or.inr st_ne_5_13
  | 6, _, _ => Or.inr st_ne_6_13
  | 7, _, _ => Or.inr st_ne_7_13
  | 8, _, _ => Or.inr st_ne_8_13
  | 9, _, _ => Or.inr st_ne_9_13
  | 10, _, _ => Or.inr st_ne_10_13
  | 11, _, _ => Or.inr st_ne_11_13
  | 12, _, _ => Or.inr st_ne_12_13
  | 13, _, h => absurd rfl h
  | 14, _, _ => Or.inl st_ne_13_14
  | 15, _, _ => Or.inl st_ne_13_15
  | k + 16, h, _ => absurd h (by omega)
theorem st_ne_14 : ∀ j, j < 16 → 14 ≠ j → (Cond.not (Cond.eq (stT 14) (stT j)) ∈ flatC (Jvm.Cond.and given_1 narrow_1) ∨ Cond.not (Cond.eq (stT j) (stT 14)) ∈ flatC (Jvm.Cond.and given_1 narrow_1)) := fun j hj hne => match j, hj, hne with
  | 0, _, _ => Or.inr st_ne_0_14
  | 1, _, _ => Or.inr st_ne_1_14
  | 2, _, _ => Or.inr st_ne_2_14
  | 3, _, _ => Or.inr st_ne_3_14
  | 4, _, _ => Or.inr st_ne_4_14
  | 5, _, _ => Or.inr st_ne_5_14
  | 6, _, _ => Or.inr st_ne_6_14
  | 7, _, _ => Or.inr st_ne_7_14
  | 8, _, _ => Or.inr st_ne_8_14
  | 9, _, _ => Or.inr st_ne_9_14
  | 10, _, _ => Or.inr st_ne_10_14
  | 11, _, _ => Or.inr st_ne_11_14
  | 12, _, _ => Or.inr st_ne_12_14
  | 13, _, _ => Or.inr st_ne_13_14
  | 14, _, h => absurd rfl h
  | 15, _, _ => Or.inl st_ne_14_15
  | k + 16, h, _ => absurd h (by omega)
theorem st_ne_15 : ∀ j, j < 16 → 15 ≠ j → (Cond.not (Cond.eq (stT 15) (stT j)) ∈ flatC (Jvm.Cond.and given_1 narrow_1) ∨ Cond.not (Cond.eq (stT j) (stT 15)) ∈ flatC (Jvm.Cond.and given_1 narrow_1)) := fun j hj hne => match j, hj, hne with
  | 0, _, _ => Or.inr st_ne_0_15
  | 1, _, _ => Or.inr st_ne_1_15
  | 2, _, _ => Or.inr st_ne_2_15
  | 3, _, _ => Or.inr st_ne_3_15
  | 4, _, _ => Or.inr st_ne_4_15
  | 5, _, _ => Or.inr st_ne_5_15
  | 6, _, _ => Or.inr st_ne_6_15
  | 7, _, _ => Or.inr st_ne_7_15
  | 8, _, _ => Or.inr st_ne_8_15
  | 9, _, _ => Or.inr st_ne_9_15
  | 10, _, _ => Or.inr st_ne_10_15
  | 11, _, _ => Or.inr st_ne_11_15
  | 12, _, _ => Or.inr st_ne_12_15
  | 13, _, _ => Or.inr st_ne_13_15
  | 14, _, _ => Or.inr st_ne_14_15
  | 15, _, h => absurd rfl h
  | k + 16, h, _ => absurd h (by omega)
theorem st_ne : ∀ i, i < 16 → ∀ j, j < 16 → i ≠ j → (Cond.not (Cond.eq (stT i) (stT j)) ∈ flatC (Jvm.Cond.and given_1 narrow_1) ∨ Cond.not (Cond.eq (stT j) (stT i)) ∈ flatC (Jvm.Cond.and given_1 narrow_1)) := fun i hi => match i, hi with
  | 0, _ => st_ne_0
  | 1, _ => st_ne_1
  | 2, _ => st_ne_2
  | 3, _ => st_ne_3
  | 4, _ => st_ne_4
  | 5, _ => st_ne_5
  | 6, _ => st_ne_6
  | 7, _ => st_ne_7
  | 8, _ => st_ne_8
  | 9, _ => st_ne_9
  | 10, _ => st_ne_10
  | 11, _ => st_ne_11
  | 12, _ => st_ne_12
  | 13, _ => st_ne_13
  | 14, _ => st_ne_14
  | 15, _ => st_ne_15
  | k + 16, h => absurd h (by omega)
theorem st_nl : ∀ i, i < 16 → STl.getD i 0 < 2 ^ 31 := by decide +kernel
theorem st_z1 : Cond.eq (.static "java/lang/String" "COMPACT_STRINGS" "Z") (.int 1) ∈ flatC (Jvm.Cond.and given_1 narrow_1) := List.mem_of_getElem? (i := 4) (by decide +kernel)
theorem st_z2 : Cond.isRef (.static "jdk/internal/util/Preconditions" "SIOOBE_FORMATTER" "Ljava/util/function/BiFunction;") ∈ flatC (Jvm.Cond.and given_1 narrow_1) := List.mem_of_getElem? (i := 5) (by decide +kernel)
theorem st_r0 : Cond.stringRef RX8 68 "nothing" ∈ lw_tbl := List.mem_of_getElem? (i := 549) (by decide +kernel)
theorem st_r1 : Cond.stringRef RX8 70 "light" ∈ lw_tbl := List.mem_of_getElem? (i := 550) (by decide +kernel)
theorem st_r2 : Cond.stringRef RX8 72 "by" ∈ lw_tbl := List.mem_of_getElem? (i := 551) (by decide +kernel)
theorem st_r3 : Cond.stringRef RX8 74 "part" ∈ lw_tbl := List.mem_of_getElem? (i := 552) (by decide +kernel)
theorem st_r4 : Cond.stringRef RX8 76 "from" ∈ lw_tbl := List.mem_of_getElem? (i := 553) (by decide +kernel)
theorem st_r5 : Cond.stringRef RX8 78 "and" ∈ lw_tbl := List.mem_of_getElem? (i := 554) (by decide +kernel)
theorem st_r6 : Cond.stringRef RX8 80 "or" ∈ lw_tbl := List.mem_of_getElem? (i := 555) (by decide +kernel)
theorem st_r7 : Cond.stringRef RX8 82 "not" ∈ lw_tbl := List.mem_of_getElem? (i := 556) (by decide +kernel)
theorem st_r8 : Cond.stringRef RX8 84 "day" ∈ lw_tbl := List.mem_of_getElem? (i := 557) (by decide +kernel)
theorem st_r9 : Cond.stringRef RX8 86 "runs" ∈ lw_tbl := List.mem_of_getElem? (i := 558) (by decide +kernel)
theorem st_r10 : Cond.stringRef RX8 88 "soon" ∈ lw_tbl := List.mem_of_getElem? (i := 559) (by decide +kernel)
theorem st_r11 : Cond.stringRef RX8 90 "tried" ∈ lw_tbl := List.mem_of_getElem? (i := 560) (by decide +kernel)
theorem st_r12 : Cond.stringRef RX8 92 "spent" ∈ lw_tbl := List.mem_of_getElem? (i := 561) (by decide +kernel)
theorem st_r13 : Cond.stringRef RX8 94 "miss" ∈ lw_tbl := List.mem_of_getElem? (i := 562) (by decide +kernel)
theorem st_r14 : Cond.stringRef RX8 96 "signed" ∈ lw_tbl := List.mem_of_getElem? (i := 563) (by decide +kernel)
theorem st_r15 : Cond.stringRef RX8 98 "" ∈ lw_tbl := List.mem_of_getElem? (i := 564) (by decide +kernel)
theorem st_l1 : Cond.laysStatic "java/lang/String" "COMPACT_STRINGS" "Z" ∈ lw_tbl := List.mem_of_getElem? (i := 577) (by decide +kernel)
theorem st_l2 : Cond.laysStatic "jdk/internal/util/Preconditions" "SIOOBE_FORMATTER" "Ljava/util/function/BiFunction;" ∈ lw_tbl := List.mem_of_getElem? (i := 593) (by decide +kernel)
theorem st_i1 : Cond.initialized "java/lang/String" ∈ lw_tbl := List.mem_of_getElem? (i := 95) (by decide +kernel)
theorem st_i2 : Cond.initialized "jdk/internal/util/Preconditions" ∈ lw_tbl := List.mem_of_getElem? (i := 97) (by decide +kernel)
theorem st_n0 : Cond.methodLinkNest RX9 64 yX1_init RX10 ∈ lw_tbl := List.mem_of_getElem? (i := 123) (by decide +kernel)
theorem st_n1 : Cond.methodLinkNest RX10 33 yX8_init RX10 ∈ lw_tbl := List.mem_of_getElem? (i := 257) (by decide +kernel)
theorem st_n2 : Cond.methodLinkNest RX10 87 yX0_init RX10 ∈ lw_tbl := List.mem_of_getElem? (i := 322) (by decide +kernel)
theorem st_n3 : Cond.methodLinkNest RX10 92 yX4_init RX10 ∈ lw_tbl := List.mem_of_getElem? (i := 349) (by decide +kernel)
theorem st_n4 : Cond.methodLinkNest RX10 93 yX5_init RX10 ∈ lw_tbl := List.mem_of_getElem? (i := 367) (by decide +kernel)
theorem st_o0 : Cond.arrayOver (.object RX1) ∈ lw_tbl := List.mem_of_getElem? (i := 117) (by decide +kernel)
theorem st_o1 : Cond.arrayOver (.object RX6) ∈ lw_tbl := List.mem_of_getElem? (i := 119) (by decide +kernel)
theorem st_o2 : Cond.arrayOver (.object RX2) ∈ lw_tbl := List.mem_of_getElem? (i := 121) (by decide +kernel)
theorem st_o3 : Cond.arrayOver (.object RX4) ∈ lw_tbl := List.mem_of_getElem? (i := 317) (by decide +kernel)
theorem st_o4 : Cond.arrayOver (.object RX5) ∈ lw_tbl := List.mem_of_getElem? (i := 319) (by decide +kernel)
theorem st_c : Cond.castable "[I" "java/lang/Cloneable" ∈ lw_tbl := List.mem_of_getElem? (i := 671) (by decide +kernel)
theorem st_in0 : Cond.instantiable RX0 6 ∈ TBL := tb_in 321 (by decide +kernel) (by decide +kernel)
theorem st_in1 : Cond.instantiable RX1 9 ∈ TBL := tb_in 122 (by decide +kernel) (by decide +kernel)
theorem st_in2 : Cond.instantiable RX2 1 ∈ TBL := tb_in 189 (by decide +kernel) (by decide +kernel)
theorem st_in3 : Cond.instantiable RX3 3 ∈ TBL := tb_in 301 (by decide +kernel) (by decide +kernel)
theorem st_in4 : Cond.instantiable RX4 3 ∈ TBL := tb_in 348 (by decide +kernel) (by decide +kernel)
theorem st_in5 : Cond.instantiable RX5 4 ∈ TBL := tb_in 366 (by decide +kernel) (by decide +kernel)
theorem st_in6 : Cond.instantiable RX6 4 ∈ TBL := tb_in 168 (by decide +kernel) (by decide +kernel)
theorem st_in7 : Cond.instantiable RX7 5 ∈ TBL := tb_in 279 (by decide +kernel) (by decide +kernel)
theorem st_in8 : Cond.instantiable RX8 5 ∈ TBL := tb_in 256 (by decide +kernel) (by decide +kernel)
theorem st_in9 : Cond.instantiable RX9 14 ∈ TBL := tb_in 111 (by decide +kernel) (by decide +kernel)
theorem st_in10 : Cond.instantiable RX10 17 ∈ TBL := tb_in 103 (by decide +kernel) (by decide +kernel)
theorem st_in11 : Cond.instantiable RX11 54 ∈ TBL := tb_in 1100 (by decide +kernel) (by decide +kernel)
theorem tbl_lw {w : Cond} (h : w ∈ TBL) : w ∈ lw_tbl := (List.mem_filter.mp h).1
theorem arr_prim {s : State} {args : Array Value} {ty : FieldType} (h : (Cond.arrayClass ty).before args s = true) (hv : ∀ cA, s.vm.findClass ("[" ++ ty.toString) = some cA → va_RA s cA ty) : ∃ cA : ClassId, ArrOfT s cA ty ∧ va_RA s cA ty := by
  obtain ⟨c, k, comp, h1, h2, h3⟩ := Cond.arrayClass_spec h
  exact ⟨c, fun n z => ⟨(fun k h => by cases h), k, h2, comp, h3⟩, hv c h1⟩
theorem arr_obj {s : State} {C : String} (h : va_AO C s) : ∃ cA : ClassId, ArrOfT s cA (.object C) ∧ va_RA s cA (.object C) := by
  obtain ⟨comp, c, k, h1, h2, h3, h4, h5⟩ := Cond.arrayOver_spec h
  exact ⟨c, fun n z => ⟨(fun k h => by cases h), k, h3, comp, h4⟩, k, comp, h3, h4, h1, h5⟩
/-- the premises give the context -/
theorem start_ctx {s : State} {b : Nat} (hts : ∀ w ∈ lw_tbl, w.before #[Value.ref b] s = true) (hgv : (Jvm.Cond.and given_1 narrow_1).before #[Value.ref b] s = true) : ∃ (D : DX) (cA : Nat → ClassId), va_K D.1 vwCl (tyA cA) s ∧ EX D s.heap.size s := by
  have hA : ∀ a : Nat, a < s.heap.size → ¬ (zA s.heap.size) a := fun a h z => absurd z (Nat.not_le.mpr h)
  have hfl := flat_of_before _ hgv
  obtain ⟨adK, adV, hS, hE⟩ := vk_Sof (args := #[Value.ref b]) (s := s) (N := 16) (tm := stT) (len := STl) (byt := STb) (A := zA s.heap.size) st_nl (fun i hi => hfl _ (st_ex i hi)) (fun i hi => hfl _ (st_co i hi)) (fun i hi => hfl _ (st_ar i hi)) (fun i hi => hfl _ (st_le i hi)) (fun i hi j hj => hfl _ (st_el i hi j hj)) (fun i j hi hj hne => (st_ne i hi j hj hne).imp (hfl _) (hfl _)) hA
  have hao1 : va_AO RX1 s := va_AO.of (hts _ st_o0)
  have hao2 : va_AO RX6 s := va_AO.of (hts _ st_o1)
  have hao3 : va_AO RX2 s := va_AO.of (hts _ st_o2)
  have hao4 : va_AO RX4 s := va_AO.of (hts _ st_o3)
  have hao5 : va_AO RX5 s := va_AO.of (hts _ st_o4)
  obtain ⟨k20, a20⟩ := arr_prim (hts _ (tbl_lw wk_ai)) (fun _ h => h)
  obtain ⟨k21, a21⟩ := arr_prim (hts _ (tbl_lw wk_ac)) (fun _ h => h)
  obtain ⟨k22, a22⟩ := arr_prim (hts _ (tbl_lw wk_aj)) (fun _ h => h)
  obtain ⟨k23, a23⟩ := arr_obj hao1
  obtain ⟨k24, a24⟩ := arr_obj hao3
  obtain ⟨k25, a25⟩ := arr_obj hao4
  obtain ⟨k26, a26⟩ := arr_obj hao5
  obtain ⟨k27, a27⟩ := arr_obj hao2
  obtain ⟨c0, i0, n0⟩ := u_known (C := RX0) (T := TX0) (N := 6) (n := 6) hts (fun w h => tbl_lw (cf_0.2.2.2.1 w h)) (hts _ (tbl_lw st_in0))
  obtain ⟨c1, i1, n1⟩ := u_known (C := RX1) (T := TX1) (N := 9) (n := 9) hts (fun w h => tbl_lw (cf_1.2.2.2.1 w h)) (hts _ (tbl_lw st_in1))
  obtain ⟨c2, i2, n2⟩ := u_known (C := RX2) (T := TX2) (N := 1) (n := 1) hts (fun w h => tbl_lw (cf_2.2.2.2.1 w h)) (hts _ (tbl_lw st_in2))
  obtain ⟨c3, i3, n3⟩ := u_known (C := RX3) (T := TX3) (N := 3) (n := 3) hts (fun w h => tbl_lw (cf_3.2.2.2.1 w h)) (hts _ (tbl_lw st_in3))
  obtain ⟨c4, i4, n4⟩ := u_known (C := RX4) (T := TX4) (N := 3) (n := 3) hts (fun w h => tbl_lw (cf_4.2.2.2.1 w h)) (hts _ (tbl_lw st_in4))
  obtain ⟨c5, i5, n5⟩ := u_known (C := RX5) (T := TX5) (N := 4) (n := 4) hts (fun w h => tbl_lw (cf_5.2.2.2.1 w h)) (hts _ (tbl_lw st_in5))
  obtain ⟨c6, i6, n6⟩ := u_known (C := RX6) (T := TX6) (N := 4) (n := 4) hts (fun w h => tbl_lw (cf_6.2.2.2.1 w h)) (hts _ (tbl_lw st_in6))
  obtain ⟨c7, i7, n7⟩ := u_known (C := RX7) (T := TX7) (N := 5) (n := 5) hts (fun w h => tbl_lw (cf_7.2.2.2.1 w h)) (hts _ (tbl_lw st_in7))
  obtain ⟨c8, i8, n8⟩ := u_known (C := RX8) (T := TX8) (N := 5) (n := 5) hts (fun w h => tbl_lw (cf_8.2.2.2.1 w h)) (hts _ (tbl_lw st_in8))
  obtain ⟨c9, i9, n9⟩ := u_known (C := RX9) (T := TX9) (N := 14) (n := 14) hts (fun w h => tbl_lw (cf_9.2.2.2.1 w h)) (hts _ (tbl_lw st_in9))
  obtain ⟨c10, i10, n10⟩ := u_known (C := RX10) (T := TX10) (N := 17) (n := 17) hts (fun w h => tbl_lw (cf_10.2.2.2.1 w h)) (hts _ (tbl_lw st_in10))
  obtain ⟨c11, i11, n11⟩ := u_known (C := RX11) (T := TX11) (N := 54) (n := 54) hts (fun w h => tbl_lw (cf_11.2.2.2.1 w h)) (hts _ (tbl_lw st_in11))
  refine ⟨((fun k => if k = 0 then c0 else if k = 1 then c1 else if k = 2 then c2 else if k = 3 then c3 else if k = 4 then c4 else if k = 5 then c5 else if k = 6 then c6 else if k = 7 then c7 else if k = 8 then c8 else if k = 9 then c9 else if k = 10 then c10 else c11, fun k => if k = 0 then i0 else if k = 1 then i1 else if k = 2 then i2 else if k = 3 then i3 else if k = 4 then i4 else if k = 5 then i5 else if k = 6 then i6 else if k = 7 then i7 else if k = 8 then i8 else if k = 9 then i9 else if k = 10 then i10 else i11), adK, adV), fun k => if k = 20 then k20 else if k = 21 then k21 else if k = 22 then k22 else if k = 23 then k23 else if k = 24 then k24 else if k = 25 then k25 else if k = 26 then k26 else k27, ⟨?_, ?_⟩, hS, ?_, ?_, ?_, ?_⟩
  · intro k q hq
    match k, hq with
    | 0, hq => cases hq; exact n0
    | 1, hq => cases hq; exact n1
    | 2, hq => cases hq; exact n2
    | 3, hq => cases hq; exact n3
    | 4, hq => cases hq; exact n4
    | 5, hq => cases hq; exact n5
    | 6, hq => cases hq; exact n6
    | 7, hq => cases hq; exact n7
    | 8, hq => cases hq; exact n8
    | 9, hq => cases hq; exact n9
    | 10, hq => cases hq; exact n10
    | 11, hq => cases hq; exact n11
    | k + 12, hq => simp [vwCl] at hq
  · intro k q hq
    match k, hq with
    | 0, hq => cases hq; exact a20
    | 1, hq => cases hq; exact a21
    | 2, hq => cases hq; exact a22
    | 3, hq => cases hq; exact a23
    | 4, hq => cases hq; exact a24
    | 5, hq => cases hq; exact a25
    | 6, hq => cases hq; exact a26
    | 7, hq => cases hq; exact a27
    | k + 8, hq => simp [tyA] at hq
  · intro i hi
    refine vk_R.of (A := #[Value.ref b]) ?_ (hE i hi)
    match i, hi with
    | 0, _ => exact hts _ st_r0
    | 1, _ => exact hts _ st_r1
    | 2, _ => exact hts _ st_r2
    | 3, _ => exact hts _ st_r3
    | 4, _ => exact hts _ st_r4
    | 5, _ => exact hts _ st_r5
    | 6, _ => exact hts _ st_r6
    | 7, _ => exact hts _ st_r7
    | 8, _ => exact hts _ st_r8
    | 9, _ => exact hts _ st_r9
    | 10, _ => exact hts _ st_r10
    | 11, _ => exact hts _ st_r11
    | 12, _ => exact hts _ st_r12
    | 13, _ => exact hts _ st_r13
    | 14, _ => exact hts _ st_r14
    | 15, _ => exact hts _ st_r15
    | k + 16, h => exact absurd h (by omega)
  · exact va_Zof (hts _ st_l1) (hts _ st_i1) (va_eqt (hfl _ st_z1)) hA
  · exact va_Zqof (hts _ st_l2) (hts _ st_i2) (hfl _ st_z2) hA
  · exact ⟨va_Nw.of rfl (hts _ st_n0), va_Nw.of rfl (hts _ st_n1), va_Nw.of rfl (hts _ st_n2), va_Nw.of rfl (hts _ st_n3), va_Nw.of rfl (hts _ st_n4), hao1, hao2, hao3, hao4, hao5, va_Nw.of rfl (hts _ st_c)⟩
set_option maxHeartbeats 4000000 in
set_option maxRecDepth 100000 in
/-- THE LAW from its entry, over Level2 -/
theorem start_of (h2 : Level2) {p : Program} {e : Env} {s : State} {m : MethodId} {below : List Frame} {meth : Method} {c : Code} (l : Launch) {b L : Nat} {xs : Nat → Int32} (hL : L ≤ 384) (C0 : lw_At p s m meth c b L xs) : W p l e room_1 s m #[Value.ref b] below meth c s.heap [] 0 0 (lw_Z below #[Value.ref b] s) (entryFrame m ([Value.ref b] : List Value).toArray 4) := by
  obtain ⟨N, Inv, hstep, hinit⟩ := h2
  obtain ⟨hx, hb, hr, hml, hown, hts, hX, hbl, hlocks, hgv⟩ := id C0
  obtain ⟨D, cA, hK, hE⟩ := start_ctx hts hgv
  have hts2 : ∀ w ∈ TBL, w.before #[Value.ref b] s = true := fun w h => hts w (tbl_lw h)
  have C : CX p s m #[.ref b] meth c code 4 RL (some .boolean) D cA s.heap.size := ⟨hx, hb, hml, hown, hts2, hK, ⟨Nat.le_refl _, hE⟩, hlocks, hr⟩
  obtain ⟨S0, hS0⟩ : ∃ S : PS, ∀ a, S.K a = 0 := ⟨(fun _ => 0, fun _ => 0, fun _ _ => none, fun _ _ => none, fun _ _ => 0, fun _ _ => 0, fun _ _ => 0, fun _ _ => 0), fun _ => rfl⟩
  have hV : XV D cA s.heap.size s S0 s.heap [] := ⟨⟨[], fun a => ⟨fun h => absurd h List.not_mem_nil, fun h => absurd (hS0 a) h⟩, fun k q h => by simp [va_pl] at h, ⟨fun i j p q h => by simp [va_pl] at h, fun k q h => by simp [va_pl] at h⟩⟩, va_S.rf⟩
  have hl := lv_entry ([.ref b]) (n := 4) (Nat.le_of_ble_eq_true rfl)
  rw [lg_entry_eq]
  generalize (lg_sl ([.ref b]) ++ List.replicate (4 - (lg_sl ([.ref b])).length) Slot.unset).toArray = ls at hl ⊢
  have hl : lv_has ls 4 [(0, .ref b)] := hl
  refine x_new C hV wm_L_7 (Nat.le_of_ble_eq_true rfl) (Nat.le_of_ble_eq_true rfl) dL_law_0 (fun x H S1 hq1 eS1 hV => ?_)
  refine lv_dup hx hb dL_law_3 rfl ?_
  have hM := hinit S0 x S1 hS0 eS1
  refine x_cv hV (x_runI (As := []) (rest := [.ref x]) C hV mc_X10_init wl_L_9 (c_X10_init hM) ⟨Nat.le_of_ble_eq_true rfl, Nat.le_of_ble_eq_true rfl⟩ rfl hl.1 (Nat.le_of_ble_eq_true rfl) dL_law_4 ⟨Nat.le_of_ble_eq_true rfl, Nat.le_of_ble_eq_true rfl⟩) (fun S2 H locs hV hM => ?_)
  refine lv_astore_n (lv' := [(1, .ref x), (0, .ref b)]) hx hb dL_law_7 rfl hl (by decide) rfl (fun ls hl => ?_)
  refine x_new C hV wm_L_10 (Nat.le_of_ble_eq_true rfl) (Nat.le_of_ble_eq_true rfl) dL_law_8 (fun mm H S3 hq3 eS3 hV => ?_)
  refine lv_dup hx hb dL_law_11 rfl ?_
  have hM := hM mm S3 hq3 eS3
  refine x_cv hV (x_runI (As := []) (rest := [.ref mm]) C hV mc_X11_init wl_L_12 (c_X11_init hM) ⟨Nat.le_of_ble_eq_true rfl, Nat.le_of_ble_eq_true rfl⟩ rfl hl.1 (Nat.le_of_ble_eq_true rfl) dL_law_12 ⟨Nat.le_of_ble_eq_true rfl, Nat.le_of_ble_eq_true rfl⟩) (fun S4 H locs hV hM => ?_)
  refine lv_astore_n (lv' := [(2, .ref mm), (1, .ref x), (0, .ref b)]) hx hb dL_law_15 rfl hl (by decide) rfl (fun ls hl => ?_)
  refine lv_iconst (v := 0) hx hb dL_law_16 (by decide) ?_
  refine lv_istore_n (lv' := [(3, .int 0), (2, .ref mm), (1, .ref x), (0, .ref b)]) hx hb dL_law_17 rfl hl (by decide) rfl (fun ls hl => ?_)
  refine W.widen (k := 1000) (n := 10000) (Nat.le_of_ble_eq_true rfl) (Nat.le_of_ble_eq_true rfl) ?_
  exact law_loop (N := N) C hr rfl hX hbl hL (fun S hj => hstep x mm S hj) 65 0 1000 10000 S4 H locs ls (Nat.zero_le _) (by omega) (by decide) (by decide) hM hV (lv_sub hl [3, 2, 1, 0] rfl)
