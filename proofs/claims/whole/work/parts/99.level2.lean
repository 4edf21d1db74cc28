set_option maxHeartbeats 8000000 in
set_option maxRecDepth 100000 in
theorem level2 : Level2 := by
  refine ⟨5000, InvR, fun x mm S hI o a1 a2 a3 a4 a5 => ?_, fun S x S1 hS e => ?_⟩
  · have hN5 : 5000 ≤ 5000 := Nat.le_refl _
    unfold lawCase
    by_cases c0 : o = 0
    · rw [if_pos c0]; exact case_0 hI a1 a2 a3 a4 a5
    rw [if_neg c0]
    by_cases c1 : o = 1
    · rw [if_pos c1]; exact case_1 hI a1 a2
    rw [if_neg c1]
    by_cases c2 : o = 2
    · rw [if_pos c2]; exact case_2 hI a1 a2 a3
    rw [if_neg c2]
    by_cases c3 : o = 3
    · rw [if_pos c3]; exact case_3 hI a1
    rw [if_neg c3]
    by_cases c4 : o = 4
    · rw [if_pos c4]; exact case_4 hI a1
    rw [if_neg c4]
    by_cases c5 : o = 5
    · rw [if_pos c5]; exact case_5 hI a1
    rw [if_neg c5]
    by_cases c6 : o = 6
    · rw [if_pos c6]; exact case_6 hN5 hI a1
    rw [if_neg c6]
    by_cases c7 : o = 7
    · rw [if_pos c7]; exact case_7 hI a1 a2 a3
    rw [if_neg c7]
    by_cases c8 : o = 8
    · rw [if_pos c8]; exact case_8 hI a1 a2
    rw [if_neg c8]
    by_cases c9 : o = 9
    · rw [if_pos c9]; exact case_9 hI a1 a2
    rw [if_neg c9]
    by_cases c10 : o = 10
    · rw [if_pos c10]; exact case_10 hN5 hI a1 a2 a3
    rw [if_neg c10]
    by_cases c11 : o = 11
    · rw [if_pos c11]; exact case_11 hN5 hI a1
    rw [if_neg c11]
    by_cases c12 : o = 12
    · rw [if_pos c12]; exact case_12 hN5 hI a1 a2 a3
    rw [if_neg c12]
    by_cases c13 : o = 13
    · rw [if_pos c13]; exact case_13 hN5 hI a1 a2
    rw [if_neg c13]
    by_cases c14 : o = 14
    · rw [if_pos c14]; exact case_14 hN5 hI a1
    rw [if_neg c14]
    by_cases c15 : o = 15
    · rw [if_pos c15]; exact case_15 hN5 hI
    rw [if_neg c15]
    by_cases c16 : o = 16
    · rw [if_pos c16]; exact case_16 hN5 hI a1 a2
    rw [if_neg c16]
    by_cases c17 : o = 17
    · rw [if_pos c17]; exact case_17 hN5 hI a1 a2 a3
    rw [if_neg c17]
    by_cases c18 : o = 18
    · rw [if_pos c18]; exact case_18 hN5 hI a1 a2
    rw [if_neg c18]
    by_cases c19 : o = 19
    · rw [if_pos c19]; exact case_19 hN5 hI a1 a2
    rw [if_neg c19]
    by_cases c20 : o = 20
    · rw [if_pos c20]; exact case_20 hN5 hI a1 a2
    rw [if_neg c20]
    by_cases c21 : o = 21
    · rw [if_pos c21]; exact case_21 hN5 hI a1
    rw [if_neg c21]
    by_cases c22 : o = 22
    · rw [if_pos c22]; exact case_22 hN5 hI a1 a2
    rw [if_neg c22]
    by_cases c23 : o = 23
    · rw [if_pos c23]; exact case_23 hN5 hI a1 a2
    rw [if_neg c23]
    by_cases c24 : o = 24
    · rw [if_pos c24]; exact case_24 hN5 hI a1 a2
    rw [if_neg c24]
    by_cases c25 : o = 25
    · rw [if_pos c25]; exact case_25 hN5 hI a1 a2 a3
    rw [if_neg c25]
    by_cases c26 : o = 26
    · rw [if_pos c26]; exact case_26 hN5 hI
    rw [if_neg c26]
    by_cases c27 : o = 27
    · rw [if_pos c27]; exact case_27 hN5 hI a1
    rw [if_neg c27]
    by_cases c28 : o = 28
    · rw [if_pos c28]; exact case_28 hN5 hI a1 a2
    rw [if_neg c28]
    by_cases c29 : o = 29
    · rw [if_pos c29]; exact case_29 hN5 hI
    rw [if_neg c29]
    by_cases c30 : o = 30
    · rw [if_pos c30]; exact case_30 hN5 hI a1
    rw [if_neg c30]
    by_cases c31 : o = 31
    · rw [if_pos c31]; exact case_31 hI a1 a2
    rw [if_neg c31]
    by_cases c32 : o = 32
    · rw [if_pos c32]; exact case_32 hI a1 a2 a3
    rw [if_neg c32]
    by_cases c33 : o = 33
    · rw [if_pos c33]; exact case_33 hN5 hI a1
    rw [if_neg c33]
    by_cases c34 : o = 34
    · rw [if_pos c34]; exact case_34 hN5 hI a1 a2 a3
    rw [if_neg c34]
    by_cases c35 : o = 35
    · rw [if_pos c35]; exact case_35 hI a1 a2 a3
    rw [if_neg c35]
    by_cases c36 : o = 36
    · rw [if_pos c36]; exact case_36 hI a1 a2 a3
    rw [if_neg c36]
    by_cases c37 : o = 37
    · rw [if_pos c37]; exact case_37 hI a1 a2 a3
    rw [if_neg c37]
    by_cases c38 : o = 38
    · rw [if_pos c38]; exact case_38 hI a1 a2
    rw [if_neg c38]
    by_cases c39 : o = 39
    · rw [if_pos c39]; exact case_39 hI a1 a2 a3
    rw [if_neg c39]
    by_cases c40 : o = 40
    · rw [if_pos c40]; exact case_40 hI a1
    rw [if_neg c40]
    by_cases c41 : o = 41
    · rw [if_pos c41]; exact case_41 hI a1
    rw [if_neg c41]
    by_cases c42 : o = 42
    · rw [if_pos c42]; exact case_42 hN5 hI
    rw [if_neg c42]
    by_cases c43 : o = 43
    · rw [if_pos c43]; exact case_43 hN5 hI
    rw [if_neg c43]
    exact hI
  · exact bo_X10 (hS x) e (fun S2 n1 n3 n4 n5 n6 n7 n8 n9 n10 n11 n12 n13 n14 n15 n16 n17 n18 n19 n20 n21 n22 n24 n26 n27 n28 n29 n30 n31 n32 n33 n34 n35 n36 n37 n38 n39 n40 n41 n42 n43 n44 n45 n48 n51 n53 n54 n55 n57 n59 n61 n63 n65 n67 n69 n71 n73 n76 n78 n80 n82 n84 n86 n88 n90 n92 n94 n96 n98 n100 n103 n106 n109 b10 mm S3 hm e3 => bo_X11 hm e3 (fun S4 m2 m4 m6 m8 m10 m12 m14 m16 m18 m20 m22 m24 m26 m28 m30 m36 m38 m40 m46 m48 m50 m52 m54 b11 => bo_first (Bo.tr b10 b11)))
