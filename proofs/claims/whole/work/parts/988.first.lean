/-- the place of each name among the new addresses -/
def bo_ix : List Nat := [0, 97, 96, 75, 54, 53, 49, 47, 45, 44, 43, 42, 41, 40, 39, 38, 52, 51, 50, 48, 46, 37, 36, 34, 32, 30, 35, 33, 31, 29, 28, 27, 26, 25, 0, 0, 0, 0, 0, 0, 95, 94, 93, 92, 91, 90, 0, 0, 0, 0, 74, 73, 72, 71, 70, 69, 0, 0, 0, 0, 89, 88, 87, 86, 85, 84, 83, 82, 81, 80, 68, 67, 66, 65, 64, 63, 62, 61, 60, 59, 24, 23, 22, 21, 20, 19, 18, 17, 16, 15, 14, 13, 12, 11, 10, 9, 8, 7, 6, 5, 4, 3, 2, 1]
theorem bo_ix_len {i v : Nat} : bo_at bo_ix i = some v → i < 104 := by
  have g : ∀ (l : List Nat) (i : Nat), bo_at l i = some v → i < l.length := by
    intro l
    induction l with
    | nil => intro i h; exact absurd h (by simp [bo_at])
    | cons b l ih =>
      intro i h
      cases i with
      | zero => simp
      | succ i => rw [bo_at] at h; have := ih i h; rw [List.length_cons]; omega
  exact fun h => g bo_ix i h
theorem bo_ix_inj (i j k : Nat) (h1 : bo_at bo_ix i = some (k + 1)) (h2 : bo_at bo_ix j = some (k + 1)) : i = j := by
  have g : ∀ i, i < 104 → ∀ j, j < 104 → bo_at bo_ix i = bo_at bo_ix j → bo_at bo_ix i = some 0 ∨ i = j := by decide +kernel
  rcases g i (bo_ix_len h1) j (bo_ix_len h2) (h1.trans h2.symm) with z | z
  · rw [z] at h1
    exact absurd h1 (by simp)
  · exact z
set_option maxHeartbeats 8000000 in
set_option maxRecDepth 100000 in
/-- the relation holds where both are made -/
theorem bo_first {S0 S : PS} {x n1 n3 n4 n5 n6 n7 n8 n9 n10 n11 n12 n13 n14 n15 n16 n17 n18 n19 n20 n21 n22 n24 n26 n27 n28 n29 n30 n31 n32 n33 n34 n35 n36 n37 n38 n39 n40 n41 n42 n43 n44 n45 n48 n51 n53 n54 n55 n57 n59 n61 n63 n65 n67 n69 n71 n73 n76 n78 n80 n82 n84 n86 n88 n90 n92 n94 n96 n98 n100 n103 n106 n109 mm m2 m4 m6 m8 m10 m12 m14 m16 m18 m20 m22 m24 m26 m28 m30 m36 m38 m40 m46 m48 m50 m52 m54 : Nat} (b : Bo S0 S [(2, mm, 821, m54), (0, m54, 0, 20), (1, m54, 0, 8), (2, mm, 819, m52), (0, m52, 0, 20), (1, m52, 0, 2000), (2, mm, 815, m50), (0, m50, 0, 20), (1, m50, 0, 30), (2, mm, 811, m48), (0, m48, 0, 20), (1, m48, 0, 4), (2, mm, 810, m46), (0, m46, 0, 20), (1, m46, 0, 4), (2, mm, 809, m40), (6, m40, 3, 4294967295), (6, m40, 2, 4294967295), (6, m40, 1, 4294967295), (6, m40, 0, 4294967295), (0, m40, 0, 20), (1, m40, 0, 4), (2, mm, 808, m38), (0, m38, 0, 22), (1, m38, 0, 160), (5, m38, 0, 0), (7, m38, 0, 0), (2, mm, 807, m36), (0, m36, 0, 20), (1, m36, 0, 4), (5, m36, 0, 0), (7, m36, 0, 0), (2, mm, 806, m30), (6, m30, 3, 4294967295), (6, m30, 2, 4294967295), (6, m30, 1, 4294967295), (6, m30, 0, 4294967295), (0, m30, 0, 20), (1, m30, 0, 4), (2, mm, 804, m28), (0, m28, 0, 20), (1, m28, 0, 30), (2, mm, 803, m26), (0, m26, 0, 20), (1, m26, 0, 7), (2, mm, 802, m24), (0, m24, 0, 20), (1, m24, 0, 200), (2, mm, 796, m22), (0, m22, 0, 20), (1, m22, 0, 200), (2, mm, 795, m20), (0, m20, 0, 20), (1, m20, 0, 200), (2, mm, 794, m18), (0, m18, 0, 20), (1, m18, 0, 40), (2, mm, 792, m16), (0, m16, 0, 20), (1, m16, 0, 28), (2, mm, 789, m14), (0, m14, 0, 20), (1, m14, 0, 16), (2, mm, 781, m12), (0, m12, 0, 20), (1, m12, 0, 200), (2, mm, 780, m10), (0, m10, 0, 20), (1, m10, 0, 1600), (2, mm, 779, m8), (0, m8, 0, 20), (1, m8, 0, 8), (2, mm, 777, m6), (0, m6, 0, 20), (1, m6, 0, 128), (2, mm, 775, m4), (0, m4, 0, 20), (1, m4, 0, 120), (2, mm, 773, m2), (0, m2, 0, 20), (1, m2, 0, 90), (4, mm, 770, 1), (4, mm, 818, 0), (4, mm, 816, 0), (4, mm, 805, 0), (4, mm, 782, 0), (4, mm, 778, 0), (4, mm, 776, 0), (4, mm, 774, 0), (4, mm, 772, 0), (4, mm, 771, 0), (4, mm, 769, 0), (4, mm, 768, 0), (0, mm, 0, 12), (3, n78, 64 * 26 + 3, n109), (4, n109, 387, 0), (4, n109, 386, 0), (4, n109, 385, 0), (4, n109, 384, 2), (0, n109, 0, 6), (3, n78, 64 * 26 + 2, n106), (4, n106, 387, 0), (4, n106, 386, 0), (4, n106, 385, 0), (4, n106, 384, 2), (0, n106, 0, 6), (3, n78, 64 * 26 + 1, n103), (4, n103, 387, 0), (4, n103, 386, 0), (4, n103, 385, 0), (4, n103, 384, 2), (0, n103, 0, 6), (3, n78, 64 * 26 + 0, n100), (4, n100, 387, 0), (4, n100, 386, 0), (4, n100, 385, 0), (4, n100, 384, 2), (0, n100, 0, 6), (3, n76, 64 * 25 + 3, n96), (2, n96, 322, n98), (0, n98, 0, 20), (1, n98, 0, 40), (5, n98, 0, 0), (7, n98, 0, 0), (4, n96, 321, 0), (4, n96, 320, 4294967295), (0, n96, 0, 5), (3, n76, 64 * 25 + 2, n92), (2, n92, 322, n94), (0, n94, 0, 20), (1, n94, 0, 40), (5, n94, 0, 0), (7, n94, 0, 0), (4, n92, 321, 0), (4, n92, 320, 4294967295), (0, n92, 0, 5), (3, n76, 64 * 25 + 1, n88), (2, n88, 322, n90), (0, n90, 0, 20), (1, n90, 0, 40), (5, n90, 0, 0), (7, n90, 0, 0), (4, n88, 321, 0), (4, n88, 320, 4294967295), (0, n88, 0, 5), (3, n76, 64 * 25 + 0, n84), (2, n84, 322, n86), (0, n86, 0, 20), (1, n86, 0, 40), (5, n86, 0, 0), (7, n86, 0, 0), (4, n84, 321, 0), (4, n84, 320, 4294967295), (0, n84, 0, 5), (2, x, 720, n80), (4, n80, 69, 0), (4, n80, 68, 0), (4, n80, 67, 0), (4, n80, 66, 0), (4, n80, 65, 0), (2, n80, 64, n82), (0, n82, 0, 20), (1, n82, 0, 30), (0, n80, 0, 1), (2, x, 719, n78), (0, n78, 0, 26), (1, n78, 0, 4), (2, x, 718, n76), (0, n76, 0, 25), (1, n76, 0, 4), (4, x, 717, 0), (2, x, 716, n73), (0, n73, 0, 20), (1, n73, 0, 30), (2, x, 715, n71), (0, n71, 0, 20), (1, n71, 0, 40), (2, x, 714, n69), (0, n69, 0, 20), (1, n69, 0, 28), (2, x, 713, n67), (0, n67, 0, 20), (1, n67, 0, 200), (2, x, 712, n65), (0, n65, 0, 20), (1, n65, 0, 7), (2, x, 711, n61), (2, n61, 256, n51), (4, n61, 258, 0), (2, n61, 257, n63), (0, n63, 0, 20), (1, n63, 0, 200), (0, n61, 0, 4), (2, x, 710, n57), (2, n57, 512, n51), (4, n57, 516, 0), (4, n57, 515, 0), (4, n57, 514, 0), (2, n57, 513, n59), (0, n59, 0, 20), (1, n59, 0, 12), (0, n57, 0, 8), (2, x, 709, n51), (4, n51, 580, 0), (4, n51, 579, 0), (2, n51, 578, n55), (0, n55, 0, 20), (1, n55, 0, 201), (2, n51, 577, n54), (0, n54, 0, 20), (1, n54, 0, 201), (2, n51, 576, n53), (0, n53, 0, 20), (1, n53, 0, 201), (0, n51, 0, 9), (4, x, 708, 0), (2, x, 707, n48), (0, n48, 0, 21), (1, n48, 0, 200), (4, x, 706, 0), (2, x, 705, n24), (3, n31, 64 * 24 + 7, n44), (3, n31, 64 * 24 + 6, n44), (3, n31, 64 * 24 + 5, n44), (3, n31, 64 * 24 + 4, n44), (3, n31, 64 * 24 + 3, n44), (3, n31, 64 * 24 + 2, n44), (3, n31, 64 * 24 + 1, n44), (3, n31, 64 * 24 + 0, n44), (2, n44, 192, n45), (0, n45, 0, 20), (1, n45, 0, 0), (0, n44, 0, 3), (3, n30, 64 * 27 + 7, n42), (3, n30, 64 * 27 + 6, n42), (3, n30, 64 * 27 + 5, n42), (3, n30, 64 * 27 + 4, n42), (3, n30, 64 * 27 + 3, n42), (3, n30, 64 * 27 + 2, n42), (3, n30, 64 * 27 + 1, n42), (3, n30, 64 * 27 + 0, n42), (2, n42, 451, n43), (4, n42, 450, 0), (4, n42, 449, 0), (4, n42, 448, 1), (0, n43, 0, 20), (1, n43, 0, 0), (0, n42, 0, 7), (3, n26, 64 * 23 + 9, n41), (0, n41, 0, 2), (3, n26, 64 * 23 + 8, n40), (0, n40, 0, 2), (3, n26, 64 * 23 + 7, n39), (0, n39, 0, 2), (3, n26, 64 * 23 + 6, n38), (0, n38, 0, 2), (3, n26, 64 * 23 + 5, n37), (0, n37, 0, 2), (3, n26, 64 * 23 + 4, n36), (0, n36, 0, 2), (3, n26, 64 * 23 + 3, n35), (0, n35, 0, 2), (3, n26, 64 * 23 + 2, n34), (0, n34, 0, 2), (3, n26, 64 * 23 + 1, n33), (0, n33, 0, 2), (3, n26, 64 * 23 + 0, n32), (0, n32, 0, 2), (2, n24, 653, n31), (0, n31, 0, 24), (1, n31, 0, 8), (2, n24, 652, n30), (0, n30, 0, 27), (1, n30, 0, 8), (2, n24, 651, n29), (0, n29, 0, 20), (1, n29, 0, 40), (2, n24, 650, n28), (0, n28, 0, 20), (1, n28, 0, 40), (2, n24, 649, n27), (0, n27, 0, 20), (1, n27, 0, 40), (2, n24, 648, n26), (0, n26, 0, 23), (1, n26, 0, 10), (4, n24, 647, 0), (4, n24, 646, 0), (4, n24, 645, 0), (4, n24, 644, 0), (4, n24, 643, 0), (4, n24, 642, 1), (4, n24, 641, 0), (4, n24, 640, 0), (0, n24, 0, 10), (2, x, 704, n1), (3, n8, 64 * 24 + 7, n21), (3, n8, 64 * 24 + 6, n21), (3, n8, 64 * 24 + 5, n21), (3, n8, 64 * 24 + 4, n21), (3, n8, 64 * 24 + 3, n21), (3, n8, 64 * 24 + 2, n21), (3, n8, 64 * 24 + 1, n21), (3, n8, 64 * 24 + 0, n21), (2, n21, 192, n22), (0, n22, 0, 20), (1, n22, 0, 0), (0, n21, 0, 3), (3, n7, 64 * 27 + 7, n19), (3, n7, 64 * 27 + 6, n19), (3, n7, 64 * 27 + 5, n19), (3, n7, 64 * 27 + 4, n19), (3, n7, 64 * 27 + 3, n19), (3, n7, 64 * 27 + 2, n19), (3, n7, 64 * 27 + 1, n19), (3, n7, 64 * 27 + 0, n19), (2, n19, 451, n20), (4, n19, 450, 0), (4, n19, 449, 0), (4, n19, 448, 1), (0, n20, 0, 20), (1, n20, 0, 0), (0, n19, 0, 7), (3, n3, 64 * 23 + 9, n18), (0, n18, 0, 2), (3, n3, 64 * 23 + 8, n17), (0, n17, 0, 2), (3, n3, 64 * 23 + 7, n16), (0, n16, 0, 2), (3, n3, 64 * 23 + 6, n15), (0, n15, 0, 2), (3, n3, 64 * 23 + 5, n14), (0, n14, 0, 2), (3, n3, 64 * 23 + 4, n13), (0, n13, 0, 2), (3, n3, 64 * 23 + 3, n12), (0, n12, 0, 2), (3, n3, 64 * 23 + 2, n11), (0, n11, 0, 2), (3, n3, 64 * 23 + 1, n10), (0, n10, 0, 2), (3, n3, 64 * 23 + 0, n9), (0, n9, 0, 2), (2, n1, 653, n8), (0, n8, 0, 24), (1, n8, 0, 8), (2, n1, 652, n7), (0, n7, 0, 27), (1, n7, 0, 8), (2, n1, 651, n6), (0, n6, 0, 20), (1, n6, 0, 40), (2, n1, 650, n5), (0, n5, 0, 20), (1, n5, 0, 40), (2, n1, 649, n4), (0, n4, 0, 20), (1, n4, 0, 40), (2, n1, 648, n3), (0, n3, 0, 23), (1, n3, 0, 10), (4, n1, 647, 0), (4, n1, 646, 0), (4, n1, 645, 0), (4, n1, 644, 0), (4, n1, 643, 0), (4, n1, 642, 1), (4, n1, 641, 0), (4, n1, 640, 0), (0, n1, 0, 10), (0, x, 0, 11)] [m54, m52, m50, m48, m46, m40, m38, m36, m30, m28, m26, m24, m22, m20, m18, m16, m14, m12, m10, m8, m6, m4, m2, mm, n109, n106, n103, n100, n98, n96, n94, n92, n90, n88, n86, n84, n82, n80, n78, n76, n73, n71, n69, n67, n65, n63, n61, n59, n57, n55, n54, n53, n51, n48, n45, n44, n43, n42, n41, n40, n39, n38, n37, n36, n35, n34, n33, n32, n31, n30, n29, n28, n27, n26, n24, n22, n21, n20, n19, n18, n17, n16, n15, n14, n13, n12, n11, n10, n9, n8, n7, n6, n5, n4, n3, n1, x]) : InvR x mm S := by
  obtain ⟨B, hB⟩ := bo_bound [m54, m52, m50, m48, m46, m40, m38, m36, m30, m28, m26, m24, m22, m20, m18, m16, m14, m12, m10, m8, m6, m4, m2, mm, n109, n106, n103, n100, n98, n96, n94, n92, n90, n88, n86, n84, n82, n80, n78, n76, n73, n71, n69, n67, n65, n63, n61, n59, n57, n55, n54, n53, n51, n48, n45, n44, n43, n42, n41, n40, n39, n38, n37, n36, n35, n34, n33, n32, n31, n30, n29, n28, n27, n26, n24, n22, n21, n20, n19, n18, n17, n16, n15, n14, n13, n12, n11, n10, n9, n8, n7, n6, n5, n4, n3, n1, x]
  obtain ⟨ad, ea⟩ : ∃ z, z = bo_ad [m54, m52, m50, m48, m46, m40, m38, m36, m30, m28, m26, m24, m22, m20, m18, m16, m14, m12, m10, m8, m6, m4, m2, mm, n109, n106, n103, n100, n98, n96, n94, n92, n90, n88, n86, n84, n82, n80, n78, n76, n73, n71, n69, n67, n65, n63, n61, n59, n57, n55, n54, n53, n51, n48, n45, n44, n43, n42, n41, n40, n39, n38, n37, n36, n35, n34, n33, n32, n31, n30, n29, n28, n27, n26, n24, n22, n21, n20, n19, n18, n17, n16, n15, n14, n13, n12, n11, n10, n9, n8, n7, n6, n5, n4, n3, n1, x] bo_ix B := ⟨_, rfl⟩
  have inj : ∀ i j, ad i = ad j → i = j := by rw [ea]; exact bo_ad_inj b.2.2.1 hB bo_ix_inj
  have a1 : ad 1 = x := by rw [ea]; exact bo_ad_in (k := 96) rfl rfl
  have a2 : ad 2 = n1 := by rw [ea]; exact bo_ad_in (k := 95) rfl rfl
  have a3 : ad 3 = n24 := by rw [ea]; exact bo_ad_in (k := 74) rfl rfl
  have a4 : ad 4 = n48 := by rw [ea]; exact bo_ad_in (k := 53) rfl rfl
  have a5 : ad 5 = n51 := by rw [ea]; exact bo_ad_in (k := 52) rfl rfl
  have a6 : ad 6 = n57 := by rw [ea]; exact bo_ad_in (k := 48) rfl rfl
  have a7 : ad 7 = n61 := by rw [ea]; exact bo_ad_in (k := 46) rfl rfl
  have a8 : ad 8 = n65 := by rw [ea]; exact bo_ad_in (k := 44) rfl rfl
  have a9 : ad 9 = n67 := by rw [ea]; exact bo_ad_in (k := 43) rfl rfl
  have a10 : ad 10 = n69 := by rw [ea]; exact bo_ad_in (k := 42) rfl rfl
  have a11 : ad 11 = n71 := by rw [ea]; exact bo_ad_in (k := 41) rfl rfl
  have a12 : ad 12 = n73 := by rw [ea]; exact bo_ad_in (k := 40) rfl rfl
  have a13 : ad 13 = n76 := by rw [ea]; exact bo_ad_in (k := 39) rfl rfl
  have a14 : ad 14 = n78 := by rw [ea]; exact bo_ad_in (k := 38) rfl rfl
  have a15 : ad 15 = n80 := by rw [ea]; exact bo_ad_in (k := 37) rfl rfl
  have a16 : ad 16 = n53 := by rw [ea]; exact bo_ad_in (k := 51) rfl rfl
  have a17 : ad 17 = n54 := by rw [ea]; exact bo_ad_in (k := 50) rfl rfl
  have a18 : ad 18 = n55 := by rw [ea]; exact bo_ad_in (k := 49) rfl rfl
  have a19 : ad 19 = n59 := by rw [ea]; exact bo_ad_in (k := 47) rfl rfl
  have a20 : ad 20 = n63 := by rw [ea]; exact bo_ad_in (k := 45) rfl rfl
  have a21 : ad 21 = n82 := by rw [ea]; exact bo_ad_in (k := 36) rfl rfl
  have a22 : ad 22 = n84 := by rw [ea]; exact bo_ad_in (k := 35) rfl rfl
  have a23 : ad 23 = n88 := by rw [ea]; exact bo_ad_in (k := 33) rfl rfl
  have a24 : ad 24 = n92 := by rw [ea]; exact bo_ad_in (k := 31) rfl rfl
  have a25 : ad 25 = n96 := by rw [ea]; exact bo_ad_in (k := 29) rfl rfl
  have a26 : ad 26 = n86 := by rw [ea]; exact bo_ad_in (k := 34) rfl rfl
  have a27 : ad 27 = n90 := by rw [ea]; exact bo_ad_in (k := 32) rfl rfl
  have a28 : ad 28 = n94 := by rw [ea]; exact bo_ad_in (k := 30) rfl rfl
  have a29 : ad 29 = n98 := by rw [ea]; exact bo_ad_in (k := 28) rfl rfl
  have a30 : ad 30 = n100 := by rw [ea]; exact bo_ad_in (k := 27) rfl rfl
  have a31 : ad 31 = n103 := by rw [ea]; exact bo_ad_in (k := 26) rfl rfl
  have a32 : ad 32 = n106 := by rw [ea]; exact bo_ad_in (k := 25) rfl rfl
  have a33 : ad 33 = n109 := by rw [ea]; exact bo_ad_in (k := 24) rfl rfl
  have a40 : ad 40 = n3 := by rw [ea]; exact bo_ad_in (k := 94) rfl rfl
  have a41 : ad 41 = n4 := by rw [ea]; exact bo_ad_in (k := 93) rfl rfl
  have a42 : ad 42 = n5 := by rw [ea]; exact bo_ad_in (k := 92) rfl rfl
  have a43 : ad 43 = n6 := by rw [ea]; exact bo_ad_in (k := 91) rfl rfl
  have a44 : ad 44 = n7 := by rw [ea]; exact bo_ad_in (k := 90) rfl rfl
  have a45 : ad 45 = n8 := by rw [ea]; exact bo_ad_in (k := 89) rfl rfl
  have a50 : ad 50 = n26 := by rw [ea]; exact bo_ad_in (k := 73) rfl rfl
  have a51 : ad 51 = n27 := by rw [ea]; exact bo_ad_in (k := 72) rfl rfl
  have a52 : ad 52 = n28 := by rw [ea]; exact bo_ad_in (k := 71) rfl rfl
  have a53 : ad 53 = n29 := by rw [ea]; exact bo_ad_in (k := 70) rfl rfl
  have a54 : ad 54 = n30 := by rw [ea]; exact bo_ad_in (k := 69) rfl rfl
  have a55 : ad 55 = n31 := by rw [ea]; exact bo_ad_in (k := 68) rfl rfl
  have a60 : ad 60 = n9 := by rw [ea]; exact bo_ad_in (k := 88) rfl rfl
  have a61 : ad 61 = n10 := by rw [ea]; exact bo_ad_in (k := 87) rfl rfl
  have a62 : ad 62 = n11 := by rw [ea]; exact bo_ad_in (k := 86) rfl rfl
  have a63 : ad 63 = n12 := by rw [ea]; exact bo_ad_in (k := 85) rfl rfl
  have a64 : ad 64 = n13 := by rw [ea]; exact bo_ad_in (k := 84) rfl rfl
  have a65 : ad 65 = n14 := by rw [ea]; exact bo_ad_in (k := 83) rfl rfl
  have a66 : ad 66 = n15 := by rw [ea]; exact bo_ad_in (k := 82) rfl rfl
  have a67 : ad 67 = n16 := by rw [ea]; exact bo_ad_in (k := 81) rfl rfl
  have a68 : ad 68 = n17 := by rw [ea]; exact bo_ad_in (k := 80) rfl rfl
  have a69 : ad 69 = n18 := by rw [ea]; exact bo_ad_in (k := 79) rfl rfl
  have a70 : ad 70 = n32 := by rw [ea]; exact bo_ad_in (k := 67) rfl rfl
  have a71 : ad 71 = n33 := by rw [ea]; exact bo_ad_in (k := 66) rfl rfl
  have a72 : ad 72 = n34 := by rw [ea]; exact bo_ad_in (k := 65) rfl rfl
  have a73 : ad 73 = n35 := by rw [ea]; exact bo_ad_in (k := 64) rfl rfl
  have a74 : ad 74 = n36 := by rw [ea]; exact bo_ad_in (k := 63) rfl rfl
  have a75 : ad 75 = n37 := by rw [ea]; exact bo_ad_in (k := 62) rfl rfl
  have a76 : ad 76 = n38 := by rw [ea]; exact bo_ad_in (k := 61) rfl rfl
  have a77 : ad 77 = n39 := by rw [ea]; exact bo_ad_in (k := 60) rfl rfl
  have a78 : ad 78 = n40 := by rw [ea]; exact bo_ad_in (k := 59) rfl rfl
  have a79 : ad 79 = n41 := by rw [ea]; exact bo_ad_in (k := 58) rfl rfl
  have a80 : ad 80 = mm := by rw [ea]; exact bo_ad_in (k := 23) rfl rfl
  have a81 : ad 81 = m2 := by rw [ea]; exact bo_ad_in (k := 22) rfl rfl
  have a82 : ad 82 = m4 := by rw [ea]; exact bo_ad_in (k := 21) rfl rfl
  have a83 : ad 83 = m6 := by rw [ea]; exact bo_ad_in (k := 20) rfl rfl
  have a84 : ad 84 = m8 := by rw [ea]; exact bo_ad_in (k := 19) rfl rfl
  have a85 : ad 85 = m10 := by rw [ea]; exact bo_ad_in (k := 18) rfl rfl
  have a86 : ad 86 = m12 := by rw [ea]; exact bo_ad_in (k := 17) rfl rfl
  have a87 : ad 87 = m14 := by rw [ea]; exact bo_ad_in (k := 16) rfl rfl
  have a88 : ad 88 = m16 := by rw [ea]; exact bo_ad_in (k := 15) rfl rfl
  have a89 : ad 89 = m18 := by rw [ea]; exact bo_ad_in (k := 14) rfl rfl
  have a90 : ad 90 = m20 := by rw [ea]; exact bo_ad_in (k := 13) rfl rfl
  have a91 : ad 91 = m22 := by rw [ea]; exact bo_ad_in (k := 12) rfl rfl
  have a92 : ad 92 = m24 := by rw [ea]; exact bo_ad_in (k := 11) rfl rfl
  have a93 : ad 93 = m26 := by rw [ea]; exact bo_ad_in (k := 10) rfl rfl
  have a94 : ad 94 = m28 := by rw [ea]; exact bo_ad_in (k := 9) rfl rfl
  have a95 : ad 95 = m30 := by rw [ea]; exact bo_ad_in (k := 8) rfl rfl
  have a96 : ad 96 = m36 := by rw [ea]; exact bo_ad_in (k := 7) rfl rfl
  have a97 : ad 97 = m38 := by rw [ea]; exact bo_ad_in (k := 6) rfl rfl
  have a98 : ad 98 = m40 := by rw [ea]; exact bo_ad_in (k := 5) rfl rfl
  have a99 : ad 99 = m46 := by rw [ea]; exact bo_ad_in (k := 4) rfl rfl
  have a100 : ad 100 = m48 := by rw [ea]; exact bo_ad_in (k := 3) rfl rfl
  have a101 : ad 101 = m50 := by rw [ea]; exact bo_ad_in (k := 2) rfl rfl
  have a102 : ad 102 = m52 := by rw [ea]; exact bo_ad_in (k := 1) rfl rfl
  have a103 : ad 103 = m54 := by rw [ea]; exact bo_ad_in (k := 0) rfl rfl
  have k1 : S.K (ad 1) = 11 := by rw [a1]; exact b.gK 370 rfl
  have k2 : S.K (ad 2) = 10 := by rw [a2]; exact b.gK 369 rfl
  have k3 : S.K (ad 3) = 10 := by rw [a3]; exact b.gK 294 rfl
  have k4 : S.K (ad 4) = 21 := by rw [a4]; exact b.gK 217 rfl
  have k5 : S.K (ad 5) = 9 := by rw [a5]; exact b.gK 214 rfl
  have k6 : S.K (ad 6) = 8 := by rw [a6]; exact b.gK 201 rfl
  have k7 : S.K (ad 7) = 4 := by rw [a7]; exact b.gK 192 rfl
  have k8 : S.K (ad 8) = 20 := by rw [a8]; exact b.gK 184 rfl
  have k9 : S.K (ad 9) = 20 := by rw [a9]; exact b.gK 181 rfl
  have k10 : S.K (ad 10) = 20 := by rw [a10]; exact b.gK 178 rfl
  have k11 : S.K (ad 11) = 20 := by rw [a11]; exact b.gK 175 rfl
  have k12 : S.K (ad 12) = 20 := by rw [a12]; exact b.gK 172 rfl
  have k13 : S.K (ad 13) = 25 := by rw [a13]; exact b.gK 168 rfl
  have k14 : S.K (ad 14) = 26 := by rw [a14]; exact b.gK 165 rfl
  have k15 : S.K (ad 15) = 1 := by rw [a15]; exact b.gK 163 rfl
  have k16 : S.K (ad 16) = 20 := by rw [a16]; exact b.gK 212 rfl
  have k17 : S.K (ad 17) = 20 := by rw [a17]; exact b.gK 209 rfl
  have k18 : S.K (ad 18) = 20 := by rw [a18]; exact b.gK 206 rfl
  have k19 : S.K (ad 19) = 20 := by rw [a19]; exact b.gK 199 rfl
  have k20 : S.K (ad 20) = 20 := by rw [a20]; exact b.gK 190 rfl
  have k21 : S.K (ad 21) = 20 := by rw [a21]; exact b.gK 161 rfl
  have k22 : S.K (ad 22) = 5 := by rw [a22]; exact b.gK 153 rfl
  have k23 : S.K (ad 23) = 5 := by rw [a23]; exact b.gK 144 rfl
  have k24 : S.K (ad 24) = 5 := by rw [a24]; exact b.gK 135 rfl
  have k25 : S.K (ad 25) = 5 := by rw [a25]; exact b.gK 126 rfl
  have k26 : S.K (ad 26) = 20 := by rw [a26]; exact b.gK 147 rfl
  have k27 : S.K (ad 27) = 20 := by rw [a27]; exact b.gK 138 rfl
  have k28 : S.K (ad 28) = 20 := by rw [a28]; exact b.gK 129 rfl
  have k29 : S.K (ad 29) = 20 := by rw [a29]; exact b.gK 120 rfl
  have k30 : S.K (ad 30) = 6 := by rw [a30]; exact b.gK 117 rfl
  have k31 : S.K (ad 31) = 6 := by rw [a31]; exact b.gK 111 rfl
  have k32 : S.K (ad 32) = 6 := by rw [a32]; exact b.gK 105 rfl
  have k33 : S.K (ad 33) = 6 := by rw [a33]; exact b.gK 99 rfl
  have k40 : S.K (ad 40) = 23 := by rw [a40]; exact b.gK 359 rfl
  have k41 : S.K (ad 41) = 20 := by rw [a41]; exact b.gK 356 rfl
  have k42 : S.K (ad 42) = 20 := by rw [a42]; exact b.gK 353 rfl
  have k43 : S.K (ad 43) = 20 := by rw [a43]; exact b.gK 350 rfl
  have k44 : S.K (ad 44) = 27 := by rw [a44]; exact b.gK 347 rfl
  have k45 : S.K (ad 45) = 24 := by rw [a45]; exact b.gK 344 rfl
  have k50 : S.K (ad 50) = 23 := by rw [a50]; exact b.gK 284 rfl
  have k51 : S.K (ad 51) = 20 := by rw [a51]; exact b.gK 281 rfl
  have k52 : S.K (ad 52) = 20 := by rw [a52]; exact b.gK 278 rfl
  have k53 : S.K (ad 53) = 20 := by rw [a53]; exact b.gK 275 rfl
  have k54 : S.K (ad 54) = 27 := by rw [a54]; exact b.gK 272 rfl
  have k55 : S.K (ad 55) = 24 := by rw [a55]; exact b.gK 269 rfl
  have k80 : S.K (ad 80) = 12 := by rw [a80]; exact b.gK 93 rfl
  have k81 : S.K (ad 81) = 20 := by rw [a81]; exact b.gK 79 rfl
  have k82 : S.K (ad 82) = 20 := by rw [a82]; exact b.gK 76 rfl
  have k83 : S.K (ad 83) = 20 := by rw [a83]; exact b.gK 73 rfl
  have k84 : S.K (ad 84) = 20 := by rw [a84]; exact b.gK 70 rfl
  have k85 : S.K (ad 85) = 20 := by rw [a85]; exact b.gK 67 rfl
  have k86 : S.K (ad 86) = 20 := by rw [a86]; exact b.gK 64 rfl
  have k87 : S.K (ad 87) = 20 := by rw [a87]; exact b.gK 61 rfl
  have k88 : S.K (ad 88) = 20 := by rw [a88]; exact b.gK 58 rfl
  have k89 : S.K (ad 89) = 20 := by rw [a89]; exact b.gK 55 rfl
  have k90 : S.K (ad 90) = 20 := by rw [a90]; exact b.gK 52 rfl
  have k91 : S.K (ad 91) = 20 := by rw [a91]; exact b.gK 49 rfl
  have k92 : S.K (ad 92) = 20 := by rw [a92]; exact b.gK 46 rfl
  have k93 : S.K (ad 93) = 20 := by rw [a93]; exact b.gK 43 rfl
  have k94 : S.K (ad 94) = 20 := by rw [a94]; exact b.gK 40 rfl
  have k95 : S.K (ad 95) = 20 := by rw [a95]; exact b.gK 37 rfl
  have k96 : S.K (ad 96) = 20 := by rw [a96]; exact b.gK 28 rfl
  have k97 : S.K (ad 97) = 22 := by rw [a97]; exact b.gK 23 rfl
  have k98 : S.K (ad 98) = 20 := by rw [a98]; exact b.gK 20 rfl
  have k99 : S.K (ad 99) = 20 := by rw [a99]; exact b.gK 13 rfl
  have k100 : S.K (ad 100) = 20 := by rw [a100]; exact b.gK 10 rfl
  have k101 : S.K (ad 101) = 20 := by rw [a101]; exact b.gK 7 rfl
  have k102 : S.K (ad 102) = 20 := by rw [a102]; exact b.gK 4 rfl
  have k103 : S.K (ad 103) = 20 := by rw [a103]; exact b.gK 1 rfl
  have l4 : S.ln (ad 4) = 200 := by rw [a4]; exact b.gl 218 rfl
  have l8 : S.ln (ad 8) = 7 := by rw [a8]; exact b.gl 185 rfl
  have l9 : S.ln (ad 9) = 200 := by rw [a9]; exact b.gl 182 rfl
  have l10 : S.ln (ad 10) = 28 := by rw [a10]; exact b.gl 179 rfl
  have l11 : S.ln (ad 11) = 40 := by rw [a11]; exact b.gl 176 rfl
  have l12 : S.ln (ad 12) = 30 := by rw [a12]; exact b.gl 173 rfl
  have l13 : S.ln (ad 13) = 4 := by rw [a13]; exact b.gl 169 rfl
  have l14 : S.ln (ad 14) = 4 := by rw [a14]; exact b.gl 166 rfl
  have l16 : S.ln (ad 16) = 201 := by rw [a16]; exact b.gl 213 rfl
  have l17 : S.ln (ad 17) = 201 := by rw [a17]; exact b.gl 210 rfl
  have l18 : S.ln (ad 18) = 201 := by rw [a18]; exact b.gl 207 rfl
  have l19 : S.ln (ad 19) = 12 := by rw [a19]; exact b.gl 200 rfl
  have l20 : S.ln (ad 20) = 200 := by rw [a20]; exact b.gl 191 rfl
  have l21 : S.ln (ad 21) = 30 := by rw [a21]; exact b.gl 162 rfl
  have l26 : S.ln (ad 26) = 40 := by rw [a26]; exact b.gl 148 rfl
  have l27 : S.ln (ad 27) = 40 := by rw [a27]; exact b.gl 139 rfl
  have l28 : S.ln (ad 28) = 40 := by rw [a28]; exact b.gl 130 rfl
  have l29 : S.ln (ad 29) = 40 := by rw [a29]; exact b.gl 121 rfl
  have l40 : S.ln (ad 40) = 10 := by rw [a40]; exact b.gl 360 rfl
  have l41 : S.ln (ad 41) = 40 := by rw [a41]; exact b.gl 357 rfl
  have l42 : S.ln (ad 42) = 40 := by rw [a42]; exact b.gl 354 rfl
  have l43 : S.ln (ad 43) = 40 := by rw [a43]; exact b.gl 351 rfl
  have l44 : S.ln (ad 44) = 8 := by rw [a44]; exact b.gl 348 rfl
  have l45 : S.ln (ad 45) = 8 := by rw [a45]; exact b.gl 345 rfl
  have l50 : S.ln (ad 50) = 10 := by rw [a50]; exact b.gl 285 rfl
  have l51 : S.ln (ad 51) = 40 := by rw [a51]; exact b.gl 282 rfl
  have l52 : S.ln (ad 52) = 40 := by rw [a52]; exact b.gl 279 rfl
  have l53 : S.ln (ad 53) = 40 := by rw [a53]; exact b.gl 276 rfl
  have l54 : S.ln (ad 54) = 8 := by rw [a54]; exact b.gl 273 rfl
  have l55 : S.ln (ad 55) = 8 := by rw [a55]; exact b.gl 270 rfl
  have l81 : S.ln (ad 81) = 90 := by rw [a81]; exact b.gl 80 rfl
  have l82 : S.ln (ad 82) = 120 := by rw [a82]; exact b.gl 77 rfl
  have l83 : S.ln (ad 83) = 128 := by rw [a83]; exact b.gl 74 rfl
  have l84 : S.ln (ad 84) = 8 := by rw [a84]; exact b.gl 71 rfl
  have l85 : S.ln (ad 85) = 1600 := by rw [a85]; exact b.gl 68 rfl
  have l86 : S.ln (ad 86) = 200 := by rw [a86]; exact b.gl 65 rfl
  have l87 : S.ln (ad 87) = 16 := by rw [a87]; exact b.gl 62 rfl
  have l88 : S.ln (ad 88) = 28 := by rw [a88]; exact b.gl 59 rfl
  have l89 : S.ln (ad 89) = 40 := by rw [a89]; exact b.gl 56 rfl
  have l90 : S.ln (ad 90) = 200 := by rw [a90]; exact b.gl 53 rfl
  have l91 : S.ln (ad 91) = 200 := by rw [a91]; exact b.gl 50 rfl
  have l92 : S.ln (ad 92) = 200 := by rw [a92]; exact b.gl 47 rfl
  have l93 : S.ln (ad 93) = 7 := by rw [a93]; exact b.gl 44 rfl
  have l94 : S.ln (ad 94) = 30 := by rw [a94]; exact b.gl 41 rfl
  have l95 : S.ln (ad 95) = 4 := by rw [a95]; exact b.gl 38 rfl
  have l96 : S.ln (ad 96) = 4 := by rw [a96]; exact b.gl 29 rfl
  have l97 : S.ln (ad 97) = 160 := by rw [a97]; exact b.gl 24 rfl
  have l98 : S.ln (ad 98) = 4 := by rw [a98]; exact b.gl 21 rfl
  have l99 : S.ln (ad 99) = 4 := by rw [a99]; exact b.gl 14 rfl
  have l100 : S.ln (ad 100) = 4 := by rw [a100]; exact b.gl 11 rfl
  have l101 : S.ln (ad 101) = 30 := by rw [a101]; exact b.gl 8 rfl
  have l102 : S.ln (ad 102) = 2000 := by rw [a102]; exact b.gl 5 rfl
  have l103 : S.ln (ad 103) = 8 := by rw [a103]; exact b.gl 2 rfl
  have r704_1 : S.R 704 (ad 1) = some (ad 2) := by rw [a1, a2]; exact b.gR 295 rfl
  have r705_1 : S.R 705 (ad 1) = some (ad 3) := by rw [a1, a3]; exact b.gR 220 rfl
  have r707_1 : S.R 707 (ad 1) = some (ad 4) := by rw [a1, a4]; exact b.gR 216 rfl
  have r709_1 : S.R 709 (ad 1) = some (ad 5) := by rw [a1, a5]; exact b.gR 202 rfl
  have r710_1 : S.R 710 (ad 1) = some (ad 6) := by rw [a1, a6]; exact b.gR 193 rfl
  have r711_1 : S.R 711 (ad 1) = some (ad 7) := by rw [a1, a7]; exact b.gR 186 rfl
  have r712_1 : S.R 712 (ad 1) = some (ad 8) := by rw [a1, a8]; exact b.gR 183 rfl
  have r713_1 : S.R 713 (ad 1) = some (ad 9) := by rw [a1, a9]; exact b.gR 180 rfl
  have r714_1 : S.R 714 (ad 1) = some (ad 10) := by rw [a1, a10]; exact b.gR 177 rfl
  have r715_1 : S.R 715 (ad 1) = some (ad 11) := by rw [a1, a11]; exact b.gR 174 rfl
  have r716_1 : S.R 716 (ad 1) = some (ad 12) := by rw [a1, a12]; exact b.gR 171 rfl
  have r718_1 : S.R 718 (ad 1) = some (ad 13) := by rw [a1, a13]; exact b.gR 167 rfl
  have r719_1 : S.R 719 (ad 1) = some (ad 14) := by rw [a1, a14]; exact b.gR 164 rfl
  have r720_1 : S.R 720 (ad 1) = some (ad 15) := by rw [a1, a15]; exact b.gR 154 rfl
  have r648_2 : S.R 648 (ad 2) = some (ad 40) := by rw [a2, a40]; exact b.gR 358 rfl
  have r649_2 : S.R 649 (ad 2) = some (ad 41) := by rw [a2, a41]; exact b.gR 355 rfl
  have r650_2 : S.R 650 (ad 2) = some (ad 42) := by rw [a2, a42]; exact b.gR 352 rfl
  have r651_2 : S.R 651 (ad 2) = some (ad 43) := by rw [a2, a43]; exact b.gR 349 rfl
  have r652_2 : S.R 652 (ad 2) = some (ad 44) := by rw [a2, a44]; exact b.gR 346 rfl
  have r653_2 : S.R 653 (ad 2) = some (ad 45) := by rw [a2, a45]; exact b.gR 343 rfl
  have r648_3 : S.R 648 (ad 3) = some (ad 50) := by rw [a3, a50]; exact b.gR 283 rfl
  have r649_3 : S.R 649 (ad 3) = some (ad 51) := by rw [a3, a51]; exact b.gR 280 rfl
  have r650_3 : S.R 650 (ad 3) = some (ad 52) := by rw [a3, a52]; exact b.gR 277 rfl
  have r651_3 : S.R 651 (ad 3) = some (ad 53) := by rw [a3, a53]; exact b.gR 274 rfl
  have r652_3 : S.R 652 (ad 3) = some (ad 54) := by rw [a3, a54]; exact b.gR 271 rfl
  have r653_3 : S.R 653 (ad 3) = some (ad 55) := by rw [a3, a55]; exact b.gR 268 rfl
  have r576_5 : S.R 576 (ad 5) = some (ad 16) := by rw [a5, a16]; exact b.gR 211 rfl
  have r577_5 : S.R 577 (ad 5) = some (ad 17) := by rw [a5, a17]; exact b.gR 208 rfl
  have r578_5 : S.R 578 (ad 5) = some (ad 18) := by rw [a5, a18]; exact b.gR 205 rfl
  have r512_6 : S.R 512 (ad 6) = some (ad 5) := by rw [a6, a5]; exact b.gR 194 rfl
  have r513_6 : S.R 513 (ad 6) = some (ad 19) := by rw [a6, a19]; exact b.gR 198 rfl
  have r256_7 : S.R 256 (ad 7) = some (ad 5) := by rw [a7, a5]; exact b.gR 187 rfl
  have r257_7 : S.R 257 (ad 7) = some (ad 20) := by rw [a7, a20]; exact b.gR 189 rfl
  have r64_15 : S.R 64 (ad 15) = some (ad 21) := by rw [a15, a21]; exact b.gR 160 rfl
  have r322_22 : S.R 322 (ad 22) = some (ad 26) := by rw [a22, a26]; exact b.gR 146 rfl
  have r322_23 : S.R 322 (ad 23) = some (ad 27) := by rw [a23, a27]; exact b.gR 137 rfl
  have r322_24 : S.R 322 (ad 24) = some (ad 28) := by rw [a24, a28]; exact b.gR 128 rfl
  have r322_25 : S.R 322 (ad 25) = some (ad 29) := by rw [a25, a29]; exact b.gR 119 rfl
  have r773_80 : S.R 773 (ad 80) = some (ad 81) := by rw [a80, a81]; exact b.gR 78 rfl
  have r775_80 : S.R 775 (ad 80) = some (ad 82) := by rw [a80, a82]; exact b.gR 75 rfl
  have r777_80 : S.R 777 (ad 80) = some (ad 83) := by rw [a80, a83]; exact b.gR 72 rfl
  have r779_80 : S.R 779 (ad 80) = some (ad 84) := by rw [a80, a84]; exact b.gR 69 rfl
  have r780_80 : S.R 780 (ad 80) = some (ad 85) := by rw [a80, a85]; exact b.gR 66 rfl
  have r781_80 : S.R 781 (ad 80) = some (ad 86) := by rw [a80, a86]; exact b.gR 63 rfl
  have r789_80 : S.R 789 (ad 80) = some (ad 87) := by rw [a80, a87]; exact b.gR 60 rfl
  have r792_80 : S.R 792 (ad 80) = some (ad 88) := by rw [a80, a88]; exact b.gR 57 rfl
  have r794_80 : S.R 794 (ad 80) = some (ad 89) := by rw [a80, a89]; exact b.gR 54 rfl
  have r795_80 : S.R 795 (ad 80) = some (ad 90) := by rw [a80, a90]; exact b.gR 51 rfl
  have r796_80 : S.R 796 (ad 80) = some (ad 91) := by rw [a80, a91]; exact b.gR 48 rfl
  have r802_80 : S.R 802 (ad 80) = some (ad 92) := by rw [a80, a92]; exact b.gR 45 rfl
  have r803_80 : S.R 803 (ad 80) = some (ad 93) := by rw [a80, a93]; exact b.gR 42 rfl
  have r804_80 : S.R 804 (ad 80) = some (ad 94) := by rw [a80, a94]; exact b.gR 39 rfl
  have r806_80 : S.R 806 (ad 80) = some (ad 95) := by rw [a80, a95]; exact b.gR 32 rfl
  have r807_80 : S.R 807 (ad 80) = some (ad 96) := by rw [a80, a96]; exact b.gR 27 rfl
  have r808_80 : S.R 808 (ad 80) = some (ad 97) := by rw [a80, a97]; exact b.gR 22 rfl
  have r809_80 : S.R 809 (ad 80) = some (ad 98) := by rw [a80, a98]; exact b.gR 15 rfl
  have r810_80 : S.R 810 (ad 80) = some (ad 99) := by rw [a80, a99]; exact b.gR 12 rfl
  have r811_80 : S.R 811 (ad 80) = some (ad 100) := by rw [a80, a100]; exact b.gR 9 rfl
  have r815_80 : S.R 815 (ad 80) = some (ad 101) := by rw [a80, a101]; exact b.gR 6 rfl
  have r819_80 : S.R 819 (ad 80) = some (ad 102) := by rw [a80, a102]; exact b.gR 3 rfl
  have r821_80 : S.R 821 (ad 80) = some (ad 103) := by rw [a80, a103]; exact b.gR 0 rfl
  have u0 : S.Q (ad 13) 0 = some (ad (22 + 0)) ∧ S.Q (ad 14) 0 = some (ad (30 + 0)) := by rw [a13, a14, a22, a30]; exact ⟨b.gQ 145 rfl, b.gQ 112 rfl⟩
  have u1 : S.Q (ad 13) 1 = some (ad (22 + 1)) ∧ S.Q (ad 14) 1 = some (ad (30 + 1)) := by rw [a13, a14, a23, a31]; exact ⟨b.gQ 136 rfl, b.gQ 106 rfl⟩
  have u2 : S.Q (ad 13) 2 = some (ad (22 + 2)) ∧ S.Q (ad 14) 2 = some (ad (30 + 2)) := by rw [a13, a14, a24, a32]; exact ⟨b.gQ 127 rfl, b.gQ 100 rfl⟩
  have u3 : S.Q (ad 13) 3 = some (ad (22 + 3)) ∧ S.Q (ad 14) 3 = some (ad (30 + 3)) := by rw [a13, a14, a25, a33]; exact ⟨b.gQ 118 rfl, b.gQ 94 rfl⟩
  have p0_0 : S.Q (ad (40 + 10 * 0)) 0 = some (ad (60 + 10 * 0 + 0)) ∧ S.K (ad (60 + 10 * 0 + 0)) = 2 := by rw [a40, a60]; exact ⟨b.gQ 341 rfl, b.gK 342 rfl⟩
  have p0_1 : S.Q (ad (40 + 10 * 0)) 1 = some (ad (60 + 10 * 0 + 1)) ∧ S.K (ad (60 + 10 * 0 + 1)) = 2 := by rw [a40, a61]; exact ⟨b.gQ 339 rfl, b.gK 340 rfl⟩
  have p0_2 : S.Q (ad (40 + 10 * 0)) 2 = some (ad (60 + 10 * 0 + 2)) ∧ S.K (ad (60 + 10 * 0 + 2)) = 2 := by rw [a40, a62]; exact ⟨b.gQ 337 rfl, b.gK 338 rfl⟩
  have p0_3 : S.Q (ad (40 + 10 * 0)) 3 = some (ad (60 + 10 * 0 + 3)) ∧ S.K (ad (60 + 10 * 0 + 3)) = 2 := by rw [a40, a63]; exact ⟨b.gQ 335 rfl, b.gK 336 rfl⟩
  have p0_4 : S.Q (ad (40 + 10 * 0)) 4 = some (ad (60 + 10 * 0 + 4)) ∧ S.K (ad (60 + 10 * 0 + 4)) = 2 := by rw [a40, a64]; exact ⟨b.gQ 333 rfl, b.gK 334 rfl⟩
  have p0_5 : S.Q (ad (40 + 10 * 0)) 5 = some (ad (60 + 10 * 0 + 5)) ∧ S.K (ad (60 + 10 * 0 + 5)) = 2 := by rw [a40, a65]; exact ⟨b.gQ 331 rfl, b.gK 332 rfl⟩
  have p0_6 : S.Q (ad (40 + 10 * 0)) 6 = some (ad (60 + 10 * 0 + 6)) ∧ S.K (ad (60 + 10 * 0 + 6)) = 2 := by rw [a40, a66]; exact ⟨b.gQ 329 rfl, b.gK 330 rfl⟩
  have p0_7 : S.Q (ad (40 + 10 * 0)) 7 = some (ad (60 + 10 * 0 + 7)) ∧ S.K (ad (60 + 10 * 0 + 7)) = 2 := by rw [a40, a67]; exact ⟨b.gQ 327 rfl, b.gK 328 rfl⟩
  have p0_8 : S.Q (ad (40 + 10 * 0)) 8 = some (ad (60 + 10 * 0 + 8)) ∧ S.K (ad (60 + 10 * 0 + 8)) = 2 := by rw [a40, a68]; exact ⟨b.gQ 325 rfl, b.gK 326 rfl⟩
  have p0_9 : S.Q (ad (40 + 10 * 0)) 9 = some (ad (60 + 10 * 0 + 9)) ∧ S.K (ad (60 + 10 * 0 + 9)) = 2 := by rw [a40, a69]; exact ⟨b.gQ 323 rfl, b.gK 324 rfl⟩
  have p1_0 : S.Q (ad (40 + 10 * 1)) 0 = some (ad (60 + 10 * 1 + 0)) ∧ S.K (ad (60 + 10 * 1 + 0)) = 2 := by rw [a50, a70]; exact ⟨b.gQ 266 rfl, b.gK 267 rfl⟩
  have p1_1 : S.Q (ad (40 + 10 * 1)) 1 = some (ad (60 + 10 * 1 + 1)) ∧ S.K (ad (60 + 10 * 1 + 1)) = 2 := by rw [a50, a71]; exact ⟨b.gQ 264 rfl, b.gK 265 rfl⟩
  have p1_2 : S.Q (ad (40 + 10 * 1)) 2 = some (ad (60 + 10 * 1 + 2)) ∧ S.K (ad (60 + 10 * 1 + 2)) = 2 := by rw [a50, a72]; exact ⟨b.gQ 262 rfl, b.gK 263 rfl⟩
  have p1_3 : S.Q (ad (40 + 10 * 1)) 3 = some (ad (60 + 10 * 1 + 3)) ∧ S.K (ad (60 + 10 * 1 + 3)) = 2 := by rw [a50, a73]; exact ⟨b.gQ 260 rfl, b.gK 261 rfl⟩
  have p1_4 : S.Q (ad (40 + 10 * 1)) 4 = some (ad (60 + 10 * 1 + 4)) ∧ S.K (ad (60 + 10 * 1 + 4)) = 2 := by rw [a50, a74]; exact ⟨b.gQ 258 rfl, b.gK 259 rfl⟩
  have p1_5 : S.Q (ad (40 + 10 * 1)) 5 = some (ad (60 + 10 * 1 + 5)) ∧ S.K (ad (60 + 10 * 1 + 5)) = 2 := by rw [a50, a75]; exact ⟨b.gQ 256 rfl, b.gK 257 rfl⟩
  have p1_6 : S.Q (ad (40 + 10 * 1)) 6 = some (ad (60 + 10 * 1 + 6)) ∧ S.K (ad (60 + 10 * 1 + 6)) = 2 := by rw [a50, a76]; exact ⟨b.gQ 254 rfl, b.gK 255 rfl⟩
  have p1_7 : S.Q (ad (40 + 10 * 1)) 7 = some (ad (60 + 10 * 1 + 7)) ∧ S.K (ad (60 + 10 * 1 + 7)) = 2 := by rw [a50, a77]; exact ⟨b.gQ 252 rfl, b.gK 253 rfl⟩
  have p1_8 : S.Q (ad (40 + 10 * 1)) 8 = some (ad (60 + 10 * 1 + 8)) ∧ S.K (ad (60 + 10 * 1 + 8)) = 2 := by rw [a50, a78]; exact ⟨b.gQ 250 rfl, b.gK 251 rfl⟩
  have p1_9 : S.Q (ad (40 + 10 * 1)) 9 = some (ad (60 + 10 * 1 + 9)) ∧ S.K (ad (60 + 10 * 1 + 9)) = 2 := by rw [a50, a79]; exact ⟨b.gQ 248 rfl, b.gK 249 rfl⟩
  have sh : Sh ad S := by
    refine ⟨(List.forall_mem_cons.mpr ⟨k1, (List.forall_mem_cons.mpr ⟨k2, (List.forall_mem_cons.mpr ⟨k3, (List.forall_mem_cons.mpr ⟨k4, (List.forall_mem_cons.mpr ⟨k5, (List.forall_mem_cons.mpr ⟨k6, (List.forall_mem_cons.mpr ⟨k7, (List.forall_mem_cons.mpr ⟨k8, (List.forall_mem_cons.mpr ⟨k9, (List.forall_mem_cons.mpr ⟨k10, (List.forall_mem_cons.mpr ⟨k11, (List.forall_mem_cons.mpr ⟨k12, (List.forall_mem_cons.mpr ⟨k13, (List.forall_mem_cons.mpr ⟨k14, (List.forall_mem_cons.mpr ⟨k15, (List.forall_mem_cons.mpr ⟨k16, (List.forall_mem_cons.mpr ⟨k17, (List.forall_mem_cons.mpr ⟨k18, (List.forall_mem_cons.mpr ⟨k19, (List.forall_mem_cons.mpr ⟨k20, (List.forall_mem_cons.mpr ⟨k21, (List.forall_mem_cons.mpr ⟨k22, (List.forall_mem_cons.mpr ⟨k23, (List.forall_mem_cons.mpr ⟨k24, (List.forall_mem_cons.mpr ⟨k25, (List.forall_mem_cons.mpr ⟨k26, (List.forall_mem_cons.mpr ⟨k27, (List.forall_mem_cons.mpr ⟨k28, (List.forall_mem_cons.mpr ⟨k29, (List.forall_mem_cons.mpr ⟨k30, (List.forall_mem_cons.mpr ⟨k31, (List.forall_mem_cons.mpr ⟨k32, (List.forall_mem_cons.mpr ⟨k33, (List.forall_mem_cons.mpr ⟨k40, (List.forall_mem_cons.mpr ⟨k41, (List.forall_mem_cons.mpr ⟨k42, (List.forall_mem_cons.mpr ⟨k43, (List.forall_mem_cons.mpr ⟨k44, (List.forall_mem_cons.mpr ⟨k45, (List.forall_mem_cons.mpr ⟨k50, (List.forall_mem_cons.mpr ⟨k51, (List.forall_mem_cons.mpr ⟨k52, (List.forall_mem_cons.mpr ⟨k53, (List.forall_mem_cons.mpr ⟨k54, (List.forall_mem_cons.mpr ⟨k55, (List.forall_mem_cons.mpr ⟨k80, (List.forall_mem_cons.mpr ⟨k81, (List.forall_mem_cons.mpr ⟨k82, (List.forall_mem_cons.mpr ⟨k83, (List.forall_mem_cons.mpr ⟨k84, (List.forall_mem_cons.mpr ⟨k85, (List.forall_mem_cons.mpr ⟨k86, (List.forall_mem_cons.mpr ⟨k87, (List.forall_mem_cons.mpr ⟨k88, (List.forall_mem_cons.mpr ⟨k89, (List.forall_mem_cons.mpr ⟨k90, (List.forall_mem_cons.mpr ⟨k91, (List.forall_mem_cons.mpr ⟨k92, (List.forall_mem_cons.mpr ⟨k93, (List.forall_mem_cons.mpr ⟨k94, (List.forall_mem_cons.mpr ⟨k95, (List.forall_mem_cons.mpr ⟨k96, (List.forall_mem_cons.mpr ⟨k97, (List.forall_mem_cons.mpr ⟨k98, (List.forall_mem_cons.mpr ⟨k99, (List.forall_mem_cons.mpr ⟨k100, (List.forall_mem_cons.mpr ⟨k101, (List.forall_mem_cons.mpr ⟨k102, (List.forall_mem_cons.mpr ⟨k103, (fun _ h => absurd h (by simp))⟩)⟩)⟩)⟩)⟩)⟩)⟩)⟩)⟩)⟩)⟩)⟩)⟩)⟩)⟩)⟩)⟩)⟩)⟩)⟩)⟩)⟩)⟩)⟩)⟩)⟩)⟩)⟩)⟩)⟩)⟩)⟩)⟩)⟩)⟩)⟩)⟩)⟩)⟩)⟩)⟩)⟩)⟩)⟩)⟩)⟩)⟩)⟩)⟩)⟩)⟩)⟩)⟩)⟩)⟩)⟩)⟩)⟩)⟩)⟩)⟩)⟩)⟩)⟩)⟩)⟩)⟩)⟩)⟩), (List.forall_mem_cons.mpr ⟨l4, (List.forall_mem_cons.mpr ⟨l8, (List.forall_mem_cons.mpr ⟨l9, (List.forall_mem_cons.mpr ⟨l10, (List.forall_mem_cons.mpr ⟨l11, (List.forall_mem_cons.mpr ⟨l12, (List.forall_mem_cons.mpr ⟨l13, (List.forall_mem_cons.mpr ⟨l14, (List.forall_mem_cons.mpr ⟨l16, (List.forall_mem_cons.mpr ⟨l17, (List.forall_mem_cons.mpr ⟨l18, (List.forall_mem_cons.mpr ⟨l19, (List.forall_mem_cons.mpr ⟨l20, (List.forall_mem_cons.mpr ⟨l21, (List.forall_mem_cons.mpr ⟨l26, (List.forall_mem_cons.mpr ⟨l27, (List.forall_mem_cons.mpr ⟨l28, (List.forall_mem_cons.mpr ⟨l29, (List.forall_mem_cons.mpr ⟨l40, (List.forall_mem_cons.mpr ⟨l41, (List.forall_mem_cons.mpr ⟨l42, (List.forall_mem_cons.mpr ⟨l43, (List.forall_mem_cons.mpr ⟨l44, (List.forall_mem_cons.mpr ⟨l45, (List.forall_mem_cons.mpr ⟨l50, (List.forall_mem_cons.mpr ⟨l51, (List.forall_mem_cons.mpr ⟨l52, (List.forall_mem_cons.mpr ⟨l53, (List.forall_mem_cons.mpr ⟨l54, (List.forall_mem_cons.mpr ⟨l55, (List.forall_mem_cons.mpr ⟨l81, (List.forall_mem_cons.mpr ⟨l82, (List.forall_mem_cons.mpr ⟨l83, (List.forall_mem_cons.mpr ⟨l84, (List.forall_mem_cons.mpr ⟨l85, (List.forall_mem_cons.mpr ⟨l86, (List.forall_mem_cons.mpr ⟨l87, (List.forall_mem_cons.mpr ⟨l88, (List.forall_mem_cons.mpr ⟨l89, (List.forall_mem_cons.mpr ⟨l90, (List.forall_mem_cons.mpr ⟨l91, (List.forall_mem_cons.mpr ⟨l92, (List.forall_mem_cons.mpr ⟨l93, (List.forall_mem_cons.mpr ⟨l94, (List.forall_mem_cons.mpr ⟨l95, (List.forall_mem_cons.mpr ⟨l96, (List.forall_mem_cons.mpr ⟨l97, (List.forall_mem_cons.mpr ⟨l98, (List.forall_mem_cons.mpr ⟨l99, (List.forall_mem_cons.mpr ⟨l100, (List.forall_mem_cons.mpr ⟨l101, (List.forall_mem_cons.mpr ⟨l102, (List.forall_mem_cons.mpr ⟨l103, (fun _ h => absurd h (by simp))⟩)⟩)⟩)⟩)⟩)⟩)⟩)⟩)⟩)⟩)⟩)⟩)⟩)⟩)⟩)⟩)⟩)⟩)⟩)⟩)⟩)⟩)⟩)⟩)⟩)⟩)⟩)⟩)⟩)⟩)⟩)⟩)⟩)⟩)⟩)⟩)⟩)⟩)⟩)⟩)⟩)⟩)⟩)⟩)⟩)⟩)⟩)⟩)⟩)⟩)⟩)⟩)⟩), (List.forall_mem_cons.mpr ⟨r704_1, (List.forall_mem_cons.mpr ⟨r705_1, (List.forall_mem_cons.mpr ⟨r707_1, (List.forall_mem_cons.mpr ⟨r709_1, (List.forall_mem_cons.mpr ⟨r710_1, (List.forall_mem_cons.mpr ⟨r711_1, (List.forall_mem_cons.mpr ⟨r712_1, (List.forall_mem_cons.mpr ⟨r713_1, (List.forall_mem_cons.mpr ⟨r714_1, (List.forall_mem_cons.mpr ⟨r715_1, (List.forall_mem_cons.mpr ⟨r716_1, (List.forall_mem_cons.mpr ⟨r718_1, (List.forall_mem_cons.mpr ⟨r719_1, (List.forall_mem_cons.mpr ⟨r720_1, (List.forall_mem_cons.mpr ⟨r648_2, (List.forall_mem_cons.mpr ⟨r649_2, (List.forall_mem_cons.mpr ⟨r650_2, (List.forall_mem_cons.mpr ⟨r651_2, (List.forall_mem_cons.mpr ⟨r652_2, (List.forall_mem_cons.mpr ⟨r653_2, (List.forall_mem_cons.mpr ⟨r648_3, (List.forall_mem_cons.mpr ⟨r649_3, (List.forall_mem_cons.mpr ⟨r650_3, (List.forall_mem_cons.mpr ⟨r651_3, (List.forall_mem_cons.mpr ⟨r652_3, (List.forall_mem_cons.mpr ⟨r653_3, (List.forall_mem_cons.mpr ⟨r576_5, (List.forall_mem_cons.mpr ⟨r577_5, (List.forall_mem_cons.mpr ⟨r578_5, (List.forall_mem_cons.mpr ⟨r512_6, (List.forall_mem_cons.mpr ⟨r513_6, (List.forall_mem_cons.mpr ⟨r256_7, (List.forall_mem_cons.mpr ⟨r257_7, (List.forall_mem_cons.mpr ⟨r64_15, (List.forall_mem_cons.mpr ⟨r322_22, (List.forall_mem_cons.mpr ⟨r322_23, (List.forall_mem_cons.mpr ⟨r322_24, (List.forall_mem_cons.mpr ⟨r322_25, (List.forall_mem_cons.mpr ⟨r773_80, (List.forall_mem_cons.mpr ⟨r775_80, (List.forall_mem_cons.mpr ⟨r777_80, (List.forall_mem_cons.mpr ⟨r779_80, (List.forall_mem_cons.mpr ⟨r780_80, (List.forall_mem_cons.mpr ⟨r781_80, (List.forall_mem_cons.mpr ⟨r789_80, (List.forall_mem_cons.mpr ⟨r792_80, (List.forall_mem_cons.mpr ⟨r794_80, (List.forall_mem_cons.mpr ⟨r795_80, (List.forall_mem_cons.mpr ⟨r796_80, (List.forall_mem_cons.mpr ⟨r802_80, (List.forall_mem_cons.mpr ⟨r803_80, (List.forall_mem_cons.mpr ⟨r804_80, (List.forall_mem_cons.mpr ⟨r806_80, (List.forall_mem_cons.mpr ⟨r807_80, (List.forall_mem_cons.mpr ⟨r808_80, (List.forall_mem_cons.mpr ⟨r809_80, (List.forall_mem_cons.mpr ⟨r810_80, (List.forall_mem_cons.mpr ⟨r811_80, (List.forall_mem_cons.mpr ⟨r815_80, (List.forall_mem_cons.mpr ⟨r819_80, (List.forall_mem_cons.mpr ⟨r821_80, (fun _ h => absurd h (by simp))⟩)⟩)⟩)⟩)⟩)⟩)⟩)⟩)⟩)⟩)⟩)⟩)⟩)⟩)⟩)⟩)⟩)⟩)⟩)⟩)⟩)⟩)⟩)⟩)⟩)⟩)⟩)⟩)⟩)⟩)⟩)⟩)⟩)⟩)⟩)⟩)⟩)⟩)⟩)⟩)⟩)⟩)⟩)⟩)⟩)⟩)⟩)⟩)⟩)⟩)⟩)⟩)⟩)⟩)⟩)⟩)⟩)⟩)⟩)⟩)⟩), fun i hi => ?_, fun w i hw hi => ?_, inj⟩
    · obtain rfl | rfl | rfl | rfl : i = 0 ∨ i = 1 ∨ i = 2 ∨ i = 3 := by omega
      · exact u0
      · exact u1
      · exact u2
      · exact u3
    · obtain rfl | rfl : w = 0 ∨ w = 1 := by omega
      · obtain rfl | rfl | rfl | rfl | rfl | rfl | rfl | rfl | rfl | rfl : i = 0 ∨ i = 1 ∨ i = 2 ∨ i = 3 ∨ i = 4 ∨ i = 5 ∨ i = 6 ∨ i = 7 ∨ i = 8 ∨ i = 9 := by omega
        · exact p0_0
        · exact p0_1
        · exact p0_2
        · exact p0_3
        · exact p0_4
        · exact p0_5
        · exact p0_6
        · exact p0_7
        · exact p0_8
        · exact p0_9
      · obtain rfl | rfl | rfl | rfl | rfl | rfl | rfl | rfl | rfl | rfl : i = 0 ∨ i = 1 ∨ i = 2 ∨ i = 3 ∨ i = 4 ∨ i = 5 ∨ i = 6 ∨ i = 7 ∨ i = 8 ∨ i = 9 := by omega
        · exact p1_0
        · exact p1_1
        · exact p1_2
        · exact p1_3
        · exact p1_4
        · exact p1_5
        · exact p1_6
        · exact p1_7
        · exact p1_8
        · exact p1_9
  have i640 : S.I 640 (ad 2) = nI 0 := by rw [a2]; exact b.gI 368 rfl
  have i641 : S.I 641 (ad 2) = nI 0 := by rw [a2]; exact b.gI 367 rfl
  have i642 : S.I 642 (ad 2) = nI 1 := by rw [a2]; exact b.gI 366 rfl
  have i643 : S.I 643 (ad 2) = nI 0 := by rw [a2]; exact b.gI 365 rfl
  have i644 : S.I 644 (ad 2) = nI 0 := by rw [a2]; exact b.gI 364 rfl
  have i645 : S.I 645 (ad 2) = nI 0 := by rw [a2]; exact b.gI 363 rfl
  have i646 : S.I 646 (ad 2) = nI 0 := by rw [a2]; exact b.gI 362 rfl
  have i647 : S.I 647 (ad 2) = nI 0 := by rw [a2]; exact b.gI 361 rfl
  have i768 : S.I 768 (ad 80) = nI 0 := by rw [a80]; exact b.gI 92 rfl
  have i769 : S.I 769 (ad 80) = nI 0 := by rw [a80]; exact b.gI 91 rfl
  have i770 : S.I 770 (ad 80) = nI 1 := by rw [a80]; exact b.gI 81 rfl
  have i771 : S.I 771 (ad 80) = nI 0 := by rw [a80]; exact b.gI 90 rfl
  have i772 : S.I 772 (ad 80) = nI 0 := by rw [a80]; exact b.gI 89 rfl
  have i774 : S.I 774 (ad 80) = nI 0 := by rw [a80]; exact b.gI 88 rfl
  have i776 : S.I 776 (ad 80) = nI 0 := by rw [a80]; exact b.gI 87 rfl
  have i778 : S.I 778 (ad 80) = nI 0 := by rw [a80]; exact b.gI 86 rfl
  have i782 : S.I 782 (ad 80) = nI 0 := by rw [a80]; exact b.gI 85 rfl
  have i805 : S.I 805 (ad 80) = nI 0 := by rw [a80]; exact b.gI 84 rfl
  have i816 : S.I 816 (ad 80) = nI 0 := by rw [a80]; exact b.gI 83 rfl
  have i818 : S.I 818 (ad 80) = nI 0 := by rw [a80]; exact b.gI 82 rfl
  have i706 : S.I 706 (ad 1) = nI 0 := by rw [a1]; exact b.gI 219 rfl
  have i708 : S.I 708 (ad 1) = nI 0 := by rw [a1]; exact b.gI 215 rfl
  have i717 : S.I 717 (ad 1) = nI 0 := by rw [a1]; exact b.gI 170 rfl
  have i65 : S.I 65 (ad 15) = nI 0 := by rw [a15]; exact b.gI 159 rfl
  have s0 : S.I 320 (ad 22) = nI 4294967295 := by rw [a22]; exact b.gI 152 rfl
  have t0 : S.I 321 (ad 22) = nI 0 := by rw [a22]; exact b.gI 151 rfl
  have f0 : S.I 384 (ad 30) = nI 2 := by rw [a30]; exact b.gI 116 rfl
  have z0 : ∀ i, S.A (ad 26) i = 0 := by rw [a26]; exact b.gz 149 rfl
  have y0 : S.A (ad 95) 0 = nI 4294967295 := by rw [a95]; exact b.gA 36 rfl
  have w0 : S.A (ad 98) 0 = nI 4294967295 := by rw [a98]; exact b.gA 19 rfl
  have s1 : S.I 320 (ad 23) = nI 4294967295 := by rw [a23]; exact b.gI 143 rfl
  have t1 : S.I 321 (ad 23) = nI 0 := by rw [a23]; exact b.gI 142 rfl
  have f1 : S.I 384 (ad 31) = nI 2 := by rw [a31]; exact b.gI 110 rfl
  have z1 : ∀ i, S.A (ad 27) i = 0 := by rw [a27]; exact b.gz 140 rfl
  have y1 : S.A (ad 95) 1 = nI 4294967295 := by rw [a95]; exact b.gA 35 rfl
  have w1 : S.A (ad 98) 1 = nI 4294967295 := by rw [a98]; exact b.gA 18 rfl
  have s2 : S.I 320 (ad 24) = nI 4294967295 := by rw [a24]; exact b.gI 134 rfl
  have t2 : S.I 321 (ad 24) = nI 0 := by rw [a24]; exact b.gI 133 rfl
  have f2 : S.I 384 (ad 32) = nI 2 := by rw [a32]; exact b.gI 104 rfl
  have z2 : ∀ i, S.A (ad 28) i = 0 := by rw [a28]; exact b.gz 131 rfl
  have y2 : S.A (ad 95) 2 = nI 4294967295 := by rw [a95]; exact b.gA 34 rfl
  have w2 : S.A (ad 98) 2 = nI 4294967295 := by rw [a98]; exact b.gA 17 rfl
  have s3 : S.I 320 (ad 25) = nI 4294967295 := by rw [a25]; exact b.gI 125 rfl
  have t3 : S.I 321 (ad 25) = nI 0 := by rw [a25]; exact b.gI 124 rfl
  have f3 : S.I 384 (ad 33) = nI 2 := by rw [a33]; exact b.gI 98 rfl
  have z3 : ∀ i, S.A (ad 29) i = 0 := by rw [a29]; exact b.gz 122 rfl
  have y3 : S.A (ad 95) 3 = nI 4294967295 := by rw [a95]; exact b.gA 33 rfl
  have w3 : S.A (ad 98) 3 = nI 4294967295 := by rw [a98]; exact b.gA 16 rfl
  have z96 : ∀ i, S.A (ad 96) i = 0 := by rw [a96]; exact b.gz 30 rfl
  have z97 : ∀ i, S.B (ad 97) i = 0 := by rw [a97]; exact b.gB 26 rfl
  have m1 : nI 4294967295 = -1 := by decide
  have m0 : (0 : Int32).toInt64 = 0 := by decide
  refine ⟨ad, a1, a80, sh, ⟨0, 0, 0, 0, 0, 0, ⟨by omega, by omega, by omega, by omega, by omega, by omega⟩, ⟨i640, i641, i642.trans i770.symm, i643.trans i771.symm, i644, i645, i646, i647⟩, ⟨i768, i769, i772, i774, i776, i778⟩, fun i hi => absurd hi (by omega), fun i hi => absurd hi (by omega), fun i hi => absurd hi (by omega), fun i hi => absurd hi (by omega)⟩, Or.inl ⟨i706, i818⟩, ⟨0, by omega, i708, i782, fun k hk => absurd hk (by omega)⟩, ⟨0, by omega, i717, i805, fun k hk => absurd hk (by omega)⟩, fun s hs => ?_, fun s hs => ?_, ⟨0, by omega, i65, i816, fun k hk => absurd hk (by omega)⟩⟩
  · obtain rfl | rfl | rfl | rfl : s = 0 ∨ s = 1 ∨ s = 2 ∨ s = 3 := by omega
    · exact ⟨s0.trans y0.symm, t0.trans (z96 0).symm, Or.inl (y0.trans m1), ⟨0, by omega, z96 0⟩, fun i hi => by rw [z97]; exact (congrArg Int32.toInt64 (z0 i)).trans m0⟩
    · exact ⟨s1.trans y1.symm, t1.trans (z96 1).symm, Or.inl (y1.trans m1), ⟨0, by omega, z96 1⟩, fun i hi => by rw [z97]; exact (congrArg Int32.toInt64 (z1 i)).trans m0⟩
    · exact ⟨s2.trans y2.symm, t2.trans (z96 2).symm, Or.inl (y2.trans m1), ⟨0, by omega, z96 2⟩, fun i hi => by rw [z97]; exact (congrArg Int32.toInt64 (z2 i)).trans m0⟩
    · exact ⟨s3.trans y3.symm, t3.trans (z96 3).symm, Or.inl (y3.trans m1), ⟨0, by omega, z96 3⟩, fun i hi => by rw [z97]; exact (congrArg Int32.toInt64 (z3 i)).trans m0⟩
  · obtain rfl | rfl | rfl | rfl : s = 0 ∨ s = 1 ∨ s = 2 ∨ s = 3 := by omega
    · exact Or.inl ⟨f0, w0.trans m1⟩
    · exact Or.inl ⟨f1, w1.trans m1⟩
    · exact Or.inl ⟨f2, w2.trans m1⟩
    · exact Or.inl ⟨f3, w3.trans m1⟩
