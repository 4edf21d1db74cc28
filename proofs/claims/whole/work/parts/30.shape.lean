-- ===== LEVEL 2: the shape of the pool: names of the objects that are there from the start =====
def kT : List (Nat × Nat) := [(1, 11), (2, 10), (3, 10), (4, 21), (5, 9), (6, 8), (7, 4), (8, 20), (9, 20), (10, 20), (11, 20), (12, 20), (13, 25), (14, 26), (15, 1), (16, 20), (17, 20), (18, 20), (19, 20), (20, 20), (21, 20), (22, 5), (23, 5), (24, 5), (25, 5), (26, 20), (27, 20), (28, 20), (29, 20), (30, 6), (31, 6), (32, 6), (33, 6), (40, 23), (41, 20), (42, 20), (43, 20), (44, 27), (45, 24), (50, 23), (51, 20), (52, 20), (53, 20), (54, 27), (55, 24), (80, 12), (81, 20), (82, 20), (83, 20), (84, 20), (85, 20), (86, 20), (87, 20), (88, 20), (89, 20), (90, 20), (91, 20), (92, 20), (93, 20), (94, 20), (95, 20), (96, 20), (97, 22), (98, 20), (99, 20), (100, 20), (101, 20), (102, 20), (103, 20)]
def lT : List (Nat × Nat) := [(4, 200), (8, 7), (9, 200), (10, 28), (11, 40), (12, 30), (13, 4), (14, 4), (16, 201), (17, 201), (18, 201), (19, 12), (20, 200), (21, 30), (26, 40), (27, 40), (28, 40), (29, 40), (40, 10), (41, 40), (42, 40), (43, 40), (44, 8), (45, 8), (50, 10), (51, 40), (52, 40), (53, 40), (54, 8), (55, 8), (81, 90), (82, 120), (83, 128), (84, 8), (85, 1600), (86, 200), (87, 16), (88, 28), (89, 40), (90, 200), (91, 200), (92, 200), (93, 7), (94, 30), (95, 4), (96, 4), (97, 160), (98, 4), (99, 4), (100, 4), (101, 30), (102, 2000), (103, 8)]
def rT : List (Nat × Nat × Nat) := [(704, 1, 2), (705, 1, 3), (707, 1, 4), (709, 1, 5), (710, 1, 6), (711, 1, 7), (712, 1, 8), (713, 1, 9), (714, 1, 10), (715, 1, 11), (716, 1, 12), (718, 1, 13), (719, 1, 14), (720, 1, 15), (648, 2, 40), (649, 2, 41), (650, 2, 42), (651, 2, 43), (652, 2, 44), (653, 2, 45), (648, 3, 50), (649, 3, 51), (650, 3, 52), (651, 3, 53), (652, 3, 54), (653, 3, 55), (576, 5, 16), (577, 5, 17), (578, 5, 18), (512, 6, 5), (513, 6, 19), (256, 7, 5), (257, 7, 20), (64, 15, 21), (322, 22, 26), (322, 23, 27), (322, 24, 28), (322, 25, 29), (773, 80, 81), (775, 80, 82), (777, 80, 83), (779, 80, 84), (780, 80, 85), (781, 80, 86), (789, 80, 87), (792, 80, 88), (794, 80, 89), (795, 80, 90), (796, 80, 91), (802, 80, 92), (803, 80, 93), (804, 80, 94), (806, 80, 95), (807, 80, 96), (808, 80, 97), (809, 80, 98), (810, 80, 99), (811, 80, 100), (815, 80, 101), (819, 80, 102), (821, 80, 103)]
def Sh (ad : Nat → Nat) (S : PS) : Prop := (∀ e ∈ kT, S.K (ad e.1) = e.2) ∧ (∀ e ∈ lT, S.ln (ad e.1) = e.2) ∧ (∀ e ∈ rT, S.R e.1 (ad e.2.1) = some (ad e.2.2)) ∧ (∀ i, i < 4 → S.Q (ad 13) i = some (ad (22 + i)) ∧ S.Q (ad 14) i = some (ad (30 + i))) ∧ (∀ w i, w < 2 → i < 10 → S.Q (ad (40 + 10 * w)) i = some (ad (60 + 10 * w + i)) ∧ S.K (ad (60 + 10 * w + i)) = 2) ∧ ∀ i j, ad i = ad j → i = j
section
variable {ad : Nat → Nat} {S : PS}
theorem Sh.k1 (h : Sh ad S) : S.K (ad 1) = 11 := h.1 (1, 11) (by decide)
theorem Sh.k2 (h : Sh ad S) : S.K (ad 2) = 10 := h.1 (2, 10) (by decide)
theorem Sh.k3 (h : Sh ad S) : S.K (ad 3) = 10 := h.1 (3, 10) (by decide)
theorem Sh.k4 (h : Sh ad S) : S.K (ad 4) = 21 := h.1 (4, 21) (by decide)
theorem Sh.k5 (h : Sh ad S) : S.K (ad 5) = 9 := h.1 (5, 9) (by decide)
theorem Sh.k6 (h : Sh ad S) : S.K (ad 6) = 8 := h.1 (6, 8) (by decide)
theorem Sh.k7 (h : Sh ad S) : S.K (ad 7) = 4 := h.1 (7, 4) (by decide)
theorem Sh.k8 (h : Sh ad S) : S.K (ad 8) = 20 := h.1 (8, 20) (by decide)
theorem Sh.k9 (h : Sh ad S) : S.K (ad 9) = 20 := h.1 (9, 20) (by decide)
theorem Sh.k10 (h : Sh ad S) : S.K (ad 10) = 20 := h.1 (10, 20) (by decide)
theorem Sh.k11 (h : Sh ad S) : S.K (ad 11) = 20 := h.1 (11, 20) (by decide)
theorem Sh.k12 (h : Sh ad S) : S.K (ad 12) = 20 := h.1 (12, 20) (by decide)
theorem Sh.k13 (h : Sh ad S) : S.K (ad 13) = 25 := h.1 (13, 25) (by decide)
theorem Sh.k14 (h : Sh ad S) : S.K (ad 14) = 26 := h.1 (14, 26) (by decide)
theorem Sh.k15 (h : Sh ad S) : S.K (ad 15) = 1 := h.1 (15, 1) (by decide)
theorem Sh.k16 (h : Sh ad S) : S.K (ad 16) = 20 := h.1 (16, 20) (by decide)
theorem Sh.k17 (h : Sh ad S) : S.K (ad 17) = 20 := h.1 (17, 20) (by decide)
theorem Sh.k18 (h : Sh ad S) : S.K (ad 18) = 20 := h.1 (18, 20) (by decide)
theorem Sh.k19 (h : Sh ad S) : S.K (ad 19) = 20 := h.1 (19, 20) (by decide)
theorem Sh.k20 (h : Sh ad S) : S.K (ad 20) = 20 := h.1 (20, 20) (by decide)
theorem Sh.k21 (h : Sh ad S) : S.K (ad 21) = 20 := h.1 (21, 20) (by decide)
theorem Sh.k22 (h : Sh ad S) : S.K (ad 22) = 5 := h.1 (22, 5) (by decide)
theorem Sh.k23 (h : Sh ad S) : S.K (ad 23) = 5 := h.1 (23, 5) (by decide)
theorem Sh.k24 (h : Sh ad S) : S.K (ad 24) = 5 := h.1 (24, 5) (by decide)
theorem Sh.k25 (h : Sh ad S) : S.K (ad 25) = 5 := h.1 (25, 5) (by decide)
theorem Sh.k26 (h : Sh ad S) : S.K (ad 26) = 20 := h.1 (26, 20) (by decide)
theorem Sh.k27 (h : Sh ad S) : S.K (ad 27) = 20 := h.1 (27, 20) (by decide)
theorem Sh.k28 (h : Sh ad S) : S.K (ad 28) = 20 := h.1 (28, 20) (by decide)
theorem Sh.k29 (h : Sh ad S) : S.K (ad 29) = 20 := h.1 (29, 20) (by decide)
theorem Sh.k30 (h : Sh ad S) : S.K (ad 30) = 6 := h.1 (30, 6) (by decide)
theorem Sh.k31 (h : Sh ad S) : S.K (ad 31) = 6 := h.1 (31, 6) (by decide)
theorem Sh.k32 (h : Sh ad S) : S.K (ad 32) = 6 := h.1 (32, 6) (by decide)
theorem Sh.k33 (h : Sh ad S) : S.K (ad 33) = 6 := h.1 (33, 6) (by decide)
theorem Sh.k40 (h : Sh ad S) : S.K (ad 40) = 23 := h.1 (40, 23) (by decide)
theorem Sh.k41 (h : Sh ad S) : S.K (ad 41) = 20 := h.1 (41, 20) (by decide)
theorem Sh.k42 (h : Sh ad S) : S.K (ad 42) = 20 := h.1 (42, 20) (by decide)
theorem Sh.k43 (h : Sh ad S) : S.K (ad 43) = 20 := h.1 (43, 20) (by decide)
theorem Sh.k44 (h : Sh ad S) : S.K (ad 44) = 27 := h.1 (44, 27) (by decide)
theorem Sh.k45 (h : Sh ad S) : S.K (ad 45) = 24 := h.1 (45, 24) (by decide)
theorem Sh.k50 (h : Sh ad S) : S.K (ad 50) = 23 := h.1 (50, 23) (by decide)
theorem Sh.k51 (h : Sh ad S) : S.K (ad 51) = 20 := h.1 (51, 20) (by decide)
theorem Sh.k52 (h : Sh ad S) : S.K (ad 52) = 20 := h.1 (52, 20) (by decide)
theorem Sh.k53 (h : Sh ad S) : S.K (ad 53) = 20 := h.1 (53, 20) (by decide)
theorem Sh.k54 (h : Sh ad S) : S.K (ad 54) = 27 := h.1 (54, 27) (by decide)
theorem Sh.k55 (h : Sh ad S) : S.K (ad 55) = 24 := h.1 (55, 24) (by decide)
theorem Sh.k80 (h : Sh ad S) : S.K (ad 80) = 12 := h.1 (80, 12) (by decide)
theorem Sh.k81 (h : Sh ad S) : S.K (ad 81) = 20 := h.1 (81, 20) (by decide)
theorem Sh.k82 (h : Sh ad S) : S.K (ad 82) = 20 := h.1 (82, 20) (by decide)
theorem Sh.k83 (h : Sh ad S) : S.K (ad 83) = 20 := h.1 (83, 20) (by decide)
theorem Sh.k84 (h : Sh ad S) : S.K (ad 84) = 20 := h.1 (84, 20) (by decide)
theorem Sh.k85 (h : Sh ad S) : S.K (ad 85) = 20 := h.1 (85, 20) (by decide)
theorem Sh.k86 (h : Sh ad S) : S.K (ad 86) = 20 := h.1 (86, 20) (by decide)
theorem Sh.k87 (h : Sh ad S) : S.K (ad 87) = 20 := h.1 (87, 20) (by decide)
theorem Sh.k88 (h : Sh ad S) : S.K (ad 88) = 20 := h.1 (88, 20) (by decide)
theorem Sh.k89 (h : Sh ad S) : S.K (ad 89) = 20 := h.1 (89, 20) (by decide)
theorem Sh.k90 (h : Sh ad S) : S.K (ad 90) = 20 := h.1 (90, 20) (by decide)
theorem Sh.k91 (h : Sh ad S) : S.K (ad 91) = 20 := h.1 (91, 20) (by decide)
theorem Sh.k92 (h : Sh ad S) : S.K (ad 92) = 20 := h.1 (92, 20) (by decide)
theorem Sh.k93 (h : Sh ad S) : S.K (ad 93) = 20 := h.1 (93, 20) (by decide)
theorem Sh.k94 (h : Sh ad S) : S.K (ad 94) = 20 := h.1 (94, 20) (by decide)
theorem Sh.k95 (h : Sh ad S) : S.K (ad 95) = 20 := h.1 (95, 20) (by decide)
theorem Sh.k96 (h : Sh ad S) : S.K (ad 96) = 20 := h.1 (96, 20) (by decide)
theorem Sh.k97 (h : Sh ad S) : S.K (ad 97) = 22 := h.1 (97, 22) (by decide)
theorem Sh.k98 (h : Sh ad S) : S.K (ad 98) = 20 := h.1 (98, 20) (by decide)
theorem Sh.k99 (h : Sh ad S) : S.K (ad 99) = 20 := h.1 (99, 20) (by decide)
theorem Sh.k100 (h : Sh ad S) : S.K (ad 100) = 20 := h.1 (100, 20) (by decide)
theorem Sh.k101 (h : Sh ad S) : S.K (ad 101) = 20 := h.1 (101, 20) (by decide)
theorem Sh.k102 (h : Sh ad S) : S.K (ad 102) = 20 := h.1 (102, 20) (by decide)
theorem Sh.k103 (h : Sh ad S) : S.K (ad 103) = 20 := h.1 (103, 20) (by decide)
theorem Sh.l4 (h : Sh ad S) : S.ln (ad 4) = 200 := h.2.1 (4, 200) (by decide)
theorem Sh.l8 (h : Sh ad S) : S.ln (ad 8) = 7 := h.2.1 (8, 7) (by decide)
theorem Sh.l9 (h : Sh ad S) : S.ln (ad 9) = 200 := h.2.1 (9, 200) (by decide)
theorem Sh.l10 (h : Sh ad S) : S.ln (ad 10) = 28 := h.2.1 (10, 28) (by decide)
theorem Sh.l11 (h : Sh ad S) : S.ln (ad 11) = 40 := h.2.1 (11, 40) (by decide)
theorem Sh.l12 (h : Sh ad S) : S.ln (ad 12) = 30 := h.2.1 (12, 30) (by decide)
theorem Sh.l13 (h : Sh ad S) : S.ln (ad 13) = 4 := h.2.1 (13, 4) (by decide)
theorem Sh.l14 (h : Sh ad S) : S.ln (ad 14) = 4 := h.2.1 (14, 4) (by decide)
theorem Sh.l16 (h : Sh ad S) : S.ln (ad 16) = 201 := h.2.1 (16, 201) (by decide)
theorem Sh.l17 (h : Sh ad S) : S.ln (ad 17) = 201 := h.2.1 (17, 201) (by decide)
theorem Sh.l18 (h : Sh ad S) : S.ln (ad 18) = 201 := h.2.1 (18, 201) (by decide)
theorem Sh.l19 (h : Sh ad S) : S.ln (ad 19) = 12 := h.2.1 (19, 12) (by decide)
theorem Sh.l20 (h : Sh ad S) : S.ln (ad 20) = 200 := h.2.1 (20, 200) (by decide)
theorem Sh.l21 (h : Sh ad S) : S.ln (ad 21) = 30 := h.2.1 (21, 30) (by decide)
theorem Sh.l26 (h : Sh ad S) : S.ln (ad 26) = 40 := h.2.1 (26, 40) (by decide)
theorem Sh.l27 (h : Sh ad S) : S.ln (ad 27) = 40 := h.2.1 (27, 40) (by decide)
theorem Sh.l28 (h : Sh ad S) : S.ln (ad 28) = 40 := h.2.1 (28, 40) (by decide)
theorem Sh.l29 (h : Sh ad S) : S.ln (ad 29) = 40 := h.2.1 (29, 40) (by decide)
theorem Sh.l40 (h : Sh ad S) : S.ln (ad 40) = 10 := h.2.1 (40, 10) (by decide)
theorem Sh.l41 (h : Sh ad S) : S.ln (ad 41) = 40 := h.2.1 (41, 40) (by decide)
theorem Sh.l42 (h : Sh ad S) : S.ln (ad 42) = 40 := h.2.1 (42, 40) (by decide)
theorem Sh.l43 (h : Sh ad S) : S.ln (ad 43) = 40 := h.2.1 (43, 40) (by decide)
theorem Sh.l44 (h : Sh ad S) : S.ln (ad 44) = 8 := h.2.1 (44, 8) (by decide)
theorem Sh.l45 (h : Sh ad S) : S.ln (ad 45) = 8 := h.2.1 (45, 8) (by decide)
theorem Sh.l50 (h : Sh ad S) : S.ln (ad 50) = 10 := h.2.1 (50, 10) (by decide)
theorem Sh.l51 (h : Sh ad S) : S.ln (ad 51) = 40 := h.2.1 (51, 40) (by decide)
theorem Sh.l52 (h : Sh ad S) : S.ln (ad 52) = 40 := h.2.1 (52, 40) (by decide)
theorem Sh.l53 (h : Sh ad S) : S.ln (ad 53) = 40 := h.2.1 (53, 40) (by decide)
theorem Sh.l54 (h : Sh ad S) : S.ln (ad 54) = 8 := h.2.1 (54, 8) (by decide)
theorem Sh.l55 (h : Sh ad S) : S.ln (ad 55) = 8 := h.2.1 (55, 8) (by decide)
theorem Sh.l81 (h : Sh ad S) : S.ln (ad 81) = 90 := h.2.1 (81, 90) (by decide)
theorem Sh.l82 (h : Sh ad S) : S.ln (ad 82) = 120 := h.2.1 (82, 120) (by decide)
theorem Sh.l83 (h : Sh ad S) : S.ln (ad 83) = 128 := h.2.1 (83, 128) (by decide)
theorem Sh.l84 (h : Sh ad S) : S.ln (ad 84) = 8 := h.2.1 (84, 8) (by decide)
theorem Sh.l85 (h : Sh ad S) : S.ln (ad 85) = 1600 := h.2.1 (85, 1600) (by decide)
theorem Sh.l86 (h : Sh ad S) : S.ln (ad 86) = 200 := h.2.1 (86, 200) (by decide)
theorem Sh.l87 (h : Sh ad S) : S.ln (ad 87) = 16 := h.2.1 (87, 16) (by decide)
theorem Sh.l88 (h : Sh ad S) : S.ln (ad 88) = 28 := h.2.1 (88, 28) (by decide)
theorem Sh.l89 (h : Sh ad S) : S.ln (ad 89) = 40 := h.2.1 (89, 40) (by decide)
theorem Sh.l90 (h : Sh ad S) : S.ln (ad 90) = 200 := h.2.1 (90, 200) (by decide)
theorem Sh.l91 (h : Sh ad S) : S.ln (ad 91) = 200 := h.2.1 (91, 200) (by decide)
theorem Sh.l92 (h : Sh ad S) : S.ln (ad 92) = 200 := h.2.1 (92, 200) (by decide)
theorem Sh.l93 (h : Sh ad S) : S.ln (ad 93) = 7 := h.2.1 (93, 7) (by decide)
theorem Sh.l94 (h : Sh ad S) : S.ln (ad 94) = 30 := h.2.1 (94, 30) (by decide)
theorem Sh.l95 (h : Sh ad S) : S.ln (ad 95) = 4 := h.2.1 (95, 4) (by decide)
theorem Sh.l96 (h : Sh ad S) : S.ln (ad 96) = 4 := h.2.1 (96, 4) (by decide)
theorem Sh.l97 (h : Sh ad S) : S.ln (ad 97) = 160 := h.2.1 (97, 160) (by decide)
theorem Sh.l98 (h : Sh ad S) : S.ln (ad 98) = 4 := h.2.1 (98, 4) (by decide)
theorem Sh.l99 (h : Sh ad S) : S.ln (ad 99) = 4 := h.2.1 (99, 4) (by decide)
theorem Sh.l100 (h : Sh ad S) : S.ln (ad 100) = 4 := h.2.1 (100, 4) (by decide)
theorem Sh.l101 (h : Sh ad S) : S.ln (ad 101) = 30 := h.2.1 (101, 30) (by decide)
theorem Sh.l102 (h : Sh ad S) : S.ln (ad 102) = 2000 := h.2.1 (102, 2000) (by decide)
theorem Sh.l103 (h : Sh ad S) : S.ln (ad 103) = 8 := h.2.1 (103, 8) (by decide)
theorem Sh.r704 (h : Sh ad S) : S.R 704 (ad 1) = some (ad 2) := h.2.2.1 (704, 1, 2) (by decide)
theorem Sh.r705 (h : Sh ad S) : S.R 705 (ad 1) = some (ad 3) := h.2.2.1 (705, 1, 3) (by decide)
theorem Sh.r707 (h : Sh ad S) : S.R 707 (ad 1) = some (ad 4) := h.2.2.1 (707, 1, 4) (by decide)
theorem Sh.r709 (h : Sh ad S) : S.R 709 (ad 1) = some (ad 5) := h.2.2.1 (709, 1, 5) (by decide)
theorem Sh.r710 (h : Sh ad S) : S.R 710 (ad 1) = some (ad 6) := h.2.2.1 (710, 1, 6) (by decide)
theorem Sh.r711 (h : Sh ad S) : S.R 711 (ad 1) = some (ad 7) := h.2.2.1 (711, 1, 7) (by decide)
theorem Sh.r712 (h : Sh ad S) : S.R 712 (ad 1) = some (ad 8) := h.2.2.1 (712, 1, 8) (by decide)
theorem Sh.r713 (h : Sh ad S) : S.R 713 (ad 1) = some (ad 9) := h.2.2.1 (713, 1, 9) (by decide)
theorem Sh.r714 (h : Sh ad S) : S.R 714 (ad 1) = some (ad 10) := h.2.2.1 (714, 1, 10) (by decide)
theorem Sh.r715 (h : Sh ad S) : S.R 715 (ad 1) = some (ad 11) := h.2.2.1 (715, 1, 11) (by decide)
theorem Sh.r716 (h : Sh ad S) : S.R 716 (ad 1) = some (ad 12) := h.2.2.1 (716, 1, 12) (by decide)
theorem Sh.r718 (h : Sh ad S) : S.R 718 (ad 1) = some (ad 13) := h.2.2.1 (718, 1, 13) (by decide)
theorem Sh.r719 (h : Sh ad S) : S.R 719 (ad 1) = some (ad 14) := h.2.2.1 (719, 1, 14) (by decide)
theorem Sh.r720 (h : Sh ad S) : S.R 720 (ad 1) = some (ad 15) := h.2.2.1 (720, 1, 15) (by decide)
theorem Sh.r648_2 (h : Sh ad S) : S.R 648 (ad 2) = some (ad 40) := h.2.2.1 (648, 2, 40) (by decide)
theorem Sh.r649_2 (h : Sh ad S) : S.R 649 (ad 2) = some (ad 41) := h.2.2.1 (649, 2, 41) (by decide)
theorem Sh.r650_2 (h : Sh ad S) : S.R 650 (ad 2) = some (ad 42) := h.2.2.1 (650, 2, 42) (by decide)
theorem Sh.r651_2 (h : Sh ad S) : S.R 651 (ad 2) = some (ad 43) := h.2.2.1 (651, 2, 43) (by decide)
theorem Sh.r652_2 (h : Sh ad S) : S.R 652 (ad 2) = some (ad 44) := h.2.2.1 (652, 2, 44) (by decide)
theorem Sh.r653_2 (h : Sh ad S) : S.R 653 (ad 2) = some (ad 45) := h.2.2.1 (653, 2, 45) (by decide)
theorem Sh.r648_3 (h : Sh ad S) : S.R 648 (ad 3) = some (ad 50) := h.2.2.1 (648, 3, 50) (by decide)
theorem Sh.r649_3 (h : Sh ad S) : S.R 649 (ad 3) = some (ad 51) := h.2.2.1 (649, 3, 51) (by decide)
theorem Sh.r650_3 (h : Sh ad S) : S.R 650 (ad 3) = some (ad 52) := h.2.2.1 (650, 3, 52) (by decide)
theorem Sh.r651_3 (h : Sh ad S) : S.R 651 (ad 3) = some (ad 53) := h.2.2.1 (651, 3, 53) (by decide)
theorem Sh.r652_3 (h : Sh ad S) : S.R 652 (ad 3) = some (ad 54) := h.2.2.1 (652, 3, 54) (by decide)
theorem Sh.r653_3 (h : Sh ad S) : S.R 653 (ad 3) = some (ad 55) := h.2.2.1 (653, 3, 55) (by decide)
theorem Sh.r576 (h : Sh ad S) : S.R 576 (ad 5) = some (ad 16) := h.2.2.1 (576, 5, 16) (by decide)
theorem Sh.r577 (h : Sh ad S) : S.R 577 (ad 5) = some (ad 17) := h.2.2.1 (577, 5, 17) (by decide)
theorem Sh.r578 (h : Sh ad S) : S.R 578 (ad 5) = some (ad 18) := h.2.2.1 (578, 5, 18) (by decide)
theorem Sh.r512 (h : Sh ad S) : S.R 512 (ad 6) = some (ad 5) := h.2.2.1 (512, 6, 5) (by decide)
theorem Sh.r513 (h : Sh ad S) : S.R 513 (ad 6) = some (ad 19) := h.2.2.1 (513, 6, 19) (by decide)
theorem Sh.r256 (h : Sh ad S) : S.R 256 (ad 7) = some (ad 5) := h.2.2.1 (256, 7, 5) (by decide)
theorem Sh.r257 (h : Sh ad S) : S.R 257 (ad 7) = some (ad 20) := h.2.2.1 (257, 7, 20) (by decide)
theorem Sh.r64 (h : Sh ad S) : S.R 64 (ad 15) = some (ad 21) := h.2.2.1 (64, 15, 21) (by decide)
theorem Sh.r322_22 (h : Sh ad S) : S.R 322 (ad 22) = some (ad 26) := h.2.2.1 (322, 22, 26) (by decide)
theorem Sh.r322_23 (h : Sh ad S) : S.R 322 (ad 23) = some (ad 27) := h.2.2.1 (322, 23, 27) (by decide)
theorem Sh.r322_24 (h : Sh ad S) : S.R 322 (ad 24) = some (ad 28) := h.2.2.1 (322, 24, 28) (by decide)
theorem Sh.r322_25 (h : Sh ad S) : S.R 322 (ad 25) = some (ad 29) := h.2.2.1 (322, 25, 29) (by decide)
theorem Sh.r773 (h : Sh ad S) : S.R 773 (ad 80) = some (ad 81) := h.2.2.1 (773, 80, 81) (by decide)
theorem Sh.r775 (h : Sh ad S) : S.R 775 (ad 80) = some (ad 82) := h.2.2.1 (775, 80, 82) (by decide)
theorem Sh.r777 (h : Sh ad S) : S.R 777 (ad 80) = some (ad 83) := h.2.2.1 (777, 80, 83) (by decide)
theorem Sh.r779 (h : Sh ad S) : S.R 779 (ad 80) = some (ad 84) := h.2.2.1 (779, 80, 84) (by decide)
theorem Sh.r780 (h : Sh ad S) : S.R 780 (ad 80) = some (ad 85) := h.2.2.1 (780, 80, 85) (by decide)
theorem Sh.r781 (h : Sh ad S) : S.R 781 (ad 80) = some (ad 86) := h.2.2.1 (781, 80, 86) (by decide)
theorem Sh.r789 (h : Sh ad S) : S.R 789 (ad 80) = some (ad 87) := h.2.2.1 (789, 80, 87) (by decide)
theorem Sh.r792 (h : Sh ad S) : S.R 792 (ad 80) = some (ad 88) := h.2.2.1 (792, 80, 88) (by decide)
theorem Sh.r794 (h : Sh ad S) : S.R 794 (ad 80) = some (ad 89) := h.2.2.1 (794, 80, 89) (by decide)
theorem Sh.r795 (h : Sh ad S) : S.R 795 (ad 80) = some (ad 90) := h.2.2.1 (795, 80, 90) (by decide)
theorem Sh.r796 (h : Sh ad S) : S.R 796 (ad 80) = some (ad 91) := h.2.2.1 (796, 80, 91) (by decide)
theorem Sh.r802 (h : Sh ad S) : S.R 802 (ad 80) = some (ad 92) := h.2.2.1 (802, 80, 92) (by decide)
theorem Sh.r803 (h : Sh ad S) : S.R 803 (ad 80) = some (ad 93) := h.2.2.1 (803, 80, 93) (by decide)
theorem Sh.r804 (h : Sh ad S) : S.R 804 (ad 80) = some (ad 94) := h.2.2.1 (804, 80, 94) (by decide)
theorem Sh.r806 (h : Sh ad S) : S.R 806 (ad 80) = some (ad 95) := h.2.2.1 (806, 80, 95) (by decide)
theorem Sh.r807 (h : Sh ad S) : S.R 807 (ad 80) = some (ad 96) := h.2.2.1 (807, 80, 96) (by decide)
theorem Sh.r808 (h : Sh ad S) : S.R 808 (ad 80) = some (ad 97) := h.2.2.1 (808, 80, 97) (by decide)
theorem Sh.r809 (h : Sh ad S) : S.R 809 (ad 80) = some (ad 98) := h.2.2.1 (809, 80, 98) (by decide)
theorem Sh.r810 (h : Sh ad S) : S.R 810 (ad 80) = some (ad 99) := h.2.2.1 (810, 80, 99) (by decide)
theorem Sh.r811 (h : Sh ad S) : S.R 811 (ad 80) = some (ad 100) := h.2.2.1 (811, 80, 100) (by decide)
theorem Sh.r815 (h : Sh ad S) : S.R 815 (ad 80) = some (ad 101) := h.2.2.1 (815, 80, 101) (by decide)
theorem Sh.r819 (h : Sh ad S) : S.R 819 (ad 80) = some (ad 102) := h.2.2.1 (819, 80, 102) (by decide)
theorem Sh.r821 (h : Sh ad S) : S.R 821 (ad 80) = some (ad 103) := h.2.2.1 (821, 80, 103) (by decide)
theorem Sh.q13 (h : Sh ad S) {i : Nat} (hi : i < 4) : S.Q (ad 13) i = some (ad (22 + i)) := (h.2.2.2.1 i hi).1
theorem Sh.q14 (h : Sh ad S) {i : Nat} (hi : i < 4) : S.Q (ad 14) i = some (ad (30 + i)) := (h.2.2.2.1 i hi).2
theorem Sh.q40 (h : Sh ad S) {i : Nat} (hi : i < 10) : S.Q (ad 40) i = some (ad (60 + i)) := (h.2.2.2.2.1 0 i (by decide) hi).1
theorem Sh.q50 (h : Sh ad S) {i : Nat} (hi : i < 10) : S.Q (ad 50) i = some (ad (70 + i)) := (h.2.2.2.2.1 1 i (by decide) hi).1
theorem Sh.kp (h : Sh ad S) {i : Nat} (hi : i < 10) : S.K (ad (60 + i)) = 2 := (h.2.2.2.2.1 0 i (by decide) hi).2
theorem Sh.kp1 (h : Sh ad S) {i : Nat} (hi : i < 10) : S.K (ad (70 + i)) = 2 := (h.2.2.2.2.1 1 i (by decide) hi).2
theorem Sh.adj (h : Sh ad S) {i j : Nat} : (ad i = ad j) = (i = j) := propext ⟨h.2.2.2.2.2 i j, fun e => by rw [e]⟩
theorem Sh.setI (h : Sh ad S) (g a : Nat) (v : Int32) : Sh ad (S.setI g a v) := h
theorem Sh.setJ (h : Sh ad S) (g a : Nat) (v : Int64) : Sh ad (S.setJ g a v) := h
theorem Sh.setA (h : Sh ad S) (a i : Nat) (v : Int32) : Sh ad (S.setA a i v) := h
theorem Sh.setB (h : Sh ad S) (a i : Nat) (v : Int64) : Sh ad (S.setB a i v) := h
end
theorem setI_K (S : PS) (g a : Nat) (v : Int32) : (S.setI g a v).K = S.K := rfl
theorem setI_ln (S : PS) (g a : Nat) (v : Int32) : (S.setI g a v).ln = S.ln := rfl
theorem setI_R (S : PS) (g a : Nat) (v : Int32) : (S.setI g a v).R = S.R := rfl
theorem setI_Q (S : PS) (g a : Nat) (v : Int32) : (S.setI g a v).Q = S.Q := rfl
theorem setI_I (S : PS) (g a : Nat) (v : Int32) : (S.setI g a v).I = u2 S.I g a v := rfl
theorem setI_J (S : PS) (g a : Nat) (v : Int32) : (S.setI g a v).J = S.J := rfl
theorem setI_A (S : PS) (g a : Nat) (v : Int32) : (S.setI g a v).A = S.A := rfl
theorem setI_B (S : PS) (g a : Nat) (v : Int32) : (S.setI g a v).B = S.B := rfl
theorem setJ_K (S : PS) (g a : Nat) (v : Int64) : (S.setJ g a v).K = S.K := rfl
theorem setJ_ln (S : PS) (g a : Nat) (v : Int64) : (S.setJ g a v).ln = S.ln := rfl
theorem setJ_R (S : PS) (g a : Nat) (v : Int64) : (S.setJ g a v).R = S.R := rfl
theorem setJ_Q (S : PS) (g a : Nat) (v : Int64) : (S.setJ g a v).Q = S.Q := rfl
theorem setJ_I (S : PS) (g a : Nat) (v : Int64) : (S.setJ g a v).I = S.I := rfl
theorem setJ_J (S : PS) (g a : Nat) (v : Int64) : (S.setJ g a v).J = u2 S.J g a v := rfl
theorem setJ_A (S : PS) (g a : Nat) (v : Int64) : (S.setJ g a v).A = S.A := rfl
theorem setJ_B (S : PS) (g a : Nat) (v : Int64) : (S.setJ g a v).B = S.B := rfl
theorem setR_K (S : PS) (g a : Nat) (v : Option Nat) : (S.setR g a v).K = S.K := rfl
theorem setR_ln (S : PS) (g a : Nat) (v : Option Nat) : (S.setR g a v).ln = S.ln := rfl
theorem setR_R (S : PS) (g a : Nat) (v : Option Nat) : (S.setR g a v).R = u2 S.R g a v := rfl
theorem setR_Q (S : PS) (g a : Nat) (v : Option Nat) : (S.setR g a v).Q = S.Q := rfl
theorem setR_I (S : PS) (g a : Nat) (v : Option Nat) : (S.setR g a v).I = S.I := rfl
theorem setR_J (S : PS) (g a : Nat) (v : Option Nat) : (S.setR g a v).J = S.J := rfl
theorem setR_A (S : PS) (g a : Nat) (v : Option Nat) : (S.setR g a v).A = S.A := rfl
theorem setR_B (S : PS) (g a : Nat) (v : Option Nat) : (S.setR g a v).B = S.B := rfl
theorem setA_K (S : PS) (g a : Nat) (v : Int32) : (S.setA g a v).K = S.K := rfl
theorem setA_ln (S : PS) (g a : Nat) (v : Int32) : (S.setA g a v).ln = S.ln := rfl
theorem setA_R (S : PS) (g a : Nat) (v : Int32) : (S.setA g a v).R = S.R := rfl
theorem setA_Q (S : PS) (g a : Nat) (v : Int32) : (S.setA g a v).Q = S.Q := rfl
theorem setA_I (S : PS) (g a : Nat) (v : Int32) : (S.setA g a v).I = S.I := rfl
theorem setA_J (S : PS) (g a : Nat) (v : Int32) : (S.setA g a v).J = S.J := rfl
theorem setA_A (S : PS) (g a : Nat) (v : Int32) : (S.setA g a v).A = u2 S.A g a v := rfl
theorem setA_B (S : PS) (g a : Nat) (v : Int32) : (S.setA g a v).B = S.B := rfl
theorem setB_K (S : PS) (g a : Nat) (v : Int64) : (S.setB g a v).K = S.K := rfl
theorem setB_ln (S : PS) (g a : Nat) (v : Int64) : (S.setB g a v).ln = S.ln := rfl
theorem setB_R (S : PS) (g a : Nat) (v : Int64) : (S.setB g a v).R = S.R := rfl
theorem setB_Q (S : PS) (g a : Nat) (v : Int64) : (S.setB g a v).Q = S.Q := rfl
theorem setB_I (S : PS) (g a : Nat) (v : Int64) : (S.setB g a v).I = S.I := rfl
theorem setB_J (S : PS) (g a : Nat) (v : Int64) : (S.setB g a v).J = S.J := rfl
theorem setB_A (S : PS) (g a : Nat) (v : Int64) : (S.setB g a v).A = S.A := rfl
theorem setB_B (S : PS) (g a : Nat) (v : Int64) : (S.setB g a v).B = u2 S.B g a v := rfl
theorem setQ_K (S : PS) (g a : Nat) (v : Option Nat) : (S.setQ g a v).K = S.K := rfl
theorem setQ_ln (S : PS) (g a : Nat) (v : Option Nat) : (S.setQ g a v).ln = S.ln := rfl
theorem setQ_R (S : PS) (g a : Nat) (v : Option Nat) : (S.setQ g a v).R = S.R := rfl
theorem setQ_Q (S : PS) (g a : Nat) (v : Option Nat) : (S.setQ g a v).Q = u2 S.Q g a v := rfl
theorem setQ_I (S : PS) (g a : Nat) (v : Option Nat) : (S.setQ g a v).I = S.I := rfl
theorem setQ_J (S : PS) (g a : Nat) (v : Option Nat) : (S.setQ g a v).J = S.J := rfl
theorem setQ_A (S : PS) (g a : Nat) (v : Option Nat) : (S.setQ g a v).A = S.A := rfl
theorem setQ_B (S : PS) (g a : Nat) (v : Option Nat) : (S.setQ g a v).B = S.B := rfl
theorem u2_ap {α : Type} (f : Nat → Nat → α) (g a : Nat) (v : α) (x y : Nat) : u2 f g a v x y = if x = g ∧ y = a then v else f x y := rfl
