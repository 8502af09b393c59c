/-! the cells of the two worlds, once they are made -/
abbrev am_K : Type := Nat × (Nat → am_C)
def am_lc : List (Nat × Nat × List Nat) := [(9, 0, [2, 11, 20, 29, 130, 145, 149, 152, 157]), (4, 0, [3, 4, 5, 6, 8]), (11, 5, []), (11, 28, []), (11, 24, []), (1, 0, [7]), (11, 256, []), (0, 0, [9, 10]), (11, 12, []), (11, 12, []), (4, 0, [12, 13, 14, 15, 17]), (11, 5, []), (11, 28, []), (11, 24, []), (1, 0, [16]), (11, 256, []), (0, 0, [18, 19]), (11, 12, []), (11, 12, []), (4, 0, [21, 22, 23, 24, 26]), (11, 5, []), (11, 28, []), (11, 24, []), (1, 0, [25]), (11, 256, []), (0, 0, [27, 28]), (11, 12, []), (11, 12, []), (2, 0, [30]), (13, 11, [31, 40, 49, 58, 67, 76, 85, 94, 103, 112, 121]), (4, 0, [32, 33, 34, 35, 37]), (11, 5, []), (11, 28, []), (11, 24, []), (1, 0, [36]), (11, 256, []), (0, 0, [38, 39]), (11, 12, []), (11, 12, []), (4, 0, [41, 42, 43, 44, 46]), (11, 5, []), (11, 28, []), (11, 24, []), (1, 0, [45]), (11, 256, []), (0, 0, [47, 48]), (11, 12, []), (11, 12, []), (4, 0, [50, 51, 52, 53, 55]), (11, 5, []), (11, 28, []), (11, 24, []), (1, 0, [54]), (11, 256, []), (0, 0, [56, 57]), (11, 12, []), (11, 12, []), (4, 0, [59, 60, 61, 62, 64]), (11, 5, []), (11, 28, []), (11, 24, []), (1, 0, [63]), (11, 256, []), (0, 0, [65, 66]), (11, 12, []), (11, 12, []), (4, 0, [68, 69, 70, 71, 73]), (11, 5, []), (11, 28, []), (11, 24, []), (1, 0, [72]), (11, 256, []), (0, 0, [74, 75]), (11, 12, []), (11, 12, []), (4, 0, [77, 78, 79, 80, 82]), (11, 5, []), (11, 28, []), (11, 24, []), (1, 0, [81]), (11, 256, []), (0, 0, [83, 84]), (11, 12, []), (11, 12, []), (4, 0, [86, 87, 88, 89, 91]), (11, 5, []), (11, 28, []), (11, 24, []), (1, 0, [90]), (11, 256, []), (0, 0, [92, 93]), (11, 12, []), (11, 12, []), (4, 0, [95, 96, 97, 98, 100]), (11, 5, []), (11, 28, []), (11, 24, []), (1, 0, [99]), (11, 256, []), (0, 0, [101, 102]), (11, 12, []), (11, 12, []), (4, 0, [104, 105, 106, 107, 109]), (11, 5, []), (11, 28, []), (11, 24, []), (1, 0, [108]), (11, 256, []), (0, 0, [110, 111]), (11, 12, []), (11, 12, []), (4, 0, [113, 114, 115, 116, 118]), (11, 5, []), (11, 28, []), (11, 24, []), (1, 0, [117]), (11, 256, []), (0, 0, [119, 120]), (11, 12, []), (11, 12, []), (4, 0, [122, 123, 124, 125, 127]), (11, 5, []), (11, 28, []), (11, 24, []), (1, 0, [126]), (11, 256, []), (0, 0, [128, 129]), (11, 12, []), (11, 12, []), (7, 0, [2, 131, 138, 143, 144]), (14, 6, [132, 133, 134, 135, 136, 137]), (11, 200, []), (11, 200, []), (11, 200, []), (11, 200, []), (11, 200, []), (11, 200, []), (14, 4, [139, 140, 141, 142]), (11, 600, []), (11, 600, []), (11, 600, []), (11, 600, []), (11, 600, []), (11, 600, []), (3, 0, [2, 130, 146, 147, 148]), (11, 150, []), (11, 150, []), (11, 601, []), (6, 0, [2, 130, 150, 151]), (11, 300, []), (11, 300, []), (5, 0, [153, 154, 155, 156]), (11, 60, []), (11, 20, []), (11, 20, []), (11, 20, []), (8, 0, [158]), (11, 96, [])]
def am_lr : List (Nat × Nat × List Nat) := [(10, 0, [2, 3, 4, 5, 6, 7, 8, 0, 0, 0, 0, 0, 9, 10, 11, 12, 13, 14, 15, 16, 0, 17, 18, 0, 0, 0, 0, 0, 19, 20, 21, 22]), (11, 470, []), (11, 470, []), (11, 470, []), (11, 4700, []), (11, 4700, []), (11, 470, []), (11, 470, []), (11, 1200, []), (11, 2400, []), (11, 2400, []), (11, 2400, []), (11, 600, []), (12, 2400, []), (11, 8, []), (11, 1200, []), (11, 160, []), (11, 60, []), (11, 60, []), (11, 60, []), (11, 60, []), (11, 100, [])]
def am_cell (l : List (Nat × Nat × List Nat)) (k : Nat) : am_C := ((l.getD k (0, 0, [])).1, (l.getD k (0, 0, [])).2.1, fun j => (l.getD k (0, 0, [])).2.2.getD j 0)
abbrev kC : am_K := (158, am_cell am_lc)
abbrev kR : am_K := (22, am_cell am_lr)

theorem kk0 : (kC.2 0).1 = 9 := by decide +kernel
theorem kn0 : 0 < kC.1 := by decide +kernel
theorem kr0_0 : (kC.2 0).2.2 0 = 1 + 1 := by decide +kernel
theorem kr0_1 : (kC.2 0).2.2 1 = 10 + 1 := by decide +kernel
theorem kr0_2 : (kC.2 0).2.2 2 = 19 + 1 := by decide +kernel
theorem kr0_3 : (kC.2 0).2.2 3 = 28 + 1 := by decide +kernel
theorem kr0_4 : (kC.2 0).2.2 4 = 129 + 1 := by decide +kernel
theorem kr0_5 : (kC.2 0).2.2 5 = 144 + 1 := by decide +kernel
theorem kr0_6 : (kC.2 0).2.2 6 = 148 + 1 := by decide +kernel
theorem kr0_7 : (kC.2 0).2.2 7 = 151 + 1 := by decide +kernel
theorem kr0_8 : (kC.2 0).2.2 8 = 156 + 1 := by decide +kernel
theorem kk1 : (kC.2 1).1 = 4 := by decide +kernel
theorem kn1 : 1 < kC.1 := by decide +kernel
theorem kr1_0 : (kC.2 1).2.2 0 = 2 + 1 := by decide +kernel
theorem kr1_1 : (kC.2 1).2.2 1 = 3 + 1 := by decide +kernel
theorem kr1_2 : (kC.2 1).2.2 2 = 4 + 1 := by decide +kernel
theorem kr1_3 : (kC.2 1).2.2 3 = 5 + 1 := by decide +kernel
theorem kr1_4 : (kC.2 1).2.2 4 = 7 + 1 := by decide +kernel
theorem kk2 : (kC.2 2).1 = 11 := by decide +kernel
theorem kn2 : 2 < kC.1 := by decide +kernel
theorem kl2 : (kC.2 2).2.1 = 5 := by decide +kernel
theorem kk3 : (kC.2 3).1 = 11 := by decide +kernel
theorem kn3 : 3 < kC.1 := by decide +kernel
theorem kl3 : (kC.2 3).2.1 = 28 := by decide +kernel
theorem kk4 : (kC.2 4).1 = 11 := by decide +kernel
theorem kn4 : 4 < kC.1 := by decide +kernel
theorem kl4 : (kC.2 4).2.1 = 24 := by decide +kernel
theorem kk5 : (kC.2 5).1 = 1 := by decide +kernel
theorem kn5 : 5 < kC.1 := by decide +kernel
theorem kr5_0 : (kC.2 5).2.2 0 = 6 + 1 := by decide +kernel
theorem kk6 : (kC.2 6).1 = 11 := by decide +kernel
theorem kn6 : 6 < kC.1 := by decide +kernel
theorem kl6 : (kC.2 6).2.1 = 256 := by decide +kernel
theorem kk7 : (kC.2 7).1 = 0 := by decide +kernel
theorem kn7 : 7 < kC.1 := by decide +kernel
theorem kr7_0 : (kC.2 7).2.2 0 = 8 + 1 := by decide +kernel
theorem kr7_1 : (kC.2 7).2.2 1 = 9 + 1 := by decide +kernel
theorem kk8 : (kC.2 8).1 = 11 := by decide +kernel
theorem kn8 : 8 < kC.1 := by decide +kernel
theorem kl8 : (kC.2 8).2.1 = 12 := by decide +kernel
theorem kk9 : (kC.2 9).1 = 11 := by decide +kernel
theorem kn9 : 9 < kC.1 := by decide +kernel
theorem kl9 : (kC.2 9).2.1 = 12 := by decide +kernel
theorem kk10 : (kC.2 10).1 = 4 := by decide +kernel
theorem kn10 : 10 < kC.1 := by decide +kernel
theorem kr10_0 : (kC.2 10).2.2 0 = 11 + 1 := by decide +kernel
theorem kr10_1 : (kC.2 10).2.2 1 = 12 + 1 := by decide +kernel
theorem kr10_2 : (kC.2 10).2.2 2 = 13 + 1 := by decide +kernel
theorem kr10_3 : (kC.2 10).2.2 3 = 14 + 1 := by decide +kernel
theorem kr10_4 : (kC.2 10).2.2 4 = 16 + 1 := by decide +kernel
theorem kk11 : (kC.2 11).1 = 11 := by decide +kernel
theorem kn11 : 11 < kC.1 := by decide +kernel
theorem kl11 : (kC.2 11).2.1 = 5 := by decide +kernel
theorem kk12 : (kC.2 12).1 = 11 := by decide +kernel
theorem kn12 : 12 < kC.1 := by decide +kernel
theorem kl12 : (kC.2 12).2.1 = 28 := by decide +kernel
theorem kk13 : (kC.2 13).1 = 11 := by decide +kernel
theorem kn13 : 13 < kC.1 := by decide +kernel
theorem kl13 : (kC.2 13).2.1 = 24 := by decide +kernel
theorem kk14 : (kC.2 14).1 = 1 := by decide +kernel
theorem kn14 : 14 < kC.1 := by decide +kernel
theorem kr14_0 : (kC.2 14).2.2 0 = 15 + 1 := by decide +kernel
theorem kk15 : (kC.2 15).1 = 11 := by decide +kernel
theorem kn15 : 15 < kC.1 := by decide +kernel
theorem kl15 : (kC.2 15).2.1 = 256 := by decide +kernel
theorem kk16 : (kC.2 16).1 = 0 := by decide +kernel
theorem kn16 : 16 < kC.1 := by decide +kernel
theorem kr16_0 : (kC.2 16).2.2 0 = 17 + 1 := by decide +kernel
theorem kr16_1 : (kC.2 16).2.2 1 = 18 + 1 := by decide +kernel
theorem kk17 : (kC.2 17).1 = 11 := by decide +kernel
theorem kn17 : 17 < kC.1 := by decide +kernel
theorem kl17 : (kC.2 17).2.1 = 12 := by decide +kernel
theorem kk18 : (kC.2 18).1 = 11 := by decide +kernel
theorem kn18 : 18 < kC.1 := by decide +kernel
theorem kl18 : (kC.2 18).2.1 = 12 := by decide +kernel
theorem kk19 : (kC.2 19).1 = 4 := by decide +kernel
theorem kn19 : 19 < kC.1 := by decide +kernel
theorem kr19_0 : (kC.2 19).2.2 0 = 20 + 1 := by decide +kernel
theorem kr19_1 : (kC.2 19).2.2 1 = 21 + 1 := by decide +kernel
theorem kr19_2 : (kC.2 19).2.2 2 = 22 + 1 := by decide +kernel
theorem kr19_3 : (kC.2 19).2.2 3 = 23 + 1 := by decide +kernel
theorem kr19_4 : (kC.2 19).2.2 4 = 25 + 1 := by decide +kernel
theorem kk20 : (kC.2 20).1 = 11 := by decide +kernel
theorem kn20 : 20 < kC.1 := by decide +kernel
theorem kl20 : (kC.2 20).2.1 = 5 := by decide +kernel
theorem kk21 : (kC.2 21).1 = 11 := by decide +kernel
theorem kn21 : 21 < kC.1 := by decide +kernel
theorem kl21 : (kC.2 21).2.1 = 28 := by decide +kernel
theorem kk22 : (kC.2 22).1 = 11 := by decide +kernel
theorem kn22 : 22 < kC.1 := by decide +kernel
theorem kl22 : (kC.2 22).2.1 = 24 := by decide +kernel
theorem kk23 : (kC.2 23).1 = 1 := by decide +kernel
theorem kn23 : 23 < kC.1 := by decide +kernel
theorem kr23_0 : (kC.2 23).2.2 0 = 24 + 1 := by decide +kernel
theorem kk24 : (kC.2 24).1 = 11 := by decide +kernel
theorem kn24 : 24 < kC.1 := by decide +kernel
theorem kl24 : (kC.2 24).2.1 = 256 := by decide +kernel
theorem kk25 : (kC.2 25).1 = 0 := by decide +kernel
theorem kn25 : 25 < kC.1 := by decide +kernel
theorem kr25_0 : (kC.2 25).2.2 0 = 26 + 1 := by decide +kernel
theorem kr25_1 : (kC.2 25).2.2 1 = 27 + 1 := by decide +kernel
theorem kk26 : (kC.2 26).1 = 11 := by decide +kernel
theorem kn26 : 26 < kC.1 := by decide +kernel
theorem kl26 : (kC.2 26).2.1 = 12 := by decide +kernel
theorem kk27 : (kC.2 27).1 = 11 := by decide +kernel
theorem kn27 : 27 < kC.1 := by decide +kernel
theorem kl27 : (kC.2 27).2.1 = 12 := by decide +kernel
theorem kk28 : (kC.2 28).1 = 2 := by decide +kernel
theorem kn28 : 28 < kC.1 := by decide +kernel
theorem kr28_0 : (kC.2 28).2.2 0 = 29 + 1 := by decide +kernel
theorem kk29 : (kC.2 29).1 = 13 := by decide +kernel
theorem kn29 : 29 < kC.1 := by decide +kernel
theorem kl29 : (kC.2 29).2.1 = 11 := by decide +kernel
theorem kr29_0 : (kC.2 29).2.2 0 = 30 + 1 := by decide +kernel
theorem kr29_1 : (kC.2 29).2.2 1 = 39 + 1 := by decide +kernel
theorem kr29_2 : (kC.2 29).2.2 2 = 48 + 1 := by decide +kernel
theorem kr29_3 : (kC.2 29).2.2 3 = 57 + 1 := by decide +kernel
theorem kr29_4 : (kC.2 29).2.2 4 = 66 + 1 := by decide +kernel
theorem kr29_5 : (kC.2 29).2.2 5 = 75 + 1 := by decide +kernel
theorem kr29_6 : (kC.2 29).2.2 6 = 84 + 1 := by decide +kernel
theorem kr29_7 : (kC.2 29).2.2 7 = 93 + 1 := by decide +kernel
theorem kr29_8 : (kC.2 29).2.2 8 = 102 + 1 := by decide +kernel
theorem kr29_9 : (kC.2 29).2.2 9 = 111 + 1 := by decide +kernel
theorem kr29_10 : (kC.2 29).2.2 10 = 120 + 1 := by decide +kernel
theorem kk30 : (kC.2 30).1 = 4 := by decide +kernel
theorem kn30 : 30 < kC.1 := by decide +kernel
theorem kr30_0 : (kC.2 30).2.2 0 = 31 + 1 := by decide +kernel
theorem kr30_1 : (kC.2 30).2.2 1 = 32 + 1 := by decide +kernel
theorem kr30_2 : (kC.2 30).2.2 2 = 33 + 1 := by decide +kernel
theorem kr30_3 : (kC.2 30).2.2 3 = 34 + 1 := by decide +kernel
theorem kr30_4 : (kC.2 30).2.2 4 = 36 + 1 := by decide +kernel
theorem kk31 : (kC.2 31).1 = 11 := by decide +kernel
theorem kn31 : 31 < kC.1 := by decide +kernel
theorem kl31 : (kC.2 31).2.1 = 5 := by decide +kernel
theorem kk32 : (kC.2 32).1 = 11 := by decide +kernel
theorem kn32 : 32 < kC.1 := by decide +kernel
theorem kl32 : (kC.2 32).2.1 = 28 := by decide +kernel
theorem kk33 : (kC.2 33).1 = 11 := by decide +kernel
theorem kn33 : 33 < kC.1 := by decide +kernel
theorem kl33 : (kC.2 33).2.1 = 24 := by decide +kernel
theorem kk34 : (kC.2 34).1 = 1 := by decide +kernel
theorem kn34 : 34 < kC.1 := by decide +kernel
theorem kr34_0 : (kC.2 34).2.2 0 = 35 + 1 := by decide +kernel
theorem kk35 : (kC.2 35).1 = 11 := by decide +kernel
theorem kn35 : 35 < kC.1 := by decide +kernel
theorem kl35 : (kC.2 35).2.1 = 256 := by decide +kernel
theorem kk36 : (kC.2 36).1 = 0 := by decide +kernel
theorem kn36 : 36 < kC.1 := by decide +kernel
theorem kr36_0 : (kC.2 36).2.2 0 = 37 + 1 := by decide +kernel
theorem kr36_1 : (kC.2 36).2.2 1 = 38 + 1 := by decide +kernel
theorem kk37 : (kC.2 37).1 = 11 := by decide +kernel
theorem kn37 : 37 < kC.1 := by decide +kernel
theorem kl37 : (kC.2 37).2.1 = 12 := by decide +kernel
theorem kk38 : (kC.2 38).1 = 11 := by decide +kernel
theorem kn38 : 38 < kC.1 := by decide +kernel
theorem kl38 : (kC.2 38).2.1 = 12 := by decide +kernel
theorem kk39 : (kC.2 39).1 = 4 := by decide +kernel
theorem kn39 : 39 < kC.1 := by decide +kernel
theorem kr39_0 : (kC.2 39).2.2 0 = 40 + 1 := by decide +kernel
theorem kr39_1 : (kC.2 39).2.2 1 = 41 + 1 := by decide +kernel
theorem kr39_2 : (kC.2 39).2.2 2 = 42 + 1 := by decide +kernel
theorem kr39_3 : (kC.2 39).2.2 3 = 43 + 1 := by decide +kernel
theorem kr39_4 : (kC.2 39).2.2 4 = 45 + 1 := by decide +kernel
theorem kk40 : (kC.2 40).1 = 11 := by decide +kernel
theorem kn40 : 40 < kC.1 := by decide +kernel
theorem kl40 : (kC.2 40).2.1 = 5 := by decide +kernel
theorem kk41 : (kC.2 41).1 = 11 := by decide +kernel
theorem kn41 : 41 < kC.1 := by decide +kernel
theorem kl41 : (kC.2 41).2.1 = 28 := by decide +kernel
theorem kk42 : (kC.2 42).1 = 11 := by decide +kernel
theorem kn42 : 42 < kC.1 := by decide +kernel
theorem kl42 : (kC.2 42).2.1 = 24 := by decide +kernel
theorem kk43 : (kC.2 43).1 = 1 := by decide +kernel
theorem kn43 : 43 < kC.1 := by decide +kernel
theorem kr43_0 : (kC.2 43).2.2 0 = 44 + 1 := by decide +kernel
theorem kk44 : (kC.2 44).1 = 11 := by decide +kernel
theorem kn44 : 44 < kC.1 := by decide +kernel
theorem kl44 : (kC.2 44).2.1 = 256 := by decide +kernel
theorem kk45 : (kC.2 45).1 = 0 := by decide +kernel
theorem kn45 : 45 < kC.1 := by decide +kernel
theorem kr45_0 : (kC.2 45).2.2 0 = 46 + 1 := by decide +kernel
theorem kr45_1 : (kC.2 45).2.2 1 = 47 + 1 := by decide +kernel
theorem kk46 : (kC.2 46).1 = 11 := by decide +kernel
theorem kn46 : 46 < kC.1 := by decide +kernel
theorem kl46 : (kC.2 46).2.1 = 12 := by decide +kernel
theorem kk47 : (kC.2 47).1 = 11 := by decide +kernel
theorem kn47 : 47 < kC.1 := by decide +kernel
theorem kl47 : (kC.2 47).2.1 = 12 := by decide +kernel
theorem kk48 : (kC.2 48).1 = 4 := by decide +kernel
theorem kn48 : 48 < kC.1 := by decide +kernel
theorem kr48_0 : (kC.2 48).2.2 0 = 49 + 1 := by decide +kernel
theorem kr48_1 : (kC.2 48).2.2 1 = 50 + 1 := by decide +kernel
theorem kr48_2 : (kC.2 48).2.2 2 = 51 + 1 := by decide +kernel
theorem kr48_3 : (kC.2 48).2.2 3 = 52 + 1 := by decide +kernel
theorem kr48_4 : (kC.2 48).2.2 4 = 54 + 1 := by decide +kernel
theorem kk49 : (kC.2 49).1 = 11 := by decide +kernel
theorem kn49 : 49 < kC.1 := by decide +kernel
theorem kl49 : (kC.2 49).2.1 = 5 := by decide +kernel
theorem kk50 : (kC.2 50).1 = 11 := by decide +kernel
theorem kn50 : 50 < kC.1 := by decide +kernel
theorem kl50 : (kC.2 50).2.1 = 28 := by decide +kernel
theorem kk51 : (kC.2 51).1 = 11 := by decide +kernel
theorem kn51 : 51 < kC.1 := by decide +kernel
theorem kl51 : (kC.2 51).2.1 = 24 := by decide +kernel
theorem kk52 : (kC.2 52).1 = 1 := by decide +kernel
theorem kn52 : 52 < kC.1 := by decide +kernel
theorem kr52_0 : (kC.2 52).2.2 0 = 53 + 1 := by decide +kernel
theorem kk53 : (kC.2 53).1 = 11 := by decide +kernel
theorem kn53 : 53 < kC.1 := by decide +kernel
theorem kl53 : (kC.2 53).2.1 = 256 := by decide +kernel
theorem kk54 : (kC.2 54).1 = 0 := by decide +kernel
theorem kn54 : 54 < kC.1 := by decide +kernel
theorem kr54_0 : (kC.2 54).2.2 0 = 55 + 1 := by decide +kernel
theorem kr54_1 : (kC.2 54).2.2 1 = 56 + 1 := by decide +kernel
theorem kk55 : (kC.2 55).1 = 11 := by decide +kernel
theorem kn55 : 55 < kC.1 := by decide +kernel
theorem kl55 : (kC.2 55).2.1 = 12 := by decide +kernel
theorem kk56 : (kC.2 56).1 = 11 := by decide +kernel
theorem kn56 : 56 < kC.1 := by decide +kernel
theorem kl56 : (kC.2 56).2.1 = 12 := by decide +kernel
theorem kk57 : (kC.2 57).1 = 4 := by decide +kernel
theorem kn57 : 57 < kC.1 := by decide +kernel
theorem kr57_0 : (kC.2 57).2.2 0 = 58 + 1 := by decide +kernel
theorem kr57_1 : (kC.2 57).2.2 1 = 59 + 1 := by decide +kernel
theorem kr57_2 : (kC.2 57).2.2 2 = 60 + 1 := by decide +kernel
theorem kr57_3 : (kC.2 57).2.2 3 = 61 + 1 := by decide +kernel
theorem kr57_4 : (kC.2 57).2.2 4 = 63 + 1 := by decide +kernel
theorem kk58 : (kC.2 58).1 = 11 := by decide +kernel
theorem kn58 : 58 < kC.1 := by decide +kernel
theorem kl58 : (kC.2 58).2.1 = 5 := by decide +kernel
theorem kk59 : (kC.2 59).1 = 11 := by decide +kernel
theorem kn59 : 59 < kC.1 := by decide +kernel
theorem kl59 : (kC.2 59).2.1 = 28 := by decide +kernel
theorem kk60 : (kC.2 60).1 = 11 := by decide +kernel
theorem kn60 : 60 < kC.1 := by decide +kernel
theorem kl60 : (kC.2 60).2.1 = 24 := by decide +kernel
theorem kk61 : (kC.2 61).1 = 1 := by decide +kernel
theorem kn61 : 61 < kC.1 := by decide +kernel
theorem kr61_0 : (kC.2 61).2.2 0 = 62 + 1 := by decide +kernel
theorem kk62 : (kC.2 62).1 = 11 := by decide +kernel
theorem kn62 : 62 < kC.1 := by decide +kernel
theorem kl62 : (kC.2 62).2.1 = 256 := by decide +kernel
theorem kk63 : (kC.2 63).1 = 0 := by decide +kernel
theorem kn63 : 63 < kC.1 := by decide +kernel
theorem kr63_0 : (kC.2 63).2.2 0 = 64 + 1 := by decide +kernel
theorem kr63_1 : (kC.2 63).2.2 1 = 65 + 1 := by decide +kernel
theorem kk64 : (kC.2 64).1 = 11 := by decide +kernel
theorem kn64 : 64 < kC.1 := by decide +kernel
theorem kl64 : (kC.2 64).2.1 = 12 := by decide +kernel
theorem kk65 : (kC.2 65).1 = 11 := by decide +kernel
theorem kn65 : 65 < kC.1 := by decide +kernel
theorem kl65 : (kC.2 65).2.1 = 12 := by decide +kernel
theorem kk66 : (kC.2 66).1 = 4 := by decide +kernel
theorem kn66 : 66 < kC.1 := by decide +kernel
theorem kr66_0 : (kC.2 66).2.2 0 = 67 + 1 := by decide +kernel
theorem kr66_1 : (kC.2 66).2.2 1 = 68 + 1 := by decide +kernel
theorem kr66_2 : (kC.2 66).2.2 2 = 69 + 1 := by decide +kernel
theorem kr66_3 : (kC.2 66).2.2 3 = 70 + 1 := by decide +kernel
theorem kr66_4 : (kC.2 66).2.2 4 = 72 + 1 := by decide +kernel
theorem kk67 : (kC.2 67).1 = 11 := by decide +kernel
theorem kn67 : 67 < kC.1 := by decide +kernel
theorem kl67 : (kC.2 67).2.1 = 5 := by decide +kernel
theorem kk68 : (kC.2 68).1 = 11 := by decide +kernel
theorem kn68 : 68 < kC.1 := by decide +kernel
theorem kl68 : (kC.2 68).2.1 = 28 := by decide +kernel
theorem kk69 : (kC.2 69).1 = 11 := by decide +kernel
theorem kn69 : 69 < kC.1 := by decide +kernel
theorem kl69 : (kC.2 69).2.1 = 24 := by decide +kernel
theorem kk70 : (kC.2 70).1 = 1 := by decide +kernel
theorem kn70 : 70 < kC.1 := by decide +kernel
theorem kr70_0 : (kC.2 70).2.2 0 = 71 + 1 := by decide +kernel
theorem kk71 : (kC.2 71).1 = 11 := by decide +kernel
theorem kn71 : 71 < kC.1 := by decide +kernel
theorem kl71 : (kC.2 71).2.1 = 256 := by decide +kernel
theorem kk72 : (kC.2 72).1 = 0 := by decide +kernel
theorem kn72 : 72 < kC.1 := by decide +kernel
theorem kr72_0 : (kC.2 72).2.2 0 = 73 + 1 := by decide +kernel
theorem kr72_1 : (kC.2 72).2.2 1 = 74 + 1 := by decide +kernel
theorem kk73 : (kC.2 73).1 = 11 := by decide +kernel
theorem kn73 : 73 < kC.1 := by decide +kernel
theorem kl73 : (kC.2 73).2.1 = 12 := by decide +kernel
theorem kk74 : (kC.2 74).1 = 11 := by decide +kernel
theorem kn74 : 74 < kC.1 := by decide +kernel
theorem kl74 : (kC.2 74).2.1 = 12 := by decide +kernel
theorem kk75 : (kC.2 75).1 = 4 := by decide +kernel
theorem kn75 : 75 < kC.1 := by decide +kernel
theorem kr75_0 : (kC.2 75).2.2 0 = 76 + 1 := by decide +kernel
theorem kr75_1 : (kC.2 75).2.2 1 = 77 + 1 := by decide +kernel
theorem kr75_2 : (kC.2 75).2.2 2 = 78 + 1 := by decide +kernel
theorem kr75_3 : (kC.2 75).2.2 3 = 79 + 1 := by decide +kernel
theorem kr75_4 : (kC.2 75).2.2 4 = 81 + 1 := by decide +kernel
theorem kk76 : (kC.2 76).1 = 11 := by decide +kernel
theorem kn76 : 76 < kC.1 := by decide +kernel
theorem kl76 : (kC.2 76).2.1 = 5 := by decide +kernel
theorem kk77 : (kC.2 77).1 = 11 := by decide +kernel
theorem kn77 : 77 < kC.1 := by decide +kernel
theorem kl77 : (kC.2 77).2.1 = 28 := by decide +kernel
theorem kk78 : (kC.2 78).1 = 11 := by decide +kernel
theorem kn78 : 78 < kC.1 := by decide +kernel
theorem kl78 : (kC.2 78).2.1 = 24 := by decide +kernel
theorem kk79 : (kC.2 79).1 = 1 := by decide +kernel
theorem kn79 : 79 < kC.1 := by decide +kernel
theorem kr79_0 : (kC.2 79).2.2 0 = 80 + 1 := by decide +kernel
theorem kk80 : (kC.2 80).1 = 11 := by decide +kernel
theorem kn80 : 80 < kC.1 := by decide +kernel
theorem kl80 : (kC.2 80).2.1 = 256 := by decide +kernel
theorem kk81 : (kC.2 81).1 = 0 := by decide +kernel
theorem kn81 : 81 < kC.1 := by decide +kernel
theorem kr81_0 : (kC.2 81).2.2 0 = 82 + 1 := by decide +kernel
theorem kr81_1 : (kC.2 81).2.2 1 = 83 + 1 := by decide +kernel
theorem kk82 : (kC.2 82).1 = 11 := by decide +kernel
theorem kn82 : 82 < kC.1 := by decide +kernel
theorem kl82 : (kC.2 82).2.1 = 12 := by decide +kernel
theorem kk83 : (kC.2 83).1 = 11 := by decide +kernel
theorem kn83 : 83 < kC.1 := by decide +kernel
theorem kl83 : (kC.2 83).2.1 = 12 := by decide +kernel
theorem kk84 : (kC.2 84).1 = 4 := by decide +kernel
theorem kn84 : 84 < kC.1 := by decide +kernel
theorem kr84_0 : (kC.2 84).2.2 0 = 85 + 1 := by decide +kernel
theorem kr84_1 : (kC.2 84).2.2 1 = 86 + 1 := by decide +kernel
theorem kr84_2 : (kC.2 84).2.2 2 = 87 + 1 := by decide +kernel
theorem kr84_3 : (kC.2 84).2.2 3 = 88 + 1 := by decide +kernel
theorem kr84_4 : (kC.2 84).2.2 4 = 90 + 1 := by decide +kernel
theorem kk85 : (kC.2 85).1 = 11 := by decide +kernel
theorem kn85 : 85 < kC.1 := by decide +kernel
theorem kl85 : (kC.2 85).2.1 = 5 := by decide +kernel
theorem kk86 : (kC.2 86).1 = 11 := by decide +kernel
theorem kn86 : 86 < kC.1 := by decide +kernel
theorem kl86 : (kC.2 86).2.1 = 28 := by decide +kernel
theorem kk87 : (kC.2 87).1 = 11 := by decide +kernel
theorem kn87 : 87 < kC.1 := by decide +kernel
theorem kl87 : (kC.2 87).2.1 = 24 := by decide +kernel
theorem kk88 : (kC.2 88).1 = 1 := by decide +kernel
theorem kn88 : 88 < kC.1 := by decide +kernel
theorem kr88_0 : (kC.2 88).2.2 0 = 89 + 1 := by decide +kernel
theorem kk89 : (kC.2 89).1 = 11 := by decide +kernel
theorem kn89 : 89 < kC.1 := by decide +kernel
theorem kl89 : (kC.2 89).2.1 = 256 := by decide +kernel
theorem kk90 : (kC.2 90).1 = 0 := by decide +kernel
theorem kn90 : 90 < kC.1 := by decide +kernel
theorem kr90_0 : (kC.2 90).2.2 0 = 91 + 1 := by decide +kernel
theorem kr90_1 : (kC.2 90).2.2 1 = 92 + 1 := by decide +kernel
theorem kk91 : (kC.2 91).1 = 11 := by decide +kernel
theorem kn91 : 91 < kC.1 := by decide +kernel
theorem kl91 : (kC.2 91).2.1 = 12 := by decide +kernel
theorem kk92 : (kC.2 92).1 = 11 := by decide +kernel
theorem kn92 : 92 < kC.1 := by decide +kernel
theorem kl92 : (kC.2 92).2.1 = 12 := by decide +kernel
theorem kk93 : (kC.2 93).1 = 4 := by decide +kernel
theorem kn93 : 93 < kC.1 := by decide +kernel
theorem kr93_0 : (kC.2 93).2.2 0 = 94 + 1 := by decide +kernel
theorem kr93_1 : (kC.2 93).2.2 1 = 95 + 1 := by decide +kernel
theorem kr93_2 : (kC.2 93).2.2 2 = 96 + 1 := by decide +kernel
theorem kr93_3 : (kC.2 93).2.2 3 = 97 + 1 := by decide +kernel
theorem kr93_4 : (kC.2 93).2.2 4 = 99 + 1 := by decide +kernel
theorem kk94 : (kC.2 94).1 = 11 := by decide +kernel
theorem kn94 : 94 < kC.1 := by decide +kernel
theorem kl94 : (kC.2 94).2.1 = 5 := by decide +kernel
theorem kk95 : (kC.2 95).1 = 11 := by decide +kernel
theorem kn95 : 95 < kC.1 := by decide +kernel
theorem kl95 : (kC.2 95).2.1 = 28 := by decide +kernel
theorem kk96 : (kC.2 96).1 = 11 := by decide +kernel
theorem kn96 : 96 < kC.1 := by decide +kernel
theorem kl96 : (kC.2 96).2.1 = 24 := by decide +kernel
theorem kk97 : (kC.2 97).1 = 1 := by decide +kernel
theorem kn97 : 97 < kC.1 := by decide +kernel
theorem kr97_0 : (kC.2 97).2.2 0 = 98 + 1 := by decide +kernel
theorem kk98 : (kC.2 98).1 = 11 := by decide +kernel
theorem kn98 : 98 < kC.1 := by decide +kernel
theorem kl98 : (kC.2 98).2.1 = 256 := by decide +kernel
theorem kk99 : (kC.2 99).1 = 0 := by decide +kernel
theorem kn99 : 99 < kC.1 := by decide +kernel
theorem kr99_0 : (kC.2 99).2.2 0 = 100 + 1 := by decide +kernel
theorem kr99_1 : (kC.2 99).2.2 1 = 101 + 1 := by decide +kernel
theorem kk100 : (kC.2 100).1 = 11 := by decide +kernel
theorem kn100 : 100 < kC.1 := by decide +kernel
theorem kl100 : (kC.2 100).2.1 = 12 := by decide +kernel
theorem kk101 : (kC.2 101).1 = 11 := by decide +kernel
theorem kn101 : 101 < kC.1 := by decide +kernel
theorem kl101 : (kC.2 101).2.1 = 12 := by decide +kernel
theorem kk102 : (kC.2 102).1 = 4 := by decide +kernel
theorem kn102 : 102 < kC.1 := by decide +kernel
theorem kr102_0 : (kC.2 102).2.2 0 = 103 + 1 := by decide +kernel
theorem kr102_1 : (kC.2 102).2.2 1 = 104 + 1 := by decide +kernel
theorem kr102_2 : (kC.2 102).2.2 2 = 105 + 1 := by decide +kernel
theorem kr102_3 : (kC.2 102).2.2 3 = 106 + 1 := by decide +kernel
theorem kr102_4 : (kC.2 102).2.2 4 = 108 + 1 := by decide +kernel
theorem kk103 : (kC.2 103).1 = 11 := by decide +kernel
theorem kn103 : 103 < kC.1 := by decide +kernel
theorem kl103 : (kC.2 103).2.1 = 5 := by decide +kernel
theorem kk104 : (kC.2 104).1 = 11 := by decide +kernel
theorem kn104 : 104 < kC.1 := by decide +kernel
theorem kl104 : (kC.2 104).2.1 = 28 := by decide +kernel
theorem kk105 : (kC.2 105).1 = 11 := by decide +kernel
theorem kn105 : 105 < kC.1 := by decide +kernel
theorem kl105 : (kC.2 105).2.1 = 24 := by decide +kernel
theorem kk106 : (kC.2 106).1 = 1 := by decide +kernel
theorem kn106 : 106 < kC.1 := by decide +kernel
theorem kr106_0 : (kC.2 106).2.2 0 = 107 + 1 := by decide +kernel
theorem kk107 : (kC.2 107).1 = 11 := by decide +kernel
theorem kn107 : 107 < kC.1 := by decide +kernel
theorem kl107 : (kC.2 107).2.1 = 256 := by decide +kernel
theorem kk108 : (kC.2 108).1 = 0 := by decide +kernel
theorem kn108 : 108 < kC.1 := by decide +kernel
theorem kr108_0 : (kC.2 108).2.2 0 = 109 + 1 := by decide +kernel
theorem kr108_1 : (kC.2 108).2.2 1 = 110 + 1 := by decide +kernel
theorem kk109 : (kC.2 109).1 = 11 := by decide +kernel
theorem kn109 : 109 < kC.1 := by decide +kernel
theorem kl109 : (kC.2 109).2.1 = 12 := by decide +kernel
theorem kk110 : (kC.2 110).1 = 11 := by decide +kernel
theorem kn110 : 110 < kC.1 := by decide +kernel
theorem kl110 : (kC.2 110).2.1 = 12 := by decide +kernel
theorem kk111 : (kC.2 111).1 = 4 := by decide +kernel
theorem kn111 : 111 < kC.1 := by decide +kernel
theorem kr111_0 : (kC.2 111).2.2 0 = 112 + 1 := by decide +kernel
theorem kr111_1 : (kC.2 111).2.2 1 = 113 + 1 := by decide +kernel
theorem kr111_2 : (kC.2 111).2.2 2 = 114 + 1 := by decide +kernel
theorem kr111_3 : (kC.2 111).2.2 3 = 115 + 1 := by decide +kernel
theorem kr111_4 : (kC.2 111).2.2 4 = 117 + 1 := by decide +kernel
theorem kk112 : (kC.2 112).1 = 11 := by decide +kernel
theorem kn112 : 112 < kC.1 := by decide +kernel
theorem kl112 : (kC.2 112).2.1 = 5 := by decide +kernel
theorem kk113 : (kC.2 113).1 = 11 := by decide +kernel
theorem kn113 : 113 < kC.1 := by decide +kernel
theorem kl113 : (kC.2 113).2.1 = 28 := by decide +kernel
theorem kk114 : (kC.2 114).1 = 11 := by decide +kernel
theorem kn114 : 114 < kC.1 := by decide +kernel
theorem kl114 : (kC.2 114).2.1 = 24 := by decide +kernel
theorem kk115 : (kC.2 115).1 = 1 := by decide +kernel
theorem kn115 : 115 < kC.1 := by decide +kernel
theorem kr115_0 : (kC.2 115).2.2 0 = 116 + 1 := by decide +kernel
theorem kk116 : (kC.2 116).1 = 11 := by decide +kernel
theorem kn116 : 116 < kC.1 := by decide +kernel
theorem kl116 : (kC.2 116).2.1 = 256 := by decide +kernel
theorem kk117 : (kC.2 117).1 = 0 := by decide +kernel
theorem kn117 : 117 < kC.1 := by decide +kernel
theorem kr117_0 : (kC.2 117).2.2 0 = 118 + 1 := by decide +kernel
theorem kr117_1 : (kC.2 117).2.2 1 = 119 + 1 := by decide +kernel
theorem kk118 : (kC.2 118).1 = 11 := by decide +kernel
theorem kn118 : 118 < kC.1 := by decide +kernel
theorem kl118 : (kC.2 118).2.1 = 12 := by decide +kernel
theorem kk119 : (kC.2 119).1 = 11 := by decide +kernel
theorem kn119 : 119 < kC.1 := by decide +kernel
theorem kl119 : (kC.2 119).2.1 = 12 := by decide +kernel
theorem kk120 : (kC.2 120).1 = 4 := by decide +kernel
theorem kn120 : 120 < kC.1 := by decide +kernel
theorem kr120_0 : (kC.2 120).2.2 0 = 121 + 1 := by decide +kernel
theorem kr120_1 : (kC.2 120).2.2 1 = 122 + 1 := by decide +kernel
theorem kr120_2 : (kC.2 120).2.2 2 = 123 + 1 := by decide +kernel
theorem kr120_3 : (kC.2 120).2.2 3 = 124 + 1 := by decide +kernel
theorem kr120_4 : (kC.2 120).2.2 4 = 126 + 1 := by decide +kernel
theorem kk121 : (kC.2 121).1 = 11 := by decide +kernel
theorem kn121 : 121 < kC.1 := by decide +kernel
theorem kl121 : (kC.2 121).2.1 = 5 := by decide +kernel
theorem kk122 : (kC.2 122).1 = 11 := by decide +kernel
theorem kn122 : 122 < kC.1 := by decide +kernel
theorem kl122 : (kC.2 122).2.1 = 28 := by decide +kernel
theorem kk123 : (kC.2 123).1 = 11 := by decide +kernel
theorem kn123 : 123 < kC.1 := by decide +kernel
theorem kl123 : (kC.2 123).2.1 = 24 := by decide +kernel
theorem kk124 : (kC.2 124).1 = 1 := by decide +kernel
theorem kn124 : 124 < kC.1 := by decide +kernel
theorem kr124_0 : (kC.2 124).2.2 0 = 125 + 1 := by decide +kernel
theorem kk125 : (kC.2 125).1 = 11 := by decide +kernel
theorem kn125 : 125 < kC.1 := by decide +kernel
theorem kl125 : (kC.2 125).2.1 = 256 := by decide +kernel
theorem kk126 : (kC.2 126).1 = 0 := by decide +kernel
theorem kn126 : 126 < kC.1 := by decide +kernel
theorem kr126_0 : (kC.2 126).2.2 0 = 127 + 1 := by decide +kernel
theorem kr126_1 : (kC.2 126).2.2 1 = 128 + 1 := by decide +kernel
theorem kk127 : (kC.2 127).1 = 11 := by decide +kernel
theorem kn127 : 127 < kC.1 := by decide +kernel
theorem kl127 : (kC.2 127).2.1 = 12 := by decide +kernel
theorem kk128 : (kC.2 128).1 = 11 := by decide +kernel
theorem kn128 : 128 < kC.1 := by decide +kernel
theorem kl128 : (kC.2 128).2.1 = 12 := by decide +kernel
theorem kk129 : (kC.2 129).1 = 7 := by decide +kernel
theorem kn129 : 129 < kC.1 := by decide +kernel
theorem kr129_0 : (kC.2 129).2.2 0 = 1 + 1 := by decide +kernel
theorem kr129_1 : (kC.2 129).2.2 1 = 130 + 1 := by decide +kernel
theorem kr129_2 : (kC.2 129).2.2 2 = 137 + 1 := by decide +kernel
theorem kr129_3 : (kC.2 129).2.2 3 = 142 + 1 := by decide +kernel
theorem kr129_4 : (kC.2 129).2.2 4 = 143 + 1 := by decide +kernel
theorem kk130 : (kC.2 130).1 = 14 := by decide +kernel
theorem kn130 : 130 < kC.1 := by decide +kernel
theorem kl130 : (kC.2 130).2.1 = 6 := by decide +kernel
theorem kr130_0 : (kC.2 130).2.2 0 = 131 + 1 := by decide +kernel
theorem kr130_1 : (kC.2 130).2.2 1 = 132 + 1 := by decide +kernel
theorem kr130_2 : (kC.2 130).2.2 2 = 133 + 1 := by decide +kernel
theorem kr130_3 : (kC.2 130).2.2 3 = 134 + 1 := by decide +kernel
theorem kr130_4 : (kC.2 130).2.2 4 = 135 + 1 := by decide +kernel
theorem kr130_5 : (kC.2 130).2.2 5 = 136 + 1 := by decide +kernel
theorem kk131 : (kC.2 131).1 = 11 := by decide +kernel
theorem kn131 : 131 < kC.1 := by decide +kernel
theorem kl131 : (kC.2 131).2.1 = 200 := by decide +kernel
theorem kk132 : (kC.2 132).1 = 11 := by decide +kernel
theorem kn132 : 132 < kC.1 := by decide +kernel
theorem kl132 : (kC.2 132).2.1 = 200 := by decide +kernel
theorem kk133 : (kC.2 133).1 = 11 := by decide +kernel
theorem kn133 : 133 < kC.1 := by decide +kernel
theorem kl133 : (kC.2 133).2.1 = 200 := by decide +kernel
theorem kk134 : (kC.2 134).1 = 11 := by decide +kernel
theorem kn134 : 134 < kC.1 := by decide +kernel
theorem kl134 : (kC.2 134).2.1 = 200 := by decide +kernel
theorem kk135 : (kC.2 135).1 = 11 := by decide +kernel
theorem kn135 : 135 < kC.1 := by decide +kernel
theorem kl135 : (kC.2 135).2.1 = 200 := by decide +kernel
theorem kk136 : (kC.2 136).1 = 11 := by decide +kernel
theorem kn136 : 136 < kC.1 := by decide +kernel
theorem kl136 : (kC.2 136).2.1 = 200 := by decide +kernel
theorem kk137 : (kC.2 137).1 = 14 := by decide +kernel
theorem kn137 : 137 < kC.1 := by decide +kernel
theorem kl137 : (kC.2 137).2.1 = 4 := by decide +kernel
theorem kr137_0 : (kC.2 137).2.2 0 = 138 + 1 := by decide +kernel
theorem kr137_1 : (kC.2 137).2.2 1 = 139 + 1 := by decide +kernel
theorem kr137_2 : (kC.2 137).2.2 2 = 140 + 1 := by decide +kernel
theorem kr137_3 : (kC.2 137).2.2 3 = 141 + 1 := by decide +kernel
theorem kk138 : (kC.2 138).1 = 11 := by decide +kernel
theorem kn138 : 138 < kC.1 := by decide +kernel
theorem kl138 : (kC.2 138).2.1 = 600 := by decide +kernel
theorem kk139 : (kC.2 139).1 = 11 := by decide +kernel
theorem kn139 : 139 < kC.1 := by decide +kernel
theorem kl139 : (kC.2 139).2.1 = 600 := by decide +kernel
theorem kk140 : (kC.2 140).1 = 11 := by decide +kernel
theorem kn140 : 140 < kC.1 := by decide +kernel
theorem kl140 : (kC.2 140).2.1 = 600 := by decide +kernel
theorem kk141 : (kC.2 141).1 = 11 := by decide +kernel
theorem kn141 : 141 < kC.1 := by decide +kernel
theorem kl141 : (kC.2 141).2.1 = 600 := by decide +kernel
theorem kk142 : (kC.2 142).1 = 11 := by decide +kernel
theorem kn142 : 142 < kC.1 := by decide +kernel
theorem kl142 : (kC.2 142).2.1 = 600 := by decide +kernel
theorem kk143 : (kC.2 143).1 = 11 := by decide +kernel
theorem kn143 : 143 < kC.1 := by decide +kernel
theorem kl143 : (kC.2 143).2.1 = 600 := by decide +kernel
theorem kk144 : (kC.2 144).1 = 3 := by decide +kernel
theorem kn144 : 144 < kC.1 := by decide +kernel
theorem kr144_0 : (kC.2 144).2.2 0 = 1 + 1 := by decide +kernel
theorem kr144_1 : (kC.2 144).2.2 1 = 129 + 1 := by decide +kernel
theorem kr144_2 : (kC.2 144).2.2 2 = 145 + 1 := by decide +kernel
theorem kr144_3 : (kC.2 144).2.2 3 = 146 + 1 := by decide +kernel
theorem kr144_4 : (kC.2 144).2.2 4 = 147 + 1 := by decide +kernel
theorem kk145 : (kC.2 145).1 = 11 := by decide +kernel
theorem kn145 : 145 < kC.1 := by decide +kernel
theorem kl145 : (kC.2 145).2.1 = 150 := by decide +kernel
theorem kk146 : (kC.2 146).1 = 11 := by decide +kernel
theorem kn146 : 146 < kC.1 := by decide +kernel
theorem kl146 : (kC.2 146).2.1 = 150 := by decide +kernel
theorem kk147 : (kC.2 147).1 = 11 := by decide +kernel
theorem kn147 : 147 < kC.1 := by decide +kernel
theorem kl147 : (kC.2 147).2.1 = 601 := by decide +kernel
theorem kk148 : (kC.2 148).1 = 6 := by decide +kernel
theorem kn148 : 148 < kC.1 := by decide +kernel
theorem kr148_0 : (kC.2 148).2.2 0 = 1 + 1 := by decide +kernel
theorem kr148_1 : (kC.2 148).2.2 1 = 129 + 1 := by decide +kernel
theorem kr148_2 : (kC.2 148).2.2 2 = 149 + 1 := by decide +kernel
theorem kr148_3 : (kC.2 148).2.2 3 = 150 + 1 := by decide +kernel
theorem kk149 : (kC.2 149).1 = 11 := by decide +kernel
theorem kn149 : 149 < kC.1 := by decide +kernel
theorem kl149 : (kC.2 149).2.1 = 300 := by decide +kernel
theorem kk150 : (kC.2 150).1 = 11 := by decide +kernel
theorem kn150 : 150 < kC.1 := by decide +kernel
theorem kl150 : (kC.2 150).2.1 = 300 := by decide +kernel
theorem kk151 : (kC.2 151).1 = 5 := by decide +kernel
theorem kn151 : 151 < kC.1 := by decide +kernel
theorem kr151_0 : (kC.2 151).2.2 0 = 152 + 1 := by decide +kernel
theorem kr151_1 : (kC.2 151).2.2 1 = 153 + 1 := by decide +kernel
theorem kr151_2 : (kC.2 151).2.2 2 = 154 + 1 := by decide +kernel
theorem kr151_3 : (kC.2 151).2.2 3 = 155 + 1 := by decide +kernel
theorem kk152 : (kC.2 152).1 = 11 := by decide +kernel
theorem kn152 : 152 < kC.1 := by decide +kernel
theorem kl152 : (kC.2 152).2.1 = 60 := by decide +kernel
theorem kk153 : (kC.2 153).1 = 11 := by decide +kernel
theorem kn153 : 153 < kC.1 := by decide +kernel
theorem kl153 : (kC.2 153).2.1 = 20 := by decide +kernel
theorem kk154 : (kC.2 154).1 = 11 := by decide +kernel
theorem kn154 : 154 < kC.1 := by decide +kernel
theorem kl154 : (kC.2 154).2.1 = 20 := by decide +kernel
theorem kk155 : (kC.2 155).1 = 11 := by decide +kernel
theorem kn155 : 155 < kC.1 := by decide +kernel
theorem kl155 : (kC.2 155).2.1 = 20 := by decide +kernel
theorem kk156 : (kC.2 156).1 = 8 := by decide +kernel
theorem kn156 : 156 < kC.1 := by decide +kernel
theorem kr156_0 : (kC.2 156).2.2 0 = 157 + 1 := by decide +kernel
theorem kk157 : (kC.2 157).1 = 11 := by decide +kernel
theorem kn157 : 157 < kC.1 := by decide +kernel
theorem kl157 : (kC.2 157).2.1 = 96 := by decide +kernel
theorem rk0 : (kR.2 0).1 = 10 := by decide +kernel
theorem rn0 : 0 < kR.1 := by decide +kernel
theorem rr0_0 : (kR.2 0).2.2 0 = 1 + 1 := by decide +kernel
theorem rr0_1 : (kR.2 0).2.2 1 = 2 + 1 := by decide +kernel
theorem rr0_2 : (kR.2 0).2.2 2 = 3 + 1 := by decide +kernel
theorem rr0_3 : (kR.2 0).2.2 3 = 4 + 1 := by decide +kernel
theorem rr0_4 : (kR.2 0).2.2 4 = 5 + 1 := by decide +kernel
theorem rr0_5 : (kR.2 0).2.2 5 = 6 + 1 := by decide +kernel
theorem rr0_6 : (kR.2 0).2.2 6 = 7 + 1 := by decide +kernel
theorem rr0_12 : (kR.2 0).2.2 12 = 8 + 1 := by decide +kernel
theorem rr0_13 : (kR.2 0).2.2 13 = 9 + 1 := by decide +kernel
theorem rr0_14 : (kR.2 0).2.2 14 = 10 + 1 := by decide +kernel
theorem rr0_15 : (kR.2 0).2.2 15 = 11 + 1 := by decide +kernel
theorem rr0_16 : (kR.2 0).2.2 16 = 12 + 1 := by decide +kernel
theorem rr0_17 : (kR.2 0).2.2 17 = 13 + 1 := by decide +kernel
theorem rr0_18 : (kR.2 0).2.2 18 = 14 + 1 := by decide +kernel
theorem rr0_19 : (kR.2 0).2.2 19 = 15 + 1 := by decide +kernel
theorem rr0_21 : (kR.2 0).2.2 21 = 16 + 1 := by decide +kernel
theorem rr0_22 : (kR.2 0).2.2 22 = 17 + 1 := by decide +kernel
theorem rr0_28 : (kR.2 0).2.2 28 = 18 + 1 := by decide +kernel
theorem rr0_29 : (kR.2 0).2.2 29 = 19 + 1 := by decide +kernel
theorem rr0_30 : (kR.2 0).2.2 30 = 20 + 1 := by decide +kernel
theorem rr0_31 : (kR.2 0).2.2 31 = 21 + 1 := by decide +kernel
theorem rk1 : (kR.2 1).1 = 11 := by decide +kernel
theorem rn1 : 1 < kR.1 := by decide +kernel
theorem rl1 : (kR.2 1).2.1 = 470 := by decide +kernel
theorem rk2 : (kR.2 2).1 = 11 := by decide +kernel
theorem rn2 : 2 < kR.1 := by decide +kernel
theorem rl2 : (kR.2 2).2.1 = 470 := by decide +kernel
theorem rk3 : (kR.2 3).1 = 11 := by decide +kernel
theorem rn3 : 3 < kR.1 := by decide +kernel
theorem rl3 : (kR.2 3).2.1 = 470 := by decide +kernel
theorem rk4 : (kR.2 4).1 = 11 := by decide +kernel
theorem rn4 : 4 < kR.1 := by decide +kernel
theorem rl4 : (kR.2 4).2.1 = 4700 := by decide +kernel
theorem rk5 : (kR.2 5).1 = 11 := by decide +kernel
theorem rn5 : 5 < kR.1 := by decide +kernel
theorem rl5 : (kR.2 5).2.1 = 4700 := by decide +kernel
theorem rk6 : (kR.2 6).1 = 11 := by decide +kernel
theorem rn6 : 6 < kR.1 := by decide +kernel
theorem rl6 : (kR.2 6).2.1 = 470 := by decide +kernel
theorem rk7 : (kR.2 7).1 = 11 := by decide +kernel
theorem rn7 : 7 < kR.1 := by decide +kernel
theorem rl7 : (kR.2 7).2.1 = 470 := by decide +kernel
theorem rk8 : (kR.2 8).1 = 11 := by decide +kernel
theorem rn8 : 8 < kR.1 := by decide +kernel
theorem rl8 : (kR.2 8).2.1 = 1200 := by decide +kernel
theorem rk9 : (kR.2 9).1 = 11 := by decide +kernel
theorem rn9 : 9 < kR.1 := by decide +kernel
theorem rl9 : (kR.2 9).2.1 = 2400 := by decide +kernel
theorem rk10 : (kR.2 10).1 = 11 := by decide +kernel
theorem rn10 : 10 < kR.1 := by decide +kernel
theorem rl10 : (kR.2 10).2.1 = 2400 := by decide +kernel
theorem rk11 : (kR.2 11).1 = 11 := by decide +kernel
theorem rn11 : 11 < kR.1 := by decide +kernel
theorem rl11 : (kR.2 11).2.1 = 2400 := by decide +kernel
theorem rk12 : (kR.2 12).1 = 11 := by decide +kernel
theorem rn12 : 12 < kR.1 := by decide +kernel
theorem rl12 : (kR.2 12).2.1 = 600 := by decide +kernel
theorem rk13 : (kR.2 13).1 = 12 := by decide +kernel
theorem rn13 : 13 < kR.1 := by decide +kernel
theorem rl13 : (kR.2 13).2.1 = 2400 := by decide +kernel
theorem rk14 : (kR.2 14).1 = 11 := by decide +kernel
theorem rn14 : 14 < kR.1 := by decide +kernel
theorem rl14 : (kR.2 14).2.1 = 8 := by decide +kernel
theorem rk15 : (kR.2 15).1 = 11 := by decide +kernel
theorem rn15 : 15 < kR.1 := by decide +kernel
theorem rl15 : (kR.2 15).2.1 = 1200 := by decide +kernel
theorem rk16 : (kR.2 16).1 = 11 := by decide +kernel
theorem rn16 : 16 < kR.1 := by decide +kernel
theorem rl16 : (kR.2 16).2.1 = 160 := by decide +kernel
theorem rk17 : (kR.2 17).1 = 11 := by decide +kernel
theorem rn17 : 17 < kR.1 := by decide +kernel
theorem rl17 : (kR.2 17).2.1 = 60 := by decide +kernel
theorem rk18 : (kR.2 18).1 = 11 := by decide +kernel
theorem rn18 : 18 < kR.1 := by decide +kernel
theorem rl18 : (kR.2 18).2.1 = 60 := by decide +kernel
theorem rk19 : (kR.2 19).1 = 11 := by decide +kernel
theorem rn19 : 19 < kR.1 := by decide +kernel
theorem rl19 : (kR.2 19).2.1 = 60 := by decide +kernel
theorem rk20 : (kR.2 20).1 = 11 := by decide +kernel
theorem rn20 : 20 < kR.1 := by decide +kernel
theorem rl20 : (kR.2 20).2.1 = 60 := by decide +kernel
theorem rk21 : (kR.2 21).1 = 11 := by decide +kernel
theorem rn21 : 21 < kR.1 := by decide +kernel
theorem rl21 : (kR.2 21).2.1 = 100 := by decide +kernel
abbrev mX9_init : am_T := (yX9_init, cX9_init, 1, none)
set_option maxRecDepth 100000 in
theorem lmX9_init : am_lM mX9_init 0 := ⟨am_in_gd 50 (by decide +kernel) (by decide +kernel), am_in_gd 68 rfl rfl, by decide +kernel, by decide +kernel⟩
theorem pmX9_init : plainName mX9_init.1.cls = true := by decide +kernel
abbrev mX9_addSource : am_T := (yX9_addSource, cX9_addSource, 5, (some .int))
set_option maxRecDepth 100000 in
theorem lmX9_addSource : am_lM mX9_addSource 4 := ⟨am_in_gd 50 (by decide +kernel) (by decide +kernel), am_in_gd 372 rfl rfl, by decide +kernel, by decide +kernel⟩
theorem pmX9_addSource : plainName mX9_addSource.1.cls = true := by decide +kernel
abbrev mX9_source : am_T := (yX9_source, cX9_source, 3, (some .int))
set_option maxRecDepth 100000 in
theorem lmX9_source : am_lM mX9_source 2 := ⟨am_in_gd 50 (by decide +kernel) (by decide +kernel), am_in_gd 407 rfl rfl, by decide +kernel, by decide +kernel⟩
theorem pmX9_source : plainName mX9_source.1.cls = true := by decide +kernel
abbrev mX9_sourceValue : am_T := (yX9_sourceValue, cX9_sourceValue, 3, (some .int))
set_option maxRecDepth 100000 in
theorem lmX9_sourceValue : am_lM mX9_sourceValue 2 := ⟨am_in_gd 50 (by decide +kernel) (by decide +kernel), am_in_gd 503 rfl rfl, by decide +kernel, by decide +kernel⟩
theorem pmX9_sourceValue : plainName mX9_sourceValue.1.cls = true := by decide +kernel
abbrev mX9_set : am_T := (yX9_set, cX9_set, 3, (some .int))
set_option maxRecDepth 100000 in
theorem lmX9_set : am_lM mX9_set 2 := ⟨am_in_gd 50 (by decide +kernel) (by decide +kernel), am_in_gd 508 rfl rfl, by decide +kernel, by decide +kernel⟩
theorem pmX9_set : plainName mX9_set.1.cls = true := by decide +kernel
abbrev mX9_setTrack : am_T := (yX9_setTrack, cX9_setTrack, 5, (some .int))
set_option maxRecDepth 100000 in
theorem lmX9_setTrack : am_lM mX9_setTrack 3 := ⟨am_in_gd 50 (by decide +kernel) (by decide +kernel), am_in_gd 520 rfl rfl, by decide +kernel, by decide +kernel⟩
theorem pmX9_setTrack : plainName mX9_setTrack.1.cls = true := by decide +kernel
abbrev mX9_track : am_T := (yX9_track, cX9_track, 3, (some .int))
set_option maxRecDepth 100000 in
theorem lmX9_track : am_lM mX9_track 2 := ⟨am_in_gd 50 (by decide +kernel) (by decide +kernel), am_in_gd 538 rfl rfl, by decide +kernel, by decide +kernel⟩
theorem pmX9_track : plainName mX9_track.1.cls = true := by decide +kernel
abbrev mX9_trackAnswer : am_T := (yX9_trackAnswer, cX9_trackAnswer, 4, (some .int))
set_option maxRecDepth 100000 in
theorem lmX9_trackAnswer : am_lM mX9_trackAnswer 2 := ⟨am_in_gd 50 (by decide +kernel) (by decide +kernel), am_in_gd 533 rfl rfl, by decide +kernel, by decide +kernel⟩
theorem pmX9_trackAnswer : plainName mX9_trackAnswer.1.cls = true := by decide +kernel
abbrev mX9_addClip : am_T := (yX9_addClip, cX9_addClip, 6, (some .int))
set_option maxRecDepth 100000 in
theorem lmX9_addClip : am_lM mX9_addClip 5 := ⟨am_in_gd 50 (by decide +kernel) (by decide +kernel), am_in_gd 568 rfl rfl, by decide +kernel, by decide +kernel⟩
theorem pmX9_addClip : plainName mX9_addClip.1.cls = true := by decide +kernel
abbrev mX9_clip : am_T := (yX9_clip, cX9_clip, 3, (some .int))
set_option maxRecDepth 100000 in
theorem lmX9_clip : am_lM mX9_clip 2 := ⟨am_in_gd 50 (by decide +kernel) (by decide +kernel), am_in_gd 596 rfl rfl, by decide +kernel, by decide +kernel⟩
theorem pmX9_clip : plainName mX9_clip.1.cls = true := by decide +kernel
abbrev mX9_setClip : am_T := (yX9_setClip, cX9_setClip, 4, (some .int))
set_option maxRecDepth 100000 in
theorem lmX9_setClip : am_lM mX9_setClip 3 := ⟨am_in_gd 50 (by decide +kernel) (by decide +kernel), am_in_gd 613 rfl rfl, by decide +kernel, by decide +kernel⟩
theorem pmX9_setClip : plainName mX9_setClip.1.cls = true := by decide +kernel
abbrev mX9_moveClip : am_T := (yX9_moveClip, cX9_moveClip, 4, (some .int))
set_option maxRecDepth 100000 in
theorem lmX9_moveClip : am_lM mX9_moveClip 3 := ⟨am_in_gd 50 (by decide +kernel) (by decide +kernel), am_in_gd 623 rfl rfl, by decide +kernel, by decide +kernel⟩
theorem pmX9_moveClip : plainName mX9_moveClip.1.cls = true := by decide +kernel
abbrev mX9_trim : am_T := (yX9_trim, cX9_trim, 4, (some .int))
set_option maxRecDepth 100000 in
theorem lmX9_trim : am_lM mX9_trim 3 := ⟨am_in_gd 50 (by decide +kernel) (by decide +kernel), am_in_gd 647 rfl rfl, by decide +kernel, by decide +kernel⟩
theorem pmX9_trim : plainName mX9_trim.1.cls = true := by decide +kernel
abbrev mX9_divide : am_T := (yX9_divide, cX9_divide, 3, (some .int))
set_option maxRecDepth 100000 in
theorem lmX9_divide : am_lM mX9_divide 2 := ⟨am_in_gd 50 (by decide +kernel) (by decide +kernel), am_in_gd 662 rfl rfl, by decide +kernel, by decide +kernel⟩
theorem pmX9_divide : plainName mX9_divide.1.cls = true := by decide +kernel
abbrev mX9_remove : am_T := (yX9_remove, cX9_remove, 2, (some .int))
set_option maxRecDepth 100000 in
theorem lmX9_remove : am_lM mX9_remove 1 := ⟨am_in_gd 50 (by decide +kernel) (by decide +kernel), am_in_gd 675 rfl rfl, by decide +kernel, by decide +kernel⟩
theorem pmX9_remove : plainName mX9_remove.1.cls = true := by decide +kernel
abbrev mX9_room : am_T := (yX9_room, cX9_room, 5, (some .int))
set_option maxRecDepth 100000 in
theorem lmX9_room : am_lM mX9_room 3 := ⟨am_in_gd 50 (by decide +kernel) (by decide +kernel), am_in_gd 683 rfl rfl, by decide +kernel, by decide +kernel⟩
theorem pmX9_room : plainName mX9_room.1.cls = true := by decide +kernel
abbrev mX9_copyClip : am_T := (yX9_copyClip, cX9_copyClip, 4, (some .int))
set_option maxRecDepth 100000 in
theorem lmX9_copyClip : am_lM mX9_copyClip 3 := ⟨am_in_gd 50 (by decide +kernel) (by decide +kernel), am_in_gd 691 rfl rfl, by decide +kernel, by decide +kernel⟩
theorem pmX9_copyClip : plainName mX9_copyClip.1.cls = true := by decide +kernel
abbrev mX9_clipAt : am_T := (yX9_clipAt, cX9_clipAt, 4, (some .int))
set_option maxRecDepth 100000 in
theorem lmX9_clipAt : am_lM mX9_clipAt 2 := ⟨am_in_gd 50 (by decide +kernel) (by decide +kernel), am_in_gd 699 rfl rfl, by decide +kernel, by decide +kernel⟩
theorem pmX9_clipAt : plainName mX9_clipAt.1.cls = true := by decide +kernel
abbrev mX9_explain : am_T := (yX9_explain, cX9_explain, 4, (some .int))
set_option maxRecDepth 100000 in
theorem lmX9_explain : am_lM mX9_explain 2 := ⟨am_in_gd 50 (by decide +kernel) (by decide +kernel), am_in_gd 707 rfl rfl, by decide +kernel, by decide +kernel⟩
theorem pmX9_explain : plainName mX9_explain.1.cls = true := by decide +kernel
abbrev mX9_cut : am_T := (yX9_cut, cX9_cut, 3, (some .int))
set_option maxRecDepth 100000 in
theorem lmX9_cut : am_lM mX9_cut 2 := ⟨am_in_gd 50 (by decide +kernel) (by decide +kernel), am_in_gd 716 rfl rfl, by decide +kernel, by decide +kernel⟩
theorem pmX9_cut : plainName mX9_cut.1.cls = true := by decide +kernel
abbrev mX9_insert : am_T := (yX9_insert, cX9_insert, 3, (some .int))
set_option maxRecDepth 100000 in
theorem lmX9_insert : am_lM mX9_insert 2 := ⟨am_in_gd 50 (by decide +kernel) (by decide +kernel), am_in_gd 744 rfl rfl, by decide +kernel, by decide +kernel⟩
theorem pmX9_insert : plainName mX9_insert.1.cls = true := by decide +kernel
abbrev mX9_chapter : am_T := (yX9_chapter, cX9_chapter, 3, (some .int))
set_option maxRecDepth 100000 in
theorem lmX9_chapter : am_lM mX9_chapter 2 := ⟨am_in_gd 50 (by decide +kernel) (by decide +kernel), am_in_gd 774 rfl rfl, by decide +kernel, by decide +kernel⟩
theorem pmX9_chapter : plainName mX9_chapter.1.cls = true := by decide +kernel
abbrev mX9_dropChapter : am_T := (yX9_dropChapter, cX9_dropChapter, 2, (some .int))
set_option maxRecDepth 100000 in
theorem lmX9_dropChapter : am_lM mX9_dropChapter 1 := ⟨am_in_gd 50 (by decide +kernel) (by decide +kernel), am_in_gd 788 rfl rfl, by decide +kernel, by decide +kernel⟩
theorem pmX9_dropChapter : plainName mX9_dropChapter.1.cls = true := by decide +kernel
abbrev mX9_ofChapter : am_T := (yX9_ofChapter, cX9_ofChapter, 5, (some .int))
set_option maxRecDepth 100000 in
theorem lmX9_ofChapter : am_lM mX9_ofChapter 2 := ⟨am_in_gd 50 (by decide +kernel) (by decide +kernel), am_in_gd 796 rfl rfl, by decide +kernel, by decide +kernel⟩
theorem pmX9_ofChapter : plainName mX9_ofChapter.1.cls = true := by decide +kernel
abbrev mX9_chapterAt : am_T := (yX9_chapterAt, cX9_chapterAt, 3, (some .int))
set_option maxRecDepth 100000 in
theorem lmX9_chapterAt : am_lM mX9_chapterAt 1 := ⟨am_in_gd 50 (by decide +kernel) (by decide +kernel), am_in_gd 819 rfl rfl, by decide +kernel, by decide +kernel⟩
theorem pmX9_chapterAt : plainName mX9_chapterAt.1.cls = true := by decide +kernel
abbrev mX9_value : am_T := (yX9_value, cX9_value, 4, (some .int))
set_option maxRecDepth 100000 in
theorem lmX9_value : am_lM mX9_value 3 := ⟨am_in_gd 50 (by decide +kernel) (by decide +kernel), am_in_gd 824 rfl rfl, by decide +kernel, by decide +kernel⟩
theorem pmX9_value : plainName mX9_value.1.cls = true := by decide +kernel
abbrev mX9_mix : am_T := (yX9_mix, cX9_mix, 2, (some .int))
set_option maxRecDepth 100000 in
theorem lmX9_mix : am_lM mX9_mix 1 := ⟨am_in_gd 50 (by decide +kernel) (by decide +kernel), am_in_gd 838 rfl rfl, by decide +kernel, by decide +kernel⟩
theorem pmX9_mix : plainName mX9_mix.1.cls = true := by decide +kernel
abbrev mX9_peak : am_T := (yX9_peak, cX9_peak, 2, (some .int))
set_option maxRecDepth 100000 in
theorem lmX9_peak : am_lM mX9_peak 1 := ⟨am_in_gd 50 (by decide +kernel) (by decide +kernel), am_in_gd 843 rfl rfl, by decide +kernel, by decide +kernel⟩
theorem pmX9_peak : plainName mX9_peak.1.cls = true := by decide +kernel
abbrev mX9_level : am_T := (yX9_level, cX9_level, 2, (some .int))
set_option maxRecDepth 100000 in
theorem lmX9_level : am_lM mX9_level 1 := ⟨am_in_gd 50 (by decide +kernel) (by decide +kernel), am_in_gd 860 rfl rfl, by decide +kernel, by decide +kernel⟩
theorem pmX9_level : plainName mX9_level.1.cls = true := by decide +kernel
abbrev mX9_loudness : am_T := (yX9_loudness, cX9_loudness, 2, (some .int))
set_option maxRecDepth 100000 in
theorem lmX9_loudness : am_lM mX9_loudness 1 := ⟨am_in_gd 50 (by decide +kernel) (by decide +kernel), am_in_gd 883 rfl rfl, by decide +kernel, by decide +kernel⟩
theorem pmX9_loudness : plainName mX9_loudness.1.cls = true := by decide +kernel
abbrev mX9_masterFor : am_T := (yX9_masterFor, cX9_masterFor, 2, (some .int))
set_option maxRecDepth 100000 in
theorem lmX9_masterFor : am_lM mX9_masterFor 1 := ⟨am_in_gd 50 (by decide +kernel) (by decide +kernel), am_in_gd 887 rfl rfl, by decide +kernel, by decide +kernel⟩
theorem pmX9_masterFor : plainName mX9_masterFor.1.cls = true := by decide +kernel
abbrev mX9_normalize : am_T := (yX9_normalize, cX9_normalize, 3, (some .int))
set_option maxRecDepth 100000 in
theorem lmX9_normalize : am_lM mX9_normalize 1 := ⟨am_in_gd 50 (by decide +kernel) (by decide +kernel), am_in_gd 895 rfl rfl, by decide +kernel, by decide +kernel⟩
theorem pmX9_normalize : plainName mX9_normalize.1.cls = true := by decide +kernel
abbrev mX9_covered : am_T := (yX9_covered, cX9_covered, 4, (some .int))
set_option maxRecDepth 100000 in
theorem lmX9_covered : am_lM mX9_covered 1 := ⟨am_in_gd 50 (by decide +kernel) (by decide +kernel), am_in_gd 899 rfl rfl, by decide +kernel, by decide +kernel⟩
theorem pmX9_covered : plainName mX9_covered.1.cls = true := by decide +kernel
abbrev mX9_loudnessAgain : am_T := (yX9_loudnessAgain, cX9_loudnessAgain, 1, (some .int))
set_option maxRecDepth 100000 in
theorem lmX9_loudnessAgain : am_lM mX9_loudnessAgain 0 := ⟨am_in_gd 50 (by decide +kernel) (by decide +kernel), am_in_gd 903 rfl rfl, by decide +kernel, by decide +kernel⟩
theorem pmX9_loudnessAgain : plainName mX9_loudnessAgain.1.cls = true := by decide +kernel
abbrev mX9_silence : am_T := (yX9_silence, cX9_silence, 5, (some .int))
set_option maxRecDepth 100000 in
theorem lmX9_silence : am_lM mX9_silence 4 := ⟨am_in_gd 50 (by decide +kernel) (by decide +kernel), am_in_gd 921 rfl rfl, by decide +kernel, by decide +kernel⟩
theorem pmX9_silence : plainName mX9_silence.1.cls = true := by decide +kernel
abbrev mX9_tighten : am_T := (yX9_tighten, cX9_tighten, 7, (some .int))
set_option maxRecDepth 100000 in
theorem lmX9_tighten : am_lM mX9_tighten 2 := ⟨am_in_gd 50 (by decide +kernel) (by decide +kernel), am_in_gd 938 rfl rfl, by decide +kernel, by decide +kernel⟩
theorem pmX9_tighten : plainName mX9_tighten.1.cls = true := by decide +kernel
abbrev mX9_ifCut : am_T := (yX9_ifCut, cX9_ifCut, 5, (some .int))
set_option maxRecDepth 100000 in
theorem lmX9_ifCut : am_lM mX9_ifCut 3 := ⟨am_in_gd 50 (by decide +kernel) (by decide +kernel), am_in_gd 943 rfl rfl, by decide +kernel, by decide +kernel⟩
theorem pmX9_ifCut : plainName mX9_ifCut.1.cls = true := by decide +kernel
abbrev mX9_event : am_T := (yX9_event, cX9_event, 6, (some .int))
set_option maxRecDepth 100000 in
theorem lmX9_event : am_lM mX9_event 2 := ⟨am_in_gd 50 (by decide +kernel) (by decide +kernel), am_in_gd 951 rfl rfl, by decide +kernel, by decide +kernel⟩
theorem pmX9_event : plainName mX9_event.1.cls = true := by decide +kernel
abbrev mX9_append : am_T := (yX9_append, cX9_append, 2, (some .int))
set_option maxRecDepth 100000 in
theorem lmX9_append : am_lM mX9_append 1 := ⟨am_in_gd 50 (by decide +kernel) (by decide +kernel), am_in_gd 975 rfl rfl, by decide +kernel, by decide +kernel⟩
theorem pmX9_append : plainName mX9_append.1.cls = true := by decide +kernel
abbrev mX9_execute : am_T := (yX9_execute, cX9_execute, 4, (some .int))
set_option maxRecDepth 100000 in
theorem lmX9_execute : am_lM mX9_execute 0 := ⟨am_in_gd 50 (by decide +kernel) (by decide +kernel), am_in_gd 983 rfl rfl, by decide +kernel, by decide +kernel⟩
theorem pmX9_execute : plainName mX9_execute.1.cls = true := by decide +kernel
abbrev mX9_refused : am_T := (yX9_refused, cX9_refused, 2, (some .int))
set_option maxRecDepth 100000 in
theorem lmX9_refused : am_lM mX9_refused 1 := ⟨am_in_gd 50 (by decide +kernel) (by decide +kernel), am_in_gd 1010 rfl rfl, by decide +kernel, by decide +kernel⟩
theorem pmX9_refused : plainName mX9_refused.1.cls = true := by decide +kernel
abbrev mX9_write : am_T := (yX9_write, cX9_write, 2, (some .int))
set_option maxRecDepth 100000 in
theorem lmX9_write : am_lM mX9_write 0 := ⟨am_in_gd 50 (by decide +kernel) (by decide +kernel), am_in_gd 1014 rfl rfl, by decide +kernel, by decide +kernel⟩
theorem pmX9_write : plainName mX9_write.1.cls = true := by decide +kernel
abbrev mX9_written : am_T := (yX9_written, cX9_written, 2, (some .int))
set_option maxRecDepth 100000 in
theorem lmX9_written : am_lM mX9_written 1 := ⟨am_in_gd 50 (by decide +kernel) (by decide +kernel), am_in_gd 1027 rfl rfl, by decide +kernel, by decide +kernel⟩
theorem pmX9_written : plainName mX9_written.1.cls = true := by decide +kernel
abbrev mX9_begin : am_T := (yX9_begin, cX9_begin, 1, (some .int))
set_option maxRecDepth 100000 in
theorem lmX9_begin : am_lM mX9_begin 0 := ⟨am_in_gd 50 (by decide +kernel) (by decide +kernel), am_in_gd 1031 rfl rfl, by decide +kernel, by decide +kernel⟩
theorem pmX9_begin : plainName mX9_begin.1.cls = true := by decide +kernel
abbrev mX9_end : am_T := (yX9_end, cX9_end, 1, (some .int))
set_option maxRecDepth 100000 in
theorem lmX9_end : am_lM mX9_end 0 := ⟨am_in_gd 50 (by decide +kernel) (by decide +kernel), am_in_gd 1035 rfl rfl, by decide +kernel, by decide +kernel⟩
theorem pmX9_end : plainName mX9_end.1.cls = true := by decide +kernel
abbrev mX9_undo : am_T := (yX9_undo, cX9_undo, 1, (some .int))
set_option maxRecDepth 100000 in
theorem lmX9_undo : am_lM mX9_undo 0 := ⟨am_in_gd 50 (by decide +kernel) (by decide +kernel), am_in_gd 1040 rfl rfl, by decide +kernel, by decide +kernel⟩
theorem pmX9_undo : plainName mX9_undo.1.cls = true := by decide +kernel
abbrev mX9_redo : am_T := (yX9_redo, cX9_redo, 1, (some .int))
set_option maxRecDepth 100000 in
theorem lmX9_redo : am_lM mX9_redo 0 := ⟨am_in_gd 50 (by decide +kernel) (by decide +kernel), am_in_gd 1048 rfl rfl, by decide +kernel, by decide +kernel⟩
theorem pmX9_redo : plainName mX9_redo.1.cls = true := by decide +kernel
abbrev mX9_save : am_T := (yX9_save, cX9_save, 1, (some .int))
set_option maxRecDepth 100000 in
theorem lmX9_save : am_lM mX9_save 0 := ⟨am_in_gd 50 (by decide +kernel) (by decide +kernel), am_in_gd 1056 rfl rfl, by decide +kernel, by decide +kernel⟩
theorem pmX9_save : plainName mX9_save.1.cls = true := by decide +kernel
abbrev mX9_restore : am_T := (yX9_restore, cX9_restore, 1, (some .int))
set_option maxRecDepth 100000 in
theorem lmX9_restore : am_lM mX9_restore 0 := ⟨am_in_gd 50 (by decide +kernel) (by decide +kernel), am_in_gd 1060 rfl rfl, by decide +kernel, by decide +kernel⟩
theorem pmX9_restore : plainName mX9_restore.1.cls = true := by decide +kernel
abbrev mX9_count : am_T := (yX9_count, cX9_count, 2, (some .int))
set_option maxRecDepth 100000 in
theorem lmX9_count : am_lM mX9_count 1 := ⟨am_in_gd 50 (by decide +kernel) (by decide +kernel), am_in_gd 1068 rfl rfl, by decide +kernel, by decide +kernel⟩
theorem pmX9_count : plainName mX9_count.1.cls = true := by decide +kernel
abbrev mX9_isTrack : am_T := (yX9_isTrack, cX9_isTrack, 1, (some .boolean))
set_option maxRecDepth 100000 in
theorem lmX9_isTrack : am_lM mX9_isTrack 1 := ⟨am_in_gd 50 (by decide +kernel) (by decide +kernel), am_in_gd 473 rfl rfl, by decide +kernel, by decide +kernel⟩
theorem pmX9_isTrack : plainName mX9_isTrack.1.cls = true := by decide +kernel
abbrev mX9_isFrame : am_T := (yX9_isFrame, cX9_isFrame, 1, (some .boolean))
set_option maxRecDepth 100000 in
theorem lmX9_isFrame : am_lM mX9_isFrame 1 := ⟨am_in_gd 50 (by decide +kernel) (by decide +kernel), am_in_gd 686 rfl rfl, by decide +kernel, by decide +kernel⟩
theorem pmX9_isFrame : plainName mX9_isFrame.1.cls = true := by decide +kernel
abbrev mX9_isSilence : am_T := (yX9_isSilence, cX9_isSilence, 2, (some .boolean))
set_option maxRecDepth 100000 in
theorem lmX9_isSilence : am_lM mX9_isSilence 2 := ⟨am_in_gd 50 (by decide +kernel) (by decide +kernel), am_in_gd 924 rfl rfl, by decide +kernel, by decide +kernel⟩
theorem pmX9_isSilence : plainName mX9_isSilence.1.cls = true := by decide +kernel
abbrev mX9_done : am_T := (yX9_done, cX9_done, 2, (some .int))
set_option maxRecDepth 100000 in
theorem lmX9_done : am_lM mX9_done 1 := ⟨am_in_gd 50 (by decide +kernel) (by decide +kernel), am_in_gd 384 rfl rfl, by decide +kernel, by decide +kernel⟩
theorem pmX9_done : plainName mX9_done.1.cls = true := by decide +kernel
abbrev mX9_noteChange : am_T := (yX9_noteChange, cX9_noteChange, 1, none)
set_option maxRecDepth 100000 in
theorem lmX9_noteChange : am_lM mX9_noteChange 0 := ⟨am_in_gd 50 (by decide +kernel) (by decide +kernel), am_in_gd 388 rfl rfl, by decide +kernel, by decide +kernel⟩
theorem pmX9_noteChange : plainName mX9_noteChange.1.cls = true := by decide +kernel
abbrev mX9_heard : am_T := (yX9_heard, cX9_heard, 1, (some (.object "PodcastEditor$Sound")))
set_option maxRecDepth 100000 in
theorem lmX9_heard : am_lM mX9_heard 0 := ⟨am_in_gd 50 (by decide +kernel) (by decide +kernel), am_in_gd 423 rfl rfl, by decide +kernel, by decide +kernel⟩
theorem pmX9_heard : plainName mX9_heard.1.cls = true := by decide +kernel
abbrev mX9_measureNow : am_T := (yX9_measureNow, cX9_measureNow, 1, none)
set_option maxRecDepth 100000 in
theorem lmX9_measureNow : am_lM mX9_measureNow 0 := ⟨am_in_gd 50 (by decide +kernel) (by decide +kernel), am_in_gd 864 rfl rfl, by decide +kernel, by decide +kernel⟩
theorem pmX9_measureNow : plainName mX9_measureNow.1.cls = true := by decide +kernel
abbrev mX9_greatestMaster : am_T := (yX9_greatestMaster, cX9_greatestMaster, 3, (some .int))
set_option maxRecDepth 100000 in
theorem lmX9_greatestMaster : am_lM mX9_greatestMaster 1 := ⟨am_in_gd 50 (by decide +kernel) (by decide +kernel), am_in_gd 891 rfl rfl, by decide +kernel, by decide +kernel⟩
theorem pmX9_greatestMaster : plainName mX9_greatestMaster.1.cls = true := by decide +kernel
abbrev mX9_afterCut : am_T := (yX9_afterCut, cX9_afterCut, 2, (some .int))
set_option maxRecDepth 100000 in
theorem lmX9_afterCut : am_lM mX9_afterCut 1 := ⟨am_in_gd 50 (by decide +kernel) (by decide +kernel), am_in_gd 947 rfl rfl, by decide +kernel, by decide +kernel⟩
theorem pmX9_afterCut : plainName mX9_afterCut.1.cls = true := by decide +kernel
abbrev mX9_carryOut : am_T := (yX9_carryOut, cX9_carryOut, 4, (some .int))
set_option maxRecDepth 100000 in
theorem lmX9_carryOut : am_lM mX9_carryOut 3 := ⟨am_in_gd 50 (by decide +kernel) (by decide +kernel), am_in_gd 1006 rfl rfl, by decide +kernel, by decide +kernel⟩
theorem pmX9_carryOut : plainName mX9_carryOut.1.cls = true := by decide +kernel
abbrev mX10_init : am_T := (yX10_init, cX10_init, 3, none)
set_option maxRecDepth 100000 in
theorem lmX10_init : am_lM mX10_init 0 := ⟨am_in_gd 61 (by decide +kernel) (by decide +kernel), am_in_gd 1073 rfl rfl, by decide +kernel, by decide +kernel⟩
theorem pmX10_init : plainName mX10_init.1.cls = true := by decide +kernel
abbrev mX10_isIn : am_T := (yX10_isIn, cX10_isIn, 3, (some .boolean))
set_option maxRecDepth 100000 in
theorem lmX10_isIn : am_lM mX10_isIn 3 := ⟨am_in_gd 61 (by decide +kernel) (by decide +kernel), am_in_gd 1182 rfl rfl, by decide +kernel, by decide +kernel⟩
theorem pmX10_isIn : plainName mX10_isIn.1.cls = true := by decide +kernel
abbrev mX10_copies : am_T := (yX10_copies, cX10_copies, 3, none)
set_option maxRecDepth 100000 in
theorem lmX10_copies : am_lM mX10_copies 2 := ⟨am_in_gd 61 (by decide +kernel) (by decide +kernel), am_in_gd 1189 rfl rfl, by decide +kernel, by decide +kernel⟩
theorem pmX10_copies : plainName mX10_copies.1.cls = true := by decide +kernel
abbrev mX10_begins : am_T := (yX10_begins, cX10_begins, 1, none)
set_option maxRecDepth 100000 in
theorem lmX10_begins : am_lM mX10_begins 0 := ⟨am_in_gd 61 (by decide +kernel) (by decide +kernel), am_in_gd 1186 rfl rfl, by decide +kernel, by decide +kernel⟩
theorem pmX10_begins : plainName mX10_begins.1.cls = true := by decide +kernel
abbrev mX10_pushes : am_T := (yX10_pushes, cX10_pushes, 6, none)
set_option maxRecDepth 100000 in
theorem lmX10_pushes : am_lM mX10_pushes 3 := ⟨am_in_gd 61 (by decide +kernel) (by decide +kernel), am_in_gd 1201 rfl rfl, by decide +kernel, by decide +kernel⟩
theorem pmX10_pushes : plainName mX10_pushes.1.cls = true := by decide +kernel
abbrev mX10_steps : am_T := (yX10_steps, cX10_steps, 2, none)
set_option maxRecDepth 100000 in
theorem lmX10_steps : am_lM mX10_steps 1 := ⟨am_in_gd 61 (by decide +kernel) (by decide +kernel), am_in_gd 1197 rfl rfl, by decide +kernel, by decide +kernel⟩
theorem pmX10_steps : plainName mX10_steps.1.cls = true := by decide +kernel
abbrev mX10_ends : am_T := (yX10_ends, cX10_ends, 2, (some .int))
set_option maxRecDepth 100000 in
theorem lmX10_ends : am_lM mX10_ends 1 := ⟨am_in_gd 61 (by decide +kernel) (by decide +kernel), am_in_gd 1193 rfl rfl, by decide +kernel, by decide +kernel⟩
theorem pmX10_ends : plainName mX10_ends.1.cls = true := by decide +kernel
abbrev mX10_isSource : am_T := (yX10_isSource, cX10_isSource, 2, (some .boolean))
set_option maxRecDepth 100000 in
theorem lmX10_isSource : am_lM mX10_isSource 1 := ⟨am_in_gd 61 (by decide +kernel) (by decide +kernel), am_in_gd 1209 rfl rfl, by decide +kernel, by decide +kernel⟩
theorem pmX10_isSource : plainName mX10_isSource.1.cls = true := by decide +kernel
abbrev mX10_sourceOf : am_T := (yX10_sourceOf, cX10_sourceOf, 3, (some .int))
set_option maxRecDepth 100000 in
theorem lmX10_sourceOf : am_lM mX10_sourceOf 2 := ⟨am_in_gd 61 (by decide +kernel) (by decide +kernel), am_in_gd 1213 rfl rfl, by decide +kernel, by decide +kernel⟩
theorem pmX10_sourceOf : plainName mX10_sourceOf.1.cls = true := by decide +kernel
abbrev mX10_addSource : am_T := (yX10_addSource, cX10_addSource, 7, (some .int))
set_option maxRecDepth 100000 in
theorem lmX10_addSource : am_lM mX10_addSource 4 := ⟨am_in_gd 61 (by decide +kernel) (by decide +kernel), am_in_gd 1179 rfl rfl, by decide +kernel, by decide +kernel⟩
theorem pmX10_addSource : plainName mX10_addSource.1.cls = true := by decide +kernel
abbrev mX10_laysWaves : am_T := (yX10_laysWaves, cX10_laysWaves, 8, none)
set_option maxRecDepth 100000 in
theorem lmX10_laysWaves : am_lM mX10_laysWaves 0 := ⟨am_in_gd 61 (by decide +kernel) (by decide +kernel), am_in_gd 1217 rfl rfl, by decide +kernel, by decide +kernel⟩
theorem pmX10_laysWaves : plainName mX10_laysWaves.1.cls = true := by decide +kernel
abbrev mX10_source : am_T := (yX10_source, cX10_source, 6, (some .int))
set_option maxRecDepth 100000 in
theorem lmX10_source : am_lM mX10_source 2 := ⟨am_in_gd 61 (by decide +kernel) (by decide +kernel), am_in_gd 1205 rfl rfl, by decide +kernel, by decide +kernel⟩
theorem pmX10_source : plainName mX10_source.1.cls = true := by decide +kernel
abbrev mX10_sourceValue : am_T := (yX10_sourceValue, cX10_sourceValue, 3, (some .int))
set_option maxRecDepth 100000 in
theorem lmX10_sourceValue : am_lM mX10_sourceValue 2 := ⟨am_in_gd 61 (by decide +kernel) (by decide +kernel), am_in_gd 1226 rfl rfl, by decide +kernel, by decide +kernel⟩
theorem pmX10_sourceValue : plainName mX10_sourceValue.1.cls = true := by decide +kernel
abbrev mX10_isSetting : am_T := (yX10_isSetting, cX10_isSetting, 2, (some .boolean))
set_option maxRecDepth 100000 in
theorem lmX10_isSetting : am_lM mX10_isSetting 2 := ⟨am_in_gd 61 (by decide +kernel) (by decide +kernel), am_in_gd 1233 rfl rfl, by decide +kernel, by decide +kernel⟩
theorem pmX10_isSetting : plainName mX10_isSetting.1.cls = true := by decide +kernel
abbrev mX10_set : am_T := (yX10_set, cX10_set, 4, (some .int))
set_option maxRecDepth 100000 in
theorem lmX10_set : am_lM mX10_set 2 := ⟨am_in_gd 61 (by decide +kernel) (by decide +kernel), am_in_gd 1230 rfl rfl, by decide +kernel, by decide +kernel⟩
theorem pmX10_set : plainName mX10_set.1.cls = true := by decide +kernel
abbrev mX10_isTrack : am_T := (yX10_isTrack, cX10_isTrack, 1, (some .boolean))
set_option maxRecDepth 100000 in
theorem lmX10_isTrack : am_lM mX10_isTrack 1 := ⟨am_in_gd 61 (by decide +kernel) (by decide +kernel), am_in_gd 1240 rfl rfl, by decide +kernel, by decide +kernel⟩
theorem pmX10_isTrack : plainName mX10_isTrack.1.cls = true := by decide +kernel
abbrev mX10_trackOf : am_T := (yX10_trackOf, cX10_trackOf, 3, (some .int))
set_option maxRecDepth 100000 in
theorem lmX10_trackOf : am_lM mX10_trackOf 2 := ⟨am_in_gd 61 (by decide +kernel) (by decide +kernel), am_in_gd 1247 rfl rfl, by decide +kernel, by decide +kernel⟩
theorem pmX10_trackOf : plainName mX10_trackOf.1.cls = true := by decide +kernel
abbrev mX10_isTrackNumber : am_T := (yX10_isTrackNumber, cX10_isTrackNumber, 3, (some .boolean))
set_option maxRecDepth 100000 in
theorem lmX10_isTrackNumber : am_lM mX10_isTrackNumber 3 := ⟨am_in_gd 61 (by decide +kernel) (by decide +kernel), am_in_gd 1243 rfl rfl, by decide +kernel, by decide +kernel⟩
theorem pmX10_isTrackNumber : plainName mX10_isTrackNumber.1.cls = true := by decide +kernel
abbrev mX10_setTrack : am_T := (yX10_setTrack, cX10_setTrack, 5, (some .int))
set_option maxRecDepth 100000 in
theorem lmX10_setTrack : am_lM mX10_setTrack 3 := ⟨am_in_gd 61 (by decide +kernel) (by decide +kernel), am_in_gd 1237 rfl rfl, by decide +kernel, by decide +kernel⟩
theorem pmX10_setTrack : plainName mX10_setTrack.1.cls = true := by decide +kernel
abbrev mX10_faded : am_T := (yX10_faded, cX10_faded, 5, (some .int))
set_option maxRecDepth 100000 in
theorem lmX10_faded : am_lM mX10_faded 3 := ⟨am_in_gd 61 (by decide +kernel) (by decide +kernel), am_in_gd 1267 rfl rfl, by decide +kernel, by decide +kernel⟩
theorem pmX10_faded : plainName mX10_faded.1.cls = true := by decide +kernel
abbrev mX10_clipValue : am_T := (yX10_clipValue, cX10_clipValue, 5, (some .int))
set_option maxRecDepth 100000 in
theorem lmX10_clipValue : am_lM mX10_clipValue 2 := ⟨am_in_gd 61 (by decide +kernel) (by decide +kernel), am_in_gd 1263 rfl rfl, by decide +kernel, by decide +kernel⟩
theorem pmX10_clipValue : plainName mX10_clipValue.1.cls = true := by decide +kernel
abbrev mX10_isAudible : am_T := (yX10_isAudible, cX10_isAudible, 4, (some .boolean))
set_option maxRecDepth 100000 in
theorem lmX10_isAudible : am_lM mX10_isAudible 1 := ⟨am_in_gd 61 (by decide +kernel) (by decide +kernel), am_in_gd 1255 rfl rfl, by decide +kernel, by decide +kernel⟩
theorem pmX10_isAudible : plainName mX10_isAudible.1.cls = true := by decide +kernel
abbrev mX10_works : am_T := (yX10_works, cX10_works, 5, none)
set_option maxRecDepth 100000 in
theorem lmX10_works : am_lM mX10_works 0 := ⟨am_in_gd 61 (by decide +kernel) (by decide +kernel), am_in_gd 1259 rfl rfl, by decide +kernel, by decide +kernel⟩
theorem pmX10_works : plainName mX10_works.1.cls = true := by decide +kernel
abbrev mX10_mixOf : am_T := (yX10_mixOf, cX10_mixOf, 4, (some .int))
set_option maxRecDepth 100000 in
theorem lmX10_mixOf : am_lM mX10_mixOf 2 := ⟨am_in_gd 61 (by decide +kernel) (by decide +kernel), am_in_gd 1377 rfl rfl, by decide +kernel, by decide +kernel⟩
theorem pmX10_mixOf : plainName mX10_mixOf.1.cls = true := by decide +kernel
abbrev mX10_last : am_T := (yX10_last, cX10_last, 3, (some .int))
set_option maxRecDepth 100000 in
theorem lmX10_last : am_lM mX10_last 0 := ⟨am_in_gd 61 (by decide +kernel) (by decide +kernel), am_in_gd 1271 rfl rfl, by decide +kernel, by decide +kernel⟩
theorem pmX10_last : plainName mX10_last.1.cls = true := by decide +kernel
abbrev mX10_track : am_T := (yX10_track, cX10_track, 5, (some .int))
set_option maxRecDepth 100000 in
theorem lmX10_track : am_lM mX10_track 2 := ⟨am_in_gd 61 (by decide +kernel) (by decide +kernel), am_in_gd 1251 rfl rfl, by decide +kernel, by decide +kernel⟩
theorem pmX10_track : plainName mX10_track.1.cls = true := by decide +kernel
abbrev mX10_of : am_T := (yX10_of, cX10_of, 3, (some .int))
set_option maxRecDepth 100000 in
theorem lmX10_of : am_lM mX10_of 2 := ⟨am_in_gd 61 (by decide +kernel) (by decide +kernel), am_in_gd 1222 rfl rfl, by decide +kernel, by decide +kernel⟩
theorem pmX10_of : plainName mX10_of.1.cls = true := by decide +kernel
abbrev mX10_isClip : am_T := (yX10_isClip, cX10_isClip, 2, (some .boolean))
set_option maxRecDepth 100000 in
theorem lmX10_isClip : am_lM mX10_isClip 1 := ⟨am_in_gd 61 (by decide +kernel) (by decide +kernel), am_in_gd 1291 rfl rfl, by decide +kernel, by decide +kernel⟩
theorem pmX10_isClip : plainName mX10_isClip.1.cls = true := by decide +kernel
abbrev mX10_drops : am_T := (yX10_drops, cX10_drops, 3, none)
set_option maxRecDepth 100000 in
theorem lmX10_drops : am_lM mX10_drops 1 := ⟨am_in_gd 61 (by decide +kernel) (by decide +kernel), am_in_gd 1307 rfl rfl, by decide +kernel, by decide +kernel⟩
theorem pmX10_drops : plainName mX10_drops.1.cls = true := by decide +kernel
abbrev mX10_lays : am_T := (yX10_lays, cX10_lays, 3, (some .int))
set_option maxRecDepth 100000 in
theorem lmX10_lays : am_lM mX10_lays 0 := ⟨am_in_gd 61 (by decide +kernel) (by decide +kernel), am_in_gd 1283 rfl rfl, by decide +kernel, by decide +kernel⟩
theorem pmX10_lays : plainName mX10_lays.1.cls = true := by decide +kernel
abbrev mX10_takes : am_T := (yX10_takes, cX10_takes, 3, none)
set_option maxRecDepth 100000 in
theorem lmX10_takes : am_lM mX10_takes 1 := ⟨am_in_gd 61 (by decide +kernel) (by decide +kernel), am_in_gd 1303 rfl rfl, by decide +kernel, by decide +kernel⟩
theorem pmX10_takes : plainName mX10_takes.1.cls = true := by decide +kernel
abbrev mX10_shortens : am_T := (yX10_shortens, cX10_shortens, 1, none)
set_option maxRecDepth 100000 in
theorem lmX10_shortens : am_lM mX10_shortens 0 := ⟨am_in_gd 61 (by decide +kernel) (by decide +kernel), am_in_gd 1334 rfl rfl, by decide +kernel, by decide +kernel⟩
theorem pmX10_shortens : plainName mX10_shortens.1.cls = true := by decide +kernel
abbrev mX10_isShared : am_T := (yX10_isShared, cX10_isShared, 3, (some .boolean))
set_option maxRecDepth 100000 in
theorem lmX10_isShared : am_lM mX10_isShared 1 := ⟨am_in_gd 61 (by decide +kernel) (by decide +kernel), am_in_gd 1279 rfl rfl, by decide +kernel, by decide +kernel⟩
theorem pmX10_isShared : plainName mX10_isShared.1.cls = true := by decide +kernel
abbrev mX10_addClip : am_T := (yX10_addClip, cX10_addClip, 7, (some .int))
set_option maxRecDepth 100000 in
theorem lmX10_addClip : am_lM mX10_addClip 5 := ⟨am_in_gd 61 (by decide +kernel) (by decide +kernel), am_in_gd 1275 rfl rfl, by decide +kernel, by decide +kernel⟩
theorem pmX10_addClip : plainName mX10_addClip.1.cls = true := by decide +kernel
abbrev mX10_clip : am_T := (yX10_clip, cX10_clip, 6, (some .int))
set_option maxRecDepth 100000 in
theorem lmX10_clip : am_lM mX10_clip 2 := ⟨am_in_gd 61 (by decide +kernel) (by decide +kernel), am_in_gd 1287 rfl rfl, by decide +kernel, by decide +kernel⟩
theorem pmX10_clip : plainName mX10_clip.1.cls = true := by decide +kernel
abbrev mX10_setClip : am_T := (yX10_setClip, cX10_setClip, 5, (some .int))
set_option maxRecDepth 100000 in
theorem lmX10_setClip : am_lM mX10_setClip 3 := ⟨am_in_gd 61 (by decide +kernel) (by decide +kernel), am_in_gd 1295 rfl rfl, by decide +kernel, by decide +kernel⟩
theorem pmX10_setClip : plainName mX10_setClip.1.cls = true := by decide +kernel
abbrev mX10_moveClip : am_T := (yX10_moveClip, cX10_moveClip, 4, (some .int))
set_option maxRecDepth 100000 in
theorem lmX10_moveClip : am_lM mX10_moveClip 3 := ⟨am_in_gd 61 (by decide +kernel) (by decide +kernel), am_in_gd 1299 rfl rfl, by decide +kernel, by decide +kernel⟩
theorem pmX10_moveClip : plainName mX10_moveClip.1.cls = true := by decide +kernel
abbrev mX10_copyClip : am_T := (yX10_copyClip, cX10_copyClip, 4, (some .int))
set_option maxRecDepth 100000 in
theorem lmX10_copyClip : am_lM mX10_copyClip 3 := ⟨am_in_gd 61 (by decide +kernel) (by decide +kernel), am_in_gd 1311 rfl rfl, by decide +kernel, by decide +kernel⟩
theorem pmX10_copyClip : plainName mX10_copyClip.1.cls = true := by decide +kernel
abbrev mX10_clipOn : am_T := (yX10_clipOn, cX10_clipOn, 4, (some .int))
set_option maxRecDepth 100000 in
theorem lmX10_clipOn : am_lM mX10_clipOn 2 := ⟨am_in_gd 61 (by decide +kernel) (by decide +kernel), am_in_gd 1322 rfl rfl, by decide +kernel, by decide +kernel⟩
theorem pmX10_clipOn : plainName mX10_clipOn.1.cls = true := by decide +kernel
abbrev mX10_clipAt : am_T := (yX10_clipAt, cX10_clipAt, 3, (some .int))
set_option maxRecDepth 100000 in
theorem lmX10_clipAt : am_lM mX10_clipAt 2 := ⟨am_in_gd 61 (by decide +kernel) (by decide +kernel), am_in_gd 1315 rfl rfl, by decide +kernel, by decide +kernel⟩
theorem pmX10_clipAt : plainName mX10_clipAt.1.cls = true := by decide +kernel
abbrev mX10_explain : am_T := (yX10_explain, cX10_explain, 5, (some .int))
set_option maxRecDepth 100000 in
theorem lmX10_explain : am_lM mX10_explain 2 := ⟨am_in_gd 61 (by decide +kernel) (by decide +kernel), am_in_gd 1326 rfl rfl, by decide +kernel, by decide +kernel⟩
theorem pmX10_explain : plainName mX10_explain.1.cls = true := by decide +kernel
abbrev mX10_trim : am_T := (yX10_trim, cX10_trim, 7, (some .int))
set_option maxRecDepth 100000 in
theorem lmX10_trim : am_lM mX10_trim 3 := ⟨am_in_gd 61 (by decide +kernel) (by decide +kernel), am_in_gd 1330 rfl rfl, by decide +kernel, by decide +kernel⟩
theorem pmX10_trim : plainName mX10_trim.1.cls = true := by decide +kernel
abbrev mX10_divides : am_T := (yX10_divides, cX10_divides, 6, (some .int))
set_option maxRecDepth 100000 in
theorem lmX10_divides : am_lM mX10_divides 2 := ⟨am_in_gd 61 (by decide +kernel) (by decide +kernel), am_in_gd 1342 rfl rfl, by decide +kernel, by decide +kernel⟩
theorem pmX10_divides : plainName mX10_divides.1.cls = true := by decide +kernel
abbrev mX10_divide : am_T := (yX10_divide, cX10_divide, 3, (some .int))
set_option maxRecDepth 100000 in
theorem lmX10_divide : am_lM mX10_divide 2 := ⟨am_in_gd 61 (by decide +kernel) (by decide +kernel), am_in_gd 1338 rfl rfl, by decide +kernel, by decide +kernel⟩
theorem pmX10_divide : plainName mX10_divide.1.cls = true := by decide +kernel
abbrev mX10_remove : am_T := (yX10_remove, cX10_remove, 2, (some .int))
set_option maxRecDepth 100000 in
theorem lmX10_remove : am_lM mX10_remove 1 := ⟨am_in_gd 61 (by decide +kernel) (by decide +kernel), am_in_gd 1346 rfl rfl, by decide +kernel, by decide +kernel⟩
theorem pmX10_remove : plainName mX10_remove.1.cls = true := by decide +kernel
abbrev mX10_room : am_T := (yX10_room, cX10_room, 5, (some .int))
set_option maxRecDepth 100000 in
theorem lmX10_room : am_lM mX10_room 3 := ⟨am_in_gd 61 (by decide +kernel) (by decide +kernel), am_in_gd 1350 rfl rfl, by decide +kernel, by decide +kernel⟩
theorem pmX10_room : plainName mX10_room.1.cls = true := by decide +kernel
abbrev mX10_dividesAll : am_T := (yX10_dividesAll, cX10_dividesAll, 4, none)
set_option maxRecDepth 100000 in
theorem lmX10_dividesAll : am_lM mX10_dividesAll 1 := ⟨am_in_gd 61 (by decide +kernel) (by decide +kernel), am_in_gd 1413 rfl rfl, by decide +kernel, by decide +kernel⟩
theorem pmX10_dividesAll : plainName mX10_dividesAll.1.cls = true := by decide +kernel
abbrev mX10_crossing : am_T := (yX10_crossing, cX10_crossing, 4, (some .int))
set_option maxRecDepth 100000 in
theorem lmX10_crossing : am_lM mX10_crossing 1 := ⟨am_in_gd 61 (by decide +kernel) (by decide +kernel), am_in_gd 1409 rfl rfl, by decide +kernel, by decide +kernel⟩
theorem pmX10_crossing : plainName mX10_crossing.1.cls = true := by decide +kernel
abbrev mX10_dropsChapter : am_T := (yX10_dropsChapter, cX10_dropsChapter, 3, none)
set_option maxRecDepth 100000 in
theorem lmX10_dropsChapter : am_lM mX10_dropsChapter 1 := ⟨am_in_gd 61 (by decide +kernel) (by decide +kernel), am_in_gd 1362 rfl rfl, by decide +kernel, by decide +kernel⟩
theorem pmX10_dropsChapter : plainName mX10_dropsChapter.1.cls = true := by decide +kernel
abbrev mX10_cuts : am_T := (yX10_cuts, cX10_cuts, 12, (some .int))
set_option maxRecDepth 100000 in
theorem lmX10_cuts : am_lM mX10_cuts 2 := ⟨am_in_gd 61 (by decide +kernel) (by decide +kernel), am_in_gd 1358 rfl rfl, by decide +kernel, by decide +kernel⟩
theorem pmX10_cuts : plainName mX10_cuts.1.cls = true := by decide +kernel
abbrev mX10_cut : am_T := (yX10_cut, cX10_cut, 4, (some .int))
set_option maxRecDepth 100000 in
theorem lmX10_cut : am_lM mX10_cut 2 := ⟨am_in_gd 61 (by decide +kernel) (by decide +kernel), am_in_gd 1354 rfl rfl, by decide +kernel, by decide +kernel⟩
theorem pmX10_cut : plainName mX10_cut.1.cls = true := by decide +kernel
abbrev mX10_findsHushes : am_T := (yX10_findsHushes, cX10_findsHushes, 7, none)
set_option maxRecDepth 100000 in
theorem lmX10_findsHushes : am_lM mX10_findsHushes 2 := ⟨am_in_gd 61 (by decide +kernel) (by decide +kernel), am_in_gd 1373 rfl rfl, by decide +kernel, by decide +kernel⟩
theorem pmX10_findsHushes : plainName mX10_findsHushes.1.cls = true := by decide +kernel
abbrev mX10_isHush : am_T := (yX10_isHush, cX10_isHush, 2, (some .boolean))
set_option maxRecDepth 100000 in
theorem lmX10_isHush : am_lM mX10_isHush 2 := ⟨am_in_gd 61 (by decide +kernel) (by decide +kernel), am_in_gd 1369 rfl rfl, by decide +kernel, by decide +kernel⟩
theorem pmX10_isHush : plainName mX10_isHush.1.cls = true := by decide +kernel
abbrev mX10_silence : am_T := (yX10_silence, cX10_silence, 5, (some .int))
set_option maxRecDepth 100000 in
theorem lmX10_silence : am_lM mX10_silence 4 := ⟨am_in_gd 61 (by decide +kernel) (by decide +kernel), am_in_gd 1366 rfl rfl, by decide +kernel, by decide +kernel⟩
theorem pmX10_silence : plainName mX10_silence.1.cls = true := by decide +kernel
abbrev mX10_tighten : am_T := (yX10_tighten, cX10_tighten, 5, (some .int))
set_option maxRecDepth 100000 in
theorem lmX10_tighten : am_lM mX10_tighten 2 := ⟨am_in_gd 61 (by decide +kernel) (by decide +kernel), am_in_gd 1381 rfl rfl, by decide +kernel, by decide +kernel⟩
theorem pmX10_tighten : plainName mX10_tighten.1.cls = true := by decide +kernel
abbrev mX10_ifCut : am_T := (yX10_ifCut, cX10_ifCut, 5, (some .int))
set_option maxRecDepth 100000 in
theorem lmX10_ifCut : am_lM mX10_ifCut 3 := ⟨am_in_gd 61 (by decide +kernel) (by decide +kernel), am_in_gd 1385 rfl rfl, by decide +kernel, by decide +kernel⟩
theorem pmX10_ifCut : plainName mX10_ifCut.1.cls = true := by decide +kernel
abbrev mX10_inserts : am_T := (yX10_inserts, cX10_inserts, 4, (some .int))
set_option maxRecDepth 100000 in
theorem lmX10_inserts : am_lM mX10_inserts 2 := ⟨am_in_gd 61 (by decide +kernel) (by decide +kernel), am_in_gd 1405 rfl rfl, by decide +kernel, by decide +kernel⟩
theorem pmX10_inserts : plainName mX10_inserts.1.cls = true := by decide +kernel
abbrev mX10_insert : am_T := (yX10_insert, cX10_insert, 4, (some .int))
set_option maxRecDepth 100000 in
theorem lmX10_insert : am_lM mX10_insert 2 := ⟨am_in_gd 61 (by decide +kernel) (by decide +kernel), am_in_gd 1401 rfl rfl, by decide +kernel, by decide +kernel⟩
theorem pmX10_insert : plainName mX10_insert.1.cls = true := by decide +kernel
abbrev mX10_laysChapter : am_T := (yX10_laysChapter, cX10_laysChapter, 6, (some .int))
set_option maxRecDepth 100000 in
theorem lmX10_laysChapter : am_lM mX10_laysChapter 2 := ⟨am_in_gd 61 (by decide +kernel) (by decide +kernel), am_in_gd 1421 rfl rfl, by decide +kernel, by decide +kernel⟩
theorem pmX10_laysChapter : plainName mX10_laysChapter.1.cls = true := by decide +kernel
abbrev mX10_chapter : am_T := (yX10_chapter, cX10_chapter, 4, (some .int))
set_option maxRecDepth 100000 in
theorem lmX10_chapter : am_lM mX10_chapter 2 := ⟨am_in_gd 61 (by decide +kernel) (by decide +kernel), am_in_gd 1417 rfl rfl, by decide +kernel, by decide +kernel⟩
theorem pmX10_chapter : plainName mX10_chapter.1.cls = true := by decide +kernel
abbrev mX10_isChapter : am_T := (yX10_isChapter, cX10_isChapter, 2, (some .boolean))
set_option maxRecDepth 100000 in
theorem lmX10_isChapter : am_lM mX10_isChapter 1 := ⟨am_in_gd 61 (by decide +kernel) (by decide +kernel), am_in_gd 1429 rfl rfl, by decide +kernel, by decide +kernel⟩
theorem pmX10_isChapter : plainName mX10_isChapter.1.cls = true := by decide +kernel
abbrev mX10_dropChapter : am_T := (yX10_dropChapter, cX10_dropChapter, 2, (some .int))
set_option maxRecDepth 100000 in
theorem lmX10_dropChapter : am_lM mX10_dropChapter 1 := ⟨am_in_gd 61 (by decide +kernel) (by decide +kernel), am_in_gd 1425 rfl rfl, by decide +kernel, by decide +kernel⟩
theorem pmX10_dropChapter : plainName mX10_dropChapter.1.cls = true := by decide +kernel
abbrev mX10_ofChapter : am_T := (yX10_ofChapter, cX10_ofChapter, 7, (some .int))
set_option maxRecDepth 100000 in
theorem lmX10_ofChapter : am_lM mX10_ofChapter 2 := ⟨am_in_gd 61 (by decide +kernel) (by decide +kernel), am_in_gd 1433 rfl rfl, by decide +kernel, by decide +kernel⟩
theorem pmX10_ofChapter : plainName mX10_ofChapter.1.cls = true := by decide +kernel
abbrev mX10_isFrame : am_T := (yX10_isFrame, cX10_isFrame, 1, (some .boolean))
set_option maxRecDepth 100000 in
theorem lmX10_isFrame : am_lM mX10_isFrame 1 := ⟨am_in_gd 61 (by decide +kernel) (by decide +kernel), am_in_gd 1318 rfl rfl, by decide +kernel, by decide +kernel⟩
theorem pmX10_isFrame : plainName mX10_isFrame.1.cls = true := by decide +kernel
abbrev mX10_chapterAt : am_T := (yX10_chapterAt, cX10_chapterAt, 3, (some .int))
set_option maxRecDepth 100000 in
theorem lmX10_chapterAt : am_lM mX10_chapterAt 1 := ⟨am_in_gd 61 (by decide +kernel) (by decide +kernel), am_in_gd 1437 rfl rfl, by decide +kernel, by decide +kernel⟩
theorem pmX10_chapterAt : plainName mX10_chapterAt.1.cls = true := by decide +kernel
abbrev mX10_value : am_T := (yX10_value, cX10_value, 5, (some .int))
set_option maxRecDepth 100000 in
theorem lmX10_value : am_lM mX10_value 3 := ⟨am_in_gd 61 (by decide +kernel) (by decide +kernel), am_in_gd 1441 rfl rfl, by decide +kernel, by decide +kernel⟩
theorem pmX10_value : plainName mX10_value.1.cls = true := by decide +kernel
abbrev mX10_mix : am_T := (yX10_mix, cX10_mix, 2, (some .int))
set_option maxRecDepth 100000 in
theorem lmX10_mix : am_lM mX10_mix 1 := ⟨am_in_gd 61 (by decide +kernel) (by decide +kernel), am_in_gd 1445 rfl rfl, by decide +kernel, by decide +kernel⟩
theorem pmX10_mix : plainName mX10_mix.1.cls = true := by decide +kernel
abbrev mX10_peak : am_T := (yX10_peak, cX10_peak, 8, (some .int))
set_option maxRecDepth 100000 in
theorem lmX10_peak : am_lM mX10_peak 1 := ⟨am_in_gd 61 (by decide +kernel) (by decide +kernel), am_in_gd 1449 rfl rfl, by decide +kernel, by decide +kernel⟩
theorem pmX10_peak : plainName mX10_peak.1.cls = true := by decide +kernel
abbrev mX10_windows : am_T := (yX10_windows, cX10_windows, 1, (some .int))
set_option maxRecDepth 100000 in
theorem lmX10_windows : am_lM mX10_windows 0 := ⟨am_in_gd 61 (by decide +kernel) (by decide +kernel), am_in_gd 1393 rfl rfl, by decide +kernel, by decide +kernel⟩
theorem pmX10_windows : plainName mX10_windows.1.cls = true := by decide +kernel
abbrev mX10_levelOf : am_T := (yX10_levelOf, cX10_levelOf, 6, (some .int))
set_option maxRecDepth 100000 in
theorem lmX10_levelOf : am_lM mX10_levelOf 2 := ⟨am_in_gd 61 (by decide +kernel) (by decide +kernel), am_in_gd 1397 rfl rfl, by decide +kernel, by decide +kernel⟩
theorem pmX10_levelOf : plainName mX10_levelOf.1.cls = true := by decide +kernel
abbrev mX10_level : am_T := (yX10_level, cX10_level, 2, (some .int))
set_option maxRecDepth 100000 in
theorem lmX10_level : am_lM mX10_level 1 := ⟨am_in_gd 61 (by decide +kernel) (by decide +kernel), am_in_gd 1453 rfl rfl, by decide +kernel, by decide +kernel⟩
theorem pmX10_level : plainName mX10_level.1.cls = true := by decide +kernel
abbrev mX10_loudnessOf : am_T := (yX10_loudnessOf, cX10_loudnessOf, 12, (some .int))
set_option maxRecDepth 100000 in
theorem lmX10_loudnessOf : am_lM mX10_loudnessOf 2 := ⟨am_in_gd 61 (by decide +kernel) (by decide +kernel), am_in_gd 1389 rfl rfl, by decide +kernel, by decide +kernel⟩
theorem pmX10_loudnessOf : plainName mX10_loudnessOf.1.cls = true := by decide +kernel
abbrev mX10_loudness : am_T := (yX10_loudness, cX10_loudness, 2, (some .int))
set_option maxRecDepth 100000 in
theorem lmX10_loudness : am_lM mX10_loudness 1 := ⟨am_in_gd 61 (by decide +kernel) (by decide +kernel), am_in_gd 1457 rfl rfl, by decide +kernel, by decide +kernel⟩
theorem pmX10_loudness : plainName mX10_loudness.1.cls = true := by decide +kernel
abbrev mX10_loudnessAgain : am_T := (yX10_loudnessAgain, cX10_loudnessAgain, 1, (some .int))
set_option maxRecDepth 100000 in
theorem lmX10_loudnessAgain : am_lM mX10_loudnessAgain 0 := ⟨am_in_gd 61 (by decide +kernel) (by decide +kernel), am_in_gd 1461 rfl rfl, by decide +kernel, by decide +kernel⟩
theorem pmX10_loudnessAgain : plainName mX10_loudnessAgain.1.cls = true := by decide +kernel
abbrev mX10_masterFor : am_T := (yX10_masterFor, cX10_masterFor, 3, (some .int))
set_option maxRecDepth 100000 in
theorem lmX10_masterFor : am_lM mX10_masterFor 1 := ⟨am_in_gd 61 (by decide +kernel) (by decide +kernel), am_in_gd 1466 rfl rfl, by decide +kernel, by decide +kernel⟩
theorem pmX10_masterFor : plainName mX10_masterFor.1.cls = true := by decide +kernel
abbrev mX10_normalize : am_T := (yX10_normalize, cX10_normalize, 3, (some .int))
set_option maxRecDepth 100000 in
theorem lmX10_normalize : am_lM mX10_normalize 1 := ⟨am_in_gd 61 (by decide +kernel) (by decide +kernel), am_in_gd 1470 rfl rfl, by decide +kernel, by decide +kernel⟩
theorem pmX10_normalize : plainName mX10_normalize.1.cls = true := by decide +kernel
abbrev mX10_covered : am_T := (yX10_covered, cX10_covered, 4, (some .int))
set_option maxRecDepth 100000 in
theorem lmX10_covered : am_lM mX10_covered 1 := ⟨am_in_gd 61 (by decide +kernel) (by decide +kernel), am_in_gd 1475 rfl rfl, by decide +kernel, by decide +kernel⟩
theorem pmX10_covered : plainName mX10_covered.1.cls = true := by decide +kernel
abbrev mX10_events : am_T := (yX10_events, cX10_events, 1, (some .int))
set_option maxRecDepth 100000 in
theorem lmX10_events : am_lM mX10_events 0 := ⟨am_in_gd 61 (by decide +kernel) (by decide +kernel), am_in_gd 1483 rfl rfl, by decide +kernel, by decide +kernel⟩
theorem pmX10_events : plainName mX10_events.1.cls = true := by decide +kernel
abbrev mX10_rank : am_T := (yX10_rank, cX10_rank, 3, (some .int))
set_option maxRecDepth 100000 in
theorem lmX10_rank : am_lM mX10_rank 1 := ⟨am_in_gd 61 (by decide +kernel) (by decide +kernel), am_in_gd 1487 rfl rfl, by decide +kernel, by decide +kernel⟩
theorem pmX10_rank : plainName mX10_rank.1.cls = true := by decide +kernel
abbrev mX10_event : am_T := (yX10_event, cX10_event, 8, (some .int))
set_option maxRecDepth 100000 in
theorem lmX10_event : am_lM mX10_event 2 := ⟨am_in_gd 61 (by decide +kernel) (by decide +kernel), am_in_gd 1479 rfl rfl, by decide +kernel, by decide +kernel⟩
theorem pmX10_event : plainName mX10_event.1.cls = true := by decide +kernel
abbrev mX10_append : am_T := (yX10_append, cX10_append, 2, (some .int))
set_option maxRecDepth 100000 in
theorem lmX10_append : am_lM mX10_append 1 := ⟨am_in_gd 61 (by decide +kernel) (by decide +kernel), am_in_gd 1492 rfl rfl, by decide +kernel, by decide +kernel⟩
theorem pmX10_append : plainName mX10_append.1.cls = true := by decide +kernel
abbrev mX10_here : am_T := (yX10_here, cX10_here, 1, (some .int))
set_option maxRecDepth 100000 in
theorem lmX10_here : am_lM mX10_here 0 := ⟨am_in_gd 61 (by decide +kernel) (by decide +kernel), am_in_gd 1504 rfl rfl, by decide +kernel, by decide +kernel⟩
theorem pmX10_here : plainName mX10_here.1.cls = true := by decide +kernel
abbrev mX10_number : am_T := (yX10_number, cX10_number, 3, (some .int))
set_option maxRecDepth 100000 in
theorem lmX10_number : am_lM mX10_number 0 := ⟨am_in_gd 61 (by decide +kernel) (by decide +kernel), am_in_gd 1511 rfl rfl, by decide +kernel, by decide +kernel⟩
theorem pmX10_number : plainName mX10_number.1.cls = true := by decide +kernel
abbrev mX10_signOf : am_T := (yX10_signOf, cX10_signOf, 1, (some .int))
set_option maxRecDepth 100000 in
theorem lmX10_signOf : am_lM mX10_signOf 1 := ⟨am_in_gd 61 (by decide +kernel) (by decide +kernel), am_in_gd 1507 rfl rfl, by decide +kernel, by decide +kernel⟩
theorem pmX10_signOf : plainName mX10_signOf.1.cls = true := by decide +kernel
abbrev mX10_command : am_T := (yX10_command, cX10_command, 3, none)
set_option maxRecDepth 100000 in
theorem lmX10_command : am_lM mX10_command 1 := ⟨am_in_gd 61 (by decide +kernel) (by decide +kernel), am_in_gd 1500 rfl rfl, by decide +kernel, by decide +kernel⟩
theorem pmX10_command : plainName mX10_command.1.cls = true := by decide +kernel
abbrev mX10_done : am_T := (yX10_done, cX10_done, 4, (some .int))
set_option maxRecDepth 100000 in
theorem lmX10_done : am_lM mX10_done 1 := ⟨am_in_gd 61 (by decide +kernel) (by decide +kernel), am_in_gd 1515 rfl rfl, by decide +kernel, by decide +kernel⟩
theorem pmX10_done : plainName mX10_done.1.cls = true := by decide +kernel
abbrev mX10_execute : am_T := (yX10_execute, cX10_execute, 5, (some .int))
set_option maxRecDepth 100000 in
theorem lmX10_execute : am_lM mX10_execute 0 := ⟨am_in_gd 61 (by decide +kernel) (by decide +kernel), am_in_gd 1496 rfl rfl, by decide +kernel, by decide +kernel⟩
theorem pmX10_execute : plainName mX10_execute.1.cls = true := by decide +kernel
abbrev mX10_refused : am_T := (yX10_refused, cX10_refused, 2, (some .int))
set_option maxRecDepth 100000 in
theorem lmX10_refused : am_lM mX10_refused 1 := ⟨am_in_gd 61 (by decide +kernel) (by decide +kernel), am_in_gd 1519 rfl rfl, by decide +kernel, by decide +kernel⟩
theorem pmX10_refused : plainName mX10_refused.1.cls = true := by decide +kernel
abbrev mX10_puts : am_T := (yX10_puts, cX10_puts, 4, none)
set_option maxRecDepth 100000 in
theorem lmX10_puts : am_lM mX10_puts 2 := ⟨am_in_gd 61 (by decide +kernel) (by decide +kernel), am_in_gd 1527 rfl rfl, by decide +kernel, by decide +kernel⟩
theorem pmX10_puts : plainName mX10_puts.1.cls = true := by decide +kernel
abbrev mX10_write : am_T := (yX10_write, cX10_write, 2, (some .int))
set_option maxRecDepth 100000 in
theorem lmX10_write : am_lM mX10_write 0 := ⟨am_in_gd 61 (by decide +kernel) (by decide +kernel), am_in_gd 1523 rfl rfl, by decide +kernel, by decide +kernel⟩
theorem pmX10_write : plainName mX10_write.1.cls = true := by decide +kernel
abbrev mX10_written : am_T := (yX10_written, cX10_written, 2, (some .int))
set_option maxRecDepth 100000 in
theorem lmX10_written : am_lM mX10_written 1 := ⟨am_in_gd 61 (by decide +kernel) (by decide +kernel), am_in_gd 1531 rfl rfl, by decide +kernel, by decide +kernel⟩
theorem pmX10_written : plainName mX10_written.1.cls = true := by decide +kernel
abbrev mX10_begin : am_T := (yX10_begin, cX10_begin, 1, (some .int))
set_option maxRecDepth 100000 in
theorem lmX10_begin : am_lM mX10_begin 0 := ⟨am_in_gd 61 (by decide +kernel) (by decide +kernel), am_in_gd 1535 rfl rfl, by decide +kernel, by decide +kernel⟩
theorem pmX10_begin : plainName mX10_begin.1.cls = true := by decide +kernel
abbrev mX10_end : am_T := (yX10_end, cX10_end, 1, (some .int))
set_option maxRecDepth 100000 in
theorem lmX10_end : am_lM mX10_end 0 := ⟨am_in_gd 61 (by decide +kernel) (by decide +kernel), am_in_gd 1539 rfl rfl, by decide +kernel, by decide +kernel⟩
theorem pmX10_end : plainName mX10_end.1.cls = true := by decide +kernel
abbrev mX10_undo : am_T := (yX10_undo, cX10_undo, 2, (some .int))
set_option maxRecDepth 100000 in
theorem lmX10_undo : am_lM mX10_undo 0 := ⟨am_in_gd 61 (by decide +kernel) (by decide +kernel), am_in_gd 1543 rfl rfl, by decide +kernel, by decide +kernel⟩
theorem pmX10_undo : plainName mX10_undo.1.cls = true := by decide +kernel
abbrev mX10_redo : am_T := (yX10_redo, cX10_redo, 2, (some .int))
set_option maxRecDepth 100000 in
theorem lmX10_redo : am_lM mX10_redo 0 := ⟨am_in_gd 61 (by decide +kernel) (by decide +kernel), am_in_gd 1547 rfl rfl, by decide +kernel, by decide +kernel⟩
theorem pmX10_redo : plainName mX10_redo.1.cls = true := by decide +kernel
abbrev mX10_save : am_T := (yX10_save, cX10_save, 1, (some .int))
set_option maxRecDepth 100000 in
theorem lmX10_save : am_lM mX10_save 0 := ⟨am_in_gd 61 (by decide +kernel) (by decide +kernel), am_in_gd 1551 rfl rfl, by decide +kernel, by decide +kernel⟩
theorem pmX10_save : plainName mX10_save.1.cls = true := by decide +kernel
abbrev mX10_restore : am_T := (yX10_restore, cX10_restore, 1, (some .int))
set_option maxRecDepth 100000 in
theorem lmX10_restore : am_lM mX10_restore 0 := ⟨am_in_gd 61 (by decide +kernel) (by decide +kernel), am_in_gd 1555 rfl rfl, by decide +kernel, by decide +kernel⟩
theorem pmX10_restore : plainName mX10_restore.1.cls = true := by decide +kernel
abbrev mX10_count : am_T := (yX10_count, cX10_count, 2, (some .int))
set_option maxRecDepth 100000 in
theorem lmX10_count : am_lM mX10_count 1 := ⟨am_in_gd 61 (by decide +kernel) (by decide +kernel), am_in_gd 1559 rfl rfl, by decide +kernel, by decide +kernel⟩
theorem pmX10_count : plainName mX10_count.1.cls = true := by decide +kernel
abbrev mX0_init : am_T := (yX0_init, cX0_init, 1, none)
set_option maxRecDepth 100000 in
theorem lmX0_init : am_lM mX0_init 0 := ⟨am_in_gd 53 (by decide +kernel) (by decide +kernel), am_in_gd 100 rfl rfl, by decide +kernel, by decide +kernel⟩
theorem pmX0_init : plainName mX0_init.1.cls = true := by decide +kernel
abbrev mX0_has : am_T := (yX0_has, cX0_has, 2, (some .boolean))
set_option maxRecDepth 100000 in
theorem lmX0_has : am_lM mX0_has 1 := ⟨am_in_gd 53 (by decide +kernel) (by decide +kernel), am_in_gd 783 rfl rfl, by decide +kernel, by decide +kernel⟩
theorem pmX0_has : plainName mX0_has.1.cls = true := by decide +kernel
abbrev mX0_firstFrom : am_T := (yX0_firstFrom, cX0_firstFrom, 3, (some .int))
set_option maxRecDepth 100000 in
theorem lmX0_firstFrom : am_lM mX0_firstFrom 1 := ⟨am_in_gd 53 (by decide +kernel) (by decide +kernel), am_in_gd 766 rfl rfl, by decide +kernel, by decide +kernel⟩
theorem pmX0_firstFrom : plainName mX0_firstFrom.1.cls = true := by decide +kernel
abbrev mX0_titleAt : am_T := (yX0_titleAt, cX0_titleAt, 3, (some .int))
set_option maxRecDepth 100000 in
theorem lmX0_titleAt : am_lM mX0_titleAt 1 := ⟨am_in_gd 53 (by decide +kernel) (by decide +kernel), am_in_gd 971 rfl rfl, by decide +kernel, by decide +kernel⟩
theorem pmX0_titleAt : plainName mX0_titleAt.1.cls = true := by decide +kernel
abbrev mX0_enter : am_T := (yX0_enter, cX0_enter, 4, (some .int))
set_option maxRecDepth 100000 in
theorem lmX0_enter : am_lM mX0_enter 2 := ⟨am_in_gd 53 (by decide +kernel) (by decide +kernel), am_in_gd 778 rfl rfl, by decide +kernel, by decide +kernel⟩
theorem pmX0_enter : plainName mX0_enter.1.cls = true := by decide +kernel
abbrev mX0_takeOut : am_T := (yX0_takeOut, cX0_takeOut, 2, (some .int))
set_option maxRecDepth 100000 in
theorem lmX0_takeOut : am_lM mX0_takeOut 1 := ⟨am_in_gd 53 (by decide +kernel) (by decide +kernel), am_in_gd 792 rfl rfl, by decide +kernel, by decide +kernel⟩
theorem pmX0_takeOut : plainName mX0_takeOut.1.cls = true := by decide +kernel
abbrev mX0_takeFrames : am_T := (yX0_takeFrames, cX0_takeFrames, 6, none)
set_option maxRecDepth 100000 in
theorem lmX0_takeFrames : am_lM mX0_takeFrames 2 := ⟨am_in_gd 53 (by decide +kernel) (by decide +kernel), am_in_gd 728 rfl rfl, by decide +kernel, by decide +kernel⟩
theorem pmX0_takeFrames : plainName mX0_takeFrames.1.cls = true := by decide +kernel
abbrev mX0_giveFrames : am_T := (yX0_giveFrames, cX0_giveFrames, 4, none)
set_option maxRecDepth 100000 in
theorem lmX0_giveFrames : am_lM mX0_giveFrames 2 := ⟨am_in_gd 53 (by decide +kernel) (by decide +kernel), am_in_gd 762 rfl rfl, by decide +kernel, by decide +kernel⟩
theorem pmX0_giveFrames : plainName mX0_giveFrames.1.cls = true := by decide +kernel
abbrev mX1_init : am_T := (yX1_init, cX1_init, 1, none)
set_option maxRecDepth 100000 in
theorem lmX1_init : am_lM mX1_init 0 := ⟨am_in_gd 52 (by decide +kernel) (by decide +kernel), am_in_gd 82 rfl rfl, by decide +kernel, by decide +kernel⟩
theorem pmX1_init : plainName mX1_init.1.cls = true := by decide +kernel
abbrev mX1_has : am_T := (yX1_has, cX1_has, 2, (some .boolean))
set_option maxRecDepth 100000 in
theorem lmX1_has : am_lM mX1_has 1 := ⟨am_in_gd 52 (by decide +kernel) (by decide +kernel), am_in_gd 600 rfl rfl, by decide +kernel, by decide +kernel⟩
theorem pmX1_has : plainName mX1_has.1.cls = true := by decide +kernel
abbrev mX1_get : am_T := (yX1_get, cX1_get, 3, (some .int))
set_option maxRecDepth 100000 in
theorem lmX1_get : am_lM mX1_get 2 := ⟨am_in_gd 52 (by decide +kernel) (by decide +kernel), am_in_gd 419 rfl rfl, by decide +kernel, by decide +kernel⟩
theorem pmX1_get : plainName mX1_get.1.cls = true := by decide +kernel
abbrev mX1_put : am_T := (yX1_put, cX1_put, 4, none)
set_option maxRecDepth 100000 in
theorem lmX1_put : am_lM mX1_put 3 := ⟨am_in_gd 52 (by decide +kernel) (by decide +kernel), am_in_gd 592 rfl rfl, by decide +kernel, by decide +kernel⟩
theorem pmX1_put : plainName mX1_put.1.cls = true := by decide +kernel
abbrev mX1_endOf : am_T := (yX1_endOf, cX1_endOf, 2, (some .int))
set_option maxRecDepth 100000 in
theorem lmX1_endOf : am_lM mX1_endOf 1 := ⟨am_in_gd 52 (by decide +kernel) (by decide +kernel), am_in_gd 559 rfl rfl, by decide +kernel, by decide +kernel⟩
theorem pmX1_endOf : plainName mX1_endOf.1.cls = true := by decide +kernel
abbrev mX1_lastEnd : am_T := (yX1_lastEnd, cX1_lastEnd, 3, (some .int))
set_option maxRecDepth 100000 in
theorem lmX1_lastEnd : am_lM mX1_lastEnd 0 := ⟨am_in_gd 52 (by decide +kernel) (by decide +kernel), am_in_gd 555 rfl rfl, by decide +kernel, by decide +kernel⟩
theorem pmX1_lastEnd : plainName mX1_lastEnd.1.cls = true := by decide +kernel
abbrev mX1_on : am_T := (yX1_on, cX1_on, 4, (some .int))
set_option maxRecDepth 100000 in
theorem lmX1_on : am_lM mX1_on 2 := ⟨am_in_gd 52 (by decide +kernel) (by decide +kernel), am_in_gd 703 rfl rfl, by decide +kernel, by decide +kernel⟩
theorem pmX1_on : plainName mX1_on.1.cls = true := by decide +kernel
abbrev mX1_isFading : am_T := (yX1_isFading, cX1_isFading, 3, (some .boolean))
set_option maxRecDepth 100000 in
theorem lmX1_isFading : am_lM mX1_isFading 2 := ⟨am_in_gd 52 (by decide +kernel) (by decide +kernel), am_in_gd 712 rfl rfl, by decide +kernel, by decide +kernel⟩
theorem pmX1_isFading : plainName mX1_isFading.1.cls = true := by decide +kernel
abbrev mX1_isFree : am_T := (yX1_isFree, cX1_isFree, 6, (some .boolean))
set_option maxRecDepth 100000 in
theorem lmX1_isFree : am_lM mX1_isFree 4 := ⟨am_in_gd 52 (by decide +kernel) (by decide +kernel), am_in_gd 579 rfl rfl, by decide +kernel, by decide +kernel⟩
theorem pmX1_isFree : plainName mX1_isFree.1.cls = true := by decide +kernel
abbrev mX1_usersOf : am_T := (yX1_usersOf, cX1_usersOf, 4, (some .int))
set_option maxRecDepth 100000 in
theorem lmX1_usersOf : am_lM mX1_usersOf 1 := ⟨am_in_gd 52 (by decide +kernel) (by decide +kernel), am_in_gd 415 rfl rfl, by decide +kernel, by decide +kernel⟩
theorem pmX1_usersOf : plainName mX1_usersOf.1.cls = true := by decide +kernel
abbrev mX1_clipsOn : am_T := (yX1_clipsOn, cX1_clipsOn, 4, (some .int))
set_option maxRecDepth 100000 in
theorem lmX1_clipsOn : am_lM mX1_clipsOn 1 := ⟨am_in_gd 52 (by decide +kernel) (by decide +kernel), am_in_gd 543 rfl rfl, by decide +kernel, by decide +kernel⟩
theorem pmX1_clipsOn : plainName mX1_clipsOn.1.cls = true := by decide +kernel
abbrev mX1_framesOn : am_T := (yX1_framesOn, cX1_framesOn, 4, (some .int))
set_option maxRecDepth 100000 in
theorem lmX1_framesOn : am_lM mX1_framesOn 1 := ⟨am_in_gd 52 (by decide +kernel) (by decide +kernel), am_in_gd 547 rfl rfl, by decide +kernel, by decide +kernel⟩
theorem pmX1_framesOn : plainName mX1_framesOn.1.cls = true := by decide +kernel
abbrev mX1_placeFor : am_T := (yX1_placeFor, cX1_placeFor, 6, (some .int))
set_option maxRecDepth 100000 in
theorem lmX1_placeFor : am_lM mX1_placeFor 2 := ⟨am_in_gd 52 (by decide +kernel) (by decide +kernel), am_in_gd 583 rfl rfl, by decide +kernel, by decide +kernel⟩
theorem pmX1_placeFor : plainName mX1_placeFor.1.cls = true := by decide +kernel
abbrev mX1_openRow : am_T := (yX1_openRow, cX1_openRow, 3, none)
set_option maxRecDepth 100000 in
theorem lmX1_openRow : am_lM mX1_openRow 1 := ⟨am_in_gd 52 (by decide +kernel) (by decide +kernel), am_in_gd 587 rfl rfl, by decide +kernel, by decide +kernel⟩
theorem pmX1_openRow : plainName mX1_openRow.1.cls = true := by decide +kernel
abbrev mX1_closeRow : am_T := (yX1_closeRow, cX1_closeRow, 3, none)
set_option maxRecDepth 100000 in
theorem lmX1_closeRow : am_lM mX1_closeRow 1 := ⟨am_in_gd 52 (by decide +kernel) (by decide +kernel), am_in_gd 643 rfl rfl, by decide +kernel, by decide +kernel⟩
theorem pmX1_closeRow : plainName mX1_closeRow.1.cls = true := by decide +kernel
abbrev mX1_copyRow : am_T := (yX1_copyRow, cX1_copyRow, 3, none)
set_option maxRecDepth 100000 in
theorem lmX1_copyRow : am_lM mX1_copyRow 2 := ⟨am_in_gd 52 (by decide +kernel) (by decide +kernel), am_in_gd 639 rfl rfl, by decide +kernel, by decide +kernel⟩
theorem pmX1_copyRow : plainName mX1_copyRow.1.cls = true := by decide +kernel
abbrev mX1_change : am_T := (yX1_change, cX1_change, 6, (some .int))
set_option maxRecDepth 100000 in
theorem lmX1_change : am_lM mX1_change 3 := ⟨am_in_gd 52 (by decide +kernel) (by decide +kernel), am_in_gd 617 rfl rfl, by decide +kernel, by decide +kernel⟩
theorem pmX1_change : plainName mX1_change.1.cls = true := by decide +kernel
abbrev mX1_shift : am_T := (yX1_shift, cX1_shift, 6, (some .int))
set_option maxRecDepth 100000 in
theorem lmX1_shift : am_lM mX1_shift 3 := ⟨am_in_gd 52 (by decide +kernel) (by decide +kernel), am_in_gd 627 rfl rfl, by decide +kernel, by decide +kernel⟩
theorem pmX1_shift : plainName mX1_shift.1.cls = true := by decide +kernel
abbrev mX1_duplicate : am_T := (yX1_duplicate, cX1_duplicate, 4, (some .int))
set_option maxRecDepth 100000 in
theorem lmX1_duplicate : am_lM mX1_duplicate 3 := ⟨am_in_gd 52 (by decide +kernel) (by decide +kernel), am_in_gd 695 rfl rfl, by decide +kernel, by decide +kernel⟩
theorem pmX1_duplicate : plainName mX1_duplicate.1.cls = true := by decide +kernel
abbrev mX1_copyTo : am_T := (yX1_copyTo, cX1_copyTo, 5, (some .int))
set_option maxRecDepth 100000 in
theorem lmX1_copyTo : am_lM mX1_copyTo 3 := ⟨am_in_gd 52 (by decide +kernel) (by decide +kernel), am_in_gd 633 rfl rfl, by decide +kernel, by decide +kernel⟩
theorem pmX1_copyTo : plainName mX1_copyTo.1.cls = true := by decide +kernel
abbrev mX1_divideOne : am_T := (yX1_divideOne, cX1_divideOne, 3, (some .int))
set_option maxRecDepth 100000 in
theorem lmX1_divideOne : am_lM mX1_divideOne 2 := ⟨am_in_gd 52 (by decide +kernel) (by decide +kernel), am_in_gd 666 rfl rfl, by decide +kernel, by decide +kernel⟩
theorem pmX1_divideOne : plainName mX1_divideOne.1.cls = true := by decide +kernel
abbrev mX1_takeOut : am_T := (yX1_takeOut, cX1_takeOut, 2, (some .int))
set_option maxRecDepth 100000 in
theorem lmX1_takeOut : am_lM mX1_takeOut 1 := ⟨am_in_gd 52 (by decide +kernel) (by decide +kernel), am_in_gd 679 rfl rfl, by decide +kernel, by decide +kernel⟩
theorem pmX1_takeOut : plainName mX1_takeOut.1.cls = true := by decide +kernel
abbrev mX1_split : am_T := (yX1_split, cX1_split, 4, none)
set_option maxRecDepth 100000 in
theorem lmX1_split : am_lM mX1_split 2 := ⟨am_in_gd 52 (by decide +kernel) (by decide +kernel), am_in_gd 670 rfl rfl, by decide +kernel, by decide +kernel⟩
theorem pmX1_split : plainName mX1_split.1.cls = true := by decide +kernel
abbrev mX1_fitFades : am_T := (yX1_fitFades, cX1_fitFades, 4, none)
set_option maxRecDepth 100000 in
theorem lmX1_fitFades : am_lM mX1_fitFades 1 := ⟨am_in_gd 52 (by decide +kernel) (by decide +kernel), am_in_gd 657 rfl rfl, by decide +kernel, by decide +kernel⟩
theorem pmX1_fitFades : plainName mX1_fitFades.1.cls = true := by decide +kernel
abbrev mX1_isAcross : am_T := (yX1_isAcross, cX1_isAcross, 3, (some .boolean))
set_option maxRecDepth 100000 in
theorem lmX1_isAcross : am_lM mX1_isAcross 2 := ⟨am_in_gd 52 (by decide +kernel) (by decide +kernel), am_in_gd 736 rfl rfl, by decide +kernel, by decide +kernel⟩
theorem pmX1_isAcross : plainName mX1_isAcross.1.cls = true := by decide +kernel
abbrev mX1_clipsAcross : am_T := (yX1_clipsAcross, cX1_clipsAcross, 4, (some .int))
set_option maxRecDepth 100000 in
theorem lmX1_clipsAcross : am_lM mX1_clipsAcross 1 := ⟨am_in_gd 52 (by decide +kernel) (by decide +kernel), am_in_gd 758 rfl rfl, by decide +kernel, by decide +kernel⟩
theorem pmX1_clipsAcross : plainName mX1_clipsAcross.1.cls = true := by decide +kernel
abbrev mX1_divideAllAt : am_T := (yX1_divideAllAt, cX1_divideAllAt, 3, none)
set_option maxRecDepth 100000 in
theorem lmX1_divideAllAt : am_lM mX1_divideAllAt 1 := ⟨am_in_gd 52 (by decide +kernel) (by decide +kernel), am_in_gd 732 rfl rfl, by decide +kernel, by decide +kernel⟩
theorem pmX1_divideAllAt : plainName mX1_divideAllAt.1.cls = true := by decide +kernel
abbrev mX1_clipsAfterCut : am_T := (yX1_clipsAfterCut, cX1_clipsAfterCut, 5, (some .int))
set_option maxRecDepth 100000 in
theorem lmX1_clipsAfterCut : am_lM mX1_clipsAfterCut 2 := ⟨am_in_gd 52 (by decide +kernel) (by decide +kernel), am_in_gd 724 rfl rfl, by decide +kernel, by decide +kernel⟩
theorem pmX1_clipsAfterCut : plainName mX1_clipsAfterCut.1.cls = true := by decide +kernel
abbrev mX1_takeFrames : am_T := (yX1_takeFrames, cX1_takeFrames, 6, (some .int))
set_option maxRecDepth 100000 in
theorem lmX1_takeFrames : am_lM mX1_takeFrames 2 := ⟨am_in_gd 52 (by decide +kernel) (by decide +kernel), am_in_gd 740 rfl rfl, by decide +kernel, by decide +kernel⟩
theorem pmX1_takeFrames : plainName mX1_takeFrames.1.cls = true := by decide +kernel
abbrev mX1_giveFrames : am_T := (yX1_giveFrames, cX1_giveFrames, 4, none)
set_option maxRecDepth 100000 in
theorem lmX1_giveFrames : am_lM mX1_giveFrames 2 := ⟨am_in_gd 52 (by decide +kernel) (by decide +kernel), am_in_gd 770 rfl rfl, by decide +kernel, by decide +kernel⟩
theorem pmX1_giveFrames : plainName mX1_giveFrames.1.cls = true := by decide +kernel
abbrev mX2_init : am_T := (yX2_init, cX2_init, 2, none)
set_option maxRecDepth 100000 in
theorem lmX2_init : am_lM mX2_init 0 := ⟨am_in_gd 55 (by decide +kernel) (by decide +kernel), am_in_gd 159 rfl rfl, by decide +kernel, by decide +kernel⟩
theorem pmX2_init : plainName mX2_init.1.cls = true := by decide +kernel
abbrev mX2_behind : am_T := (yX2_behind, cX2_behind, 2, (some (.object "PodcastEditor$Project")))
set_option maxRecDepth 100000 in
theorem lmX2_behind : am_lM mX2_behind 1 := ⟨am_in_gd 55 (by decide +kernel) (by decide +kernel), am_in_gd 400 rfl rfl, by decide +kernel, by decide +kernel⟩
theorem pmX2_behind : plainName mX2_behind.1.cls = true := by decide +kernel
abbrev mX2_note : am_T := (yX2_note, cX2_note, 2, none)
set_option maxRecDepth 100000 in
theorem lmX2_note : am_lM mX2_note 1 := ⟨am_in_gd 55 (by decide +kernel) (by decide +kernel), am_in_gd 392 rfl rfl, by decide +kernel, by decide +kernel⟩
theorem pmX2_note : plainName mX2_note.1.cls = true := by decide +kernel
abbrev mX2_keep : am_T := (yX2_keep, cX2_keep, 2, none)
set_option maxRecDepth 100000 in
theorem lmX2_keep : am_lM mX2_keep 1 := ⟨am_in_gd 55 (by decide +kernel) (by decide +kernel), am_in_gd 396 rfl rfl, by decide +kernel, by decide +kernel⟩
theorem pmX2_keep : plainName mX2_keep.1.cls = true := by decide +kernel
abbrev mX2_goBack : am_T := (yX2_goBack, cX2_goBack, 2, none)
set_option maxRecDepth 100000 in
theorem lmX2_goBack : am_lM mX2_goBack 1 := ⟨am_in_gd 55 (by decide +kernel) (by decide +kernel), am_in_gd 1044 rfl rfl, by decide +kernel, by decide +kernel⟩
theorem pmX2_goBack : plainName mX2_goBack.1.cls = true := by decide +kernel
abbrev mX2_goOn : am_T := (yX2_goOn, cX2_goOn, 2, none)
set_option maxRecDepth 100000 in
theorem lmX2_goOn : am_lM mX2_goOn 1 := ⟨am_in_gd 55 (by decide +kernel) (by decide +kernel), am_in_gd 1052 rfl rfl, by decide +kernel, by decide +kernel⟩
theorem pmX2_goOn : plainName mX2_goOn.1.cls = true := by decide +kernel
abbrev mX2_startFrom : am_T := (yX2_startFrom, cX2_startFrom, 2, none)
set_option maxRecDepth 100000 in
theorem lmX2_startFrom : am_lM mX2_startFrom 1 := ⟨am_in_gd 55 (by decide +kernel) (by decide +kernel), am_in_gd 1064 rfl rfl, by decide +kernel, by decide +kernel⟩
theorem pmX2_startFrom : plainName mX2_startFrom.1.cls = true := by decide +kernel
abbrev mX3_init : am_T := (yX3_init, cX3_init, 3, none)
set_option maxRecDepth 100000 in
theorem lmX3_init : am_lM mX3_init 2 := ⟨am_in_gd 57 (by decide +kernel) (by decide +kernel), am_in_gd 220 rfl rfl, by decide +kernel, by decide +kernel⟩
theorem pmX3_init : plainName mX3_init.1.cls = true := by decide +kernel
abbrev mX3_window : am_T := (yX3_window, cX3_window, 1, (some .int))
set_option maxRecDepth 100000 in
theorem lmX3_window : am_lM mX3_window 0 := ⟨am_in_gd 57 (by decide +kernel) (by decide +kernel), am_in_gd 876 rfl rfl, by decide +kernel, by decide +kernel⟩
theorem pmX3_window : plainName mX3_window.1.cls = true := by decide +kernel
abbrev mX3_measure : am_T := (yX3_measure, cX3_measure, 6, none)
set_option maxRecDepth 100000 in
theorem lmX3_measure : am_lM mX3_measure 1 := ⟨am_in_gd 57 (by decide +kernel) (by decide +kernel), am_in_gd 868 rfl rfl, by decide +kernel, by decide +kernel⟩
theorem pmX3_measure : plainName mX3_measure.1.cls = true := by decide +kernel
abbrev mX3_fillLevels : am_T := (yX3_fillLevels, cX3_fillLevels, 8, none)
set_option maxRecDepth 100000 in
theorem lmX3_fillLevels : am_lM mX3_fillLevels 1 := ⟨am_in_gd 57 (by decide +kernel) (by decide +kernel), am_in_gd 872 rfl rfl, by decide +kernel, by decide +kernel⟩
theorem pmX3_fillLevels : plainName mX3_fillLevels.1.cls = true := by decide +kernel
abbrev mX3_secondWay : am_T := (yX3_secondWay, cX3_secondWay, 5, (some .int))
set_option maxRecDepth 100000 in
theorem lmX3_secondWay : am_lM mX3_secondWay 0 := ⟨am_in_gd 57 (by decide +kernel) (by decide +kernel), am_in_gd 907 rfl rfl, by decide +kernel, by decide +kernel⟩
theorem pmX3_secondWay : plainName mX3_secondWay.1.cls = true := by decide +kernel
abbrev mX3_sortLevels : am_T := (yX3_sortLevels, cX3_sortLevels, 8, (some .int))
set_option maxRecDepth 100000 in
theorem lmX3_sortLevels : am_lM mX3_sortLevels 0 := ⟨am_in_gd 57 (by decide +kernel) (by decide +kernel), am_in_gd 912 rfl rfl, by decide +kernel, by decide +kernel⟩
theorem pmX3_sortLevels : plainName mX3_sortLevels.1.cls = true := by decide +kernel
abbrev mX3_meanFrom : am_T := (yX3_meanFrom, cX3_meanFrom, 6, (some .int))
set_option maxRecDepth 100000 in
theorem lmX3_meanFrom : am_lM mX3_meanFrom 2 := ⟨am_in_gd 57 (by decide +kernel) (by decide +kernel), am_in_gd 917 rfl rfl, by decide +kernel, by decide +kernel⟩
theorem pmX3_meanFrom : plainName mX3_meanFrom.1.cls = true := by decide +kernel
abbrev mX4_init : am_T := (yX4_init, cX4_init, 2, none)
set_option maxRecDepth 100000 in
theorem lmX4_init : am_lM mX4_init 0 := ⟨am_in_gd 51 (by decide +kernel) (by decide +kernel), am_in_gd 76 rfl rfl, by decide +kernel, by decide +kernel⟩
theorem pmX4_init : plainName mX4_init.1.cls = true := by decide +kernel
abbrev mX4_copy : am_T := (yX4_copy, cX4_copy, 2, none)
set_option maxRecDepth 100000 in
theorem lmX4_copy : am_lM mX4_copy 2 := ⟨am_in_gd 51 (by decide +kernel) (by decide +kernel), am_in_gd 403 rfl rfl, by decide +kernel, by decide +kernel⟩
theorem pmX4_copy : plainName mX4_copy.1.cls = true := by decide +kernel
abbrev mX4_hasSource : am_T := (yX4_hasSource, cX4_hasSource, 2, (some .boolean))
set_option maxRecDepth 100000 in
theorem lmX4_hasSource : am_lM mX4_hasSource 1 := ⟨am_in_gd 51 (by decide +kernel) (by decide +kernel), am_in_gd 411 rfl rfl, by decide +kernel, by decide +kernel⟩
theorem pmX4_hasSource : plainName mX4_hasSource.1.cls = true := by decide +kernel
abbrev mX4_sourceNumber : am_T := (yX4_sourceNumber, cX4_sourceNumber, 3, (some .int))
set_option maxRecDepth 100000 in
theorem lmX4_sourceNumber : am_lM mX4_sourceNumber 2 := ⟨am_in_gd 51 (by decide +kernel) (by decide +kernel), am_in_gd 435 rfl rfl, by decide +kernel, by decide +kernel⟩
theorem pmX4_sourceNumber : plainName mX4_sourceNumber.1.cls = true := by decide +kernel
abbrev mX4_putSource : am_T := (yX4_putSource, cX4_putSource, 6, (some .int))
set_option maxRecDepth 100000 in
theorem lmX4_putSource : am_lM mX4_putSource 4 := ⟨am_in_gd 51 (by decide +kernel) (by decide +kernel), am_in_gd 376 rfl rfl, by decide +kernel, by decide +kernel⟩
theorem pmX4_putSource : plainName mX4_putSource.1.cls = true := by decide +kernel
abbrev mX4_changeSetting : am_T := (yX4_changeSetting, cX4_changeSetting, 4, (some .int))
set_option maxRecDepth 100000 in
theorem lmX4_changeSetting : am_lM mX4_changeSetting 2 := ⟨am_in_gd 51 (by decide +kernel) (by decide +kernel), am_in_gd 512 rfl rfl, by decide +kernel, by decide +kernel⟩
theorem pmX4_changeSetting : plainName mX4_changeSetting.1.cls = true := by decide +kernel
abbrev mX4_trackNumber : am_T := (yX4_trackNumber, cX4_trackNumber, 3, (some .int))
set_option maxRecDepth 100000 in
theorem lmX4_trackNumber : am_lM mX4_trackNumber 2 := ⟨am_in_gd 51 (by decide +kernel) (by decide +kernel), am_in_gd 454 rfl rfl, by decide +kernel, by decide +kernel⟩
theorem pmX4_trackNumber : plainName mX4_trackNumber.1.cls = true := by decide +kernel
abbrev mX4_fitsTrack : am_T := (yX4_fitsTrack, cX4_fitsTrack, 4, (some .boolean))
set_option maxRecDepth 100000 in
theorem lmX4_fitsTrack : am_lM mX4_fitsTrack 3 := ⟨am_in_gd 51 (by decide +kernel) (by decide +kernel), am_in_gd 525 rfl rfl, by decide +kernel, by decide +kernel⟩
theorem pmX4_fitsTrack : plainName mX4_fitsTrack.1.cls = true := by decide +kernel
abbrev mX4_isAudible : am_T := (yX4_isAudible, cX4_isAudible, 2, (some .boolean))
set_option maxRecDepth 100000 in
theorem lmX4_isAudible : am_lM mX4_isAudible 1 := ⟨am_in_gd 51 (by decide +kernel) (by decide +kernel), am_in_gd 477 rfl rfl, by decide +kernel, by decide +kernel⟩
theorem pmX4_isAudible : plainName mX4_isAudible.1.cls = true := by decide +kernel
abbrev mX4_isAnySolo : am_T := (yX4_isAnySolo, cX4_isAnySolo, 2, (some .boolean))
set_option maxRecDepth 100000 in
theorem lmX4_isAnySolo : am_lM mX4_isAnySolo 0 := ⟨am_in_gd 51 (by decide +kernel) (by decide +kernel), am_in_gd 482 rfl rfl, by decide +kernel, by decide +kernel⟩
theorem pmX4_isAnySolo : plainName mX4_isAnySolo.1.cls = true := by decide +kernel
abbrev mX4_placeClip : am_T := (yX4_placeClip, cX4_placeClip, 8, (some .int))
set_option maxRecDepth 100000 in
theorem lmX4_placeClip : am_lM mX4_placeClip 5 := ⟨am_in_gd 51 (by decide +kernel) (by decide +kernel), am_in_gd 572 rfl rfl, by decide +kernel, by decide +kernel⟩
theorem pmX4_placeClip : plainName mX4_placeClip.1.cls = true := by decide +kernel
abbrev mX4_trimClip : am_T := (yX4_trimClip, cX4_trimClip, 8, (some .int))
set_option maxRecDepth 100000 in
theorem lmX4_trimClip : am_lM mX4_trimClip 3 := ⟨am_in_gd 51 (by decide +kernel) (by decide +kernel), am_in_gd 651 rfl rfl, by decide +kernel, by decide +kernel⟩
theorem pmX4_trimClip : plainName mX4_trimClip.1.cls = true := by decide +kernel
abbrev mX4_cutFrames : am_T := (yX4_cutFrames, cX4_cutFrames, 3, (some .int))
set_option maxRecDepth 100000 in
theorem lmX4_cutFrames : am_lM mX4_cutFrames 2 := ⟨am_in_gd 51 (by decide +kernel) (by decide +kernel), am_in_gd 720 rfl rfl, by decide +kernel, by decide +kernel⟩
theorem pmX4_cutFrames : plainName mX4_cutFrames.1.cls = true := by decide +kernel
abbrev mX4_insertFrames : am_T := (yX4_insertFrames, cX4_insertFrames, 3, (some .int))
set_option maxRecDepth 100000 in
theorem lmX4_insertFrames : am_lM mX4_insertFrames 2 := ⟨am_in_gd 51 (by decide +kernel) (by decide +kernel), am_in_gd 748 rfl rfl, by decide +kernel, by decide +kernel⟩
theorem pmX4_insertFrames : plainName mX4_insertFrames.1.cls = true := by decide +kernel
abbrev mX4_canGoBack : am_T := (yX4_canGoBack, cX4_canGoBack, 5, (some .boolean))
set_option maxRecDepth 100000 in
theorem lmX4_canGoBack : am_lM mX4_canGoBack 2 := ⟨am_in_gd 51 (by decide +kernel) (by decide +kernel), am_in_gd 753 rfl rfl, by decide +kernel, by decide +kernel⟩
theorem pmX4_canGoBack : plainName mX4_canGoBack.1.cls = true := by decide +kernel
abbrev mX4_framesOfChapter : am_T := (yX4_framesOfChapter, cX4_framesOfChapter, 3, (some .int))
set_option maxRecDepth 100000 in
theorem lmX4_framesOfChapter : am_lM mX4_framesOfChapter 1 := ⟨am_in_gd 51 (by decide +kernel) (by decide +kernel), am_in_gd 801 rfl rfl, by decide +kernel, by decide +kernel⟩
theorem pmX4_framesOfChapter : plainName mX4_framesOfChapter.1.cls = true := by decide +kernel
abbrev mX4_events : am_T := (yX4_events, cX4_events, 1, (some .int))
set_option maxRecDepth 100000 in
theorem lmX4_events : am_lM mX4_events 0 := ⟨am_in_gd 51 (by decide +kernel) (by decide +kernel), am_in_gd 955 rfl rfl, by decide +kernel, by decide +kernel⟩
theorem pmX4_events : plainName mX4_events.1.cls = true := by decide +kernel
abbrev mX4_eventKey : am_T := (yX4_eventKey, cX4_eventKey, 3, (some .int))
set_option maxRecDepth 100000 in
theorem lmX4_eventKey : am_lM mX4_eventKey 3 := ⟨am_in_gd 51 (by decide +kernel) (by decide +kernel), am_in_gd 964 rfl rfl, by decide +kernel, by decide +kernel⟩
theorem pmX4_eventKey : plainName mX4_eventKey.1.cls = true := by decide +kernel
abbrev mX4_nextEvent : am_T := (yX4_nextEvent, cX4_nextEvent, 5, (some .int))
set_option maxRecDepth 100000 in
theorem lmX4_nextEvent : am_lM mX4_nextEvent 1 := ⟨am_in_gd 51 (by decide +kernel) (by decide +kernel), am_in_gd 959 rfl rfl, by decide +kernel, by decide +kernel⟩
theorem pmX4_nextEvent : plainName mX4_nextEvent.1.cls = true := by decide +kernel
abbrev mX4_nearer : am_T := (yX4_nearer, cX4_nearer, 3, (some .int))
set_option maxRecDepth 100000 in
theorem lmX4_nearer : am_lM mX4_nearer 3 := ⟨am_in_gd 51 (by decide +kernel) (by decide +kernel), am_in_gd 967 rfl rfl, by decide +kernel, by decide +kernel⟩
theorem pmX4_nearer : plainName mX4_nearer.1.cls = true := by decide +kernel
abbrev mX5_init : am_T := (yX5_init, cX5_init, 1, none)
set_option maxRecDepth 100000 in
theorem lmX5_init : am_lM mX5_init 0 := ⟨am_in_gd 59 (by decide +kernel) (by decide +kernel), am_in_gd 288 rfl rfl, by decide +kernel, by decide +kernel⟩
theorem pmX5_init : plainName mX5_init.1.cls = true := by decide +kernel
abbrev mX5_add : am_T := (yX5_add, cX5_add, 2, (some .int))
set_option maxRecDepth 100000 in
theorem lmX5_add : am_lM mX5_add 1 := ⟨am_in_gd 59 (by decide +kernel) (by decide +kernel), am_in_gd 979 rfl rfl, by decide +kernel, by decide +kernel⟩
theorem pmX5_add : plainName mX5_add.1.cls = true := by decide +kernel
abbrev mX5_read : am_T := (yX5_read, cX5_read, 2, (some .int))
set_option maxRecDepth 100000 in
theorem lmX5_read : am_lM mX5_read 0 := ⟨am_in_gd 59 (by decide +kernel) (by decide +kernel), am_in_gd 987 rfl rfl, by decide +kernel, by decide +kernel⟩
theorem pmX5_read : plainName mX5_read.1.cls = true := by decide +kernel
abbrev mX5_here : am_T := (yX5_here, cX5_here, 1, (some .int))
set_option maxRecDepth 100000 in
theorem lmX5_here : am_lM mX5_here 0 := ⟨am_in_gd 59 (by decide +kernel) (by decide +kernel), am_in_gd 995 rfl rfl, by decide +kernel, by decide +kernel⟩
theorem pmX5_here : plainName mX5_here.1.cls = true := by decide +kernel
abbrev mX5_readCommand : am_T := (yX5_readCommand, cX5_readCommand, 3, (some .boolean))
set_option maxRecDepth 100000 in
theorem lmX5_readCommand : am_lM mX5_readCommand 0 := ⟨am_in_gd 59 (by decide +kernel) (by decide +kernel), am_in_gd 991 rfl rfl, by decide +kernel, by decide +kernel⟩
theorem pmX5_readCommand : plainName mX5_readCommand.1.cls = true := by decide +kernel
abbrev mX5_signOf : am_T := (yX5_signOf, cX5_signOf, 1, (some .int))
set_option maxRecDepth 100000 in
theorem lmX5_signOf : am_lM mX5_signOf 1 := ⟨am_in_gd 59 (by decide +kernel) (by decide +kernel), am_in_gd 998 rfl rfl, by decide +kernel, by decide +kernel⟩
theorem pmX5_signOf : plainName mX5_signOf.1.cls = true := by decide +kernel
abbrev mX5_readNumber : am_T := (yX5_readNumber, cX5_readNumber, 3, (some .int))
set_option maxRecDepth 100000 in
theorem lmX5_readNumber : am_lM mX5_readNumber 0 := ⟨am_in_gd 59 (by decide +kernel) (by decide +kernel), am_in_gd 1002 rfl rfl, by decide +kernel, by decide +kernel⟩
theorem pmX5_readNumber : plainName mX5_readNumber.1.cls = true := by decide +kernel
abbrev mX6_init : am_T := (yX6_init, cX6_init, 3, none)
set_option maxRecDepth 100000 in
theorem lmX6_init : am_lM mX6_init 2 := ⟨am_in_gd 58 (by decide +kernel) (by decide +kernel), am_in_gd 263 rfl rfl, by decide +kernel, by decide +kernel⟩
theorem pmX6_init : plainName mX6_init.1.cls = true := by decide +kernel
abbrev mX6_find : am_T := (yX6_find, cX6_find, 6, none)
set_option maxRecDepth 100000 in
theorem lmX6_find : am_lM mX6_find 2 := ⟨am_in_gd 58 (by decide +kernel) (by decide +kernel), am_in_gd 928 rfl rfl, by decide +kernel, by decide +kernel⟩
theorem pmX6_find : plainName mX6_find.1.cls = true := by decide +kernel
abbrev mX6_add : am_T := (yX6_add, cX6_add, 4, none)
set_option maxRecDepth 100000 in
theorem lmX6_add : am_lM mX6_add 3 := ⟨am_in_gd 58 (by decide +kernel) (by decide +kernel), am_in_gd 934 rfl rfl, by decide +kernel, by decide +kernel⟩
theorem pmX6_add : plainName mX6_add.1.cls = true := by decide +kernel
abbrev mX7_init : am_T := (yX7_init, cX7_init, 2, none)
set_option maxRecDepth 100000 in
theorem lmX7_init : am_lM mX7_init 1 := ⟨am_in_gd 56 (by decide +kernel) (by decide +kernel), am_in_gd 191 rfl rfl, by decide +kernel, by decide +kernel⟩
theorem pmX7_init : plainName mX7_init.1.cls = true := by decide +kernel
abbrev mX7_refresh : am_T := (yX7_refresh, cX7_refresh, 2, none)
set_option maxRecDepth 100000 in
theorem lmX7_refresh : am_lM mX7_refresh 0 := ⟨am_in_gd 56 (by decide +kernel) (by decide +kernel), am_in_gd 427 rfl rfl, by decide +kernel, by decide +kernel⟩
theorem pmX7_refresh : plainName mX7_refresh.1.cls = true := by decide +kernel
abbrev mX7_fillSource : am_T := (yX7_fillSource, cX7_fillSource, 9, none)
set_option maxRecDepth 100000 in
theorem lmX7_fillSource : am_lM mX7_fillSource 1 := ⟨am_in_gd 56 (by decide +kernel) (by decide +kernel), am_in_gd 431 rfl rfl, by decide +kernel, by decide +kernel⟩
theorem pmX7_fillSource : plainName mX7_fillSource.1.cls = true := by decide +kernel
abbrev mX7_fillDry : am_T := (yX7_fillDry, cX7_fillDry, 6, none)
set_option maxRecDepth 100000 in
theorem lmX7_fillDry : am_lM mX7_fillDry 0 := ⟨am_in_gd 56 (by decide +kernel) (by decide +kernel), am_in_gd 446 rfl rfl, by decide +kernel, by decide +kernel⟩
theorem pmX7_fillDry : plainName mX7_fillDry.1.cls = true := by decide +kernel
abbrev mX7_fillDucked : am_T := (yX7_fillDucked, cX7_fillDucked, 7, none)
set_option maxRecDepth 100000 in
theorem lmX7_fillDucked : am_lM mX7_fillDucked 1 := ⟨am_in_gd 56 (by decide +kernel) (by decide +kernel), am_in_gd 470 rfl rfl, by decide +kernel, by decide +kernel⟩
theorem pmX7_fillDucked : plainName mX7_fillDucked.1.cls = true := by decide +kernel
abbrev mX7_addTrack : am_T := (yX7_addTrack, cX7_addTrack, 3, none)
set_option maxRecDepth 100000 in
theorem lmX7_addTrack : am_lM mX7_addTrack 1 := ⟨am_in_gd 56 (by decide +kernel) (by decide +kernel), am_in_gd 486 rfl rfl, by decide +kernel, by decide +kernel⟩
theorem pmX7_addTrack : plainName mX7_addTrack.1.cls = true := by decide +kernel
abbrev mX7_sourceAt : am_T := (yX7_sourceAt, cX7_sourceAt, 3, (some .int))
set_option maxRecDepth 100000 in
theorem lmX7_sourceAt : am_lM mX7_sourceAt 2 := ⟨am_in_gd 56 (by decide +kernel) (by decide +kernel), am_in_gd 462 rfl rfl, by decide +kernel, by decide +kernel⟩
theorem pmX7_sourceAt : plainName mX7_sourceAt.1.cls = true := by decide +kernel
abbrev mX7_clipValue : am_T := (yX7_clipValue, cX7_clipValue, 8, (some .int))
set_option maxRecDepth 100000 in
theorem lmX7_clipValue : am_lM mX7_clipValue 2 := ⟨am_in_gd 56 (by decide +kernel) (by decide +kernel), am_in_gd 458 rfl rfl, by decide +kernel, by decide +kernel⟩
theorem pmX7_clipValue : plainName mX7_clipValue.1.cls = true := by decide +kernel
abbrev mX7_faded : am_T := (yX7_faded, cX7_faded, 5, (some .int))
set_option maxRecDepth 100000 in
theorem lmX7_faded : am_lM mX7_faded 3 := ⟨am_in_gd 56 (by decide +kernel) (by decide +kernel), am_in_gd 466 rfl rfl, by decide +kernel, by decide +kernel⟩
theorem pmX7_faded : plainName mX7_faded.1.cls = true := by decide +kernel
abbrev mX7_greatestOfSource : am_T := (yX7_greatestOfSource, cX7_greatestOfSource, 4, (some .int))
set_option maxRecDepth 100000 in
theorem lmX7_greatestOfSource : am_lM mX7_greatestOfSource 1 := ⟨am_in_gd 56 (by decide +kernel) (by decide +kernel), am_in_gd 498 rfl rfl, by decide +kernel, by decide +kernel⟩
theorem pmX7_greatestOfSource : plainName mX7_greatestOfSource.1.cls = true := by decide +kernel
abbrev mX7_greatestOfClip : am_T := (yX7_greatestOfClip, cX7_greatestOfClip, 4, (some .int))
set_option maxRecDepth 100000 in
theorem lmX7_greatestOfClip : am_lM mX7_greatestOfClip 1 := ⟨am_in_gd 56 (by decide +kernel) (by decide +kernel), am_in_gd 604 rfl rfl, by decide +kernel, by decide +kernel⟩
theorem pmX7_greatestOfClip : plainName mX7_greatestOfClip.1.cls = true := by decide +kernel
abbrev mX7_sumOfClip : am_T := (yX7_sumOfClip, cX7_sumOfClip, 4, (some .int))
set_option maxRecDepth 100000 in
theorem lmX7_sumOfClip : am_lM mX7_sumOfClip 1 := ⟨am_in_gd 56 (by decide +kernel) (by decide +kernel), am_in_gd 608 rfl rfl, by decide +kernel, by decide +kernel⟩
theorem pmX7_sumOfClip : plainName mX7_sumOfClip.1.cls = true := by decide +kernel
abbrev mX7_valueOnTrack : am_T := (yX7_valueOnTrack, cX7_valueOnTrack, 4, (some .int))
set_option maxRecDepth 100000 in
theorem lmX7_valueOnTrack : am_lM mX7_valueOnTrack 2 := ⟨am_in_gd 56 (by decide +kernel) (by decide +kernel), am_in_gd 828 rfl rfl, by decide +kernel, by decide +kernel⟩
theorem pmX7_valueOnTrack : plainName mX7_valueOnTrack.1.cls = true := by decide +kernel
abbrev mX7_dryAt : am_T := (yX7_dryAt, cX7_dryAt, 3, (some .int))
set_option maxRecDepth 100000 in
theorem lmX7_dryAt : am_lM mX7_dryAt 2 := ⟨am_in_gd 56 (by decide +kernel) (by decide +kernel), am_in_gd 833 rfl rfl, by decide +kernel, by decide +kernel⟩
theorem pmX7_dryAt : plainName mX7_dryAt.1.cls = true := by decide +kernel
abbrev mX7_isDucked : am_T := (yX7_isDucked, cX7_isDucked, 3, (some .boolean))
set_option maxRecDepth 100000 in
theorem lmX7_isDucked : am_lM mX7_isDucked 2 := ⟨am_in_gd 56 (by decide +kernel) (by decide +kernel), am_in_gd 494 rfl rfl, by decide +kernel, by decide +kernel⟩
theorem pmX7_isDucked : plainName mX7_isDucked.1.cls = true := by decide +kernel
abbrev mX7_wetAt : am_T := (yX7_wetAt, cX7_wetAt, 4, (some .int))
set_option maxRecDepth 100000 in
theorem lmX7_wetAt : am_lM mX7_wetAt 2 := ⟨am_in_gd 56 (by decide +kernel) (by decide +kernel), am_in_gd 490 rfl rfl, by decide +kernel, by decide +kernel⟩
theorem pmX7_wetAt : plainName mX7_wetAt.1.cls = true := by decide +kernel
abbrev mX7_duckedFrames : am_T := (yX7_duckedFrames, cX7_duckedFrames, 5, (some .int))
set_option maxRecDepth 100000 in
theorem lmX7_duckedFrames : am_lM mX7_duckedFrames 1 := ⟨am_in_gd 56 (by decide +kernel) (by decide +kernel), am_in_gd 551 rfl rfl, by decide +kernel, by decide +kernel⟩
theorem pmX7_duckedFrames : plainName mX7_duckedFrames.1.cls = true := by decide +kernel
abbrev mX7_greatestOfTrack : am_T := (yX7_greatestOfTrack, cX7_greatestOfTrack, 4, (some .int))
set_option maxRecDepth 100000 in
theorem lmX7_greatestOfTrack : am_lM mX7_greatestOfTrack 1 := ⟨am_in_gd 56 (by decide +kernel) (by decide +kernel), am_in_gd 564 rfl rfl, by decide +kernel, by decide +kernel⟩
theorem pmX7_greatestOfTrack : plainName mX7_greatestOfTrack.1.cls = true := by decide +kernel
abbrev mX7_unlimitedAt : am_T := (yX7_unlimitedAt, cX7_unlimitedAt, 2, (some .int))
set_option maxRecDepth 100000 in
theorem lmX7_unlimitedAt : am_lM mX7_unlimitedAt 1 := ⟨am_in_gd 56 (by decide +kernel) (by decide +kernel), am_in_gd 815 rfl rfl, by decide +kernel, by decide +kernel⟩
theorem pmX7_unlimitedAt : plainName mX7_unlimitedAt.1.cls = true := by decide +kernel
abbrev mX7_mixAt : am_T := (yX7_mixAt, cX7_mixAt, 2, (some .int))
set_option maxRecDepth 100000 in
theorem lmX7_mixAt : am_lM mX7_mixAt 1 := ⟨am_in_gd 56 (by decide +kernel) (by decide +kernel), am_in_gd 811 rfl rfl, by decide +kernel, by decide +kernel⟩
theorem pmX7_mixAt : plainName mX7_mixAt.1.cls = true := by decide +kernel
abbrev mX7_greatestMix : am_T := (yX7_greatestMix, cX7_greatestMix, 6, (some .int))
set_option maxRecDepth 100000 in
theorem lmX7_greatestMix : am_lM mX7_greatestMix 2 := ⟨am_in_gd 56 (by decide +kernel) (by decide +kernel), am_in_gd 807 rfl rfl, by decide +kernel, by decide +kernel⟩
theorem pmX7_greatestMix : plainName mX7_greatestMix.1.cls = true := by decide +kernel
abbrev mX7_frameOfGreatestMix : am_T := (yX7_frameOfGreatestMix, cX7_frameOfGreatestMix, 3, (some .int))
set_option maxRecDepth 100000 in
theorem lmX7_frameOfGreatestMix : am_lM mX7_frameOfGreatestMix 0 := ⟨am_in_gd 56 (by decide +kernel) (by decide +kernel), am_in_gd 848 rfl rfl, by decide +kernel, by decide +kernel⟩
theorem pmX7_frameOfGreatestMix : plainName mX7_frameOfGreatestMix.1.cls = true := by decide +kernel
abbrev mX7_framesOver : am_T := (yX7_framesOver, cX7_framesOver, 3, (some .int))
set_option maxRecDepth 100000 in
theorem lmX7_framesOver : am_lM mX7_framesOver 0 := ⟨am_in_gd 56 (by decide +kernel) (by decide +kernel), am_in_gd 852 rfl rfl, by decide +kernel, by decide +kernel⟩
theorem pmX7_framesOver : plainName mX7_framesOver.1.cls = true := by decide +kernel
abbrev mX7_sumOfMix : am_T := (yX7_sumOfMix, cX7_sumOfMix, 3, (some .int))
set_option maxRecDepth 100000 in
theorem lmX7_sumOfMix : am_lM mX7_sumOfMix 0 := ⟨am_in_gd 56 (by decide +kernel) (by decide +kernel), am_in_gd 856 rfl rfl, by decide +kernel, by decide +kernel⟩
theorem pmX7_sumOfMix : plainName mX7_sumOfMix.1.cls = true := by decide +kernel
abbrev mX8_init : am_T := (yX8_init, cX8_init, 1, none)
set_option maxRecDepth 100000 in
theorem lmX8_init : am_lM mX8_init 0 := ⟨am_in_gd 60 (by decide +kernel) (by decide +kernel), am_in_gd 321 rfl rfl, by decide +kernel, by decide +kernel⟩
theorem pmX8_init : plainName mX8_init.1.cls = true := by decide +kernel
abbrev mX8_add : am_T := (yX8_add, cX8_add, 2, none)
set_option maxRecDepth 100000 in
theorem lmX8_add : am_lM mX8_add 1 := ⟨am_in_gd 60 (by decide +kernel) (by decide +kernel), am_in_gd 1018 rfl rfl, by decide +kernel, by decide +kernel⟩
theorem pmX8_add : plainName mX8_add.1.cls = true := by decide +kernel
abbrev mX8_addNumber : am_T := (yX8_addNumber, cX8_addNumber, 2, none)
set_option maxRecDepth 100000 in
theorem lmX8_addNumber : am_lM mX8_addNumber 1 := ⟨am_in_gd 60 (by decide +kernel) (by decide +kernel), am_in_gd 1022 rfl rfl, by decide +kernel, by decide +kernel⟩
theorem pmX8_addNumber : plainName mX8_addNumber.1.cls = true := by decide +kernel
abbrev mJ7_fill_53178 : am_T := (yJ7_fill_53178, cJ7_fill_53178, 4, none)
set_option maxRecDepth 100000 in
theorem lmJ7_fill_53178 : am_lM mJ7_fill_53178 2 := ⟨am_in_gd 63 (by decide +kernel) (by decide +kernel), am_in_gd 449 rfl rfl, by decide +kernel, by decide +kernel⟩
theorem pmJ7_fill_53178 : plainName mJ7_fill_53178.1.cls = true := by decide +kernel
theorem oiX9_3 : Cond.methodLink RX9 3 objectInit ∈ am_gd := am_in_gd 69 (by decide +kernel) (by decide +kernel)
theorem nwX9_9 : Cond.classLink RX9 9 (am_rn 4) ∈ am_gd ∧ Cond.instantiable (am_rn 4) (am_nf 4) ∈ am_gd ∧ Cond.initialized (am_rn 4) ∈ am_gd := ⟨am_in_gd 72 (by decide +kernel) (by decide +kernel), am_in_gd 73 (by decide +kernel) (by decide +kernel), am_in_gd 51 (by decide +kernel) (by decide +kernel)⟩
theorem lkX9_11 : Cond.methodLink RX9 11 mX4_init.1 ∈ am_gd ∧ Cond.instanceMethod mX4_init.1 ∈ am_gd := ⟨am_in_gd 74 (by decide +kernel) (by decide +kernel), am_in_gd 75 (by decide +kernel) (by decide +kernel)⟩
theorem flX9_12 : am_fl RX9 12 9 0 := ⟨am_in_gd 332 (by decide +kernel) (by decide +kernel), by decide, by decide +kernel⟩
theorem flX9_16 : am_fl RX9 16 9 1 := ⟨am_in_gd 333 (by decide +kernel) (by decide +kernel), by decide, by decide +kernel⟩
theorem flX9_19 : am_fl RX9 19 9 2 := ⟨am_in_gd 334 (by decide +kernel) (by decide +kernel), by decide, by decide +kernel⟩
theorem nwX9_22 : Cond.classLink RX9 22 (am_rn 2) ∈ am_gd ∧ Cond.instantiable (am_rn 2) (am_nf 2) ∈ am_gd ∧ Cond.initialized (am_rn 2) ∈ am_gd := ⟨am_in_gd 155 (by decide +kernel) (by decide +kernel), am_in_gd 156 (by decide +kernel) (by decide +kernel), am_in_gd 55 (by decide +kernel) (by decide +kernel)⟩
theorem lkX9_24 : Cond.methodLink RX9 24 mX2_init.1 ∈ am_gd ∧ Cond.instanceMethod mX2_init.1 ∈ am_gd := ⟨am_in_gd 157 (by decide +kernel) (by decide +kernel), am_in_gd 158 (by decide +kernel) (by decide +kernel)⟩
theorem flX9_25 : am_fl RX9 25 9 3 := ⟨am_in_gd 335 (by decide +kernel) (by decide +kernel), by decide, by decide +kernel⟩
theorem nwX9_29 : Cond.classLink RX9 29 (am_rn 7) ∈ am_gd ∧ Cond.instantiable (am_rn 7) (am_nf 7) ∈ am_gd ∧ Cond.initialized (am_rn 7) ∈ am_gd := ⟨am_in_gd 187 (by decide +kernel) (by decide +kernel), am_in_gd 188 (by decide +kernel) (by decide +kernel), am_in_gd 56 (by decide +kernel) (by decide +kernel)⟩
theorem lkX9_31 : Cond.methodLink RX9 31 mX7_init.1 ∈ am_gd ∧ Cond.instanceMethod mX7_init.1 ∈ am_gd := ⟨am_in_gd 189 (by decide +kernel) (by decide +kernel), am_in_gd 190 (by decide +kernel) (by decide +kernel)⟩
theorem flX9_34 : am_fl RX9 34 9 4 := ⟨am_in_gd 336 (by decide +kernel) (by decide +kernel), by decide, by decide +kernel⟩
theorem nwX9_38 : Cond.classLink RX9 38 (am_rn 3) ∈ am_gd ∧ Cond.instantiable (am_rn 3) (am_nf 3) ∈ am_gd ∧ Cond.initialized (am_rn 3) ∈ am_gd := ⟨am_in_gd 216 (by decide +kernel) (by decide +kernel), am_in_gd 217 (by decide +kernel) (by decide +kernel), am_in_gd 57 (by decide +kernel) (by decide +kernel)⟩
theorem lkX9_40 : Cond.methodLink RX9 40 mX3_init.1 ∈ am_gd ∧ Cond.instanceMethod mX3_init.1 ∈ am_gd := ⟨am_in_gd 218 (by decide +kernel) (by decide +kernel), am_in_gd 219 (by decide +kernel) (by decide +kernel)⟩
theorem flX9_43 : am_fl RX9 43 9 5 := ⟨am_in_gd 337 (by decide +kernel) (by decide +kernel), by decide, by decide +kernel⟩
theorem nwX9_47 : Cond.classLink RX9 47 (am_rn 6) ∈ am_gd ∧ Cond.instantiable (am_rn 6) (am_nf 6) ∈ am_gd ∧ Cond.initialized (am_rn 6) ∈ am_gd := ⟨am_in_gd 259 (by decide +kernel) (by decide +kernel), am_in_gd 260 (by decide +kernel) (by decide +kernel), am_in_gd 58 (by decide +kernel) (by decide +kernel)⟩
theorem lkX9_49 : Cond.methodLink RX9 49 mX6_init.1 ∈ am_gd ∧ Cond.instanceMethod mX6_init.1 ∈ am_gd := ⟨am_in_gd 261 (by decide +kernel) (by decide +kernel), am_in_gd 262 (by decide +kernel) (by decide +kernel)⟩
theorem flX9_50 : am_fl RX9 50 9 6 := ⟨am_in_gd 338 (by decide +kernel) (by decide +kernel), by decide, by decide +kernel⟩
theorem nwX9_54 : Cond.classLink RX9 54 (am_rn 5) ∈ am_gd ∧ Cond.instantiable (am_rn 5) (am_nf 5) ∈ am_gd ∧ Cond.initialized (am_rn 5) ∈ am_gd := ⟨am_in_gd 284 (by decide +kernel) (by decide +kernel), am_in_gd 285 (by decide +kernel) (by decide +kernel), am_in_gd 59 (by decide +kernel) (by decide +kernel)⟩
theorem lkX9_56 : Cond.methodLinkNest RX9 56 mX5_init.1 RX9 ∈ lw_tbl ∧ Cond.instanceMethod mX5_init.1 ∈ am_gd := ⟨List.mem_of_getElem? (i := 286) (by decide +kernel), am_in_gd 287 (by decide +kernel) (by decide +kernel)⟩
theorem flX9_57 : am_fl RX9 57 9 7 := ⟨am_in_gd 339 (by decide +kernel) (by decide +kernel), by decide, by decide +kernel⟩
theorem nwX9_61 : Cond.classLink RX9 61 (am_rn 8) ∈ am_gd ∧ Cond.instantiable (am_rn 8) (am_nf 8) ∈ am_gd ∧ Cond.initialized (am_rn 8) ∈ am_gd := ⟨am_in_gd 317 (by decide +kernel) (by decide +kernel), am_in_gd 318 (by decide +kernel) (by decide +kernel), am_in_gd 60 (by decide +kernel) (by decide +kernel)⟩
theorem lkX9_63 : Cond.methodLinkNest RX9 63 mX8_init.1 RX9 ∈ lw_tbl ∧ Cond.instanceMethod mX8_init.1 ∈ am_gd := ⟨List.mem_of_getElem? (i := 319) (by decide +kernel), am_in_gd 320 (by decide +kernel) (by decide +kernel)⟩
theorem flX9_64 : am_fl RX9 64 9 8 := ⟨am_in_gd 340 (by decide +kernel) (by decide +kernel), by decide, by decide +kernel⟩
theorem lkX9_68 : Cond.methodLink RX9 68 mX4_putSource.1 ∈ am_gd ∧ Cond.instanceMethod mX4_putSource.1 ∈ am_gd ∧ Cond.selects mX4_putSource.1.cls mX4_putSource.1 mX4_putSource.1 ∈ am_gd := ⟨am_in_gd 373 (by decide +kernel) (by decide +kernel), am_in_gd 374 (by decide +kernel) (by decide +kernel), am_in_gd 375 (by decide +kernel) (by decide +kernel)⟩
theorem lkX9_72 : Cond.methodLink RX9 72 mX9_done.1 ∈ am_gd ∧ Cond.instanceMethod mX9_done.1 ∈ am_gd ∧ Cond.selects mX9_done.1.cls mX9_done.1 mX9_done.1 ∈ am_gd := ⟨am_in_gd 381 (by decide +kernel) (by decide +kernel), am_in_gd 383 (by decide +kernel) (by decide +kernel), am_in_gd 0 (by decide +kernel) (by decide +kernel)⟩
theorem lkX9_76 : Cond.methodLink RX9 76 mX4_hasSource.1 ∈ am_gd ∧ Cond.instanceMethod mX4_hasSource.1 ∈ am_gd ∧ Cond.selects mX4_hasSource.1.cls mX4_hasSource.1 mX4_hasSource.1 ∈ am_gd := ⟨am_in_gd 408 (by decide +kernel) (by decide +kernel), am_in_gd 409 (by decide +kernel) (by decide +kernel), am_in_gd 410 (by decide +kernel) (by decide +kernel)⟩
theorem flX9_80 : am_fl RX9 80 4 3 := ⟨am_in_gd 134 (by decide +kernel) (by decide +kernel), by decide, by decide +kernel⟩
theorem lkX9_84 : Cond.methodLink RX9 84 mX1_usersOf.1 ∈ am_gd ∧ Cond.instanceMethod mX1_usersOf.1 ∈ am_gd ∧ Cond.selects mX1_usersOf.1.cls mX1_usersOf.1 mX1_usersOf.1 ∈ am_gd := ⟨am_in_gd 412 (by decide +kernel) (by decide +kernel), am_in_gd 413 (by decide +kernel) (by decide +kernel), am_in_gd 414 (by decide +kernel) (by decide +kernel)⟩
theorem lkX9_89 : Cond.methodLink RX9 89 mX9_heard.1 ∈ am_gd ∧ Cond.instanceMethod mX9_heard.1 ∈ am_gd ∧ Cond.selects mX9_heard.1.cls mX9_heard.1 mX9_heard.1 ∈ am_gd := ⟨am_in_gd 420 (by decide +kernel) (by decide +kernel), am_in_gd 422 (by decide +kernel) (by decide +kernel), am_in_gd 2 (by decide +kernel) (by decide +kernel)⟩
theorem lkX9_93 : Cond.methodLink RX9 93 mX7_greatestOfSource.1 ∈ am_gd ∧ Cond.instanceMethod mX7_greatestOfSource.1 ∈ am_gd ∧ Cond.selects mX7_greatestOfSource.1.cls mX7_greatestOfSource.1 mX7_greatestOfSource.1 ∈ am_gd := ⟨am_in_gd 495 (by decide +kernel) (by decide +kernel), am_in_gd 496 (by decide +kernel) (by decide +kernel), am_in_gd 497 (by decide +kernel) (by decide +kernel)⟩
theorem lkX9_96 : Cond.methodLink RX9 96 mX4_sourceNumber.1 ∈ am_gd ∧ Cond.instanceMethod mX4_sourceNumber.1 ∈ am_gd ∧ Cond.selects mX4_sourceNumber.1.cls mX4_sourceNumber.1 mX4_sourceNumber.1 ∈ am_gd := ⟨am_in_gd 499 (by decide +kernel) (by decide +kernel), am_in_gd 433 (by decide +kernel) (by decide +kernel), am_in_gd 434 (by decide +kernel) (by decide +kernel)⟩
theorem lkX9_100 : Cond.methodLink RX9 100 mX7_sourceAt.1 ∈ am_gd ∧ Cond.instanceMethod mX7_sourceAt.1 ∈ am_gd ∧ Cond.selects mX7_sourceAt.1.cls mX7_sourceAt.1 mX7_sourceAt.1 ∈ am_gd := ⟨am_in_gd 504 (by decide +kernel) (by decide +kernel), am_in_gd 460 (by decide +kernel) (by decide +kernel), am_in_gd 461 (by decide +kernel) (by decide +kernel)⟩
theorem lkX9_103 : Cond.methodLink RX9 103 mX4_changeSetting.1 ∈ am_gd ∧ Cond.instanceMethod mX4_changeSetting.1 ∈ am_gd ∧ Cond.selects mX4_changeSetting.1.cls mX4_changeSetting.1 mX4_changeSetting.1 ∈ am_gd := ⟨am_in_gd 509 (by decide +kernel) (by decide +kernel), am_in_gd 510 (by decide +kernel) (by decide +kernel), am_in_gd 511 (by decide +kernel) (by decide +kernel)⟩
theorem lkX9_106 : Cond.methodLink RX9 106 mX9_isTrack.1 ∈ am_gd ∧ Cond.static mX9_isTrack.1 ∈ am_gd := ⟨am_in_gd 521 (by decide +kernel) (by decide +kernel), am_in_gd 472 (by decide +kernel) (by decide +kernel)⟩
theorem lkX9_109 : Cond.methodLink RX9 109 mX4_fitsTrack.1 ∈ am_gd ∧ Cond.instanceMethod mX4_fitsTrack.1 ∈ am_gd ∧ Cond.selects mX4_fitsTrack.1.cls mX4_fitsTrack.1 mX4_fitsTrack.1 ∈ am_gd := ⟨am_in_gd 522 (by decide +kernel) (by decide +kernel), am_in_gd 523 (by decide +kernel) (by decide +kernel), am_in_gd 524 (by decide +kernel) (by decide +kernel)⟩
theorem lkX9_113 : Cond.methodLink RX9 113 mX9_trackAnswer.1 ∈ am_gd ∧ Cond.instanceMethod mX9_trackAnswer.1 ∈ am_gd ∧ Cond.selects mX9_trackAnswer.1.cls mX9_trackAnswer.1 mX9_trackAnswer.1 ∈ am_gd := ⟨am_in_gd 530 (by decide +kernel) (by decide +kernel), am_in_gd 532 (by decide +kernel) (by decide +kernel), am_in_gd 3 (by decide +kernel) (by decide +kernel)⟩
theorem flX9_116 : am_fl RX9 116 4 1 := ⟨am_in_gd 130 (by decide +kernel) (by decide +kernel), by decide, by decide +kernel⟩
theorem lkX9_120 : Cond.methodLink RX9 120 mX9_noteChange.1 ∈ am_gd ∧ Cond.instanceMethod mX9_noteChange.1 ∈ am_gd ∧ Cond.selects mX9_noteChange.1.cls mX9_noteChange.1 mX9_noteChange.1 ∈ am_gd := ⟨am_in_gd 385 (by decide +kernel) (by decide +kernel), am_in_gd 387 (by decide +kernel) (by decide +kernel), am_in_gd 1 (by decide +kernel) (by decide +kernel)⟩
theorem lkX9_123 : Cond.methodLink RX9 123 mX4_isAudible.1 ∈ am_gd ∧ Cond.instanceMethod mX4_isAudible.1 ∈ am_gd ∧ Cond.selects mX4_isAudible.1.cls mX4_isAudible.1 mX4_isAudible.1 ∈ am_gd := ⟨am_in_gd 539 (by decide +kernel) (by decide +kernel), am_in_gd 475 (by decide +kernel) (by decide +kernel), am_in_gd 476 (by decide +kernel) (by decide +kernel)⟩
theorem lkX9_126 : Cond.methodLink RX9 126 mX1_clipsOn.1 ∈ am_gd ∧ Cond.instanceMethod mX1_clipsOn.1 ∈ am_gd ∧ Cond.selects mX1_clipsOn.1.cls mX1_clipsOn.1 mX1_clipsOn.1 ∈ am_gd := ⟨am_in_gd 540 (by decide +kernel) (by decide +kernel), am_in_gd 541 (by decide +kernel) (by decide +kernel), am_in_gd 542 (by decide +kernel) (by decide +kernel)⟩
theorem lkX9_129 : Cond.methodLink RX9 129 mX1_framesOn.1 ∈ am_gd ∧ Cond.instanceMethod mX1_framesOn.1 ∈ am_gd ∧ Cond.selects mX1_framesOn.1.cls mX1_framesOn.1 mX1_framesOn.1 ∈ am_gd := ⟨am_in_gd 544 (by decide +kernel) (by decide +kernel), am_in_gd 545 (by decide +kernel) (by decide +kernel), am_in_gd 546 (by decide +kernel) (by decide +kernel)⟩
theorem lkX9_132 : Cond.methodLink RX9 132 mX7_duckedFrames.1 ∈ am_gd ∧ Cond.instanceMethod mX7_duckedFrames.1 ∈ am_gd ∧ Cond.selects mX7_duckedFrames.1.cls mX7_duckedFrames.1 mX7_duckedFrames.1 ∈ am_gd := ⟨am_in_gd 548 (by decide +kernel) (by decide +kernel), am_in_gd 549 (by decide +kernel) (by decide +kernel), am_in_gd 550 (by decide +kernel) (by decide +kernel)⟩
theorem lkX9_135 : Cond.methodLink RX9 135 mX7_greatestOfTrack.1 ∈ am_gd ∧ Cond.instanceMethod mX7_greatestOfTrack.1 ∈ am_gd ∧ Cond.selects mX7_greatestOfTrack.1.cls mX7_greatestOfTrack.1 mX7_greatestOfTrack.1 ∈ am_gd := ⟨am_in_gd 561 (by decide +kernel) (by decide +kernel), am_in_gd 562 (by decide +kernel) (by decide +kernel), am_in_gd 563 (by decide +kernel) (by decide +kernel)⟩
theorem lkX9_138 : Cond.methodLink RX9 138 mX4_trackNumber.1 ∈ am_gd ∧ Cond.instanceMethod mX4_trackNumber.1 ∈ am_gd ∧ Cond.selects mX4_trackNumber.1.cls mX4_trackNumber.1 mX4_trackNumber.1 ∈ am_gd := ⟨am_in_gd 534 (by decide +kernel) (by decide +kernel), am_in_gd 452 (by decide +kernel) (by decide +kernel), am_in_gd 453 (by decide +kernel) (by decide +kernel)⟩
theorem lkX9_141 : Cond.methodLink RX9 141 mX4_placeClip.1 ∈ am_gd ∧ Cond.instanceMethod mX4_placeClip.1 ∈ am_gd ∧ Cond.selects mX4_placeClip.1.cls mX4_placeClip.1 mX4_placeClip.1 ∈ am_gd := ⟨am_in_gd 569 (by decide +kernel) (by decide +kernel), am_in_gd 570 (by decide +kernel) (by decide +kernel), am_in_gd 571 (by decide +kernel) (by decide +kernel)⟩
theorem lkX9_145 : Cond.methodLink RX9 145 mX1_has.1 ∈ am_gd ∧ Cond.instanceMethod mX1_has.1 ∈ am_gd ∧ Cond.selects mX1_has.1.cls mX1_has.1 mX1_has.1 ∈ am_gd := ⟨am_in_gd 597 (by decide +kernel) (by decide +kernel), am_in_gd 598 (by decide +kernel) (by decide +kernel), am_in_gd 599 (by decide +kernel) (by decide +kernel)⟩
theorem lkX9_148 : Cond.methodLink RX9 148 mX7_greatestOfClip.1 ∈ am_gd ∧ Cond.instanceMethod mX7_greatestOfClip.1 ∈ am_gd ∧ Cond.selects mX7_greatestOfClip.1.cls mX7_greatestOfClip.1 mX7_greatestOfClip.1 ∈ am_gd := ⟨am_in_gd 601 (by decide +kernel) (by decide +kernel), am_in_gd 602 (by decide +kernel) (by decide +kernel), am_in_gd 603 (by decide +kernel) (by decide +kernel)⟩
theorem lkX9_151 : Cond.methodLink RX9 151 mX7_sumOfClip.1 ∈ am_gd ∧ Cond.instanceMethod mX7_sumOfClip.1 ∈ am_gd ∧ Cond.selects mX7_sumOfClip.1.cls mX7_sumOfClip.1 mX7_sumOfClip.1 ∈ am_gd := ⟨am_in_gd 605 (by decide +kernel) (by decide +kernel), am_in_gd 606 (by decide +kernel) (by decide +kernel), am_in_gd 607 (by decide +kernel) (by decide +kernel)⟩
theorem lkX9_154 : Cond.methodLink RX9 154 mX1_get.1 ∈ am_gd ∧ Cond.instanceMethod mX1_get.1 ∈ am_gd ∧ Cond.selects mX1_get.1.cls mX1_get.1 mX1_get.1 ∈ am_gd := ⟨am_in_gd 609 (by decide +kernel) (by decide +kernel), am_in_gd 417 (by decide +kernel) (by decide +kernel), am_in_gd 418 (by decide +kernel) (by decide +kernel)⟩
theorem lkX9_157 : Cond.methodLink RX9 157 mX1_change.1 ∈ am_gd ∧ Cond.instanceMethod mX1_change.1 ∈ am_gd ∧ Cond.selects mX1_change.1.cls mX1_change.1 mX1_change.1 ∈ am_gd := ⟨am_in_gd 614 (by decide +kernel) (by decide +kernel), am_in_gd 615 (by decide +kernel) (by decide +kernel), am_in_gd 616 (by decide +kernel) (by decide +kernel)⟩
theorem lkX9_161 : Cond.methodLink RX9 161 mX1_shift.1 ∈ am_gd ∧ Cond.instanceMethod mX1_shift.1 ∈ am_gd ∧ Cond.selects mX1_shift.1.cls mX1_shift.1 mX1_shift.1 ∈ am_gd := ⟨am_in_gd 624 (by decide +kernel) (by decide +kernel), am_in_gd 625 (by decide +kernel) (by decide +kernel), am_in_gd 626 (by decide +kernel) (by decide +kernel)⟩
theorem lkX9_164 : Cond.methodLink RX9 164 mX4_trimClip.1 ∈ am_gd ∧ Cond.instanceMethod mX4_trimClip.1 ∈ am_gd ∧ Cond.selects mX4_trimClip.1.cls mX4_trimClip.1 mX4_trimClip.1 ∈ am_gd := ⟨am_in_gd 648 (by decide +kernel) (by decide +kernel), am_in_gd 649 (by decide +kernel) (by decide +kernel), am_in_gd 650 (by decide +kernel) (by decide +kernel)⟩
theorem lkX9_167 : Cond.methodLink RX9 167 mX1_divideOne.1 ∈ am_gd ∧ Cond.instanceMethod mX1_divideOne.1 ∈ am_gd ∧ Cond.selects mX1_divideOne.1.cls mX1_divideOne.1 mX1_divideOne.1 ∈ am_gd := ⟨am_in_gd 663 (by decide +kernel) (by decide +kernel), am_in_gd 664 (by decide +kernel) (by decide +kernel), am_in_gd 665 (by decide +kernel) (by decide +kernel)⟩
theorem lkX9_170 : Cond.methodLink RX9 170 mX1_takeOut.1 ∈ am_gd ∧ Cond.instanceMethod mX1_takeOut.1 ∈ am_gd ∧ Cond.selects mX1_takeOut.1.cls mX1_takeOut.1 mX1_takeOut.1 ∈ am_gd := ⟨am_in_gd 676 (by decide +kernel) (by decide +kernel), am_in_gd 677 (by decide +kernel) (by decide +kernel), am_in_gd 678 (by decide +kernel) (by decide +kernel)⟩
theorem lkX9_173 : Cond.methodLink RX9 173 mX9_isFrame.1 ∈ am_gd ∧ Cond.static mX9_isFrame.1 ∈ am_gd := ⟨am_in_gd 684 (by decide +kernel) (by decide +kernel), am_in_gd 685 (by decide +kernel) (by decide +kernel)⟩
theorem lkX9_176 : Cond.methodLink RX9 176 mX1_isFree.1 ∈ am_gd ∧ Cond.instanceMethod mX1_isFree.1 ∈ am_gd ∧ Cond.selects mX1_isFree.1.cls mX1_isFree.1 mX1_isFree.1 ∈ am_gd := ⟨am_in_gd 687 (by decide +kernel) (by decide +kernel), am_in_gd 577 (by decide +kernel) (by decide +kernel), am_in_gd 578 (by decide +kernel) (by decide +kernel)⟩
theorem lkX9_180 : Cond.methodLink RX9 180 mX1_duplicate.1 ∈ am_gd ∧ Cond.instanceMethod mX1_duplicate.1 ∈ am_gd ∧ Cond.selects mX1_duplicate.1.cls mX1_duplicate.1 mX1_duplicate.1 ∈ am_gd := ⟨am_in_gd 692 (by decide +kernel) (by decide +kernel), am_in_gd 693 (by decide +kernel) (by decide +kernel), am_in_gd 694 (by decide +kernel) (by decide +kernel)⟩
theorem lkX9_183 : Cond.methodLink RX9 183 mX1_on.1 ∈ am_gd ∧ Cond.instanceMethod mX1_on.1 ∈ am_gd ∧ Cond.selects mX1_on.1.cls mX1_on.1 mX1_on.1 ∈ am_gd := ⟨am_in_gd 700 (by decide +kernel) (by decide +kernel), am_in_gd 701 (by decide +kernel) (by decide +kernel), am_in_gd 702 (by decide +kernel) (by decide +kernel)⟩
theorem lkX9_186 : Cond.methodLink RX9 186 mX7_isDucked.1 ∈ am_gd ∧ Cond.instanceMethod mX7_isDucked.1 ∈ am_gd ∧ Cond.selects mX7_isDucked.1.cls mX7_isDucked.1 mX7_isDucked.1 ∈ am_gd := ⟨am_in_gd 708 (by decide +kernel) (by decide +kernel), am_in_gd 492 (by decide +kernel) (by decide +kernel), am_in_gd 493 (by decide +kernel) (by decide +kernel)⟩
theorem lkX9_190 : Cond.methodLink RX9 190 mX1_isFading.1 ∈ am_gd ∧ Cond.instanceMethod mX1_isFading.1 ∈ am_gd ∧ Cond.selects mX1_isFading.1.cls mX1_isFading.1 mX1_isFading.1 ∈ am_gd := ⟨am_in_gd 709 (by decide +kernel) (by decide +kernel), am_in_gd 710 (by decide +kernel) (by decide +kernel), am_in_gd 711 (by decide +kernel) (by decide +kernel)⟩
theorem lkX9_193 : Cond.methodLink RX9 193 mX4_cutFrames.1 ∈ am_gd ∧ Cond.instanceMethod mX4_cutFrames.1 ∈ am_gd ∧ Cond.selects mX4_cutFrames.1.cls mX4_cutFrames.1 mX4_cutFrames.1 ∈ am_gd := ⟨am_in_gd 717 (by decide +kernel) (by decide +kernel), am_in_gd 718 (by decide +kernel) (by decide +kernel), am_in_gd 719 (by decide +kernel) (by decide +kernel)⟩
theorem lkX9_196 : Cond.methodLink RX9 196 mX4_insertFrames.1 ∈ am_gd ∧ Cond.instanceMethod mX4_insertFrames.1 ∈ am_gd ∧ Cond.selects mX4_insertFrames.1.cls mX4_insertFrames.1 mX4_insertFrames.1 ∈ am_gd := ⟨am_in_gd 745 (by decide +kernel) (by decide +kernel), am_in_gd 746 (by decide +kernel) (by decide +kernel), am_in_gd 747 (by decide +kernel) (by decide +kernel)⟩
theorem flX9_199 : am_fl RX9 199 4 4 := ⟨am_in_gd 138 (by decide +kernel) (by decide +kernel), by decide, by decide +kernel⟩
theorem lkX9_203 : Cond.methodLink RX9 203 mX0_enter.1 ∈ am_gd ∧ Cond.instanceMethod mX0_enter.1 ∈ am_gd ∧ Cond.selects mX0_enter.1.cls mX0_enter.1 mX0_enter.1 ∈ am_gd := ⟨am_in_gd 775 (by decide +kernel) (by decide +kernel), am_in_gd 776 (by decide +kernel) (by decide +kernel), am_in_gd 777 (by decide +kernel) (by decide +kernel)⟩
theorem lkX9_208 : Cond.methodLink RX9 208 mX0_takeOut.1 ∈ am_gd ∧ Cond.instanceMethod mX0_takeOut.1 ∈ am_gd ∧ Cond.selects mX0_takeOut.1.cls mX0_takeOut.1 mX0_takeOut.1 ∈ am_gd := ⟨am_in_gd 789 (by decide +kernel) (by decide +kernel), am_in_gd 790 (by decide +kernel) (by decide +kernel), am_in_gd 791 (by decide +kernel) (by decide +kernel)⟩
theorem lkX9_209 : Cond.methodLink RX9 209 mX0_has.1 ∈ am_gd ∧ Cond.instanceMethod mX0_has.1 ∈ am_gd ∧ Cond.selects mX0_has.1.cls mX0_has.1 mX0_has.1 ∈ am_gd := ⟨am_in_gd 797 (by decide +kernel) (by decide +kernel), am_in_gd 781 (by decide +kernel) (by decide +kernel), am_in_gd 782 (by decide +kernel) (by decide +kernel)⟩
theorem flX9_210 : am_fl RX9 210 0 0 := ⟨am_in_gd 104 (by decide +kernel) (by decide +kernel), by decide, by decide +kernel⟩
theorem flX9_213 : am_fl RX9 213 0 1 := ⟨am_in_gd 107 (by decide +kernel) (by decide +kernel), by decide, by decide +kernel⟩
theorem lkX9_216 : Cond.methodLink RX9 216 mX4_framesOfChapter.1 ∈ am_gd ∧ Cond.instanceMethod mX4_framesOfChapter.1 ∈ am_gd ∧ Cond.selects mX4_framesOfChapter.1.cls mX4_framesOfChapter.1 mX4_framesOfChapter.1 ∈ am_gd := ⟨am_in_gd 798 (by decide +kernel) (by decide +kernel), am_in_gd 799 (by decide +kernel) (by decide +kernel), am_in_gd 800 (by decide +kernel) (by decide +kernel)⟩
theorem lkX9_219 : Cond.methodLink RX9 219 mX7_greatestMix.1 ∈ am_gd ∧ Cond.instanceMethod mX7_greatestMix.1 ∈ am_gd ∧ Cond.selects mX7_greatestMix.1.cls mX7_greatestMix.1 mX7_greatestMix.1 ∈ am_gd := ⟨am_in_gd 804 (by decide +kernel) (by decide +kernel), am_in_gd 805 (by decide +kernel) (by decide +kernel), am_in_gd 806 (by decide +kernel) (by decide +kernel)⟩
theorem lkX9_222 : Cond.methodLink RX9 222 mX0_firstFrom.1 ∈ am_gd ∧ Cond.instanceMethod mX0_firstFrom.1 ∈ am_gd ∧ Cond.selects mX0_firstFrom.1.cls mX0_firstFrom.1 mX0_firstFrom.1 ∈ am_gd := ⟨am_in_gd 820 (by decide +kernel) (by decide +kernel), am_in_gd 764 (by decide +kernel) (by decide +kernel), am_in_gd 765 (by decide +kernel) (by decide +kernel)⟩
theorem lkX9_225 : Cond.methodLink RX9 225 mX7_valueOnTrack.1 ∈ am_gd ∧ Cond.instanceMethod mX7_valueOnTrack.1 ∈ am_gd ∧ Cond.selects mX7_valueOnTrack.1.cls mX7_valueOnTrack.1 mX7_valueOnTrack.1 ∈ am_gd := ⟨am_in_gd 825 (by decide +kernel) (by decide +kernel), am_in_gd 826 (by decide +kernel) (by decide +kernel), am_in_gd 827 (by decide +kernel) (by decide +kernel)⟩
theorem lkX9_228 : Cond.methodLink RX9 228 mX7_dryAt.1 ∈ am_gd ∧ Cond.instanceMethod mX7_dryAt.1 ∈ am_gd ∧ Cond.selects mX7_dryAt.1.cls mX7_dryAt.1 mX7_dryAt.1 ∈ am_gd := ⟨am_in_gd 830 (by decide +kernel) (by decide +kernel), am_in_gd 831 (by decide +kernel) (by decide +kernel), am_in_gd 832 (by decide +kernel) (by decide +kernel)⟩
theorem lkX9_231 : Cond.methodLink RX9 231 mX7_wetAt.1 ∈ am_gd ∧ Cond.instanceMethod mX7_wetAt.1 ∈ am_gd ∧ Cond.selects mX7_wetAt.1.cls mX7_wetAt.1 mX7_wetAt.1 ∈ am_gd := ⟨am_in_gd 834 (by decide +kernel) (by decide +kernel), am_in_gd 488 (by decide +kernel) (by decide +kernel), am_in_gd 489 (by decide +kernel) (by decide +kernel)⟩
theorem lkX9_234 : Cond.methodLink RX9 234 mX7_mixAt.1 ∈ am_gd ∧ Cond.instanceMethod mX7_mixAt.1 ∈ am_gd ∧ Cond.selects mX7_mixAt.1.cls mX7_mixAt.1 mX7_mixAt.1 ∈ am_gd := ⟨am_in_gd 839 (by decide +kernel) (by decide +kernel), am_in_gd 809 (by decide +kernel) (by decide +kernel), am_in_gd 810 (by decide +kernel) (by decide +kernel)⟩
theorem lkX9_237 : Cond.methodLink RX9 237 mX1_lastEnd.1 ∈ am_gd ∧ Cond.instanceMethod mX1_lastEnd.1 ∈ am_gd ∧ Cond.selects mX1_lastEnd.1.cls mX1_lastEnd.1 mX1_lastEnd.1 ∈ am_gd := ⟨am_in_gd 844 (by decide +kernel) (by decide +kernel), am_in_gd 553 (by decide +kernel) (by decide +kernel), am_in_gd 554 (by decide +kernel) (by decide +kernel)⟩
theorem lkX9_241 : Cond.methodLink RX9 241 mX7_frameOfGreatestMix.1 ∈ am_gd ∧ Cond.instanceMethod mX7_frameOfGreatestMix.1 ∈ am_gd ∧ Cond.selects mX7_frameOfGreatestMix.1.cls mX7_frameOfGreatestMix.1 mX7_frameOfGreatestMix.1 ∈ am_gd := ⟨am_in_gd 845 (by decide +kernel) (by decide +kernel), am_in_gd 846 (by decide +kernel) (by decide +kernel), am_in_gd 847 (by decide +kernel) (by decide +kernel)⟩
theorem lkX9_244 : Cond.methodLink RX9 244 mX7_framesOver.1 ∈ am_gd ∧ Cond.instanceMethod mX7_framesOver.1 ∈ am_gd ∧ Cond.selects mX7_framesOver.1.cls mX7_framesOver.1 mX7_framesOver.1 ∈ am_gd := ⟨am_in_gd 849 (by decide +kernel) (by decide +kernel), am_in_gd 850 (by decide +kernel) (by decide +kernel), am_in_gd 851 (by decide +kernel) (by decide +kernel)⟩
theorem lkX9_247 : Cond.methodLink RX9 247 mX7_sumOfMix.1 ∈ am_gd ∧ Cond.instanceMethod mX7_sumOfMix.1 ∈ am_gd ∧ Cond.selects mX7_sumOfMix.1.cls mX7_sumOfMix.1 mX7_sumOfMix.1 ∈ am_gd := ⟨am_in_gd 853 (by decide +kernel) (by decide +kernel), am_in_gd 854 (by decide +kernel) (by decide +kernel), am_in_gd 855 (by decide +kernel) (by decide +kernel)⟩
theorem lkX9_250 : Cond.methodLink RX9 250 mX9_measureNow.1 ∈ am_gd ∧ Cond.instanceMethod mX9_measureNow.1 ∈ am_gd ∧ Cond.selects mX9_measureNow.1.cls mX9_measureNow.1 mX9_measureNow.1 ∈ am_gd := ⟨am_in_gd 861 (by decide +kernel) (by decide +kernel), am_in_gd 863 (by decide +kernel) (by decide +kernel), am_in_gd 4 (by decide +kernel) (by decide +kernel)⟩
theorem flX9_253 : am_fl RX9 253 3 5 := ⟨am_in_gd 229 (by decide +kernel) (by decide +kernel), by decide, by decide +kernel⟩
theorem flX9_257 : am_fl RX9 257 3 2 := ⟨am_in_gd 225 (by decide +kernel) (by decide +kernel), by decide, by decide +kernel⟩
theorem flX9_260 : am_fl RX9 260 3 6 := ⟨am_in_gd 231 (by decide +kernel) (by decide +kernel), by decide, by decide +kernel⟩
theorem flX9_263 : am_fl RX9 263 3 7 := ⟨am_in_gd 233 (by decide +kernel) (by decide +kernel), by decide, by decide +kernel⟩
theorem flX9_266 : am_fl RX9 266 3 8 := ⟨am_in_gd 235 (by decide +kernel) (by decide +kernel), by decide, by decide +kernel⟩
theorem flX9_269 : am_fl RX9 269 3 9 := ⟨am_in_gd 237 (by decide +kernel) (by decide +kernel), by decide, by decide +kernel⟩
theorem lkX9_272 : Cond.methodLink RX9 272 mX9_greatestMaster.1 ∈ am_gd ∧ Cond.instanceMethod mX9_greatestMaster.1 ∈ am_gd ∧ Cond.selects mX9_greatestMaster.1.cls mX9_greatestMaster.1 mX9_greatestMaster.1 ∈ am_gd := ⟨am_in_gd 888 (by decide +kernel) (by decide +kernel), am_in_gd 890 (by decide +kernel) (by decide +kernel), am_in_gd 5 (by decide +kernel) (by decide +kernel)⟩
theorem flX9_275 : am_fl RX9 275 4 0 := ⟨am_in_gd 128 (by decide +kernel) (by decide +kernel), by decide, by decide +kernel⟩
theorem lkX9_278 : Cond.methodLink RX9 278 mX7_refresh.1 ∈ am_gd ∧ Cond.instanceMethod mX7_refresh.1 ∈ am_gd ∧ Cond.selects mX7_refresh.1.cls mX7_refresh.1 mX7_refresh.1 ∈ am_gd := ⟨am_in_gd 424 (by decide +kernel) (by decide +kernel), am_in_gd 425 (by decide +kernel) (by decide +kernel), am_in_gd 426 (by decide +kernel) (by decide +kernel)⟩
theorem lkX9_281 : Cond.methodLink RX9 281 mX3_secondWay.1 ∈ am_gd ∧ Cond.instanceMethod mX3_secondWay.1 ∈ am_gd ∧ Cond.selects mX3_secondWay.1.cls mX3_secondWay.1 mX3_secondWay.1 ∈ am_gd := ⟨am_in_gd 904 (by decide +kernel) (by decide +kernel), am_in_gd 905 (by decide +kernel) (by decide +kernel), am_in_gd 906 (by decide +kernel) (by decide +kernel)⟩
theorem lkX9_284 : Cond.methodLink RX9 284 mX9_isSilence.1 ∈ am_gd ∧ Cond.static mX9_isSilence.1 ∈ am_gd := ⟨am_in_gd 922 (by decide +kernel) (by decide +kernel), am_in_gd 923 (by decide +kernel) (by decide +kernel)⟩
theorem lkX9_287 : Cond.methodLink RX9 287 mX6_find.1 ∈ am_gd ∧ Cond.instanceMethod mX6_find.1 ∈ am_gd ∧ Cond.selects mX6_find.1.cls mX6_find.1 mX6_find.1 ∈ am_gd := ⟨am_in_gd 925 (by decide +kernel) (by decide +kernel), am_in_gd 926 (by decide +kernel) (by decide +kernel), am_in_gd 927 (by decide +kernel) (by decide +kernel)⟩
theorem flX9_291 : am_fl RX9 291 6 4 := ⟨am_in_gd 272 (by decide +kernel) (by decide +kernel), by decide, by decide +kernel⟩
theorem flX9_294 : am_fl RX9 294 6 2 := ⟨am_in_gd 268 (by decide +kernel) (by decide +kernel), by decide, by decide +kernel⟩
theorem flX9_297 : am_fl RX9 297 6 3 := ⟨am_in_gd 270 (by decide +kernel) (by decide +kernel), by decide, by decide +kernel⟩
theorem lkX9_300 : Cond.methodLink RX9 300 mX4_copy.1 ∈ am_gd ∧ Cond.static mX4_copy.1 ∈ am_gd := ⟨am_in_gd 939 (by decide +kernel) (by decide +kernel), am_in_gd 402 (by decide +kernel) (by decide +kernel)⟩
theorem flX9_304 : am_fl RX9 304 7 5 := ⟨am_in_gd 202 (by decide +kernel) (by decide +kernel), by decide, by decide +kernel⟩
theorem lkX9_308 : Cond.methodLink RX9 308 mX9_afterCut.1 ∈ am_gd ∧ Cond.instanceMethod mX9_afterCut.1 ∈ am_gd ∧ Cond.selects mX9_afterCut.1.cls mX9_afterCut.1 mX9_afterCut.1 ∈ am_gd := ⟨am_in_gd 944 (by decide +kernel) (by decide +kernel), am_in_gd 946 (by decide +kernel) (by decide +kernel), am_in_gd 6 (by decide +kernel) (by decide +kernel)⟩
theorem lkX9_311 : Cond.methodLink RX9 311 mX4_events.1 ∈ am_gd ∧ Cond.instanceMethod mX4_events.1 ∈ am_gd ∧ Cond.selects mX4_events.1.cls mX4_events.1 mX4_events.1 ∈ am_gd := ⟨am_in_gd 952 (by decide +kernel) (by decide +kernel), am_in_gd 953 (by decide +kernel) (by decide +kernel), am_in_gd 954 (by decide +kernel) (by decide +kernel)⟩
theorem lkX9_314 : Cond.methodLink RX9 314 mX4_nextEvent.1 ∈ am_gd ∧ Cond.instanceMethod mX4_nextEvent.1 ∈ am_gd ∧ Cond.selects mX4_nextEvent.1.cls mX4_nextEvent.1 mX4_nextEvent.1 ∈ am_gd := ⟨am_in_gd 956 (by decide +kernel) (by decide +kernel), am_in_gd 957 (by decide +kernel) (by decide +kernel), am_in_gd 958 (by decide +kernel) (by decide +kernel)⟩
theorem lkX9_317 : Cond.methodLink RX9 317 mX0_titleAt.1 ∈ am_gd ∧ Cond.instanceMethod mX0_titleAt.1 ∈ am_gd ∧ Cond.selects mX0_titleAt.1.cls mX0_titleAt.1 mX0_titleAt.1 ∈ am_gd := ⟨am_in_gd 968 (by decide +kernel) (by decide +kernel), am_in_gd 969 (by decide +kernel) (by decide +kernel), am_in_gd 970 (by decide +kernel) (by decide +kernel)⟩
theorem lkX9_320 : Cond.methodLink RX9 320 mX5_add.1 ∈ am_gd ∧ Cond.instanceMethod mX5_add.1 ∈ am_gd ∧ Cond.selects mX5_add.1.cls mX5_add.1 mX5_add.1 ∈ am_gd := ⟨am_in_gd 976 (by decide +kernel) (by decide +kernel), am_in_gd 977 (by decide +kernel) (by decide +kernel), am_in_gd 978 (by decide +kernel) (by decide +kernel)⟩
theorem lkX9_323 : Cond.methodLink RX9 323 mX5_read.1 ∈ am_gd ∧ Cond.instanceMethod mX5_read.1 ∈ am_gd ∧ Cond.selects mX5_read.1.cls mX5_read.1 mX5_read.1 ∈ am_gd := ⟨am_in_gd 984 (by decide +kernel) (by decide +kernel), am_in_gd 985 (by decide +kernel) (by decide +kernel), am_in_gd 986 (by decide +kernel) (by decide +kernel)⟩
theorem flX9_326 : am_fl RX9 326 5 4 := ⟨am_in_gd 298 (by decide +kernel) (by decide +kernel), by decide, by decide +kernel⟩
theorem flX9_329 : am_fl RX9 329 5 5 := ⟨am_in_gd 300 (by decide +kernel) (by decide +kernel), by decide, by decide +kernel⟩
theorem flX9_332 : am_fl RX9 332 5 1 := ⟨am_in_gd 292 (by decide +kernel) (by decide +kernel), by decide, by decide +kernel⟩
theorem flX9_335 : am_fl RX9 335 5 2 := ⟨am_in_gd 294 (by decide +kernel) (by decide +kernel), by decide, by decide +kernel⟩
theorem flX9_336 : am_fl RX9 336 5 3 := ⟨am_in_gd 296 (by decide +kernel) (by decide +kernel), by decide, by decide +kernel⟩
theorem lkX9_339 : Cond.methodLink RX9 339 mX9_carryOut.1 ∈ am_gd ∧ Cond.instanceMethod mX9_carryOut.1 ∈ am_gd ∧ Cond.selects mX9_carryOut.1.cls mX9_carryOut.1 mX9_carryOut.1 ∈ am_gd := ⟨am_in_gd 1003 (by decide +kernel) (by decide +kernel), am_in_gd 1005 (by decide +kernel) (by decide +kernel), am_in_gd 7 (by decide +kernel) (by decide +kernel)⟩
theorem flX9_342 : am_fl RX9 342 9 10 := ⟨am_in_gd 342 (by decide +kernel) (by decide +kernel), by decide, by decide +kernel⟩
theorem flX9_345 : am_fl RX9 345 9 11 := ⟨am_in_gd 343 (by decide +kernel) (by decide +kernel), by decide, by decide +kernel⟩
theorem flX9_348 : am_fl RX9 348 8 1 := ⟨am_in_gd 326 (by decide +kernel) (by decide +kernel), by decide, by decide +kernel⟩
theorem flX9_349 : am_fl RX9 349 0 2 := ⟨am_in_gd 110 (by decide +kernel) (by decide +kernel), by decide, by decide +kernel⟩
theorem lkX9_352 : Cond.methodLink RX9 352 mX8_add.1 ∈ am_gd ∧ Cond.instanceMethod mX8_add.1 ∈ am_gd ∧ Cond.selects mX8_add.1.cls mX8_add.1 mX8_add.1 ∈ am_gd := ⟨am_in_gd 1015 (by decide +kernel) (by decide +kernel), am_in_gd 1016 (by decide +kernel) (by decide +kernel), am_in_gd 1017 (by decide +kernel) (by decide +kernel)⟩
theorem lkX9_355 : Cond.methodLink RX9 355 mX8_addNumber.1 ∈ am_gd ∧ Cond.instanceMethod mX8_addNumber.1 ∈ am_gd ∧ Cond.selects mX8_addNumber.1.cls mX8_addNumber.1 mX8_addNumber.1 ∈ am_gd := ⟨am_in_gd 1019 (by decide +kernel) (by decide +kernel), am_in_gd 1020 (by decide +kernel) (by decide +kernel), am_in_gd 1021 (by decide +kernel) (by decide +kernel)⟩
theorem flX9_358 : am_fl RX9 358 8 0 := ⟨am_in_gd 324 (by decide +kernel) (by decide +kernel), by decide, by decide +kernel⟩
theorem flX9_361 : am_fl RX9 361 2 5 := ⟨am_in_gd 173 (by decide +kernel) (by decide +kernel), by decide, by decide +kernel⟩
theorem flX9_364 : am_fl RX9 364 2 4 := ⟨am_in_gd 171 (by decide +kernel) (by decide +kernel), by decide, by decide +kernel⟩
theorem flX9_367 : am_fl RX9 367 2 2 := ⟨am_in_gd 167 (by decide +kernel) (by decide +kernel), by decide, by decide +kernel⟩
theorem lkX9_370 : Cond.methodLink RX9 370 mX2_keep.1 ∈ am_gd ∧ Cond.instanceMethod mX2_keep.1 ∈ am_gd ∧ Cond.selects mX2_keep.1.cls mX2_keep.1 mX2_keep.1 ∈ am_gd := ⟨am_in_gd 1036 (by decide +kernel) (by decide +kernel), am_in_gd 394 (by decide +kernel) (by decide +kernel), am_in_gd 395 (by decide +kernel) (by decide +kernel)⟩
theorem lkX9_373 : Cond.methodLink RX9 373 mX2_goBack.1 ∈ am_gd ∧ Cond.instanceMethod mX2_goBack.1 ∈ am_gd ∧ Cond.selects mX2_goBack.1.cls mX2_goBack.1 mX2_goBack.1 ∈ am_gd := ⟨am_in_gd 1041 (by decide +kernel) (by decide +kernel), am_in_gd 1042 (by decide +kernel) (by decide +kernel), am_in_gd 1043 (by decide +kernel) (by decide +kernel)⟩
theorem flX9_376 : am_fl RX9 376 2 3 := ⟨am_in_gd 169 (by decide +kernel) (by decide +kernel), by decide, by decide +kernel⟩
theorem lkX9_379 : Cond.methodLink RX9 379 mX2_goOn.1 ∈ am_gd ∧ Cond.instanceMethod mX2_goOn.1 ∈ am_gd ∧ Cond.selects mX2_goOn.1.cls mX2_goOn.1 mX2_goOn.1 ∈ am_gd := ⟨am_in_gd 1049 (by decide +kernel) (by decide +kernel), am_in_gd 1050 (by decide +kernel) (by decide +kernel), am_in_gd 1051 (by decide +kernel) (by decide +kernel)⟩
theorem flX9_382 : am_fl RX9 382 9 9 := ⟨am_in_gd 341 (by decide +kernel) (by decide +kernel), by decide, by decide +kernel⟩
theorem flX9_385 : am_fl RX9 385 1 1 := ⟨am_in_gd 89 (by decide +kernel) (by decide +kernel), by decide, by decide +kernel⟩
theorem lkX9_386 : Cond.methodLink RX9 386 mX2_startFrom.1 ∈ am_gd ∧ Cond.instanceMethod mX2_startFrom.1 ∈ am_gd ∧ Cond.selects mX2_startFrom.1.cls mX2_startFrom.1 mX2_startFrom.1 ∈ am_gd := ⟨am_in_gd 1061 (by decide +kernel) (by decide +kernel), am_in_gd 1062 (by decide +kernel) (by decide +kernel), am_in_gd 1063 (by decide +kernel) (by decide +kernel)⟩
theorem flX9_389 : am_fl RX9 389 4 5 := ⟨am_in_gd 141 (by decide +kernel) (by decide +kernel), by decide, by decide +kernel⟩
theorem lkX9_392 : Cond.methodLink RX9 392 mX2_note.1 ∈ am_gd ∧ Cond.instanceMethod mX2_note.1 ∈ am_gd ∧ Cond.selects mX2_note.1.cls mX2_note.1 mX2_note.1 ∈ am_gd := ⟨am_in_gd 389 (by decide +kernel) (by decide +kernel), am_in_gd 390 (by decide +kernel) (by decide +kernel), am_in_gd 391 (by decide +kernel) (by decide +kernel)⟩
theorem lkX9_395 : Cond.methodLink RX9 395 mX3_measure.1 ∈ am_gd ∧ Cond.instanceMethod mX3_measure.1 ∈ am_gd ∧ Cond.selects mX3_measure.1.cls mX3_measure.1 mX3_measure.1 ∈ am_gd := ⟨am_in_gd 865 (by decide +kernel) (by decide +kernel), am_in_gd 866 (by decide +kernel) (by decide +kernel), am_in_gd 867 (by decide +kernel) (by decide +kernel)⟩
theorem oiX10_1 : Cond.methodLink RX10 1 objectInit ∈ am_gd := am_in_gd 1074 (by decide +kernel) (by decide +kernel)
theorem flX10_9 : am_fl RX10 9 10 0 := ⟨am_in_gd 1075 (by decide +kernel) (by decide +kernel), by decide, by decide +kernel⟩
theorem flX10_13 : am_fl RX10 13 10 1 := ⟨am_in_gd 1076 (by decide +kernel) (by decide +kernel), by decide, by decide +kernel⟩
theorem flX10_16 : am_fl RX10 16 10 2 := ⟨am_in_gd 1077 (by decide +kernel) (by decide +kernel), by decide, by decide +kernel⟩
theorem flX10_19 : am_fl RX10 19 10 3 := ⟨am_in_gd 1078 (by decide +kernel) (by decide +kernel), by decide, by decide +kernel⟩
theorem flX10_22 : am_fl RX10 22 10 4 := ⟨am_in_gd 1079 (by decide +kernel) (by decide +kernel), by decide, by decide +kernel⟩
theorem flX10_25 : am_fl RX10 25 10 5 := ⟨am_in_gd 1080 (by decide +kernel) (by decide +kernel), by decide, by decide +kernel⟩
theorem flX10_28 : am_fl RX10 28 10 6 := ⟨am_in_gd 1081 (by decide +kernel) (by decide +kernel), by decide, by decide +kernel⟩
theorem flX10_31 : am_fl RX10 31 10 12 := ⟨am_in_gd 1087 (by decide +kernel) (by decide +kernel), by decide, by decide +kernel⟩
theorem flX10_34 : am_fl RX10 34 10 13 := ⟨am_in_gd 1088 (by decide +kernel) (by decide +kernel), by decide, by decide +kernel⟩
theorem flX10_37 : am_fl RX10 37 10 14 := ⟨am_in_gd 1089 (by decide +kernel) (by decide +kernel), by decide, by decide +kernel⟩
theorem flX10_40 : am_fl RX10 40 10 15 := ⟨am_in_gd 1090 (by decide +kernel) (by decide +kernel), by decide, by decide +kernel⟩
theorem flX10_43 : am_fl RX10 43 10 16 := ⟨am_in_gd 1091 (by decide +kernel) (by decide +kernel), by decide, by decide +kernel⟩
theorem flX10_46 : am_fl RX10 46 10 17 := ⟨am_in_gd 1092 (by decide +kernel) (by decide +kernel), by decide, by decide +kernel⟩
theorem flX10_50 : am_fl RX10 50 10 18 := ⟨am_in_gd 1093 (by decide +kernel) (by decide +kernel), by decide, by decide +kernel⟩
theorem flX10_53 : am_fl RX10 53 10 19 := ⟨am_in_gd 1094 (by decide +kernel) (by decide +kernel), by decide, by decide +kernel⟩
theorem flX10_56 : am_fl RX10 56 10 21 := ⟨am_in_gd 1096 (by decide +kernel) (by decide +kernel), by decide, by decide +kernel⟩
theorem flX10_59 : am_fl RX10 59 10 22 := ⟨am_in_gd 1097 (by decide +kernel) (by decide +kernel), by decide, by decide +kernel⟩
theorem flX10_62 : am_fl RX10 62 10 27 := ⟨am_in_gd 1102 (by decide +kernel) (by decide +kernel), by decide, by decide +kernel⟩
theorem flX10_66 : am_fl RX10 66 10 28 := ⟨am_in_gd 1103 (by decide +kernel) (by decide +kernel), by decide, by decide +kernel⟩
theorem flX10_69 : am_fl RX10 69 10 29 := ⟨am_in_gd 1104 (by decide +kernel) (by decide +kernel), by decide, by decide +kernel⟩
theorem flX10_72 : am_fl RX10 72 10 30 := ⟨am_in_gd 1105 (by decide +kernel) (by decide +kernel), by decide, by decide +kernel⟩
theorem flX10_75 : am_fl RX10 75 10 31 := ⟨am_in_gd 1106 (by decide +kernel) (by decide +kernel), by decide, by decide +kernel⟩
theorem lkX10_78 : Cond.methodLink RX10 78 mX10_copies.1 ∈ am_gd ∧ Cond.static mX10_copies.1 ∈ am_gd := ⟨am_in_gd 1187 (by decide +kernel) (by decide +kernel), am_in_gd 1188 (by decide +kernel) (by decide +kernel)⟩
theorem flX10_82 : am_fl RX10 82 10 7 := ⟨am_in_gd 1082 (by decide +kernel) (by decide +kernel), by decide, by decide +kernel⟩
theorem lkX10_85 : Cond.methodLink RX10 85 mX10_pushes.1 ∈ am_gd ∧ Cond.instanceMethod mX10_pushes.1 ∈ am_gd ∧ Cond.selects mX10_pushes.1.cls mX10_pushes.1 mX10_pushes.1 ∈ am_gd := ⟨am_in_gd 1198 (by decide +kernel) (by decide +kernel), am_in_gd 1200 (by decide +kernel) (by decide +kernel), am_in_gd 11 (by decide +kernel) (by decide +kernel)⟩
theorem flX10_89 : am_fl RX10 89 10 8 := ⟨am_in_gd 1083 (by decide +kernel) (by decide +kernel), by decide, by decide +kernel⟩
theorem flX10_92 : am_fl RX10 92 10 11 := ⟨am_in_gd 1086 (by decide +kernel) (by decide +kernel), by decide, by decide +kernel⟩
theorem flX10_96 : am_fl RX10 96 10 9 := ⟨am_in_gd 1084 (by decide +kernel) (by decide +kernel), by decide, by decide +kernel⟩
theorem lkX10_99 : Cond.methodLink RX10 99 mX10_steps.1 ∈ am_gd ∧ Cond.instanceMethod mX10_steps.1 ∈ am_gd ∧ Cond.selects mX10_steps.1.cls mX10_steps.1 mX10_steps.1 ∈ am_gd := ⟨am_in_gd 1194 (by decide +kernel) (by decide +kernel), am_in_gd 1196 (by decide +kernel) (by decide +kernel), am_in_gd 10 (by decide +kernel) (by decide +kernel)⟩
theorem lkX10_103 : Cond.methodLink RX10 103 mX10_isIn.1 ∈ am_gd ∧ Cond.static mX10_isIn.1 ∈ am_gd := ⟨am_in_gd 1180 (by decide +kernel) (by decide +kernel), am_in_gd 1181 (by decide +kernel) (by decide +kernel)⟩
theorem lkX10_107 : Cond.methodLink RX10 107 mX10_begins.1 ∈ am_gd ∧ Cond.instanceMethod mX10_begins.1 ∈ am_gd ∧ Cond.selects mX10_begins.1.cls mX10_begins.1 mX10_begins.1 ∈ am_gd := ⟨am_in_gd 1183 (by decide +kernel) (by decide +kernel), am_in_gd 1185 (by decide +kernel) (by decide +kernel), am_in_gd 8 (by decide +kernel) (by decide +kernel)⟩
theorem lkX10_110 : Cond.methodLink RX10 110 mX10_ends.1 ∈ am_gd ∧ Cond.instanceMethod mX10_ends.1 ∈ am_gd ∧ Cond.selects mX10_ends.1.cls mX10_ends.1 mX10_ends.1 ∈ am_gd := ⟨am_in_gd 1190 (by decide +kernel) (by decide +kernel), am_in_gd 1192 (by decide +kernel) (by decide +kernel), am_in_gd 9 (by decide +kernel) (by decide +kernel)⟩
theorem lkX10_114 : Cond.methodLink RX10 114 mX10_sourceOf.1 ∈ am_gd ∧ Cond.instanceMethod mX10_sourceOf.1 ∈ am_gd ∧ Cond.selects mX10_sourceOf.1.cls mX10_sourceOf.1 mX10_sourceOf.1 ∈ am_gd := ⟨am_in_gd 1210 (by decide +kernel) (by decide +kernel), am_in_gd 1212 (by decide +kernel) (by decide +kernel), am_in_gd 13 (by decide +kernel) (by decide +kernel)⟩
theorem wcX10_118 : Cond.constant RX10 118 (Int32.ofInt 1103515245) ∈ am_gd := am_in_gd 1218 (by decide +kernel) (by decide +kernel)
theorem lkX10_119 : Cond.methodLink RX10 119 mX10_isSource.1 ∈ am_gd ∧ Cond.instanceMethod mX10_isSource.1 ∈ am_gd ∧ Cond.selects mX10_isSource.1.cls mX10_isSource.1 mX10_isSource.1 ∈ am_gd := ⟨am_in_gd 1206 (by decide +kernel) (by decide +kernel), am_in_gd 1208 (by decide +kernel) (by decide +kernel), am_in_gd 12 (by decide +kernel) (by decide +kernel)⟩
theorem lkX10_123 : Cond.methodLink RX10 123 mX10_laysWaves.1 ∈ am_gd ∧ Cond.instanceMethod mX10_laysWaves.1 ∈ am_gd ∧ Cond.selects mX10_laysWaves.1.cls mX10_laysWaves.1 mX10_laysWaves.1 ∈ am_gd := ⟨am_in_gd 1214 (by decide +kernel) (by decide +kernel), am_in_gd 1216 (by decide +kernel) (by decide +kernel), am_in_gd 14 (by decide +kernel) (by decide +kernel)⟩
theorem lkX10_126 : Cond.methodLink RX10 126 mX10_of.1 ∈ am_gd ∧ Cond.instanceMethod mX10_of.1 ∈ am_gd ∧ Cond.selects mX10_of.1.cls mX10_of.1 mX10_of.1 ∈ am_gd := ⟨am_in_gd 1219 (by decide +kernel) (by decide +kernel), am_in_gd 1221 (by decide +kernel) (by decide +kernel), am_in_gd 15 (by decide +kernel) (by decide +kernel)⟩
theorem lkX10_129 : Cond.methodLink RX10 129 mX10_isSetting.1 ∈ am_gd ∧ Cond.static mX10_isSetting.1 ∈ am_gd := ⟨am_in_gd 1231 (by decide +kernel) (by decide +kernel), am_in_gd 1232 (by decide +kernel) (by decide +kernel)⟩
theorem lkX10_133 : Cond.methodLink RX10 133 mX10_isTrack.1 ∈ am_gd ∧ Cond.static mX10_isTrack.1 ∈ am_gd := ⟨am_in_gd 1238 (by decide +kernel) (by decide +kernel), am_in_gd 1239 (by decide +kernel) (by decide +kernel)⟩
theorem lkX10_136 : Cond.methodLink RX10 136 mX10_isTrackNumber.1 ∈ am_gd ∧ Cond.static mX10_isTrackNumber.1 ∈ am_gd := ⟨am_in_gd 1241 (by decide +kernel) (by decide +kernel), am_in_gd 1242 (by decide +kernel) (by decide +kernel)⟩
theorem lkX10_139 : Cond.methodLink RX10 139 mX10_trackOf.1 ∈ am_gd ∧ Cond.instanceMethod mX10_trackOf.1 ∈ am_gd ∧ Cond.selects mX10_trackOf.1.cls mX10_trackOf.1 mX10_trackOf.1 ∈ am_gd := ⟨am_in_gd 1244 (by decide +kernel) (by decide +kernel), am_in_gd 1246 (by decide +kernel) (by decide +kernel), am_in_gd 16 (by decide +kernel) (by decide +kernel)⟩
theorem lkX10_142 : Cond.methodLink RX10 142 mX10_faded.1 ∈ am_gd ∧ Cond.instanceMethod mX10_faded.1 ∈ am_gd ∧ Cond.selects mX10_faded.1.cls mX10_faded.1 mX10_faded.1 ∈ am_gd := ⟨am_in_gd 1264 (by decide +kernel) (by decide +kernel), am_in_gd 1266 (by decide +kernel) (by decide +kernel), am_in_gd 20 (by decide +kernel) (by decide +kernel)⟩
theorem lkX10_146 : Cond.methodLink RX10 146 mX10_clipValue.1 ∈ am_gd ∧ Cond.instanceMethod mX10_clipValue.1 ∈ am_gd ∧ Cond.selects mX10_clipValue.1.cls mX10_clipValue.1 mX10_clipValue.1 ∈ am_gd := ⟨am_in_gd 1260 (by decide +kernel) (by decide +kernel), am_in_gd 1262 (by decide +kernel) (by decide +kernel), am_in_gd 19 (by decide +kernel) (by decide +kernel)⟩
theorem lkX10_149 : Cond.methodLink RX10 149 mX10_isAudible.1 ∈ am_gd ∧ Cond.instanceMethod mX10_isAudible.1 ∈ am_gd ∧ Cond.selects mX10_isAudible.1.cls mX10_isAudible.1 mX10_isAudible.1 ∈ am_gd := ⟨am_in_gd 1252 (by decide +kernel) (by decide +kernel), am_in_gd 1254 (by decide +kernel) (by decide +kernel), am_in_gd 17 (by decide +kernel) (by decide +kernel)⟩
theorem lkX10_152 : Cond.methodLink RX10 152 mX10_works.1 ∈ am_gd ∧ Cond.instanceMethod mX10_works.1 ∈ am_gd ∧ Cond.selects mX10_works.1.cls mX10_works.1 mX10_works.1 ∈ am_gd := ⟨am_in_gd 1256 (by decide +kernel) (by decide +kernel), am_in_gd 1258 (by decide +kernel) (by decide +kernel), am_in_gd 18 (by decide +kernel) (by decide +kernel)⟩
theorem lkX10_155 : Cond.methodLink RX10 155 mX10_last.1 ∈ am_gd ∧ Cond.instanceMethod mX10_last.1 ∈ am_gd ∧ Cond.selects mX10_last.1.cls mX10_last.1 mX10_last.1 ∈ am_gd := ⟨am_in_gd 1268 (by decide +kernel) (by decide +kernel), am_in_gd 1270 (by decide +kernel) (by decide +kernel), am_in_gd 21 (by decide +kernel) (by decide +kernel)⟩
theorem lkX10_159 : Cond.methodLink RX10 159 mX10_isShared.1 ∈ am_gd ∧ Cond.instanceMethod mX10_isShared.1 ∈ am_gd ∧ Cond.selects mX10_isShared.1.cls mX10_isShared.1 mX10_isShared.1 ∈ am_gd := ⟨am_in_gd 1276 (by decide +kernel) (by decide +kernel), am_in_gd 1278 (by decide +kernel) (by decide +kernel), am_in_gd 22 (by decide +kernel) (by decide +kernel)⟩
theorem lkX10_162 : Cond.methodLink RX10 162 mX10_lays.1 ∈ am_gd ∧ Cond.instanceMethod mX10_lays.1 ∈ am_gd ∧ Cond.selects mX10_lays.1.cls mX10_lays.1 mX10_lays.1 ∈ am_gd := ⟨am_in_gd 1280 (by decide +kernel) (by decide +kernel), am_in_gd 1282 (by decide +kernel) (by decide +kernel), am_in_gd 23 (by decide +kernel) (by decide +kernel)⟩
theorem lkX10_165 : Cond.methodLink RX10 165 mX10_isClip.1 ∈ am_gd ∧ Cond.instanceMethod mX10_isClip.1 ∈ am_gd ∧ Cond.selects mX10_isClip.1.cls mX10_isClip.1 mX10_isClip.1 ∈ am_gd := ⟨am_in_gd 1288 (by decide +kernel) (by decide +kernel), am_in_gd 1290 (by decide +kernel) (by decide +kernel), am_in_gd 24 (by decide +kernel) (by decide +kernel)⟩
theorem lkX10_168 : Cond.methodLink RX10 168 mX10_takes.1 ∈ am_gd ∧ Cond.instanceMethod mX10_takes.1 ∈ am_gd ∧ Cond.selects mX10_takes.1.cls mX10_takes.1 mX10_takes.1 ∈ am_gd := ⟨am_in_gd 1300 (by decide +kernel) (by decide +kernel), am_in_gd 1302 (by decide +kernel) (by decide +kernel), am_in_gd 25 (by decide +kernel) (by decide +kernel)⟩
theorem lkX10_172 : Cond.methodLink RX10 172 mX10_drops.1 ∈ am_gd ∧ Cond.instanceMethod mX10_drops.1 ∈ am_gd ∧ Cond.selects mX10_drops.1.cls mX10_drops.1 mX10_drops.1 ∈ am_gd := ⟨am_in_gd 1304 (by decide +kernel) (by decide +kernel), am_in_gd 1306 (by decide +kernel) (by decide +kernel), am_in_gd 26 (by decide +kernel) (by decide +kernel)⟩
theorem lkX10_175 : Cond.methodLink RX10 175 mX10_isFrame.1 ∈ am_gd ∧ Cond.static mX10_isFrame.1 ∈ am_gd := ⟨am_in_gd 1316 (by decide +kernel) (by decide +kernel), am_in_gd 1317 (by decide +kernel) (by decide +kernel)⟩
theorem lkX10_178 : Cond.methodLink RX10 178 mX10_clipOn.1 ∈ am_gd ∧ Cond.instanceMethod mX10_clipOn.1 ∈ am_gd ∧ Cond.selects mX10_clipOn.1.cls mX10_clipOn.1 mX10_clipOn.1 ∈ am_gd := ⟨am_in_gd 1319 (by decide +kernel) (by decide +kernel), am_in_gd 1321 (by decide +kernel) (by decide +kernel), am_in_gd 27 (by decide +kernel) (by decide +kernel)⟩
theorem lkX10_181 : Cond.methodLink RX10 181 mX10_shortens.1 ∈ am_gd ∧ Cond.instanceMethod mX10_shortens.1 ∈ am_gd ∧ Cond.selects mX10_shortens.1.cls mX10_shortens.1 mX10_shortens.1 ∈ am_gd := ⟨am_in_gd 1331 (by decide +kernel) (by decide +kernel), am_in_gd 1333 (by decide +kernel) (by decide +kernel), am_in_gd 28 (by decide +kernel) (by decide +kernel)⟩
theorem lkX10_184 : Cond.methodLink RX10 184 mX10_divides.1 ∈ am_gd ∧ Cond.instanceMethod mX10_divides.1 ∈ am_gd ∧ Cond.selects mX10_divides.1.cls mX10_divides.1 mX10_divides.1 ∈ am_gd := ⟨am_in_gd 1339 (by decide +kernel) (by decide +kernel), am_in_gd 1341 (by decide +kernel) (by decide +kernel), am_in_gd 29 (by decide +kernel) (by decide +kernel)⟩
theorem lkX10_187 : Cond.methodLink RX10 187 mX10_dropsChapter.1 ∈ am_gd ∧ Cond.instanceMethod mX10_dropsChapter.1 ∈ am_gd ∧ Cond.selects mX10_dropsChapter.1.cls mX10_dropsChapter.1 mX10_dropsChapter.1 ∈ am_gd := ⟨am_in_gd 1359 (by decide +kernel) (by decide +kernel), am_in_gd 1361 (by decide +kernel) (by decide +kernel), am_in_gd 31 (by decide +kernel) (by decide +kernel)⟩
theorem lkX10_190 : Cond.methodLink RX10 190 mX10_cuts.1 ∈ am_gd ∧ Cond.instanceMethod mX10_cuts.1 ∈ am_gd ∧ Cond.selects mX10_cuts.1.cls mX10_cuts.1 mX10_cuts.1 ∈ am_gd := ⟨am_in_gd 1355 (by decide +kernel) (by decide +kernel), am_in_gd 1357 (by decide +kernel) (by decide +kernel), am_in_gd 30 (by decide +kernel) (by decide +kernel)⟩
theorem flX10_193 : am_fl RX10 193 10 20 := ⟨am_in_gd 1095 (by decide +kernel) (by decide +kernel), by decide, by decide +kernel⟩
theorem lkX10_196 : Cond.methodLink RX10 196 mX10_mixOf.1 ∈ am_gd ∧ Cond.instanceMethod mX10_mixOf.1 ∈ am_gd ∧ Cond.selects mX10_mixOf.1.cls mX10_mixOf.1 mX10_mixOf.1 ∈ am_gd := ⟨am_in_gd 1374 (by decide +kernel) (by decide +kernel), am_in_gd 1376 (by decide +kernel) (by decide +kernel), am_in_gd 33 (by decide +kernel) (by decide +kernel)⟩
theorem lkX10_199 : Cond.methodLink RX10 199 mX10_isHush.1 ∈ am_gd ∧ Cond.static mX10_isHush.1 ∈ am_gd := ⟨am_in_gd 1367 (by decide +kernel) (by decide +kernel), am_in_gd 1368 (by decide +kernel) (by decide +kernel)⟩
theorem lkX10_202 : Cond.methodLink RX10 202 mX10_findsHushes.1 ∈ am_gd ∧ Cond.instanceMethod mX10_findsHushes.1 ∈ am_gd ∧ Cond.selects mX10_findsHushes.1.cls mX10_findsHushes.1 mX10_findsHushes.1 ∈ am_gd := ⟨am_in_gd 1370 (by decide +kernel) (by decide +kernel), am_in_gd 1372 (by decide +kernel) (by decide +kernel), am_in_gd 32 (by decide +kernel) (by decide +kernel)⟩
theorem lkX10_206 : Cond.methodLink RX10 206 mX10_loudnessOf.1 ∈ am_gd ∧ Cond.instanceMethod mX10_loudnessOf.1 ∈ am_gd ∧ Cond.selects mX10_loudnessOf.1.cls mX10_loudnessOf.1 mX10_loudnessOf.1 ∈ am_gd := ⟨am_in_gd 1386 (by decide +kernel) (by decide +kernel), am_in_gd 1388 (by decide +kernel) (by decide +kernel), am_in_gd 34 (by decide +kernel) (by decide +kernel)⟩
theorem lkX10_209 : Cond.methodLink RX10 209 mX10_crossing.1 ∈ am_gd ∧ Cond.instanceMethod mX10_crossing.1 ∈ am_gd ∧ Cond.selects mX10_crossing.1.cls mX10_crossing.1 mX10_crossing.1 ∈ am_gd := ⟨am_in_gd 1406 (by decide +kernel) (by decide +kernel), am_in_gd 1408 (by decide +kernel) (by decide +kernel), am_in_gd 38 (by decide +kernel) (by decide +kernel)⟩
theorem lkX10_212 : Cond.methodLink RX10 212 mX10_dividesAll.1 ∈ am_gd ∧ Cond.instanceMethod mX10_dividesAll.1 ∈ am_gd ∧ Cond.selects mX10_dividesAll.1.cls mX10_dividesAll.1 mX10_dividesAll.1 ∈ am_gd := ⟨am_in_gd 1410 (by decide +kernel) (by decide +kernel), am_in_gd 1412 (by decide +kernel) (by decide +kernel), am_in_gd 39 (by decide +kernel) (by decide +kernel)⟩
theorem lkX10_215 : Cond.methodLink RX10 215 mX10_inserts.1 ∈ am_gd ∧ Cond.instanceMethod mX10_inserts.1 ∈ am_gd ∧ Cond.selects mX10_inserts.1.cls mX10_inserts.1 mX10_inserts.1 ∈ am_gd := ⟨am_in_gd 1402 (by decide +kernel) (by decide +kernel), am_in_gd 1404 (by decide +kernel) (by decide +kernel), am_in_gd 37 (by decide +kernel) (by decide +kernel)⟩
theorem lkX10_218 : Cond.methodLink RX10 218 mX10_laysChapter.1 ∈ am_gd ∧ Cond.instanceMethod mX10_laysChapter.1 ∈ am_gd ∧ Cond.selects mX10_laysChapter.1.cls mX10_laysChapter.1 mX10_laysChapter.1 ∈ am_gd := ⟨am_in_gd 1418 (by decide +kernel) (by decide +kernel), am_in_gd 1420 (by decide +kernel) (by decide +kernel), am_in_gd 40 (by decide +kernel) (by decide +kernel)⟩
theorem lkX10_221 : Cond.methodLink RX10 221 mX10_isChapter.1 ∈ am_gd ∧ Cond.instanceMethod mX10_isChapter.1 ∈ am_gd ∧ Cond.selects mX10_isChapter.1.cls mX10_isChapter.1 mX10_isChapter.1 ∈ am_gd := ⟨am_in_gd 1426 (by decide +kernel) (by decide +kernel), am_in_gd 1428 (by decide +kernel) (by decide +kernel), am_in_gd 41 (by decide +kernel) (by decide +kernel)⟩
theorem lkX10_224 : Cond.methodLink RX10 224 mX10_windows.1 ∈ am_gd ∧ Cond.instanceMethod mX10_windows.1 ∈ am_gd ∧ Cond.selects mX10_windows.1.cls mX10_windows.1 mX10_windows.1 ∈ am_gd := ⟨am_in_gd 1390 (by decide +kernel) (by decide +kernel), am_in_gd 1392 (by decide +kernel) (by decide +kernel), am_in_gd 35 (by decide +kernel) (by decide +kernel)⟩
theorem lkX10_227 : Cond.methodLink RX10 227 mX10_levelOf.1 ∈ am_gd ∧ Cond.instanceMethod mX10_levelOf.1 ∈ am_gd ∧ Cond.selects mX10_levelOf.1.cls mX10_levelOf.1 mX10_levelOf.1 ∈ am_gd := ⟨am_in_gd 1394 (by decide +kernel) (by decide +kernel), am_in_gd 1396 (by decide +kernel) (by decide +kernel), am_in_gd 36 (by decide +kernel) (by decide +kernel)⟩
theorem lkX10_230 : Cond.methodLink RX10 230 mX10_loudness.1 ∈ am_gd ∧ Cond.instanceMethod mX10_loudness.1 ∈ am_gd ∧ Cond.selects mX10_loudness.1.cls mX10_loudness.1 mX10_loudness.1 ∈ am_gd := ⟨am_in_gd 1462 (by decide +kernel) (by decide +kernel), am_in_gd 1455 (by decide +kernel) (by decide +kernel), am_in_gd 1456 (by decide +kernel) (by decide +kernel)⟩
theorem lkX10_233 : Cond.methodLink RX10 233 mX10_masterFor.1 ∈ am_gd ∧ Cond.instanceMethod mX10_masterFor.1 ∈ am_gd ∧ Cond.selects mX10_masterFor.1.cls mX10_masterFor.1 mX10_masterFor.1 ∈ am_gd := ⟨am_in_gd 1471 (by decide +kernel) (by decide +kernel), am_in_gd 1464 (by decide +kernel) (by decide +kernel), am_in_gd 1465 (by decide +kernel) (by decide +kernel)⟩
theorem wcX10_236 : Cond.constant RX10 236 (Int32.ofInt 100000) ∈ am_gd := am_in_gd 1488 (by decide +kernel) (by decide +kernel)
theorem lkX10_237 : Cond.methodLink RX10 237 mX10_events.1 ∈ am_gd ∧ Cond.instanceMethod mX10_events.1 ∈ am_gd ∧ Cond.selects mX10_events.1.cls mX10_events.1 mX10_events.1 ∈ am_gd := ⟨am_in_gd 1480 (by decide +kernel) (by decide +kernel), am_in_gd 1482 (by decide +kernel) (by decide +kernel), am_in_gd 42 (by decide +kernel) (by decide +kernel)⟩
theorem lkX10_240 : Cond.methodLink RX10 240 mX10_rank.1 ∈ am_gd ∧ Cond.instanceMethod mX10_rank.1 ∈ am_gd ∧ Cond.selects mX10_rank.1.cls mX10_rank.1 mX10_rank.1 ∈ am_gd := ⟨am_in_gd 1484 (by decide +kernel) (by decide +kernel), am_in_gd 1486 (by decide +kernel) (by decide +kernel), am_in_gd 43 (by decide +kernel) (by decide +kernel)⟩
theorem flX10_243 : am_fl RX10 243 10 23 := ⟨am_in_gd 1098 (by decide +kernel) (by decide +kernel), by decide, by decide +kernel⟩
theorem flX10_246 : am_fl RX10 246 10 24 := ⟨am_in_gd 1099 (by decide +kernel) (by decide +kernel), by decide, by decide +kernel⟩
theorem flX10_249 : am_fl RX10 249 10 25 := ⟨am_in_gd 1100 (by decide +kernel) (by decide +kernel), by decide, by decide +kernel⟩
theorem lkX10_252 : Cond.methodLink RX10 252 mX10_here.1 ∈ am_gd ∧ Cond.instanceMethod mX10_here.1 ∈ am_gd ∧ Cond.selects mX10_here.1.cls mX10_here.1 mX10_here.1 ∈ am_gd := ⟨am_in_gd 1501 (by decide +kernel) (by decide +kernel), am_in_gd 1503 (by decide +kernel) (by decide +kernel), am_in_gd 45 (by decide +kernel) (by decide +kernel)⟩
theorem lkX10_255 : Cond.methodLink RX10 255 mX10_signOf.1 ∈ am_gd ∧ Cond.static mX10_signOf.1 ∈ am_gd := ⟨am_in_gd 1505 (by decide +kernel) (by decide +kernel), am_in_gd 1506 (by decide +kernel) (by decide +kernel)⟩
theorem lkX10_258 : Cond.methodLink RX10 258 mX10_number.1 ∈ am_gd ∧ Cond.instanceMethod mX10_number.1 ∈ am_gd ∧ Cond.selects mX10_number.1.cls mX10_number.1 mX10_number.1 ∈ am_gd := ⟨am_in_gd 1508 (by decide +kernel) (by decide +kernel), am_in_gd 1510 (by decide +kernel) (by decide +kernel), am_in_gd 46 (by decide +kernel) (by decide +kernel)⟩
theorem lkX10_261 : Cond.methodLink RX10 261 mX10_command.1 ∈ am_gd ∧ Cond.instanceMethod mX10_command.1 ∈ am_gd ∧ Cond.selects mX10_command.1.cls mX10_command.1 mX10_command.1 ∈ am_gd := ⟨am_in_gd 1497 (by decide +kernel) (by decide +kernel), am_in_gd 1499 (by decide +kernel) (by decide +kernel), am_in_gd 44 (by decide +kernel) (by decide +kernel)⟩
theorem lkX10_264 : Cond.methodLink RX10 264 mX10_done.1 ∈ am_gd ∧ Cond.instanceMethod mX10_done.1 ∈ am_gd ∧ Cond.selects mX10_done.1.cls mX10_done.1 mX10_done.1 ∈ am_gd := ⟨am_in_gd 1512 (by decide +kernel) (by decide +kernel), am_in_gd 1514 (by decide +kernel) (by decide +kernel), am_in_gd 47 (by decide +kernel) (by decide +kernel)⟩
theorem flX10_267 : am_fl RX10 267 10 26 := ⟨am_in_gd 1101 (by decide +kernel) (by decide +kernel), by decide, by decide +kernel⟩
theorem flX10_270 : am_fl RX10 270 10 32 := ⟨am_in_gd 1107 (by decide +kernel) (by decide +kernel), by decide, by decide +kernel⟩
theorem lkX10_273 : Cond.methodLink RX10 273 mX10_puts.1 ∈ am_gd ∧ Cond.instanceMethod mX10_puts.1 ∈ am_gd ∧ Cond.selects mX10_puts.1.cls mX10_puts.1 mX10_puts.1 ∈ am_gd := ⟨am_in_gd 1524 (by decide +kernel) (by decide +kernel), am_in_gd 1526 (by decide +kernel) (by decide +kernel), am_in_gd 48 (by decide +kernel) (by decide +kernel)⟩
theorem flX10_276 : am_fl RX10 276 10 10 := ⟨am_in_gd 1085 (by decide +kernel) (by decide +kernel), by decide, by decide +kernel⟩
theorem oiX0_3 : Cond.methodLink RX0 3 objectInit ∈ am_gd := am_in_gd 101 (by decide +kernel) (by decide +kernel)
theorem flX0_9 : am_fl RX0 9 0 0 := ⟨am_in_gd 102 (by decide +kernel) (by decide +kernel), by decide, by decide +kernel⟩
theorem flX0_15 : am_fl RX0 15 0 1 := ⟨am_in_gd 105 (by decide +kernel) (by decide +kernel), by decide, by decide +kernel⟩
theorem flX0_18 : am_fl RX0 18 0 2 := ⟨am_in_gd 108 (by decide +kernel) (by decide +kernel), by decide, by decide +kernel⟩
theorem lkX0_22 : Cond.methodLink RX0 22 mX0_firstFrom.1 ∈ am_gd ∧ Cond.instanceMethod mX0_firstFrom.1 ∈ am_gd ∧ Cond.selects mX0_firstFrom.1.cls mX0_firstFrom.1 mX0_firstFrom.1 ∈ am_gd := ⟨am_in_gd 763 (by decide +kernel) (by decide +kernel), am_in_gd 764 (by decide +kernel) (by decide +kernel), am_in_gd 765 (by decide +kernel) (by decide +kernel)⟩
theorem lkX0_26 : Cond.methodLink RX0 26 mX0_has.1 ∈ am_gd ∧ Cond.instanceMethod mX0_has.1 ∈ am_gd ∧ Cond.selects mX0_has.1.cls mX0_has.1 mX0_has.1 ∈ am_gd := ⟨am_in_gd 780 (by decide +kernel) (by decide +kernel), am_in_gd 781 (by decide +kernel) (by decide +kernel), am_in_gd 782 (by decide +kernel) (by decide +kernel)⟩
theorem lkX0_30 : Cond.methodLinkNest RX0 30 mX9_isFrame.1 RX9 ∈ lw_tbl ∧ Cond.static mX9_isFrame.1 ∈ am_gd := ⟨List.mem_of_getElem? (i := 779) (by decide +kernel), am_in_gd 685 (by decide +kernel) (by decide +kernel)⟩
theorem waX0_33 : Cond.methodLink RX0 33 arraycopyName ∈ am_gd := am_in_gd 784 (by decide +kernel) (by decide +kernel)
theorem oiX1_3 : Cond.methodLink RX1 3 objectInit ∈ am_gd := am_in_gd 83 (by decide +kernel) (by decide +kernel)
theorem flX1_9 : am_fl RX1 9 1 0 := ⟨am_in_gd 84 (by decide +kernel) (by decide +kernel), by decide, by decide +kernel⟩
theorem flX1_15 : am_fl RX1 15 1 1 := ⟨am_in_gd 86 (by decide +kernel) (by decide +kernel), by decide, by decide +kernel⟩
theorem lkX1_19 : Cond.methodLink RX1 19 mX1_get.1 ∈ am_gd ∧ Cond.instanceMethod mX1_get.1 ∈ am_gd ∧ Cond.selects mX1_get.1.cls mX1_get.1 mX1_get.1 ∈ am_gd := ⟨am_in_gd 416 (by decide +kernel) (by decide +kernel), am_in_gd 417 (by decide +kernel) (by decide +kernel), am_in_gd 418 (by decide +kernel) (by decide +kernel)⟩
theorem lkX1_23 : Cond.methodLink RX1 23 mX1_endOf.1 ∈ am_gd ∧ Cond.instanceMethod mX1_endOf.1 ∈ am_gd ∧ Cond.selects mX1_endOf.1.cls mX1_endOf.1 mX1_endOf.1 ∈ am_gd := ⟨am_in_gd 556 (by decide +kernel) (by decide +kernel), am_in_gd 557 (by decide +kernel) (by decide +kernel), am_in_gd 558 (by decide +kernel) (by decide +kernel)⟩
theorem wmX1_27 : Cond.methodLink RX1 27 Lib.Math.max.name ∈ am_gd := am_in_gd 560 (by decide +kernel) (by decide +kernel)
theorem waX1_32 : Cond.methodLink RX1 32 arraycopyName ∈ am_gd := am_in_gd 588 (by decide +kernel) (by decide +kernel)
theorem lkX1_38 : Cond.methodLink RX1 38 mX1_has.1 ∈ am_gd ∧ Cond.instanceMethod mX1_has.1 ∈ am_gd ∧ Cond.selects mX1_has.1.cls mX1_has.1 mX1_has.1 ∈ am_gd := ⟨am_in_gd 618 (by decide +kernel) (by decide +kernel), am_in_gd 598 (by decide +kernel) (by decide +kernel), am_in_gd 599 (by decide +kernel) (by decide +kernel)⟩
theorem lkX1_42 : Cond.methodLink RX1 42 mX1_put.1 ∈ am_gd ∧ Cond.instanceMethod mX1_put.1 ∈ am_gd ∧ Cond.selects mX1_put.1.cls mX1_put.1 mX1_put.1 ∈ am_gd := ⟨am_in_gd 619 (by decide +kernel) (by decide +kernel), am_in_gd 590 (by decide +kernel) (by decide +kernel), am_in_gd 591 (by decide +kernel) (by decide +kernel)⟩
theorem lkX1_46 : Cond.methodLinkNest RX1 46 mX9_isTrack.1 RX9 ∈ lw_tbl ∧ Cond.static mX9_isTrack.1 ∈ am_gd := ⟨List.mem_of_getElem? (i := 628) (by decide +kernel), am_in_gd 472 (by decide +kernel) (by decide +kernel)⟩
theorem lkX1_49 : Cond.methodLink RX1 49 mX1_isFree.1 ∈ am_gd ∧ Cond.instanceMethod mX1_isFree.1 ∈ am_gd ∧ Cond.selects mX1_isFree.1.cls mX1_isFree.1 mX1_isFree.1 ∈ am_gd := ⟨am_in_gd 629 (by decide +kernel) (by decide +kernel), am_in_gd 577 (by decide +kernel) (by decide +kernel), am_in_gd 578 (by decide +kernel) (by decide +kernel)⟩
theorem lkX1_53 : Cond.methodLink RX1 53 mX1_copyTo.1 ∈ am_gd ∧ Cond.instanceMethod mX1_copyTo.1 ∈ am_gd ∧ Cond.selects mX1_copyTo.1.cls mX1_copyTo.1 mX1_copyTo.1 ∈ am_gd := ⟨am_in_gd 630 (by decide +kernel) (by decide +kernel), am_in_gd 631 (by decide +kernel) (by decide +kernel), am_in_gd 632 (by decide +kernel) (by decide +kernel)⟩
theorem lkX1_57 : Cond.methodLink RX1 57 mX1_closeRow.1 ∈ am_gd ∧ Cond.instanceMethod mX1_closeRow.1 ∈ am_gd ∧ Cond.selects mX1_closeRow.1.cls mX1_closeRow.1 mX1_closeRow.1 ∈ am_gd := ⟨am_in_gd 640 (by decide +kernel) (by decide +kernel), am_in_gd 641 (by decide +kernel) (by decide +kernel), am_in_gd 642 (by decide +kernel) (by decide +kernel)⟩
theorem lkX1_61 : Cond.methodLink RX1 61 mX1_placeFor.1 ∈ am_gd ∧ Cond.instanceMethod mX1_placeFor.1 ∈ am_gd ∧ Cond.selects mX1_placeFor.1.cls mX1_placeFor.1 mX1_placeFor.1 ∈ am_gd := ⟨am_in_gd 634 (by decide +kernel) (by decide +kernel), am_in_gd 581 (by decide +kernel) (by decide +kernel), am_in_gd 582 (by decide +kernel) (by decide +kernel)⟩
theorem lkX1_64 : Cond.methodLink RX1 64 mX1_openRow.1 ∈ am_gd ∧ Cond.instanceMethod mX1_openRow.1 ∈ am_gd ∧ Cond.selects mX1_openRow.1.cls mX1_openRow.1 mX1_openRow.1 ∈ am_gd := ⟨am_in_gd 635 (by decide +kernel) (by decide +kernel), am_in_gd 585 (by decide +kernel) (by decide +kernel), am_in_gd 586 (by decide +kernel) (by decide +kernel)⟩
theorem lkX1_67 : Cond.methodLink RX1 67 mX1_copyRow.1 ∈ am_gd ∧ Cond.instanceMethod mX1_copyRow.1 ∈ am_gd ∧ Cond.selects mX1_copyRow.1.cls mX1_copyRow.1 mX1_copyRow.1 ∈ am_gd := ⟨am_in_gd 636 (by decide +kernel) (by decide +kernel), am_in_gd 637 (by decide +kernel) (by decide +kernel), am_in_gd 638 (by decide +kernel) (by decide +kernel)⟩
theorem lkX1_71 : Cond.methodLink RX1 71 mX1_split.1 ∈ am_gd ∧ Cond.instanceMethod mX1_split.1 ∈ am_gd ∧ Cond.selects mX1_split.1.cls mX1_split.1 mX1_split.1 ∈ am_gd := ⟨am_in_gd 667 (by decide +kernel) (by decide +kernel), am_in_gd 668 (by decide +kernel) (by decide +kernel), am_in_gd 669 (by decide +kernel) (by decide +kernel)⟩
theorem lkX1_74 : Cond.methodLink RX1 74 mX1_fitFades.1 ∈ am_gd ∧ Cond.instanceMethod mX1_fitFades.1 ∈ am_gd ∧ Cond.selects mX1_fitFades.1.cls mX1_fitFades.1 mX1_fitFades.1 ∈ am_gd := ⟨am_in_gd 671 (by decide +kernel) (by decide +kernel), am_in_gd 655 (by decide +kernel) (by decide +kernel), am_in_gd 656 (by decide +kernel) (by decide +kernel)⟩
theorem wmX1_77 : Cond.methodLink RX1 77 Lib.Math.min.name ∈ am_gd := am_in_gd 658 (by decide +kernel) (by decide +kernel)
theorem lkX1_80 : Cond.methodLink RX1 80 mX1_isAcross.1 ∈ am_gd ∧ Cond.instanceMethod mX1_isAcross.1 ∈ am_gd ∧ Cond.selects mX1_isAcross.1.cls mX1_isAcross.1 mX1_isAcross.1 ∈ am_gd := ⟨am_in_gd 733 (by decide +kernel) (by decide +kernel), am_in_gd 734 (by decide +kernel) (by decide +kernel), am_in_gd 735 (by decide +kernel) (by decide +kernel)⟩
theorem oiX2_3 : Cond.methodLink RX2 3 objectInit ∈ am_gd := am_in_gd 160 (by decide +kernel) (by decide +kernel)
theorem flX2_11 : am_fl RX2 11 2 0 := ⟨am_in_gd 164 (by decide +kernel) (by decide +kernel), by decide, by decide +kernel⟩
theorem lkX2_17 : Cond.methodLink RX2 17 mX4_init.1 ∈ am_gd ∧ Cond.instanceMethod mX4_init.1 ∈ am_gd := ⟨am_in_gd 163 (by decide +kernel) (by decide +kernel), am_in_gd 75 (by decide +kernel) (by decide +kernel)⟩
theorem flX2_18 : am_fl RX2 18 2 1 := ⟨am_in_gd 165 (by decide +kernel) (by decide +kernel), by decide, by decide +kernel⟩
theorem flX2_22 : am_fl RX2 22 2 3 := ⟨am_in_gd 168 (by decide +kernel) (by decide +kernel), by decide, by decide +kernel⟩
theorem flX2_25 : am_fl RX2 25 2 5 := ⟨am_in_gd 172 (by decide +kernel) (by decide +kernel), by decide, by decide +kernel⟩
theorem flX2_29 : am_fl RX2 29 2 4 := ⟨am_in_gd 170 (by decide +kernel) (by decide +kernel), by decide, by decide +kernel⟩
theorem lkX2_32 : Cond.methodLink RX2 32 mX2_keep.1 ∈ am_gd ∧ Cond.instanceMethod mX2_keep.1 ∈ am_gd ∧ Cond.selects mX2_keep.1.cls mX2_keep.1 mX2_keep.1 ∈ am_gd := ⟨am_in_gd 393 (by decide +kernel) (by decide +kernel), am_in_gd 394 (by decide +kernel) (by decide +kernel), am_in_gd 395 (by decide +kernel) (by decide +kernel)⟩
theorem flX2_36 : am_fl RX2 36 2 2 := ⟨am_in_gd 166 (by decide +kernel) (by decide +kernel), by decide, by decide +kernel⟩
theorem lkX2_39 : Cond.methodLink RX2 39 mX2_behind.1 ∈ am_gd ∧ Cond.instanceMethod mX2_behind.1 ∈ am_gd ∧ Cond.selects mX2_behind.1.cls mX2_behind.1 mX2_behind.1 ∈ am_gd := ⟨am_in_gd 397 (by decide +kernel) (by decide +kernel), am_in_gd 398 (by decide +kernel) (by decide +kernel), am_in_gd 399 (by decide +kernel) (by decide +kernel)⟩
theorem lkX2_43 : Cond.methodLink RX2 43 mX4_copy.1 ∈ am_gd ∧ Cond.static mX4_copy.1 ∈ am_gd := ⟨am_in_gd 401 (by decide +kernel) (by decide +kernel), am_in_gd 402 (by decide +kernel) (by decide +kernel)⟩
theorem oiX3_3 : Cond.methodLink RX3 3 objectInit ∈ am_gd := am_in_gd 221 (by decide +kernel) (by decide +kernel)
theorem flX3_9 : am_fl RX3 9 3 2 := ⟨am_in_gd 224 (by decide +kernel) (by decide +kernel), by decide, by decide +kernel⟩
theorem flX3_15 : am_fl RX3 15 3 3 := ⟨am_in_gd 226 (by decide +kernel) (by decide +kernel), by decide, by decide +kernel⟩
theorem flX3_18 : am_fl RX3 18 3 4 := ⟨am_in_gd 227 (by decide +kernel) (by decide +kernel), by decide, by decide +kernel⟩
theorem flX3_21 : am_fl RX3 21 3 0 := ⟨am_in_gd 222 (by decide +kernel) (by decide +kernel), by decide, by decide +kernel⟩
theorem flX3_25 : am_fl RX3 25 3 1 := ⟨am_in_gd 223 (by decide +kernel) (by decide +kernel), by decide, by decide +kernel⟩
theorem flX3_29 : am_fl RX3 29 4 0 := ⟨am_in_gd 126 (by decide +kernel) (by decide +kernel), by decide, by decide +kernel⟩
theorem wmX3_34 : Cond.methodLink RX3 34 Lib.Math.max.name ∈ am_gd := am_in_gd 877 (by decide +kernel) (by decide +kernel)
theorem lkX3_40 : Cond.methodLink RX3 40 mX3_fillLevels.1 ∈ am_gd ∧ Cond.instanceMethod mX3_fillLevels.1 ∈ am_gd ∧ Cond.selects mX3_fillLevels.1.cls mX3_fillLevels.1 mX3_fillLevels.1 ∈ am_gd := ⟨am_in_gd 869 (by decide +kernel) (by decide +kernel), am_in_gd 870 (by decide +kernel) (by decide +kernel), am_in_gd 871 (by decide +kernel) (by decide +kernel)⟩
theorem flX3_44 : am_fl RX3 44 3 6 := ⟨am_in_gd 230 (by decide +kernel) (by decide +kernel), by decide, by decide +kernel⟩
theorem flX3_48 : am_fl RX3 48 3 5 := ⟨am_in_gd 228 (by decide +kernel) (by decide +kernel), by decide, by decide +kernel⟩
theorem flX3_51 : am_fl RX3 51 3 8 := ⟨am_in_gd 234 (by decide +kernel) (by decide +kernel), by decide, by decide +kernel⟩
theorem flX3_54 : am_fl RX3 54 3 7 := ⟨am_in_gd 232 (by decide +kernel) (by decide +kernel), by decide, by decide +kernel⟩
theorem flX3_57 : am_fl RX3 57 3 9 := ⟨am_in_gd 236 (by decide +kernel) (by decide +kernel), by decide, by decide +kernel⟩
theorem lkX3_60 : Cond.methodLink RX3 60 mX3_window.1 ∈ am_gd ∧ Cond.instanceMethod mX3_window.1 ∈ am_gd ∧ Cond.selects mX3_window.1.cls mX3_window.1 mX3_window.1 ∈ am_gd := ⟨am_in_gd 873 (by decide +kernel) (by decide +kernel), am_in_gd 874 (by decide +kernel) (by decide +kernel), am_in_gd 875 (by decide +kernel) (by decide +kernel)⟩
theorem flX3_64 : am_fl RX3 64 4 3 := ⟨am_in_gd 135 (by decide +kernel) (by decide +kernel), by decide, by decide +kernel⟩
theorem lkX3_68 : Cond.methodLink RX3 68 mX1_lastEnd.1 ∈ am_gd ∧ Cond.instanceMethod mX1_lastEnd.1 ∈ am_gd ∧ Cond.selects mX1_lastEnd.1.cls mX1_lastEnd.1 mX1_lastEnd.1 ∈ am_gd := ⟨am_in_gd 878 (by decide +kernel) (by decide +kernel), am_in_gd 553 (by decide +kernel) (by decide +kernel), am_in_gd 554 (by decide +kernel) (by decide +kernel)⟩
theorem wmX3_73 : Cond.methodLink RX3 73 Lib.Math.min.name ∈ am_gd := am_in_gd 879 (by decide +kernel) (by decide +kernel)
theorem flX3_76 : am_fl RX3 76 7 4 := ⟨am_in_gd 200 (by decide +kernel) (by decide +kernel), by decide, by decide +kernel⟩
theorem lkX3_81 : Cond.methodLink RX3 81 mX7_mixAt.1 ∈ am_gd ∧ Cond.instanceMethod mX7_mixAt.1 ∈ am_gd ∧ Cond.selects mX7_mixAt.1.cls mX7_mixAt.1 mX7_mixAt.1 ∈ am_gd := ⟨am_in_gd 908 (by decide +kernel) (by decide +kernel), am_in_gd 809 (by decide +kernel) (by decide +kernel), am_in_gd 810 (by decide +kernel) (by decide +kernel)⟩
theorem lkX3_85 : Cond.methodLink RX3 85 mX3_sortLevels.1 ∈ am_gd ∧ Cond.instanceMethod mX3_sortLevels.1 ∈ am_gd ∧ Cond.selects mX3_sortLevels.1.cls mX3_sortLevels.1 mX3_sortLevels.1 ∈ am_gd := ⟨am_in_gd 909 (by decide +kernel) (by decide +kernel), am_in_gd 910 (by decide +kernel) (by decide +kernel), am_in_gd 911 (by decide +kernel) (by decide +kernel)⟩
theorem lkX3_88 : Cond.methodLink RX3 88 mX3_meanFrom.1 ∈ am_gd ∧ Cond.instanceMethod mX3_meanFrom.1 ∈ am_gd ∧ Cond.selects mX3_meanFrom.1.cls mX3_meanFrom.1 mX3_meanFrom.1 ∈ am_gd := ⟨am_in_gd 914 (by decide +kernel) (by decide +kernel), am_in_gd 915 (by decide +kernel) (by decide +kernel), am_in_gd 916 (by decide +kernel) (by decide +kernel)⟩
theorem waX3_91 : Cond.methodLink RX3 91 arraycopyName ∈ am_gd := am_in_gd 913 (by decide +kernel) (by decide +kernel)
theorem oiX4_3 : Cond.methodLink RX4 3 objectInit ∈ am_gd := am_in_gd 77 (by decide +kernel) (by decide +kernel)
theorem flX4_9 : am_fl RX4 9 4 0 := ⟨am_in_gd 125 (by decide +kernel) (by decide +kernel), by decide, by decide +kernel⟩
theorem flX4_15 : am_fl RX4 15 4 1 := ⟨am_in_gd 129 (by decide +kernel) (by decide +kernel), by decide, by decide +kernel⟩
theorem flX4_18 : am_fl RX4 18 4 2 := ⟨am_in_gd 131 (by decide +kernel) (by decide +kernel), by decide, by decide +kernel⟩
theorem nwX4_21 : Cond.classLink RX4 21 (am_rn 1) ∈ am_gd ∧ Cond.instantiable (am_rn 1) (am_nf 1) ∈ am_gd ∧ Cond.initialized (am_rn 1) ∈ am_gd := ⟨am_in_gd 78 (by decide +kernel) (by decide +kernel), am_in_gd 79 (by decide +kernel) (by decide +kernel), am_in_gd 52 (by decide +kernel) (by decide +kernel)⟩
theorem lkX4_23 : Cond.methodLinkNest RX4 23 mX1_init.1 RX9 ∈ lw_tbl ∧ Cond.instanceMethod mX1_init.1 ∈ am_gd := ⟨List.mem_of_getElem? (i := 80) (by decide +kernel), am_in_gd 81 (by decide +kernel) (by decide +kernel)⟩
theorem flX4_24 : am_fl RX4 24 4 3 := ⟨am_in_gd 132 (by decide +kernel) (by decide +kernel), by decide, by decide +kernel⟩
theorem nwX4_28 : Cond.classLink RX4 28 (am_rn 0) ∈ am_gd ∧ Cond.instantiable (am_rn 0) (am_nf 0) ∈ am_gd ∧ Cond.initialized (am_rn 0) ∈ am_gd := ⟨am_in_gd 96 (by decide +kernel) (by decide +kernel), am_in_gd 97 (by decide +kernel) (by decide +kernel), am_in_gd 53 (by decide +kernel) (by decide +kernel)⟩
theorem lkX4_30 : Cond.methodLinkNest RX4 30 mX0_init.1 RX9 ∈ lw_tbl ∧ Cond.instanceMethod mX0_init.1 ∈ am_gd := ⟨List.mem_of_getElem? (i := 98) (by decide +kernel), am_in_gd 99 (by decide +kernel) (by decide +kernel)⟩
theorem flX4_31 : am_fl RX4 31 4 4 := ⟨am_in_gd 137 (by decide +kernel) (by decide +kernel), by decide, by decide +kernel⟩
theorem gsX4_35 : Cond.fieldLinkNest RX4 35 RX9 (am_sn 0) "[I" RX9 ∈ lw_tbl := List.mem_of_getElem? (i := 118) (by decide +kernel)
theorem waX4_38 : Cond.methodLink RX4 38 arraycopyName ∈ am_gd := am_in_gd 120 (by decide +kernel) (by decide +kernel)
theorem gsX4_44 : Cond.fieldLinkNest RX4 44 RX9 (am_sn 3) "[I" RX9 ∈ lw_tbl := List.mem_of_getElem? (i := 123) (by decide +kernel)
theorem flX4_47 : am_fl RX4 47 1 0 := ⟨am_in_gd 85 (by decide +kernel) (by decide +kernel), by decide, by decide +kernel⟩
theorem flX4_50 : am_fl RX4 50 0 0 := ⟨am_in_gd 103 (by decide +kernel) (by decide +kernel), by decide, by decide +kernel⟩
theorem flX4_53 : am_fl RX4 53 0 1 := ⟨am_in_gd 106 (by decide +kernel) (by decide +kernel), by decide, by decide +kernel⟩
theorem flX4_56 : am_fl RX4 56 4 5 := ⟨am_in_gd 140 (by decide +kernel) (by decide +kernel), by decide, by decide +kernel⟩
theorem flX4_60 : am_fl RX4 60 1 1 := ⟨am_in_gd 87 (by decide +kernel) (by decide +kernel), by decide, by decide +kernel⟩
theorem flX4_63 : am_fl RX4 63 0 2 := ⟨am_in_gd 109 (by decide +kernel) (by decide +kernel), by decide, by decide +kernel⟩
theorem gsX4_64 : Cond.fieldLinkNest RX4 64 RX9 (am_sn 6) "[I" RX9 ∈ lw_tbl := List.mem_of_getElem? (i := 377) (by decide +kernel)
theorem gsX4_67 : Cond.fieldLinkNest RX4 67 RX9 (am_sn 7) "[I" RX9 ∈ lw_tbl := List.mem_of_getElem? (i := 379) (by decide +kernel)
theorem gsX4_70 : Cond.fieldLinkNest RX4 70 RX9 (am_sn 1) "[I" RX9 ∈ lw_tbl := List.mem_of_getElem? (i := 513) (by decide +kernel)
theorem gsX4_73 : Cond.fieldLinkNest RX4 73 RX9 (am_sn 2) "[I" RX9 ∈ lw_tbl := List.mem_of_getElem? (i := 515) (by decide +kernel)
theorem gsX4_76 : Cond.fieldLinkNest RX4 76 RX9 (am_sn 4) "[I" RX9 ∈ lw_tbl := List.mem_of_getElem? (i := 526) (by decide +kernel)
theorem gsX4_79 : Cond.fieldLinkNest RX4 79 RX9 (am_sn 5) "[I" RX9 ∈ lw_tbl := List.mem_of_getElem? (i := 528) (by decide +kernel)
theorem lkX4_82 : Cond.methodLink RX4 82 mX4_trackNumber.1 ∈ am_gd ∧ Cond.instanceMethod mX4_trackNumber.1 ∈ am_gd ∧ Cond.selects mX4_trackNumber.1.cls mX4_trackNumber.1 mX4_trackNumber.1 ∈ am_gd := ⟨am_in_gd 478 (by decide +kernel) (by decide +kernel), am_in_gd 452 (by decide +kernel) (by decide +kernel), am_in_gd 453 (by decide +kernel) (by decide +kernel)⟩
theorem lkX4_86 : Cond.methodLink RX4 86 mX4_isAnySolo.1 ∈ am_gd ∧ Cond.instanceMethod mX4_isAnySolo.1 ∈ am_gd ∧ Cond.selects mX4_isAnySolo.1.cls mX4_isAnySolo.1 mX4_isAnySolo.1 ∈ am_gd := ⟨am_in_gd 479 (by decide +kernel) (by decide +kernel), am_in_gd 480 (by decide +kernel) (by decide +kernel), am_in_gd 481 (by decide +kernel) (by decide +kernel)⟩
theorem lkX4_90 : Cond.methodLinkNest RX4 90 mX9_isTrack.1 RX9 ∈ lw_tbl ∧ Cond.static mX9_isTrack.1 ∈ am_gd := ⟨List.mem_of_getElem? (i := 573) (by decide +kernel), am_in_gd 472 (by decide +kernel) (by decide +kernel)⟩
theorem lkX4_94 : Cond.methodLink RX4 94 mX4_hasSource.1 ∈ am_gd ∧ Cond.instanceMethod mX4_hasSource.1 ∈ am_gd ∧ Cond.selects mX4_hasSource.1.cls mX4_hasSource.1 mX4_hasSource.1 ∈ am_gd := ⟨am_in_gd 574 (by decide +kernel) (by decide +kernel), am_in_gd 409 (by decide +kernel) (by decide +kernel), am_in_gd 410 (by decide +kernel) (by decide +kernel)⟩
theorem lkX4_97 : Cond.methodLink RX4 97 mX4_sourceNumber.1 ∈ am_gd ∧ Cond.instanceMethod mX4_sourceNumber.1 ∈ am_gd ∧ Cond.selects mX4_sourceNumber.1.cls mX4_sourceNumber.1 mX4_sourceNumber.1 ∈ am_gd := ⟨am_in_gd 575 (by decide +kernel) (by decide +kernel), am_in_gd 433 (by decide +kernel) (by decide +kernel), am_in_gd 434 (by decide +kernel) (by decide +kernel)⟩
theorem lkX4_100 : Cond.methodLink RX4 100 mX1_isFree.1 ∈ am_gd ∧ Cond.instanceMethod mX1_isFree.1 ∈ am_gd ∧ Cond.selects mX1_isFree.1.cls mX1_isFree.1 mX1_isFree.1 ∈ am_gd := ⟨am_in_gd 576 (by decide +kernel) (by decide +kernel), am_in_gd 577 (by decide +kernel) (by decide +kernel), am_in_gd 578 (by decide +kernel) (by decide +kernel)⟩
theorem lkX4_104 : Cond.methodLink RX4 104 mX1_placeFor.1 ∈ am_gd ∧ Cond.instanceMethod mX1_placeFor.1 ∈ am_gd ∧ Cond.selects mX1_placeFor.1.cls mX1_placeFor.1 mX1_placeFor.1 ∈ am_gd := ⟨am_in_gd 580 (by decide +kernel) (by decide +kernel), am_in_gd 581 (by decide +kernel) (by decide +kernel), am_in_gd 582 (by decide +kernel) (by decide +kernel)⟩
theorem lkX4_107 : Cond.methodLink RX4 107 mX1_openRow.1 ∈ am_gd ∧ Cond.instanceMethod mX1_openRow.1 ∈ am_gd ∧ Cond.selects mX1_openRow.1.cls mX1_openRow.1 mX1_openRow.1 ∈ am_gd := ⟨am_in_gd 584 (by decide +kernel) (by decide +kernel), am_in_gd 585 (by decide +kernel) (by decide +kernel), am_in_gd 586 (by decide +kernel) (by decide +kernel)⟩
theorem lkX4_111 : Cond.methodLink RX4 111 mX1_put.1 ∈ am_gd ∧ Cond.instanceMethod mX1_put.1 ∈ am_gd ∧ Cond.selects mX1_put.1.cls mX1_put.1 mX1_put.1 ∈ am_gd := ⟨am_in_gd 589 (by decide +kernel) (by decide +kernel), am_in_gd 590 (by decide +kernel) (by decide +kernel), am_in_gd 591 (by decide +kernel) (by decide +kernel)⟩
theorem lkX4_115 : Cond.methodLink RX4 115 mX1_has.1 ∈ am_gd ∧ Cond.instanceMethod mX1_has.1 ∈ am_gd ∧ Cond.selects mX1_has.1.cls mX1_has.1 mX1_has.1 ∈ am_gd := ⟨am_in_gd 652 (by decide +kernel) (by decide +kernel), am_in_gd 598 (by decide +kernel) (by decide +kernel), am_in_gd 599 (by decide +kernel) (by decide +kernel)⟩
theorem lkX4_118 : Cond.methodLink RX4 118 mX1_get.1 ∈ am_gd ∧ Cond.instanceMethod mX1_get.1 ∈ am_gd ∧ Cond.selects mX1_get.1.cls mX1_get.1 mX1_get.1 ∈ am_gd := ⟨am_in_gd 653 (by decide +kernel) (by decide +kernel), am_in_gd 417 (by decide +kernel) (by decide +kernel), am_in_gd 418 (by decide +kernel) (by decide +kernel)⟩
theorem lkX4_121 : Cond.methodLink RX4 121 mX1_fitFades.1 ∈ am_gd ∧ Cond.instanceMethod mX1_fitFades.1 ∈ am_gd ∧ Cond.selects mX1_fitFades.1.cls mX1_fitFades.1 mX1_fitFades.1 ∈ am_gd := ⟨am_in_gd 654 (by decide +kernel) (by decide +kernel), am_in_gd 655 (by decide +kernel) (by decide +kernel), am_in_gd 656 (by decide +kernel) (by decide +kernel)⟩
theorem lkX4_124 : Cond.methodLink RX4 124 mX1_clipsAfterCut.1 ∈ am_gd ∧ Cond.instanceMethod mX1_clipsAfterCut.1 ∈ am_gd ∧ Cond.selects mX1_clipsAfterCut.1.cls mX1_clipsAfterCut.1 mX1_clipsAfterCut.1 ∈ am_gd := ⟨am_in_gd 721 (by decide +kernel) (by decide +kernel), am_in_gd 722 (by decide +kernel) (by decide +kernel), am_in_gd 723 (by decide +kernel) (by decide +kernel)⟩
theorem lkX4_127 : Cond.methodLink RX4 127 mX0_takeFrames.1 ∈ am_gd ∧ Cond.instanceMethod mX0_takeFrames.1 ∈ am_gd ∧ Cond.selects mX0_takeFrames.1.cls mX0_takeFrames.1 mX0_takeFrames.1 ∈ am_gd := ⟨am_in_gd 725 (by decide +kernel) (by decide +kernel), am_in_gd 726 (by decide +kernel) (by decide +kernel), am_in_gd 727 (by decide +kernel) (by decide +kernel)⟩
theorem lkX4_131 : Cond.methodLink RX4 131 mX1_divideAllAt.1 ∈ am_gd ∧ Cond.instanceMethod mX1_divideAllAt.1 ∈ am_gd ∧ Cond.selects mX1_divideAllAt.1.cls mX1_divideAllAt.1 mX1_divideAllAt.1 ∈ am_gd := ⟨am_in_gd 729 (by decide +kernel) (by decide +kernel), am_in_gd 730 (by decide +kernel) (by decide +kernel), am_in_gd 731 (by decide +kernel) (by decide +kernel)⟩
theorem lkX4_134 : Cond.methodLink RX4 134 mX1_takeFrames.1 ∈ am_gd ∧ Cond.instanceMethod mX1_takeFrames.1 ∈ am_gd ∧ Cond.selects mX1_takeFrames.1.cls mX1_takeFrames.1 mX1_takeFrames.1 ∈ am_gd := ⟨am_in_gd 737 (by decide +kernel) (by decide +kernel), am_in_gd 738 (by decide +kernel) (by decide +kernel), am_in_gd 739 (by decide +kernel) (by decide +kernel)⟩
theorem lkX4_136 : Cond.methodLinkNest RX4 136 mX9_isFrame.1 RX9 ∈ lw_tbl ∧ Cond.static mX9_isFrame.1 ∈ am_gd := ⟨List.mem_of_getElem? (i := 749) (by decide +kernel), am_in_gd 685 (by decide +kernel) (by decide +kernel)⟩
theorem lkX4_139 : Cond.methodLink RX4 139 mX4_canGoBack.1 ∈ am_gd ∧ Cond.instanceMethod mX4_canGoBack.1 ∈ am_gd ∧ Cond.selects mX4_canGoBack.1.cls mX4_canGoBack.1 mX4_canGoBack.1 ∈ am_gd := ⟨am_in_gd 750 (by decide +kernel) (by decide +kernel), am_in_gd 751 (by decide +kernel) (by decide +kernel), am_in_gd 752 (by decide +kernel) (by decide +kernel)⟩
theorem lkX4_143 : Cond.methodLink RX4 143 mX1_clipsAcross.1 ∈ am_gd ∧ Cond.instanceMethod mX1_clipsAcross.1 ∈ am_gd ∧ Cond.selects mX1_clipsAcross.1.cls mX1_clipsAcross.1 mX1_clipsAcross.1 ∈ am_gd := ⟨am_in_gd 755 (by decide +kernel) (by decide +kernel), am_in_gd 756 (by decide +kernel) (by decide +kernel), am_in_gd 757 (by decide +kernel) (by decide +kernel)⟩
theorem lkX4_147 : Cond.methodLink RX4 147 mX0_giveFrames.1 ∈ am_gd ∧ Cond.instanceMethod mX0_giveFrames.1 ∈ am_gd ∧ Cond.selects mX0_giveFrames.1.cls mX0_giveFrames.1 mX0_giveFrames.1 ∈ am_gd := ⟨am_in_gd 759 (by decide +kernel) (by decide +kernel), am_in_gd 760 (by decide +kernel) (by decide +kernel), am_in_gd 761 (by decide +kernel) (by decide +kernel)⟩
theorem lkX4_150 : Cond.methodLink RX4 150 mX1_giveFrames.1 ∈ am_gd ∧ Cond.instanceMethod mX1_giveFrames.1 ∈ am_gd ∧ Cond.selects mX1_giveFrames.1.cls mX1_giveFrames.1 mX1_giveFrames.1 ∈ am_gd := ⟨am_in_gd 767 (by decide +kernel) (by decide +kernel), am_in_gd 768 (by decide +kernel) (by decide +kernel), am_in_gd 769 (by decide +kernel) (by decide +kernel)⟩
theorem lkX4_151 : Cond.methodLink RX4 151 mX1_lastEnd.1 ∈ am_gd ∧ Cond.instanceMethod mX1_lastEnd.1 ∈ am_gd ∧ Cond.selects mX1_lastEnd.1.cls mX1_lastEnd.1 mX1_lastEnd.1 ∈ am_gd := ⟨am_in_gd 754 (by decide +kernel) (by decide +kernel), am_in_gd 553 (by decide +kernel) (by decide +kernel), am_in_gd 554 (by decide +kernel) (by decide +kernel)⟩
theorem lkX4_155 : Cond.methodLink RX4 155 mX0_has.1 ∈ am_gd ∧ Cond.instanceMethod mX0_has.1 ∈ am_gd ∧ Cond.selects mX0_has.1.cls mX0_has.1 mX0_has.1 ∈ am_gd := ⟨am_in_gd 802 (by decide +kernel) (by decide +kernel), am_in_gd 781 (by decide +kernel) (by decide +kernel), am_in_gd 782 (by decide +kernel) (by decide +kernel)⟩
theorem wmX4_156 : Cond.methodLink RX4 156 Lib.Math.max.name ∈ am_gd := am_in_gd 803 (by decide +kernel) (by decide +kernel)
theorem wcX4_163 : Cond.constant RX4 163 (Int32.ofInt 2147483647) ∈ am_gd := am_in_gd 960 (by decide +kernel) (by decide +kernel)
theorem lkX4_164 : Cond.methodLink RX4 164 mX1_endOf.1 ∈ am_gd ∧ Cond.instanceMethod mX1_endOf.1 ∈ am_gd ∧ Cond.selects mX1_endOf.1.cls mX1_endOf.1 mX1_endOf.1 ∈ am_gd := ⟨am_in_gd 961 (by decide +kernel) (by decide +kernel), am_in_gd 557 (by decide +kernel) (by decide +kernel), am_in_gd 558 (by decide +kernel) (by decide +kernel)⟩
theorem lkX4_167 : Cond.methodLink RX4 167 mX4_eventKey.1 ∈ am_gd ∧ Cond.static mX4_eventKey.1 ∈ am_gd := ⟨am_in_gd 962 (by decide +kernel) (by decide +kernel), am_in_gd 963 (by decide +kernel) (by decide +kernel)⟩
theorem lkX4_171 : Cond.methodLink RX4 171 mX4_nearer.1 ∈ am_gd ∧ Cond.static mX4_nearer.1 ∈ am_gd := ⟨am_in_gd 965 (by decide +kernel) (by decide +kernel), am_in_gd 966 (by decide +kernel) (by decide +kernel)⟩
theorem oiX5_3 : Cond.methodLink RX5 3 objectInit ∈ am_gd := am_in_gd 289 (by decide +kernel) (by decide +kernel)
theorem flX5_9 : am_fl RX5 9 5 0 := ⟨am_in_gd 290 (by decide +kernel) (by decide +kernel), by decide, by decide +kernel⟩
theorem flX5_15 : am_fl RX5 15 5 1 := ⟨am_in_gd 291 (by decide +kernel) (by decide +kernel), by decide, by decide +kernel⟩
theorem flX5_18 : am_fl RX5 18 5 2 := ⟨am_in_gd 293 (by decide +kernel) (by decide +kernel), by decide, by decide +kernel⟩
theorem flX5_21 : am_fl RX5 21 5 3 := ⟨am_in_gd 295 (by decide +kernel) (by decide +kernel), by decide, by decide +kernel⟩
theorem flX5_24 : am_fl RX5 24 5 4 := ⟨am_in_gd 297 (by decide +kernel) (by decide +kernel), by decide, by decide +kernel⟩
theorem flX5_28 : am_fl RX5 28 5 5 := ⟨am_in_gd 299 (by decide +kernel) (by decide +kernel), by decide, by decide +kernel⟩
theorem flX5_31 : am_fl RX5 31 5 6 := ⟨am_in_gd 301 (by decide +kernel) (by decide +kernel), by decide, by decide +kernel⟩
theorem lkX5_34 : Cond.methodLink RX5 34 mX5_readCommand.1 ∈ am_gd ∧ Cond.instanceMethod mX5_readCommand.1 ∈ am_gd ∧ Cond.selects mX5_readCommand.1.cls mX5_readCommand.1 mX5_readCommand.1 ∈ am_gd := ⟨am_in_gd 988 (by decide +kernel) (by decide +kernel), am_in_gd 989 (by decide +kernel) (by decide +kernel), am_in_gd 990 (by decide +kernel) (by decide +kernel)⟩
theorem lkX5_38 : Cond.methodLink RX5 38 mX5_here.1 ∈ am_gd ∧ Cond.instanceMethod mX5_here.1 ∈ am_gd ∧ Cond.selects mX5_here.1.cls mX5_here.1 mX5_here.1 ∈ am_gd := ⟨am_in_gd 992 (by decide +kernel) (by decide +kernel), am_in_gd 993 (by decide +kernel) (by decide +kernel), am_in_gd 994 (by decide +kernel) (by decide +kernel)⟩
theorem lkX5_42 : Cond.methodLink RX5 42 mX5_signOf.1 ∈ am_gd ∧ Cond.static mX5_signOf.1 ∈ am_gd := ⟨am_in_gd 996 (by decide +kernel) (by decide +kernel), am_in_gd 997 (by decide +kernel) (by decide +kernel)⟩
theorem lkX5_46 : Cond.methodLink RX5 46 mX5_readNumber.1 ∈ am_gd ∧ Cond.instanceMethod mX5_readNumber.1 ∈ am_gd ∧ Cond.selects mX5_readNumber.1.cls mX5_readNumber.1 mX5_readNumber.1 ∈ am_gd := ⟨am_in_gd 999 (by decide +kernel) (by decide +kernel), am_in_gd 1000 (by decide +kernel) (by decide +kernel), am_in_gd 1001 (by decide +kernel) (by decide +kernel)⟩
theorem oiX6_3 : Cond.methodLink RX6 3 objectInit ∈ am_gd := am_in_gd 264 (by decide +kernel) (by decide +kernel)
theorem flX6_9 : am_fl RX6 9 6 2 := ⟨am_in_gd 267 (by decide +kernel) (by decide +kernel), by decide, by decide +kernel⟩
theorem flX6_15 : am_fl RX6 15 6 3 := ⟨am_in_gd 269 (by decide +kernel) (by decide +kernel), by decide, by decide +kernel⟩
theorem flX6_18 : am_fl RX6 18 6 0 := ⟨am_in_gd 265 (by decide +kernel) (by decide +kernel), by decide, by decide +kernel⟩
theorem flX6_22 : am_fl RX6 22 6 1 := ⟨am_in_gd 266 (by decide +kernel) (by decide +kernel), by decide, by decide +kernel⟩
theorem flX6_26 : am_fl RX6 26 4 3 := ⟨am_in_gd 133 (by decide +kernel) (by decide +kernel), by decide, by decide +kernel⟩
theorem lkX6_32 : Cond.methodLink RX6 32 mX1_lastEnd.1 ∈ am_gd ∧ Cond.instanceMethod mX1_lastEnd.1 ∈ am_gd ∧ Cond.selects mX1_lastEnd.1.cls mX1_lastEnd.1 mX1_lastEnd.1 ∈ am_gd := ⟨am_in_gd 929 (by decide +kernel) (by decide +kernel), am_in_gd 553 (by decide +kernel) (by decide +kernel), am_in_gd 554 (by decide +kernel) (by decide +kernel)⟩
theorem flX6_38 : am_fl RX6 38 6 4 := ⟨am_in_gd 271 (by decide +kernel) (by decide +kernel), by decide, by decide +kernel⟩
theorem lkX6_42 : Cond.methodLink RX6 42 mX7_mixAt.1 ∈ am_gd ∧ Cond.instanceMethod mX7_mixAt.1 ∈ am_gd ∧ Cond.selects mX7_mixAt.1.cls mX7_mixAt.1 mX7_mixAt.1 ∈ am_gd := ⟨am_in_gd 930 (by decide +kernel) (by decide +kernel), am_in_gd 809 (by decide +kernel) (by decide +kernel), am_in_gd 810 (by decide +kernel) (by decide +kernel)⟩
theorem lkX6_48 : Cond.methodLink RX6 48 mX6_add.1 ∈ am_gd ∧ Cond.instanceMethod mX6_add.1 ∈ am_gd ∧ Cond.selects mX6_add.1.cls mX6_add.1 mX6_add.1 ∈ am_gd := ⟨am_in_gd 931 (by decide +kernel) (by decide +kernel), am_in_gd 932 (by decide +kernel) (by decide +kernel), am_in_gd 933 (by decide +kernel) (by decide +kernel)⟩
theorem oiX7_3 : Cond.methodLink RX7 3 objectInit ∈ am_gd := am_in_gd 192 (by decide +kernel) (by decide +kernel)
theorem flX7_11 : am_fl RX7 11 7 1 := ⟨am_in_gd 196 (by decide +kernel) (by decide +kernel), by decide, by decide +kernel⟩
theorem flX7_16 : am_fl RX7 16 7 2 := ⟨am_in_gd 197 (by decide +kernel) (by decide +kernel), by decide, by decide +kernel⟩
theorem flX7_19 : am_fl RX7 19 7 3 := ⟨am_in_gd 198 (by decide +kernel) (by decide +kernel), by decide, by decide +kernel⟩
theorem flX7_23 : am_fl RX7 23 7 4 := ⟨am_in_gd 199 (by decide +kernel) (by decide +kernel), by decide, by decide +kernel⟩
theorem flX7_26 : am_fl RX7 26 7 5 := ⟨am_in_gd 201 (by decide +kernel) (by decide +kernel), by decide, by decide +kernel⟩
theorem flX7_30 : am_fl RX7 30 7 0 := ⟨am_in_gd 195 (by decide +kernel) (by decide +kernel), by decide, by decide +kernel⟩
theorem flX7_34 : am_fl RX7 34 4 5 := ⟨am_in_gd 139 (by decide +kernel) (by decide +kernel), by decide, by decide +kernel⟩
theorem lkX7_40 : Cond.methodLink RX7 40 mX7_fillSource.1 ∈ am_gd ∧ Cond.instanceMethod mX7_fillSource.1 ∈ am_gd ∧ Cond.selects mX7_fillSource.1.cls mX7_fillSource.1 mX7_fillSource.1 ∈ am_gd := ⟨am_in_gd 428 (by decide +kernel) (by decide +kernel), am_in_gd 429 (by decide +kernel) (by decide +kernel), am_in_gd 430 (by decide +kernel) (by decide +kernel)⟩
theorem lkX7_44 : Cond.methodLink RX7 44 mX7_fillDry.1 ∈ am_gd ∧ Cond.instanceMethod mX7_fillDry.1 ∈ am_gd ∧ Cond.selects mX7_fillDry.1.cls mX7_fillDry.1 mX7_fillDry.1 ∈ am_gd := ⟨am_in_gd 443 (by decide +kernel) (by decide +kernel), am_in_gd 444 (by decide +kernel) (by decide +kernel), am_in_gd 445 (by decide +kernel) (by decide +kernel)⟩
theorem lkX7_47 : Cond.methodLink RX7 47 mJ7_fill_53178.1 ∈ am_gd ∧ Cond.static mJ7_fill_53178.1 ∈ am_gd := ⟨am_in_gd 447 (by decide +kernel) (by decide +kernel), am_in_gd 448 (by decide +kernel) (by decide +kernel)⟩
theorem lkX7_53 : Cond.methodLink RX7 53 mX7_fillDucked.1 ∈ am_gd ∧ Cond.instanceMethod mX7_fillDucked.1 ∈ am_gd ∧ Cond.selects mX7_fillDucked.1.cls mX7_fillDucked.1 mX7_fillDucked.1 ∈ am_gd := ⟨am_in_gd 467 (by decide +kernel) (by decide +kernel), am_in_gd 468 (by decide +kernel) (by decide +kernel), am_in_gd 469 (by decide +kernel) (by decide +kernel)⟩
theorem lkX7_56 : Cond.methodLink RX7 56 mX4_isAudible.1 ∈ am_gd ∧ Cond.instanceMethod mX4_isAudible.1 ∈ am_gd ∧ Cond.selects mX4_isAudible.1.cls mX4_isAudible.1 mX4_isAudible.1 ∈ am_gd := ⟨am_in_gd 474 (by decide +kernel) (by decide +kernel), am_in_gd 475 (by decide +kernel) (by decide +kernel), am_in_gd 476 (by decide +kernel) (by decide +kernel)⟩
theorem lkX7_60 : Cond.methodLink RX7 60 mX7_addTrack.1 ∈ am_gd ∧ Cond.instanceMethod mX7_addTrack.1 ∈ am_gd ∧ Cond.selects mX7_addTrack.1.cls mX7_addTrack.1 mX7_addTrack.1 ∈ am_gd := ⟨am_in_gd 483 (by decide +kernel) (by decide +kernel), am_in_gd 484 (by decide +kernel) (by decide +kernel), am_in_gd 485 (by decide +kernel) (by decide +kernel)⟩
theorem lkX7_63 : Cond.methodLink RX7 63 mX4_sourceNumber.1 ∈ am_gd ∧ Cond.instanceMethod mX4_sourceNumber.1 ∈ am_gd ∧ Cond.selects mX4_sourceNumber.1.cls mX4_sourceNumber.1 mX4_sourceNumber.1 ∈ am_gd := ⟨am_in_gd 432 (by decide +kernel) (by decide +kernel), am_in_gd 433 (by decide +kernel) (by decide +kernel), am_in_gd 434 (by decide +kernel) (by decide +kernel)⟩
theorem wmX7_67 : Cond.methodLink RX7 67 Lib.Math.min.name ∈ am_gd := am_in_gd 436 (by decide +kernel) (by decide +kernel)
theorem wmX7_72 : Cond.methodLink RX7 72 Lib.Math.max.name ∈ am_gd := am_in_gd 439 (by decide +kernel) (by decide +kernel)
theorem wcX7_75 : Cond.constant RX7 75 (Int32.ofInt 1103515245) ∈ am_gd := am_in_gd 442 (by decide +kernel) (by decide +kernel)
theorem flX7_76 : am_fl RX7 76 4 3 := ⟨am_in_gd 136 (by decide +kernel) (by decide +kernel), by decide, by decide +kernel⟩
theorem flX7_80 : am_fl RX7 80 1 1 := ⟨am_in_gd 88 (by decide +kernel) (by decide +kernel), by decide, by decide +kernel⟩
theorem lkX7_85 : Cond.methodLink RX7 85 mX1_get.1 ∈ am_gd ∧ Cond.instanceMethod mX1_get.1 ∈ am_gd ∧ Cond.selects mX1_get.1.cls mX1_get.1 mX1_get.1 ∈ am_gd := ⟨am_in_gd 450 (by decide +kernel) (by decide +kernel), am_in_gd 417 (by decide +kernel) (by decide +kernel), am_in_gd 418 (by decide +kernel) (by decide +kernel)⟩
theorem lkX7_88 : Cond.methodLink RX7 88 mX4_trackNumber.1 ∈ am_gd ∧ Cond.instanceMethod mX4_trackNumber.1 ∈ am_gd ∧ Cond.selects mX4_trackNumber.1.cls mX4_trackNumber.1 mX4_trackNumber.1 ∈ am_gd := ⟨am_in_gd 451 (by decide +kernel) (by decide +kernel), am_in_gd 452 (by decide +kernel) (by decide +kernel), am_in_gd 453 (by decide +kernel) (by decide +kernel)⟩
theorem lkX7_91 : Cond.methodLink RX7 91 mX7_clipValue.1 ∈ am_gd ∧ Cond.instanceMethod mX7_clipValue.1 ∈ am_gd ∧ Cond.selects mX7_clipValue.1.cls mX7_clipValue.1 mX7_clipValue.1 ∈ am_gd := ⟨am_in_gd 455 (by decide +kernel) (by decide +kernel), am_in_gd 456 (by decide +kernel) (by decide +kernel), am_in_gd 457 (by decide +kernel) (by decide +kernel)⟩
theorem lkX7_94 : Cond.methodLinkNest RX7 94 mX9_isTrack.1 RX9 ∈ lw_tbl ∧ Cond.static mX9_isTrack.1 ∈ am_gd := ⟨List.mem_of_getElem? (i := 471) (by decide +kernel), am_in_gd 472 (by decide +kernel) (by decide +kernel)⟩
theorem lkX7_97 : Cond.methodLink RX7 97 mX7_wetAt.1 ∈ am_gd ∧ Cond.instanceMethod mX7_wetAt.1 ∈ am_gd ∧ Cond.selects mX7_wetAt.1.cls mX7_wetAt.1 mX7_wetAt.1 ∈ am_gd := ⟨am_in_gd 487 (by decide +kernel) (by decide +kernel), am_in_gd 488 (by decide +kernel) (by decide +kernel), am_in_gd 489 (by decide +kernel) (by decide +kernel)⟩
theorem lkX7_100 : Cond.methodLink RX7 100 mX7_sourceAt.1 ∈ am_gd ∧ Cond.instanceMethod mX7_sourceAt.1 ∈ am_gd ∧ Cond.selects mX7_sourceAt.1.cls mX7_sourceAt.1 mX7_sourceAt.1 ∈ am_gd := ⟨am_in_gd 459 (by decide +kernel) (by decide +kernel), am_in_gd 460 (by decide +kernel) (by decide +kernel), am_in_gd 461 (by decide +kernel) (by decide +kernel)⟩
theorem lkX7_103 : Cond.methodLink RX7 103 mX7_faded.1 ∈ am_gd ∧ Cond.instanceMethod mX7_faded.1 ∈ am_gd ∧ Cond.selects mX7_faded.1.cls mX7_faded.1 mX7_faded.1 ∈ am_gd := ⟨am_in_gd 463 (by decide +kernel) (by decide +kernel), am_in_gd 464 (by decide +kernel) (by decide +kernel), am_in_gd 465 (by decide +kernel) (by decide +kernel)⟩
theorem flX7_107 : am_fl RX7 107 4 0 := ⟨am_in_gd 127 (by decide +kernel) (by decide +kernel), by decide, by decide +kernel⟩
theorem lkX7_110 : Cond.methodLink RX7 110 mX1_on.1 ∈ am_gd ∧ Cond.instanceMethod mX1_on.1 ∈ am_gd ∧ Cond.selects mX1_on.1.cls mX1_on.1 mX1_on.1 ∈ am_gd := ⟨am_in_gd 829 (by decide +kernel) (by decide +kernel), am_in_gd 701 (by decide +kernel) (by decide +kernel), am_in_gd 702 (by decide +kernel) (by decide +kernel)⟩
theorem lkX7_113 : Cond.methodLink RX7 113 mX7_isDucked.1 ∈ am_gd ∧ Cond.instanceMethod mX7_isDucked.1 ∈ am_gd ∧ Cond.selects mX7_isDucked.1.cls mX7_isDucked.1 mX7_isDucked.1 ∈ am_gd := ⟨am_in_gd 491 (by decide +kernel) (by decide +kernel), am_in_gd 492 (by decide +kernel) (by decide +kernel), am_in_gd 493 (by decide +kernel) (by decide +kernel)⟩
theorem lkX7_117 : Cond.methodLink RX7 117 mX1_lastEnd.1 ∈ am_gd ∧ Cond.instanceMethod mX1_lastEnd.1 ∈ am_gd ∧ Cond.selects mX1_lastEnd.1.cls mX1_lastEnd.1 mX1_lastEnd.1 ∈ am_gd := ⟨am_in_gd 552 (by decide +kernel) (by decide +kernel), am_in_gd 553 (by decide +kernel) (by decide +kernel), am_in_gd 554 (by decide +kernel) (by decide +kernel)⟩
theorem lkX7_121 : Cond.methodLink RX7 121 mX7_unlimitedAt.1 ∈ am_gd ∧ Cond.instanceMethod mX7_unlimitedAt.1 ∈ am_gd ∧ Cond.selects mX7_unlimitedAt.1.cls mX7_unlimitedAt.1 mX7_unlimitedAt.1 ∈ am_gd := ⟨am_in_gd 812 (by decide +kernel) (by decide +kernel), am_in_gd 813 (by decide +kernel) (by decide +kernel), am_in_gd 814 (by decide +kernel) (by decide +kernel)⟩
theorem lkX7_125 : Cond.methodLink RX7 125 mX7_mixAt.1 ∈ am_gd ∧ Cond.instanceMethod mX7_mixAt.1 ∈ am_gd ∧ Cond.selects mX7_mixAt.1.cls mX7_mixAt.1 mX7_mixAt.1 ∈ am_gd := ⟨am_in_gd 808 (by decide +kernel) (by decide +kernel), am_in_gd 809 (by decide +kernel) (by decide +kernel), am_in_gd 810 (by decide +kernel) (by decide +kernel)⟩
theorem oiX8_3 : Cond.methodLink RX8 3 objectInit ∈ am_gd := am_in_gd 322 (by decide +kernel) (by decide +kernel)
theorem flX8_9 : am_fl RX8 9 8 0 := ⟨am_in_gd 323 (by decide +kernel) (by decide +kernel), by decide, by decide +kernel⟩
theorem flX8_15 : am_fl RX8 15 8 1 := ⟨am_in_gd 325 (by decide +kernel) (by decide +kernel), by decide, by decide +kernel⟩
theorem lkX8_19 : Cond.methodLink RX8 19 mX8_add.1 ∈ am_gd ∧ Cond.instanceMethod mX8_add.1 ∈ am_gd ∧ Cond.selects mX8_add.1.cls mX8_add.1 mX8_add.1 ∈ am_gd := ⟨am_in_gd 1023 (by decide +kernel) (by decide +kernel), am_in_gd 1016 (by decide +kernel) (by decide +kernel), am_in_gd 1017 (by decide +kernel) (by decide +kernel)⟩
