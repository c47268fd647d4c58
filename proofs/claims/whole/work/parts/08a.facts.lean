theorem ci_m8 : Int32.ofInt (-8) = (-8) := by decide +kernel
theorem ci_m1 : Int32.ofInt (-1) = (-1) := by decide +kernel
theorem ci_0 : Int32.ofInt (0) = (nI 0) := by decide +kernel
theorem ci_1 : Int32.ofInt (1) = (nI 1) := by decide +kernel
theorem ci_2 : Int32.ofInt (2) = (nI 2) := by decide +kernel
theorem ci_3 : Int32.ofInt (3) = (nI 3) := by decide +kernel
theorem ci_4 : Int32.ofInt (4) = (nI 4) := by decide +kernel
theorem ci_5 : Int32.ofInt (5) = (nI 5) := by decide +kernel
theorem cb_m100 : (Int8.ofInt (-100)).toInt32 = (-100) := by decide +kernel
theorem cb_m33 : (Int8.ofInt (-33)).toInt32 = (-33) := by decide +kernel
theorem cb_6 : (Int8.ofInt (6)).toInt32 = (nI 6) := by decide +kernel
theorem cb_7 : (Int8.ofInt (7)).toInt32 = (nI 7) := by decide +kernel
theorem cb_8 : (Int8.ofInt (8)).toInt32 = (nI 8) := by decide +kernel
theorem cb_9 : (Int8.ofInt (9)).toInt32 = (nI 9) := by decide +kernel
theorem cb_10 : (Int8.ofInt (10)).toInt32 = (nI 10) := by decide +kernel
theorem cb_11 : (Int8.ofInt (11)).toInt32 = (nI 11) := by decide +kernel
theorem cb_12 : (Int8.ofInt (12)).toInt32 = (nI 12) := by decide +kernel
theorem cb_13 : (Int8.ofInt (13)).toInt32 = (nI 13) := by decide +kernel
theorem cb_16 : (Int8.ofInt (16)).toInt32 = (nI 16) := by decide +kernel
theorem cb_18 : (Int8.ofInt (18)).toInt32 = (nI 18) := by decide +kernel
theorem cb_24 : (Int8.ofInt (24)).toInt32 = (nI 24) := by decide +kernel
theorem cb_28 : (Int8.ofInt (28)).toInt32 = (nI 28) := by decide +kernel
theorem cb_30 : (Int8.ofInt (30)).toInt32 = (nI 30) := by decide +kernel
theorem cb_32 : (Int8.ofInt (32)).toInt32 = (nI 32) := by decide +kernel
theorem cb_33 : (Int8.ofInt (33)).toInt32 = (nI 33) := by decide +kernel
theorem cb_38 : (Int8.ofInt (38)).toInt32 = (nI 38) := by decide +kernel
theorem cb_40 : (Int8.ofInt (40)).toInt32 = (nI 40) := by decide +kernel
theorem cb_41 : (Int8.ofInt (41)).toInt32 = (nI 41) := by decide +kernel
theorem cb_42 : (Int8.ofInt (42)).toInt32 = (nI 42) := by decide +kernel
theorem cb_43 : (Int8.ofInt (43)).toInt32 = (nI 43) := by decide +kernel
theorem cb_45 : (Int8.ofInt (45)).toInt32 = (nI 45) := by decide +kernel
theorem cb_47 : (Int8.ofInt (47)).toInt32 = (nI 47) := by decide +kernel
theorem cb_48 : (Int8.ofInt (48)).toInt32 = (nI 48) := by decide +kernel
theorem cb_50 : (Int8.ofInt (50)).toInt32 = (nI 50) := by decide +kernel
theorem cb_57 : (Int8.ofInt (57)).toInt32 = (nI 57) := by decide +kernel
theorem cb_58 : (Int8.ofInt (58)).toInt32 = (nI 58) := by decide +kernel
theorem cb_60 : (Int8.ofInt (60)).toInt32 = (nI 60) := by decide +kernel
theorem cb_61 : (Int8.ofInt (61)).toInt32 = (nI 61) := by decide +kernel
theorem cb_62 : (Int8.ofInt (62)).toInt32 = (nI 62) := by decide +kernel
theorem cb_63 : (Int8.ofInt (63)).toInt32 = (nI 63) := by decide +kernel
theorem cb_80 : (Int8.ofInt (80)).toInt32 = (nI 80) := by decide +kernel
theorem cb_84 : (Int8.ofInt (84)).toInt32 = (nI 84) := by decide +kernel
theorem cb_96 : (Int8.ofInt (96)).toInt32 = (nI 96) := by decide +kernel
theorem cb_97 : (Int8.ofInt (97)).toInt32 = (nI 97) := by decide +kernel
theorem cb_98 : (Int8.ofInt (98)).toInt32 = (nI 98) := by decide +kernel
theorem cb_99 : (Int8.ofInt (99)).toInt32 = (nI 99) := by decide +kernel
theorem cb_100 : (Int8.ofInt (100)).toInt32 = (nI 100) := by decide +kernel
theorem cb_101 : (Int8.ofInt (101)).toInt32 = (nI 101) := by decide +kernel
theorem cb_102 : (Int8.ofInt (102)).toInt32 = (nI 102) := by decide +kernel
theorem cb_103 : (Int8.ofInt (103)).toInt32 = (nI 103) := by decide +kernel
theorem cb_105 : (Int8.ofInt (105)).toInt32 = (nI 105) := by decide +kernel
theorem cb_107 : (Int8.ofInt (107)).toInt32 = (nI 107) := by decide +kernel
theorem cb_108 : (Int8.ofInt (108)).toInt32 = (nI 108) := by decide +kernel
theorem cb_109 : (Int8.ofInt (109)).toInt32 = (nI 109) := by decide +kernel
theorem cb_110 : (Int8.ofInt (110)).toInt32 = (nI 110) := by decide +kernel
theorem cb_111 : (Int8.ofInt (111)).toInt32 = (nI 111) := by decide +kernel
theorem cb_112 : (Int8.ofInt (112)).toInt32 = (nI 112) := by decide +kernel
theorem cb_115 : (Int8.ofInt (115)).toInt32 = (nI 115) := by decide +kernel
theorem cb_116 : (Int8.ofInt (116)).toInt32 = (nI 116) := by decide +kernel
theorem cb_117 : (Int8.ofInt (117)).toInt32 = (nI 117) := by decide +kernel
theorem cb_119 : (Int8.ofInt (119)).toInt32 = (nI 119) := by decide +kernel
theorem cb_122 : (Int8.ofInt (122)).toInt32 = (nI 122) := by decide +kernel
theorem cb_124 : (Int8.ofInt (124)).toInt32 = (nI 124) := by decide +kernel
theorem cs_m32768 : (Int16.ofInt (-32768)).toInt32 = (-32768) := by decide +kernel
theorem cs_150 : (Int16.ofInt (150)).toInt32 = (nI 150) := by decide +kernel
theorem cs_200 : (Int16.ofInt (200)).toInt32 = (nI 200) := by decide +kernel
theorem cs_255 : (Int16.ofInt (255)).toInt32 = (nI 255) := by decide +kernel
theorem cs_256 : (Int16.ofInt (256)).toInt32 = (nI 256) := by decide +kernel
theorem cs_370 : (Int16.ofInt (370)).toInt32 = (nI 370) := by decide +kernel
theorem cs_850 : (Int16.ofInt (850)).toInt32 = (nI 850) := by decide +kernel
theorem cs_999 : (Int16.ofInt (999)).toInt32 = (nI 999) := by decide +kernel
theorem cs_1000 : (Int16.ofInt (1000)).toInt32 = (nI 1000) := by decide +kernel
theorem cs_3250 : (Int16.ofInt (3250)).toInt32 = (nI 3250) := by decide +kernel
theorem cs_3300 : (Int16.ofInt (3300)).toInt32 = (nI 3300) := by decide +kernel
theorem cs_3350 : (Int16.ofInt (3350)).toInt32 = (nI 3350) := by decide +kernel
theorem cs_3380 : (Int16.ofInt (3380)).toInt32 = (nI 3380) := by decide +kernel
theorem cs_3580 : (Int16.ofInt (3580)).toInt32 = (nI 3580) := by decide +kernel
theorem cs_6999 : (Int16.ofInt (6999)).toInt32 = (nI 6999) := by decide +kernel
theorem cs_9999 : (Int16.ofInt (9999)).toInt32 = (nI 9999) := by decide +kernel
theorem cs_10000 : (Int16.ofInt (10000)).toInt32 = (nI 10000) := by decide +kernel
theorem cs_20000 : (Int16.ofInt (20000)).toInt32 = (nI 20000) := by decide +kernel
theorem lc_0 : Int64.ofNat ((0 : Fin 2) : Nat) = (0 : Int64) := by decide +kernel
theorem lc_1 : Int64.ofNat ((1 : Fin 2) : Nat) = (1 : Int64) := by decide +kernel
theorem nz_3 : ¬ (nI 3) = (0 : Int32) := by decide +kernel
theorem nz_4 : ¬ (nI 4) = (0 : Int32) := by decide +kernel
theorem nz_7 : ¬ (nI 7) = (0 : Int32) := by decide +kernel
theorem nz_12 : ¬ (nI 12) = (0 : Int32) := by decide +kernel
theorem nz_100 : ¬ (nI 100) = (0 : Int32) := by decide +kernel
theorem nzl_100 : ¬ (100 : Int64) = 0 := by decide +kernel
theorem bz_0 : narrow .boolean (.int (nI 0)) = .int (nI 0) ∧ fits .boolean (.int (nI 0)) = true := by decide +kernel
theorem bz_1 : narrow .boolean (.int (nI 1)) = .int (nI 1) ∧ fits .boolean (.int (nI 1)) = true := by decide +kernel
theorem ly_0_0 {X : qX} (hX : q_Lay X) {b : Nat} (hk : q_kd X b = some (2, 3)) : X.1 b 0 = some (b + 1) ∧ q_kd X (b + 1) = some (0, 8) := q_lay_at hX (c := 0) 0 (by decide +kernel) hk
theorem ly_0_1 {X : qX} (hX : q_Lay X) {b : Nat} (hk : q_kd X b = some (2, 3)) : X.1 b 1 = some (b + 2) ∧ q_kd X (b + 2) = some (0, 8) := q_lay_at hX (c := 0) 1 (by decide +kernel) hk
theorem ly_0_2 {X : qX} (hX : q_Lay X) {b : Nat} (hk : q_kd X b = some (2, 3)) : X.1 b 2 = some (b + 3) ∧ q_kd X (b + 3) = some (0, 240) := q_lay_at hX (c := 0) 2 (by decide +kernel) hk
theorem ly_1_0 {X : qX} (hX : q_Lay X) {b : Nat} (hk : q_kd X b = some (3, 9)) : X.1 b 0 = some (b + 1) ∧ q_kd X (b + 1) = some (0, 60) := q_lay_at hX (c := 1) 3 (by decide +kernel) hk
theorem ly_1_1 {X : qX} (hX : q_Lay X) {b : Nat} (hk : q_kd X b = some (3, 9)) : X.1 b 1 = some (b + 2) ∧ q_kd X (b + 2) = some (0, 60) := q_lay_at hX (c := 1) 4 (by decide +kernel) hk
theorem ly_1_2 {X : qX} (hX : q_Lay X) {b : Nat} (hk : q_kd X b = some (3, 9)) : X.1 b 2 = some (b + 3) ∧ q_kd X (b + 3) = some (0, 60) := q_lay_at hX (c := 1) 5 (by decide +kernel) hk
theorem ly_1_3 {X : qX} (hX : q_Lay X) {b : Nat} (hk : q_kd X b = some (3, 9)) : X.1 b 3 = some (b + 4) ∧ q_kd X (b + 4) = some (0, 60) := q_lay_at hX (c := 1) 6 (by decide +kernel) hk
theorem ly_1_4 {X : qX} (hX : q_Lay X) {b : Nat} (hk : q_kd X b = some (3, 9)) : X.1 b 4 = some (b + 5) ∧ q_kd X (b + 5) = some (0, 60) := q_lay_at hX (c := 1) 7 (by decide +kernel) hk
theorem ly_1_5 {X : qX} (hX : q_Lay X) {b : Nat} (hk : q_kd X b = some (3, 9)) : X.1 b 5 = some (b + 6) ∧ q_kd X (b + 6) = some (0, 60) := q_lay_at hX (c := 1) 8 (by decide +kernel) hk
theorem ly_1_6 {X : qX} (hX : q_Lay X) {b : Nat} (hk : q_kd X b = some (3, 9)) : X.1 b 6 = some (b + 7) ∧ q_kd X (b + 7) = some (0, 60) := q_lay_at hX (c := 1) 9 (by decide +kernel) hk
theorem ly_1_7 {X : qX} (hX : q_Lay X) {b : Nat} (hk : q_kd X b = some (3, 9)) : X.1 b 7 = some (b + 8) ∧ q_kd X (b + 8) = some (0, 60) := q_lay_at hX (c := 1) 10 (by decide +kernel) hk
theorem ly_2_0 {X : qX} (hX : q_Lay X) {b : Nat} (hk : q_kd X b = some (4, 15)) : X.1 b 0 = some (b + 1) ∧ q_kd X (b + 1) = some (0, 12) := q_lay_at hX (c := 2) 11 (by decide +kernel) hk
theorem ly_2_1 {X : qX} (hX : q_Lay X) {b : Nat} (hk : q_kd X b = some (4, 15)) : X.1 b 1 = some (b + 2) ∧ q_kd X (b + 2) = some (0, 12) := q_lay_at hX (c := 2) 12 (by decide +kernel) hk
theorem ly_2_2 {X : qX} (hX : q_Lay X) {b : Nat} (hk : q_kd X b = some (4, 15)) : X.1 b 2 = some (b + 3) ∧ q_kd X (b + 3) = some (0, 12) := q_lay_at hX (c := 2) 13 (by decide +kernel) hk
theorem ly_2_3 {X : qX} (hX : q_Lay X) {b : Nat} (hk : q_kd X b = some (4, 15)) : X.1 b 3 = some (b + 4) ∧ q_kd X (b + 4) = some (0, 12) := q_lay_at hX (c := 2) 14 (by decide +kernel) hk
theorem ly_2_4 {X : qX} (hX : q_Lay X) {b : Nat} (hk : q_kd X b = some (4, 15)) : X.1 b 4 = some (b + 5) ∧ q_kd X (b + 5) = some (0, 12) := q_lay_at hX (c := 2) 15 (by decide +kernel) hk
theorem ly_2_5 {X : qX} (hX : q_Lay X) {b : Nat} (hk : q_kd X b = some (4, 15)) : X.1 b 5 = some (b + 6) ∧ q_kd X (b + 6) = some (0, 12) := q_lay_at hX (c := 2) 16 (by decide +kernel) hk
theorem ly_2_6 {X : qX} (hX : q_Lay X) {b : Nat} (hk : q_kd X b = some (4, 15)) : X.1 b 6 = some (b + 7) ∧ q_kd X (b + 7) = some (0, 12) := q_lay_at hX (c := 2) 17 (by decide +kernel) hk
theorem ly_2_7 {X : qX} (hX : q_Lay X) {b : Nat} (hk : q_kd X b = some (4, 15)) : X.1 b 7 = some (b + 8) ∧ q_kd X (b + 8) = some (0, 12) := q_lay_at hX (c := 2) 18 (by decide +kernel) hk
theorem ly_2_8 {X : qX} (hX : q_Lay X) {b : Nat} (hk : q_kd X b = some (4, 15)) : X.1 b 8 = some (b + 9) ∧ q_kd X (b + 9) = some (0, 12) := q_lay_at hX (c := 2) 19 (by decide +kernel) hk
theorem ly_2_9 {X : qX} (hX : q_Lay X) {b : Nat} (hk : q_kd X b = some (4, 15)) : X.1 b 9 = some (b + 10) ∧ q_kd X (b + 10) = some (0, 12) := q_lay_at hX (c := 2) 20 (by decide +kernel) hk
theorem ly_2_10 {X : qX} (hX : q_Lay X) {b : Nat} (hk : q_kd X b = some (4, 15)) : X.1 b 10 = some (b + 11) ∧ q_kd X (b + 11) = some (0, 12) := q_lay_at hX (c := 2) 21 (by decide +kernel) hk
theorem ly_2_11 {X : qX} (hX : q_Lay X) {b : Nat} (hk : q_kd X b = some (4, 15)) : X.1 b 11 = some (b + 12) ∧ q_kd X (b + 12) = some (0, 12) := q_lay_at hX (c := 2) 22 (by decide +kernel) hk
theorem ly_2_12 {X : qX} (hX : q_Lay X) {b : Nat} (hk : q_kd X b = some (4, 15)) : X.1 b 12 = some (b + 13) ∧ q_kd X (b + 13) = some (0, 72) := q_lay_at hX (c := 2) 23 (by decide +kernel) hk
theorem ly_2_13 {X : qX} (hX : q_Lay X) {b : Nat} (hk : q_kd X b = some (4, 15)) : X.1 b 13 = some (b + 14) ∧ q_kd X (b + 14) = some (0, 72) := q_lay_at hX (c := 2) 24 (by decide +kernel) hk
theorem ly_3_0 {X : qX} (hX : q_Lay X) {b : Nat} (hk : q_kd X b = some (5, 5)) : X.1 b 0 = some (b + 1) ∧ q_kd X (b + 1) = some (0, 8) := q_lay_at hX (c := 3) 25 (by decide +kernel) hk
theorem ly_3_1 {X : qX} (hX : q_Lay X) {b : Nat} (hk : q_kd X b = some (5, 5)) : X.1 b 1 = some (b + 2) ∧ q_kd X (b + 2) = some (0, 8) := q_lay_at hX (c := 3) 26 (by decide +kernel) hk
theorem ly_3_2 {X : qX} (hX : q_Lay X) {b : Nat} (hk : q_kd X b = some (5, 5)) : X.1 b 2 = some (b + 3) ∧ q_kd X (b + 3) = some (0, 8) := q_lay_at hX (c := 3) 27 (by decide +kernel) hk
theorem ly_3_3 {X : qX} (hX : q_Lay X) {b : Nat} (hk : q_kd X b = some (5, 5)) : X.1 b 3 = some (b + 4) ∧ q_kd X (b + 4) = some (0, 8) := q_lay_at hX (c := 3) 28 (by decide +kernel) hk
theorem ly_3_4 {X : qX} (hX : q_Lay X) {b : Nat} (hk : q_kd X b = some (5, 5)) : X.1 b 4 = some (b + 5) ∧ q_kd X (b + 5) = some (0, 8) := q_lay_at hX (c := 3) 29 (by decide +kernel) hk
theorem ly_4_0 {X : qX} (hX : q_Lay X) {b : Nat} (hk : q_kd X b = some (6, 10)) : X.1 b 0 = some (b + 1) ∧ q_kd X (b + 1) = some (0, 8) := q_lay_at hX (c := 4) 30 (by decide +kernel) hk
theorem ly_4_1 {X : qX} (hX : q_Lay X) {b : Nat} (hk : q_kd X b = some (6, 10)) : X.1 b 1 = some (b + 2) ∧ q_kd X (b + 2) = some (0, 8) := q_lay_at hX (c := 4) 31 (by decide +kernel) hk
theorem ly_4_2 {X : qX} (hX : q_Lay X) {b : Nat} (hk : q_kd X b = some (6, 10)) : X.1 b 2 = some (b + 3) ∧ q_kd X (b + 3) = some (0, 8) := q_lay_at hX (c := 4) 32 (by decide +kernel) hk
theorem ly_4_3 {X : qX} (hX : q_Lay X) {b : Nat} (hk : q_kd X b = some (6, 10)) : X.1 b 3 = some (b + 4) ∧ q_kd X (b + 4) = some (0, 8) := q_lay_at hX (c := 4) 33 (by decide +kernel) hk
theorem ly_4_4 {X : qX} (hX : q_Lay X) {b : Nat} (hk : q_kd X b = some (6, 10)) : X.1 b 4 = some (b + 5) ∧ q_kd X (b + 5) = some (0, 8) := q_lay_at hX (c := 4) 34 (by decide +kernel) hk
theorem ly_4_5 {X : qX} (hX : q_Lay X) {b : Nat} (hk : q_kd X b = some (6, 10)) : X.1 b 5 = some (b + 6) ∧ q_kd X (b + 6) = some (0, 8) := q_lay_at hX (c := 4) 35 (by decide +kernel) hk
theorem ly_4_6 {X : qX} (hX : q_Lay X) {b : Nat} (hk : q_kd X b = some (6, 10)) : X.1 b 6 = some (b + 7) ∧ q_kd X (b + 7) = some (0, 8) := q_lay_at hX (c := 4) 36 (by decide +kernel) hk
theorem ly_5_0 {X : qX} (hX : q_Lay X) {b : Nat} (hk : q_kd X b = some (7, 9)) : X.1 b 0 = some (b + 1) ∧ q_kd X (b + 1) = some (0, 96) := q_lay_at hX (c := 5) 37 (by decide +kernel) hk
theorem ly_5_1 {X : qX} (hX : q_Lay X) {b : Nat} (hk : q_kd X b = some (7, 9)) : X.1 b 1 = some (b + 2) ∧ q_kd X (b + 2) = some (0, 96) := q_lay_at hX (c := 5) 38 (by decide +kernel) hk
theorem ly_6_0 {X : qX} (hX : q_Lay X) {b : Nat} (hk : q_kd X b = some (8, 9)) : X.1 b 0 = some (b + 1) ∧ q_kd X (b + 1) = some (0, 16) := q_lay_at hX (c := 6) 39 (by decide +kernel) hk
theorem ly_6_1 {X : qX} (hX : q_Lay X) {b : Nat} (hk : q_kd X b = some (8, 9)) : X.1 b 1 = some (b + 2) ∧ q_kd X (b + 2) = some (0, 16) := q_lay_at hX (c := 6) 40 (by decide +kernel) hk
theorem ly_6_2 {X : qX} (hX : q_Lay X) {b : Nat} (hk : q_kd X b = some (8, 9)) : X.1 b 2 = some (b + 3) ∧ q_kd X (b + 3) = some (0, 16) := q_lay_at hX (c := 6) 41 (by decide +kernel) hk
theorem ly_6_3 {X : qX} (hX : q_Lay X) {b : Nat} (hk : q_kd X b = some (8, 9)) : X.1 b 3 = some (b + 4) ∧ q_kd X (b + 4) = some (0, 28) := q_lay_at hX (c := 6) 42 (by decide +kernel) hk
theorem ly_6_4 {X : qX} (hX : q_Lay X) {b : Nat} (hk : q_kd X b = some (8, 9)) : X.1 b 4 = some (b + 5) ∧ q_kd X (b + 5) = some (0, 8) := q_lay_at hX (c := 6) 43 (by decide +kernel) hk
theorem ly_6_5 {X : qX} (hX : q_Lay X) {b : Nat} (hk : q_kd X b = some (8, 9)) : X.1 b 5 = some (b + 6) ∧ q_kd X (b + 6) = some (0, 7) := q_lay_at hX (c := 6) 44 (by decide +kernel) hk
theorem ly_6_6 {X : qX} (hX : q_Lay X) {b : Nat} (hk : q_kd X b = some (8, 9)) : X.1 b 6 = some (b + 7) ∧ q_kd X (b + 7) = some (0, 7) := q_lay_at hX (c := 6) 45 (by decide +kernel) hk
theorem ly_7_0 {X : qX} (hX : q_Lay X) {b : Nat} (hk : q_kd X b = some (9, 6)) : X.1 b 0 = some (b + 1) ∧ q_kd X (b + 1) = some (0, 12) := q_lay_at hX (c := 7) 46 (by decide +kernel) hk
theorem ly_7_1 {X : qX} (hX : q_Lay X) {b : Nat} (hk : q_kd X b = some (9, 6)) : X.1 b 1 = some (b + 2) ∧ q_kd X (b + 2) = some (0, 12) := q_lay_at hX (c := 7) 47 (by decide +kernel) hk
theorem ly_7_2 {X : qX} (hX : q_Lay X) {b : Nat} (hk : q_kd X b = some (9, 6)) : X.1 b 2 = some (b + 3) ∧ q_kd X (b + 3) = some (0, 12) := q_lay_at hX (c := 7) 48 (by decide +kernel) hk
theorem ly_7_3 {X : qX} (hX : q_Lay X) {b : Nat} (hk : q_kd X b = some (9, 6)) : X.1 b 3 = some (b + 4) ∧ q_kd X (b + 4) = some (1, 12) := q_lay_at hX (c := 7) 49 (by decide +kernel) hk
theorem ly_7_4 {X : qX} (hX : q_Lay X) {b : Nat} (hk : q_kd X b = some (9, 6)) : X.1 b 4 = some (b + 5) ∧ q_kd X (b + 5) = some (0, 96) := q_lay_at hX (c := 7) 50 (by decide +kernel) hk
theorem ly_8_0 {X : qX} (hX : q_Lay X) {b : Nat} (hk : q_kd X b = some (10, 5)) : X.1 b 0 = some (b + 1) ∧ q_kd X (b + 1) = some (0, 6) := q_lay_at hX (c := 8) 51 (by decide +kernel) hk
theorem ly_8_1 {X : qX} (hX : q_Lay X) {b : Nat} (hk : q_kd X b = some (10, 5)) : X.1 b 1 = some (b + 2) ∧ q_kd X (b + 2) = some (0, 6) := q_lay_at hX (c := 8) 52 (by decide +kernel) hk
theorem ly_8_2 {X : qX} (hX : q_Lay X) {b : Nat} (hk : q_kd X b = some (10, 5)) : X.1 b 2 = some (b + 3) ∧ q_kd X (b + 3) = some (0, 6) := q_lay_at hX (c := 8) 53 (by decide +kernel) hk
theorem ly_8_3 {X : qX} (hX : q_Lay X) {b : Nat} (hk : q_kd X b = some (10, 5)) : X.1 b 3 = some (b + 4) ∧ q_kd X (b + 4) = some (0, 6) := q_lay_at hX (c := 8) 54 (by decide +kernel) hk
theorem ly_9_0 {X : qX} (hX : q_Lay X) {b : Nat} (hk : q_kd X b = some (11, 14)) : X.1 b 0 = some (b + 1) ∧ q_kd X (b + 1) = some (5, 5) := q_lay_at hX (c := 9) 55 (by decide +kernel) hk
theorem ly_9_1 {X : qX} (hX : q_Lay X) {b : Nat} (hk : q_kd X b = some (11, 14)) : X.1 b 1 = some (b + 7) ∧ q_kd X (b + 7) = some (10, 5) := q_lay_at hX (c := 9) 56 (by decide +kernel) hk
theorem ly_9_2 {X : qX} (hX : q_Lay X) {b : Nat} (hk : q_kd X b = some (11, 14)) : X.1 b 2 = some (b + 12) ∧ q_kd X (b + 12) = some (4, 15) := q_lay_at hX (c := 9) 57 (by decide +kernel) hk
theorem ly_9_3 {X : qX} (hX : q_Lay X) {b : Nat} (hk : q_kd X b = some (11, 14)) : X.1 b 3 = some (b + 27) ∧ q_kd X (b + 27) = some (3, 9) := q_lay_at hX (c := 9) 58 (by decide +kernel) hk
theorem ly_9_4 {X : qX} (hX : q_Lay X) {b : Nat} (hk : q_kd X b = some (11, 14)) : X.1 b 4 = some (b + 36) ∧ q_kd X (b + 36) = some (9, 6) := q_lay_at hX (c := 9) 59 (by decide +kernel) hk
theorem ly_9_5 {X : qX} (hX : q_Lay X) {b : Nat} (hk : q_kd X b = some (11, 14)) : X.1 b 5 = some (b + 42) ∧ q_kd X (b + 42) = some (12, 1) := q_lay_at hX (c := 9) 60 (by decide +kernel) hk
theorem ly_9_6 {X : qX} (hX : q_Lay X) {b : Nat} (hk : q_kd X b = some (11, 14)) : X.1 b 6 = some (b + 44) ∧ q_kd X (b + 44) = some (8, 9) := q_lay_at hX (c := 9) 61 (by decide +kernel) hk
theorem ly_9_7 {X : qX} (hX : q_Lay X) {b : Nat} (hk : q_kd X b = some (11, 14)) : X.1 b 7 = some (b + 52) ∧ q_kd X (b + 52) = some (6, 10) := q_lay_at hX (c := 9) 62 (by decide +kernel) hk
theorem ly_9_8 {X : qX} (hX : q_Lay X) {b : Nat} (hk : q_kd X b = some (11, 14)) : X.1 b 8 = some (b + 60) ∧ q_kd X (b + 60) = some (0, 3) := q_lay_at hX (c := 9) 63 (by decide +kernel) hk
theorem ly_9_9 {X : qX} (hX : q_Lay X) {b : Nat} (hk : q_kd X b = some (11, 14)) : X.1 b 9 = some (b + 61) ∧ q_kd X (b + 61) = some (0, 7) := q_lay_at hX (c := 9) 64 (by decide +kernel) hk
theorem ly_9_10 {X : qX} (hX : q_Lay X) {b : Nat} (hk : q_kd X b = some (11, 14)) : X.1 b 10 = some (b + 62) ∧ q_kd X (b + 62) = some (0, 8) := q_lay_at hX (c := 9) 65 (by decide +kernel) hk
theorem ly_9_11 {X : qX} (hX : q_Lay X) {b : Nat} (hk : q_kd X b = some (11, 14)) : X.1 b 11 = some (b + 63) ∧ q_kd X (b + 63) = some (0, 8) := q_lay_at hX (c := 9) 66 (by decide +kernel) hk
theorem ly_9_12 {X : qX} (hX : q_Lay X) {b : Nat} (hk : q_kd X b = some (11, 14)) : X.1 b 12 = some (b + 64) ∧ q_kd X (b + 64) = some (0, 8) := q_lay_at hX (c := 9) 67 (by decide +kernel) hk
theorem ly_10_0 {X : qX} (hX : q_Lay X) {b : Nat} (hk : q_kd X b = some (12, 1)) : X.1 b 0 = some (b + 1) ∧ q_kd X (b + 1) = some (0, 48) := q_lay_at hX (c := 10) 68 (by decide +kernel) hk
theorem ly_11_0 {X : qX} (hX : q_Lay X) {b : Nat} (hk : q_kd X b = some (13, 9)) : X.1 b 0 = some (b + 1) ∧ q_kd X (b + 1) = some (11, 14) := q_lay_at hX (c := 11) 69 (by decide +kernel) hk
theorem ly_11_3 {X : qX} (hX : q_Lay X) {b : Nat} (hk : q_kd X b = some (13, 9)) : X.1 b 3 = some (b + 196) ∧ q_kd X (b + 196) = some (7, 9) := q_lay_at hX (c := 11) 72 (by decide +kernel) hk
theorem ly_11_4 {X : qX} (hX : q_Lay X) {b : Nat} (hk : q_kd X b = some (13, 9)) : X.1 b 4 = some (b + 199) ∧ q_kd X (b + 199) = some (2, 3) := q_lay_at hX (c := 11) 73 (by decide +kernel) hk
theorem ly_11_5 {X : qX} (hX : q_Lay X) {b : Nat} (hk : q_kd X b = some (13, 9)) : X.1 b 5 = some (b + 203) ∧ q_kd X (b + 203) = some (0, 60) := q_lay_at hX (c := 11) 74 (by decide +kernel) hk
theorem ly_11_6 {X : qX} (hX : q_Lay X) {b : Nat} (hk : q_kd X b = some (13, 9)) : X.1 b 6 = some (b + 204) ∧ q_kd X (b + 204) = some (0, 60) := q_lay_at hX (c := 11) 75 (by decide +kernel) hk
theorem ly_12_0 {X : qX} (hX : q_Lay X) {b : Nat} (hk : q_kd X b = some (14, 42)) : X.1 b 0 = some (b + 1) ∧ q_kd X (b + 1) = some (0, 3580) := q_lay_at hX (c := 12) 76 (by decide +kernel) hk
theorem ly_12_1 {X : qX} (hX : q_Lay X) {b : Nat} (hk : q_kd X b = some (14, 42)) : X.1 b 1 = some (b + 2) ∧ q_kd X (b + 2) = some (0, 3580) := q_lay_at hX (c := 12) 77 (by decide +kernel) hk
theorem ly_12_2 {X : qX} (hX : q_Lay X) {b : Nat} (hk : q_kd X b = some (14, 42)) : X.1 b 2 = some (b + 3) ∧ q_kd X (b + 3) = some (0, 3580) := q_lay_at hX (c := 12) 78 (by decide +kernel) hk
theorem ly_12_4 {X : qX} (hX : q_Lay X) {b : Nat} (hk : q_kd X b = some (14, 42)) : X.1 b 4 = some (b + 4) ∧ q_kd X (b + 4) = some (0, 8) := q_lay_at hX (c := 12) 79 (by decide +kernel) hk
theorem ly_12_5 {X : qX} (hX : q_Lay X) {b : Nat} (hk : q_kd X b = some (14, 42)) : X.1 b 5 = some (b + 5) ∧ q_kd X (b + 5) = some (0, 8) := q_lay_at hX (c := 12) 80 (by decide +kernel) hk
theorem ly_12_6 {X : qX} (hX : q_Lay X) {b : Nat} (hk : q_kd X b = some (14, 42)) : X.1 b 6 = some (b + 6) ∧ q_kd X (b + 6) = some (0, 240) := q_lay_at hX (c := 12) 81 (by decide +kernel) hk
theorem ly_12_13 {X : qX} (hX : q_Lay X) {b : Nat} (hk : q_kd X b = some (14, 42)) : X.1 b 13 = some (b + 7) ∧ q_kd X (b + 7) = some (0, 96) := q_lay_at hX (c := 12) 82 (by decide +kernel) hk
theorem ly_12_26 {X : qX} (hX : q_Lay X) {b : Nat} (hk : q_kd X b = some (14, 42)) : X.1 b 26 = some (b + 8) ∧ q_kd X (b + 8) = some (0, 128) := q_lay_at hX (c := 12) 83 (by decide +kernel) hk
theorem ly_12_27 {X : qX} (hX : q_Lay X) {b : Nat} (hk : q_kd X b = some (14, 42)) : X.1 b 27 = some (b + 9) ∧ q_kd X (b + 9) = some (0, 100) := q_lay_at hX (c := 12) 84 (by decide +kernel) hk
theorem ly_12_28 {X : qX} (hX : q_Lay X) {b : Nat} (hk : q_kd X b = some (14, 42)) : X.1 b 28 = some (b + 10) ∧ q_kd X (b + 10) = some (0, 30) := q_lay_at hX (c := 12) 85 (by decide +kernel) hk
theorem ly_12_29 {X : qX} (hX : q_Lay X) {b : Nat} (hk : q_kd X b = some (14, 42)) : X.1 b 29 = some (b + 11) ∧ q_kd X (b + 11) = some (0, 28) := q_lay_at hX (c := 12) 86 (by decide +kernel) hk
theorem ly_12_31 {X : qX} (hX : q_Lay X) {b : Nat} (hk : q_kd X b = some (14, 42)) : X.1 b 31 = some (b + 12) ∧ q_kd X (b + 12) = some (0, 8) := q_lay_at hX (c := 12) 87 (by decide +kernel) hk
theorem ly_12_32 {X : qX} (hX : q_Lay X) {b : Nat} (hk : q_kd X b = some (14, 42)) : X.1 b 32 = some (b + 13) ∧ q_kd X (b + 13) = some (0, 8) := q_lay_at hX (c := 12) 88 (by decide +kernel) hk
theorem ly_12_33 {X : qX} (hX : q_Lay X) {b : Nat} (hk : q_kd X b = some (14, 42)) : X.1 b 33 = some (b + 14) ∧ q_kd X (b + 14) = some (0, 8) := q_lay_at hX (c := 12) 89 (by decide +kernel) hk
theorem ly_12_34 {X : qX} (hX : q_Lay X) {b : Nat} (hk : q_kd X b = some (14, 42)) : X.1 b 34 = some (b + 15) ∧ q_kd X (b + 15) = some (0, 8) := q_lay_at hX (c := 12) 90 (by decide +kernel) hk
theorem ly_12_38 {X : qX} (hX : q_Lay X) {b : Nat} (hk : q_kd X b = some (14, 42)) : X.1 b 38 = some (b + 16) ∧ q_kd X (b + 16) = some (0, 60) := q_lay_at hX (c := 12) 91 (by decide +kernel) hk
theorem ly_12_40 {X : qX} (hX : q_Lay X) {b : Nat} (hk : q_kd X b = some (14, 42)) : X.1 b 40 = some (b + 17) ∧ q_kd X (b + 17) = some (0, 60) := q_lay_at hX (c := 12) 92 (by decide +kernel) hk
theorem fl_X0_11 : q_fl RX0 11 0 3 0 true := ⟨_, _, rfl, by decide, (q_wt2 (i := 183) (by decide +kernel) rfl), rfl, rfl⟩
theorem fl_X0_17 : q_fl RX0 17 0 3 1 true := ⟨_, _, rfl, by decide, (q_wt2 (i := 185) (by decide +kernel) rfl), rfl, rfl⟩
theorem fl_X0_20 : q_fl RX0 20 0 3 2 true := ⟨_, _, rfl, by decide, (q_wt2 (i := 187) (by decide +kernel) rfl), rfl, rfl⟩
theorem fl_X1_11 : q_fl RX1 11 1 9 0 true := ⟨_, _, rfl, by decide, (q_wt1 (i := 171) (by decide +kernel) rfl), rfl, rfl⟩
theorem fl_X1_15 : q_fl RX1 15 1 9 1 true := ⟨_, _, rfl, by decide, (q_wt1 (i := 174) (by decide +kernel) rfl), rfl, rfl⟩
theorem fl_X1_18 : q_fl RX1 18 1 9 2 true := ⟨_, _, rfl, by decide, (q_wt1 (i := 176) (by decide +kernel) rfl), rfl, rfl⟩
theorem fl_X1_21 : q_fl RX1 21 1 9 3 true := ⟨_, _, rfl, by decide, (q_wt1 (i := 179) (by decide +kernel) rfl), rfl, rfl⟩
theorem fl_X1_24 : q_fl RX1 24 1 9 4 true := ⟨_, _, rfl, by decide, (q_wt1 (i := 181) (by decide +kernel) rfl), rfl, rfl⟩
theorem fl_X1_27 : q_fl RX1 27 1 9 5 true := ⟨_, _, rfl, by decide, (q_wt1 (i := 182) (by decide +kernel) rfl), rfl, rfl⟩
theorem fl_X1_30 : q_fl RX1 30 1 9 6 true := ⟨_, _, rfl, by decide, (q_wt1 (i := 185) (by decide +kernel) rfl), rfl, rfl⟩
theorem fl_X1_33 : q_fl RX1 33 1 9 7 true := ⟨_, _, rfl, by decide, (q_wt1 (i := 187) (by decide +kernel) rfl), rfl, rfl⟩
theorem fl_X1_36 : q_fl RX1 36 1 9 8 false := ⟨_, _, rfl, by decide, (q_wt1 (i := 188) (by decide +kernel) rfl), rfl, rfl⟩
theorem fs_X1_40 : Cond.fieldLink RX1 40 "TokenValley$Dues" "ABOVE" "[I" ∈ q_tbl := (q_wt3 (i := 227) (by decide +kernel) rfl)
theorem fl_X10_9 : q_fl RX10 9 10 1 0 true := ⟨_, _, rfl, by decide, (q_wt2 (i := 5) (by decide +kernel) rfl), rfl, rfl⟩
theorem fl_X11_10 : q_fl RX11 10 11 9 0 true := ⟨_, _, rfl, by decide, (q_wt2 (i := 196) (by decide +kernel) rfl), rfl, rfl⟩
theorem fl_X11_25 : q_fl RX11 25 11 9 3 true := ⟨_, _, rfl, by decide, (q_wt2 (i := 199) (by decide +kernel) rfl), rfl, rfl⟩
theorem fl_X11_32 : q_fl RX11 32 11 9 4 true := ⟨_, _, rfl, by decide, (q_wt2 (i := 200) (by decide +kernel) rfl), rfl, rfl⟩
theorem fl_X11_36 : q_fl RX11 36 11 9 5 true := ⟨_, _, rfl, by decide, (q_wt2 (i := 201) (by decide +kernel) rfl), rfl, rfl⟩
theorem fl_X11_40 : q_fl RX11 40 11 9 6 true := ⟨_, _, rfl, by decide, (q_wt2 (i := 202) (by decide +kernel) rfl), rfl, rfl⟩
theorem fl_X11_43 : q_fl RX11 43 11 9 7 false := ⟨_, _, rfl, by decide, (q_wt2 (i := 203) (by decide +kernel) rfl), rfl, rfl⟩
theorem fl_X11_58 : q_fl RX11 58 9 14 0 true := ⟨_, _, rfl, by decide, (q_wt2 (i := 87) (by decide +kernel) rfl), rfl, rfl⟩
theorem fl_X11_70 : q_fl RX11 70 9 14 2 true := ⟨_, _, rfl, by decide, (q_wt2 (i := 91) (by decide +kernel) rfl), rfl, rfl⟩
theorem fl_X11_87 : q_fl RX11 87 9 14 1 true := ⟨_, _, rfl, by decide, (q_wt2 (i := 89) (by decide +kernel) rfl), rfl, rfl⟩
theorem fl_X11_104 : q_fl RX11 104 2 15 14 false := ⟨_, _, rfl, by decide, (q_wt1 (i := 133) (by decide +kernel) rfl), rfl, rfl⟩
theorem fl_X11_107 : q_fl RX11 107 9 14 3 true := ⟨_, _, rfl, by decide, (q_wt2 (i := 93) (by decide +kernel) rfl), rfl, rfl⟩
theorem fl_X11_111 : q_fl RX11 111 1 9 8 false := ⟨_, _, rfl, by decide, (q_wt1 (i := 189) (by decide +kernel) rfl), rfl, rfl⟩
theorem fl_X11_138 : q_fl RX11 138 8 5 1 true := ⟨_, _, rfl, by decide, (q_wt1 (i := 75) (by decide +kernel) rfl), rfl, rfl⟩
theorem fl_X11_141 : q_fl RX11 141 9 14 13 false := ⟨_, _, rfl, by decide, (q_wt2 (i := 110) (by decide +kernel) rfl), rfl, rfl⟩
theorem fl_X11_148 : q_fl RX11 148 9 14 8 true := ⟨_, _, rfl, by decide, (q_wt2 (i := 103) (by decide +kernel) rfl), rfl, rfl⟩
theorem fl_X11_165 : q_fl RX11 165 1 9 6 true := ⟨_, _, rfl, by decide, (q_wt1 (i := 186) (by decide +kernel) rfl), rfl, rfl⟩
theorem fl_X11_176 : q_fl RX11 176 1 9 0 true := ⟨_, _, rfl, by decide, (q_wt1 (i := 172) (by decide +kernel) rfl), rfl, rfl⟩
theorem fl_X11_180 : q_fl RX11 180 1 9 5 true := ⟨_, _, rfl, by decide, (q_wt1 (i := 183) (by decide +kernel) rfl), rfl, rfl⟩
theorem fl_X11_183 : q_fl RX11 183 1 9 2 true := ⟨_, _, rfl, by decide, (q_wt1 (i := 178) (by decide +kernel) rfl), rfl, rfl⟩
theorem fl_X11_186 : q_fl RX11 186 2 15 4 true := ⟨_, _, rfl, by decide, (q_wt1 (i := 112) (by decide +kernel) rfl), rfl, rfl⟩
theorem fl_X11_189 : q_fl RX11 189 2 15 5 true := ⟨_, _, rfl, by decide, (q_wt1 (i := 115) (by decide +kernel) rfl), rfl, rfl⟩
theorem fl_X11_204 : q_fl RX11 204 9 14 9 true := ⟨_, _, rfl, by decide, (q_wt2 (i := 105) (by decide +kernel) rfl), rfl, rfl⟩
theorem fl_X11_213 : q_fl RX11 213 3 5 4 true := ⟨_, _, rfl, by decide, (q_wt1 (i := 53) (by decide +kernel) rfl), rfl, rfl⟩
theorem fl_X11_216 : q_fl RX11 216 3 5 3 true := ⟨_, _, rfl, by decide, (q_wt1 (i := 50) (by decide +kernel) rfl), rfl, rfl⟩
theorem fl_X11_243 : q_fl RX11 243 2 15 9 true := ⟨_, _, rfl, by decide, (q_wt1 (i := 124) (by decide +kernel) rfl), rfl, rfl⟩
theorem fl_X11_246 : q_fl RX11 246 5 9 6 false := ⟨_, _, rfl, by decide, (q_wt2 (i := 153) (by decide +kernel) rfl), rfl, rfl⟩
theorem fl_X11_256 : q_fl RX11 256 9 14 4 true := ⟨_, _, rfl, by decide, (q_wt2 (i := 95) (by decide +kernel) rfl), rfl, rfl⟩
theorem fl_X11_288 : q_fl RX11 288 0 3 1 true := ⟨_, _, rfl, by decide, (q_wt2 (i := 186) (by decide +kernel) rfl), rfl, rfl⟩
theorem fl_X11_300 : q_fl RX11 300 0 3 2 true := ⟨_, _, rfl, by decide, (q_wt2 (i := 188) (by decide +kernel) rfl), rfl, rfl⟩
theorem fl_X11_311 : q_fl RX11 311 0 3 0 true := ⟨_, _, rfl, by decide, (q_wt2 (i := 184) (by decide +kernel) rfl), rfl, rfl⟩
theorem fl_X11_328 : q_fl RX11 328 9 14 5 true := ⟨_, _, rfl, by decide, (q_wt2 (i := 97) (by decide +kernel) rfl), rfl, rfl⟩
theorem fl_X11_332 : q_fl RX11 332 10 1 0 true := ⟨_, _, rfl, by decide, (q_wt2 (i := 6) (by decide +kernel) rfl), rfl, rfl⟩
theorem fl_X11_344 : q_fl RX11 344 7 6 0 true := ⟨_, _, rfl, by decide, (q_wt1 (i := 219) (by decide +kernel) rfl), rfl, rfl⟩
theorem fl_X11_354 : q_fl RX11 354 9 14 6 true := ⟨_, _, rfl, by decide, (q_wt2 (i := 99) (by decide +kernel) rfl), rfl, rfl⟩
theorem fl_X11_363 : q_fl RX11 363 6 9 6 true := ⟨_, _, rfl, by decide, (q_wt2 (i := 23) (by decide +kernel) rfl), rfl, rfl⟩
theorem fl_X11_378 : q_fl RX11 378 9 14 7 true := ⟨_, _, rfl, by decide, (q_wt2 (i := 101) (by decide +kernel) rfl), rfl, rfl⟩
theorem fl_X11_391 : q_fl RX11 391 4 10 9 false := ⟨_, _, rfl, by decide, (q_wt2 (i := 64) (by decide +kernel) rfl), rfl, rfl⟩
theorem fl_X11_392 : q_fl RX11 392 4 10 5 true := ⟨_, _, rfl, by decide, (q_wt2 (i := 58) (by decide +kernel) rfl), rfl, rfl⟩
theorem fl_X11_401 : q_fl RX11 401 4 10 6 true := ⟨_, _, rfl, by decide, (q_wt2 (i := 60) (by decide +kernel) rfl), rfl, rfl⟩
theorem fl_X11_410 : q_fl RX11 410 8 5 4 false := ⟨_, _, rfl, by decide, (q_wt1 (i := 83) (by decide +kernel) rfl), rfl, rfl⟩
theorem fl_X11_416 : q_fl RX11 416 7 6 5 false := ⟨_, _, rfl, by decide, (q_wt1 (i := 225) (by decide +kernel) rfl), rfl, rfl⟩
theorem fl_X11_417 : q_fl RX11 417 6 9 8 false := ⟨_, _, rfl, by decide, (q_wt2 (i := 26) (by decide +kernel) rfl), rfl, rfl⟩
theorem fl_X12_7 : q_fl RX12 7 12 42 0 true := ⟨_, _, rfl, by decide, (q_wt6 (i := 189) (by decide +kernel) rfl), rfl, rfl⟩
theorem fl_X12_13 : q_fl RX12 13 12 42 1 true := ⟨_, _, rfl, by decide, (q_wt6 (i := 190) (by decide +kernel) rfl), rfl, rfl⟩
theorem fl_X12_16 : q_fl RX12 16 12 42 2 true := ⟨_, _, rfl, by decide, (q_wt6 (i := 191) (by decide +kernel) rfl), rfl, rfl⟩
theorem fl_X12_19 : q_fl RX12 19 12 42 4 true := ⟨_, _, rfl, by decide, (q_wt6 (i := 193) (by decide +kernel) rfl), rfl, rfl⟩
theorem fl_X12_22 : q_fl RX12 22 12 42 5 true := ⟨_, _, rfl, by decide, (q_wt6 (i := 194) (by decide +kernel) rfl), rfl, rfl⟩
theorem fl_X12_25 : q_fl RX12 25 12 42 6 true := ⟨_, _, rfl, by decide, (q_wt6 (i := 195) (by decide +kernel) rfl), rfl, rfl⟩
theorem fl_X12_28 : q_fl RX12 28 12 42 13 true := ⟨_, _, rfl, by decide, (q_wt6 (i := 202) (by decide +kernel) rfl), rfl, rfl⟩
theorem fl_X12_31 : q_fl RX12 31 12 42 26 true := ⟨_, _, rfl, by decide, (q_wt6 (i := 215) (by decide +kernel) rfl), rfl, rfl⟩
theorem fl_X12_34 : q_fl RX12 34 12 42 27 true := ⟨_, _, rfl, by decide, (q_wt6 (i := 216) (by decide +kernel) rfl), rfl, rfl⟩
theorem fl_X12_37 : q_fl RX12 37 12 42 28 true := ⟨_, _, rfl, by decide, (q_wt6 (i := 217) (by decide +kernel) rfl), rfl, rfl⟩
theorem fl_X12_40 : q_fl RX12 40 12 42 29 true := ⟨_, _, rfl, by decide, (q_wt6 (i := 218) (by decide +kernel) rfl), rfl, rfl⟩
theorem fl_X12_43 : q_fl RX12 43 12 42 31 true := ⟨_, _, rfl, by decide, (q_wt6 (i := 220) (by decide +kernel) rfl), rfl, rfl⟩
theorem fl_X12_46 : q_fl RX12 46 12 42 32 true := ⟨_, _, rfl, by decide, (q_wt6 (i := 221) (by decide +kernel) rfl), rfl, rfl⟩
theorem fl_X12_49 : q_fl RX12 49 12 42 33 true := ⟨_, _, rfl, by decide, (q_wt6 (i := 222) (by decide +kernel) rfl), rfl, rfl⟩
theorem fl_X12_52 : q_fl RX12 52 12 42 34 true := ⟨_, _, rfl, by decide, (q_wt6 (i := 223) (by decide +kernel) rfl), rfl, rfl⟩
theorem fl_X12_55 : q_fl RX12 55 12 42 38 true := ⟨_, _, rfl, by decide, (q_wt6 (i := 227) (by decide +kernel) rfl), rfl, rfl⟩
theorem fl_X12_58 : q_fl RX12 58 12 42 40 true := ⟨_, _, rfl, by decide, (q_wt6 (i := 229) (by decide +kernel) rfl), rfl, rfl⟩
theorem fl_X12_156 : q_fl RX12 156 12 42 7 false := ⟨_, _, rfl, by decide, (q_wt6 (i := 196) (by decide +kernel) rfl), rfl, rfl⟩
theorem fl_X12_163 : q_fl RX12 163 12 42 9 false := ⟨_, _, rfl, by decide, (q_wt6 (i := 198) (by decide +kernel) rfl), rfl, rfl⟩
theorem fl_X12_166 : q_fl RX12 166 12 42 10 false := ⟨_, _, rfl, by decide, (q_wt6 (i := 199) (by decide +kernel) rfl), rfl, rfl⟩
theorem fl_X12_169 : q_fl RX12 169 12 42 11 false := ⟨_, _, rfl, by decide, (q_wt6 (i := 200) (by decide +kernel) rfl), rfl, rfl⟩
theorem fl_X12_172 : q_fl RX12 172 12 42 12 false := ⟨_, _, rfl, by decide, (q_wt6 (i := 201) (by decide +kernel) rfl), rfl, rfl⟩
theorem fl_X12_180 : q_fl RX12 180 12 42 8 false := ⟨_, _, rfl, by decide, (q_wt6 (i := 197) (by decide +kernel) rfl), rfl, rfl⟩
theorem fl_X12_215 : q_fl RX12 215 12 42 14 false := ⟨_, _, rfl, by decide, (q_wt6 (i := 203) (by decide +kernel) rfl), rfl, rfl⟩
theorem fl_X12_226 : q_fl RX12 226 12 42 16 false := ⟨_, _, rfl, by decide, (q_wt6 (i := 205) (by decide +kernel) rfl), rfl, rfl⟩
theorem fl_X12_229 : q_fl RX12 229 12 42 17 false := ⟨_, _, rfl, by decide, (q_wt6 (i := 206) (by decide +kernel) rfl), rfl, rfl⟩
theorem fl_X12_232 : q_fl RX12 232 12 42 15 false := ⟨_, _, rfl, by decide, (q_wt6 (i := 204) (by decide +kernel) rfl), rfl, rfl⟩
theorem fl_X12_238 : q_fl RX12 238 12 42 19 false := ⟨_, _, rfl, by decide, (q_wt6 (i := 208) (by decide +kernel) rfl), rfl, rfl⟩
theorem fl_X12_244 : q_fl RX12 244 12 42 18 false := ⟨_, _, rfl, by decide, (q_wt6 (i := 207) (by decide +kernel) rfl), rfl, rfl⟩
theorem fl_X12_251 : q_fl RX12 251 12 42 23 false := ⟨_, _, rfl, by decide, (q_wt6 (i := 212) (by decide +kernel) rfl), rfl, rfl⟩
theorem fl_X12_254 : q_fl RX12 254 12 42 22 false := ⟨_, _, rfl, by decide, (q_wt6 (i := 211) (by decide +kernel) rfl), rfl, rfl⟩
theorem fl_X12_281 : q_fl RX12 281 12 42 24 false := ⟨_, _, rfl, by decide, (q_wt6 (i := 213) (by decide +kernel) rfl), rfl, rfl⟩
theorem fl_X12_288 : q_fl RX12 288 12 42 21 false := ⟨_, _, rfl, by decide, (q_wt6 (i := 210) (by decide +kernel) rfl), rfl, rfl⟩
theorem fl_X12_291 : q_fl RX12 291 12 42 20 false := ⟨_, _, rfl, by decide, (q_wt6 (i := 209) (by decide +kernel) rfl), rfl, rfl⟩
theorem fl_X12_331 : q_fl RX12 331 12 42 25 false := ⟨_, _, rfl, by decide, (q_wt6 (i := 214) (by decide +kernel) rfl), rfl, rfl⟩
theorem fl_X12_395 : q_fl RX12 395 12 42 30 false := ⟨_, _, rfl, by decide, (q_wt6 (i := 219) (by decide +kernel) rfl), rfl, rfl⟩
theorem fl_X12_409 : q_fl RX12 409 12 42 35 false := ⟨_, _, rfl, by decide, (q_wt6 (i := 224) (by decide +kernel) rfl), rfl, rfl⟩
theorem fl_X12_412 : q_fl RX12 412 12 42 37 false := ⟨_, _, rfl, by decide, (q_wt6 (i := 226) (by decide +kernel) rfl), rfl, rfl⟩
theorem fl_X12_415 : q_fl RX12 415 12 42 36 false := ⟨_, _, rfl, by decide, (q_wt6 (i := 225) (by decide +kernel) rfl), rfl, rfl⟩
theorem fl_X12_431 : q_fl RX12 431 12 42 39 false := ⟨_, _, rfl, by decide, (q_wt6 (i := 228) (by decide +kernel) rfl), rfl, rfl⟩
theorem fl_X12_434 : q_fl RX12 434 12 42 41 false := ⟨_, _, rfl, by decide, (q_wt6 (i := 230) (by decide +kernel) rfl), rfl, rfl⟩
theorem fl_X12_442 : q_fl RX12 442 12 42 3 false := ⟨_, _, rfl, by decide, (q_wt6 (i := 192) (by decide +kernel) rfl), rfl, rfl⟩
theorem fl_X2_11 : q_fl RX2 11 2 15 0 true := ⟨_, _, rfl, by decide, (q_wt1 (i := 101) (by decide +kernel) rfl), rfl, rfl⟩
theorem fl_X2_15 : q_fl RX2 15 2 15 1 true := ⟨_, _, rfl, by decide, (q_wt1 (i := 103) (by decide +kernel) rfl), rfl, rfl⟩
theorem fl_X2_18 : q_fl RX2 18 2 15 2 true := ⟨_, _, rfl, by decide, (q_wt1 (i := 105) (by decide +kernel) rfl), rfl, rfl⟩
theorem fl_X2_21 : q_fl RX2 21 2 15 3 true := ⟨_, _, rfl, by decide, (q_wt1 (i := 107) (by decide +kernel) rfl), rfl, rfl⟩
theorem fl_X2_24 : q_fl RX2 24 2 15 4 true := ⟨_, _, rfl, by decide, (q_wt1 (i := 110) (by decide +kernel) rfl), rfl, rfl⟩
theorem fl_X2_27 : q_fl RX2 27 2 15 5 true := ⟨_, _, rfl, by decide, (q_wt1 (i := 113) (by decide +kernel) rfl), rfl, rfl⟩
theorem fl_X2_30 : q_fl RX2 30 2 15 6 true := ⟨_, _, rfl, by decide, (q_wt1 (i := 116) (by decide +kernel) rfl), rfl, rfl⟩
theorem fl_X2_33 : q_fl RX2 33 2 15 7 true := ⟨_, _, rfl, by decide, (q_wt1 (i := 118) (by decide +kernel) rfl), rfl, rfl⟩
theorem fl_X2_36 : q_fl RX2 36 2 15 8 true := ⟨_, _, rfl, by decide, (q_wt1 (i := 120) (by decide +kernel) rfl), rfl, rfl⟩
theorem fl_X2_39 : q_fl RX2 39 2 15 9 true := ⟨_, _, rfl, by decide, (q_wt1 (i := 122) (by decide +kernel) rfl), rfl, rfl⟩
theorem fl_X2_42 : q_fl RX2 42 2 15 10 true := ⟨_, _, rfl, by decide, (q_wt1 (i := 125) (by decide +kernel) rfl), rfl, rfl⟩
theorem fl_X2_45 : q_fl RX2 45 2 15 11 true := ⟨_, _, rfl, by decide, (q_wt1 (i := 127) (by decide +kernel) rfl), rfl, rfl⟩
theorem fl_X2_50 : q_fl RX2 50 2 15 12 true := ⟨_, _, rfl, by decide, (q_wt1 (i := 129) (by decide +kernel) rfl), rfl, rfl⟩
theorem fl_X2_53 : q_fl RX2 53 2 15 13 true := ⟨_, _, rfl, by decide, (q_wt1 (i := 130) (by decide +kernel) rfl), rfl, rfl⟩
theorem fl_X2_56 : q_fl RX2 56 2 15 14 false := ⟨_, _, rfl, by decide, (q_wt1 (i := 131) (by decide +kernel) rfl), rfl, rfl⟩
theorem fs_X2_60 : Cond.fieldLink RX2 60 "TokenValley$Men" "LEAST_V" "[I" ∈ q_tbl := (q_wt3 (i := 47) (by decide +kernel) rfl)
theorem fs_X2_63 : Cond.fieldLink RX2 63 "TokenValley$Men" "MOST_V" "[I" ∈ q_tbl := (q_wt3 (i := 49) (by decide +kernel) rfl)
theorem fl_X3_9 : q_fl RX3 9 3 5 0 true := ⟨_, _, rfl, by decide, (q_wt1 (i := 42) (by decide +kernel) rfl), rfl, rfl⟩
theorem fl_X3_13 : q_fl RX3 13 3 5 1 true := ⟨_, _, rfl, by decide, (q_wt1 (i := 44) (by decide +kernel) rfl), rfl, rfl⟩
theorem fl_X3_16 : q_fl RX3 16 3 5 2 true := ⟨_, _, rfl, by decide, (q_wt1 (i := 46) (by decide +kernel) rfl), rfl, rfl⟩
theorem fl_X3_19 : q_fl RX3 19 3 5 3 true := ⟨_, _, rfl, by decide, (q_wt1 (i := 48) (by decide +kernel) rfl), rfl, rfl⟩
theorem fl_X3_22 : q_fl RX3 22 3 5 4 true := ⟨_, _, rfl, by decide, (q_wt1 (i := 51) (by decide +kernel) rfl), rfl, rfl⟩
theorem fl_X4_11 : q_fl RX4 11 4 10 0 true := ⟨_, _, rfl, by decide, (q_wt2 (i := 52) (by decide +kernel) rfl), rfl, rfl⟩
theorem fl_X4_15 : q_fl RX4 15 4 10 1 true := ⟨_, _, rfl, by decide, (q_wt2 (i := 53) (by decide +kernel) rfl), rfl, rfl⟩
theorem fl_X4_18 : q_fl RX4 18 4 10 2 true := ⟨_, _, rfl, by decide, (q_wt2 (i := 54) (by decide +kernel) rfl), rfl, rfl⟩
theorem fl_X4_21 : q_fl RX4 21 4 10 3 true := ⟨_, _, rfl, by decide, (q_wt2 (i := 55) (by decide +kernel) rfl), rfl, rfl⟩
theorem fl_X4_24 : q_fl RX4 24 4 10 4 true := ⟨_, _, rfl, by decide, (q_wt2 (i := 56) (by decide +kernel) rfl), rfl, rfl⟩
theorem fl_X4_27 : q_fl RX4 27 4 10 5 true := ⟨_, _, rfl, by decide, (q_wt2 (i := 57) (by decide +kernel) rfl), rfl, rfl⟩
theorem fl_X4_30 : q_fl RX4 30 4 10 6 true := ⟨_, _, rfl, by decide, (q_wt2 (i := 59) (by decide +kernel) rfl), rfl, rfl⟩
theorem fl_X4_33 : q_fl RX4 33 4 10 9 false := ⟨_, _, rfl, by decide, (q_wt2 (i := 63) (by decide +kernel) rfl), rfl, rfl⟩
theorem fl_X4_44 : q_fl RX4 44 4 10 7 false := ⟨_, _, rfl, by decide, (q_wt2 (i := 61) (by decide +kernel) rfl), rfl, rfl⟩
theorem fl_X4_47 : q_fl RX4 47 4 10 8 false := ⟨_, _, rfl, by decide, (q_wt2 (i := 62) (by decide +kernel) rfl), rfl, rfl⟩
theorem fl_X5_9 : q_fl RX5 9 5 9 0 true := ⟨_, _, rfl, by decide, (q_wt2 (i := 146) (by decide +kernel) rfl), rfl, rfl⟩
theorem fl_X5_13 : q_fl RX5 13 5 9 1 true := ⟨_, _, rfl, by decide, (q_wt2 (i := 147) (by decide +kernel) rfl), rfl, rfl⟩
theorem fl_X5_16 : q_fl RX5 16 5 9 6 false := ⟨_, _, rfl, by decide, (q_wt2 (i := 152) (by decide +kernel) rfl), rfl, rfl⟩
theorem fl_X5_20 : q_fl RX5 20 5 9 2 false := ⟨_, _, rfl, by decide, (q_wt2 (i := 148) (by decide +kernel) rfl), rfl, rfl⟩
theorem fl_X5_29 : q_fl RX5 29 5 9 8 false := ⟨_, _, rfl, by decide, (q_wt2 (i := 156) (by decide +kernel) rfl), rfl, rfl⟩
theorem fl_X5_32 : q_fl RX5 32 5 9 3 false := ⟨_, _, rfl, by decide, (q_wt2 (i := 149) (by decide +kernel) rfl), rfl, rfl⟩
theorem fl_X5_35 : q_fl RX5 35 5 9 5 false := ⟨_, _, rfl, by decide, (q_wt2 (i := 151) (by decide +kernel) rfl), rfl, rfl⟩
theorem fl_X5_48 : q_fl RX5 48 5 9 4 false := ⟨_, _, rfl, by decide, (q_wt2 (i := 150) (by decide +kernel) rfl), rfl, rfl⟩
theorem fl_X6_11 : q_fl RX6 11 6 9 0 true := ⟨_, _, rfl, by decide, (q_wt2 (i := 16) (by decide +kernel) rfl), rfl, rfl⟩
theorem fl_X6_15 : q_fl RX6 15 6 9 1 true := ⟨_, _, rfl, by decide, (q_wt2 (i := 17) (by decide +kernel) rfl), rfl, rfl⟩
theorem fl_X6_18 : q_fl RX6 18 6 9 2 true := ⟨_, _, rfl, by decide, (q_wt2 (i := 18) (by decide +kernel) rfl), rfl, rfl⟩
theorem fl_X6_21 : q_fl RX6 21 6 9 3 true := ⟨_, _, rfl, by decide, (q_wt2 (i := 19) (by decide +kernel) rfl), rfl, rfl⟩
theorem fl_X6_24 : q_fl RX6 24 6 9 4 true := ⟨_, _, rfl, by decide, (q_wt2 (i := 20) (by decide +kernel) rfl), rfl, rfl⟩
theorem fl_X6_27 : q_fl RX6 27 6 9 5 true := ⟨_, _, rfl, by decide, (q_wt2 (i := 21) (by decide +kernel) rfl), rfl, rfl⟩
theorem fl_X6_30 : q_fl RX6 30 6 9 6 true := ⟨_, _, rfl, by decide, (q_wt2 (i := 22) (by decide +kernel) rfl), rfl, rfl⟩
theorem fl_X6_33 : q_fl RX6 33 6 9 8 false := ⟨_, _, rfl, by decide, (q_wt2 (i := 25) (by decide +kernel) rfl), rfl, rfl⟩
theorem fl_X6_44 : q_fl RX6 44 6 9 7 false := ⟨_, _, rfl, by decide, (q_wt2 (i := 24) (by decide +kernel) rfl), rfl, rfl⟩
theorem fl_X7_11 : q_fl RX7 11 7 6 0 true := ⟨_, _, rfl, by decide, (q_wt1 (i := 218) (by decide +kernel) rfl), rfl, rfl⟩
theorem fl_X7_15 : q_fl RX7 15 7 6 1 true := ⟨_, _, rfl, by decide, (q_wt1 (i := 220) (by decide +kernel) rfl), rfl, rfl⟩
theorem fl_X7_18 : q_fl RX7 18 7 6 2 true := ⟨_, _, rfl, by decide, (q_wt1 (i := 221) (by decide +kernel) rfl), rfl, rfl⟩
theorem fl_X7_22 : q_fl RX7 22 7 6 3 true := ⟨_, _, rfl, by decide, (q_wt1 (i := 222) (by decide +kernel) rfl), rfl, rfl⟩
theorem fl_X7_28 : q_fl RX7 28 7 6 4 true := ⟨_, _, rfl, by decide, (q_wt1 (i := 223) (by decide +kernel) rfl), rfl, rfl⟩
theorem fl_X7_31 : q_fl RX7 31 7 6 5 false := ⟨_, _, rfl, by decide, (q_wt1 (i := 224) (by decide +kernel) rfl), rfl, rfl⟩
theorem fl_X8_11 : q_fl RX8 11 8 5 0 true := ⟨_, _, rfl, by decide, (q_wt1 (i := 72) (by decide +kernel) rfl), rfl, rfl⟩
theorem fl_X8_15 : q_fl RX8 15 8 5 1 true := ⟨_, _, rfl, by decide, (q_wt1 (i := 74) (by decide +kernel) rfl), rfl, rfl⟩
theorem fl_X8_18 : q_fl RX8 18 8 5 2 true := ⟨_, _, rfl, by decide, (q_wt1 (i := 77) (by decide +kernel) rfl), rfl, rfl⟩
theorem fl_X8_21 : q_fl RX8 21 8 5 3 true := ⟨_, _, rfl, by decide, (q_wt1 (i := 79) (by decide +kernel) rfl), rfl, rfl⟩
theorem fl_X8_24 : q_fl RX8 24 8 5 4 false := ⟨_, _, rfl, by decide, (q_wt1 (i := 81) (by decide +kernel) rfl), rfl, rfl⟩
theorem fl_X9_12 : q_fl RX9 12 9 14 0 true := ⟨_, _, rfl, by decide, (q_wt2 (i := 86) (by decide +kernel) rfl), rfl, rfl⟩
theorem fl_X9_21 : q_fl RX9 21 9 14 1 true := ⟨_, _, rfl, by decide, (q_wt2 (i := 88) (by decide +kernel) rfl), rfl, rfl⟩
theorem fl_X9_28 : q_fl RX9 28 9 14 2 true := ⟨_, _, rfl, by decide, (q_wt2 (i := 90) (by decide +kernel) rfl), rfl, rfl⟩
theorem fl_X9_35 : q_fl RX9 35 9 14 3 true := ⟨_, _, rfl, by decide, (q_wt2 (i := 92) (by decide +kernel) rfl), rfl, rfl⟩
theorem fl_X9_42 : q_fl RX9 42 9 14 4 true := ⟨_, _, rfl, by decide, (q_wt2 (i := 94) (by decide +kernel) rfl), rfl, rfl⟩
theorem fl_X9_67 : q_fl RX9 67 9 14 8 true := ⟨_, _, rfl, by decide, (q_wt2 (i := 102) (by decide +kernel) rfl), rfl, rfl⟩
theorem fl_X9_71 : q_fl RX9 71 9 14 9 true := ⟨_, _, rfl, by decide, (q_wt2 (i := 104) (by decide +kernel) rfl), rfl, rfl⟩
theorem fl_X9_74 : q_fl RX9 74 9 14 10 true := ⟨_, _, rfl, by decide, (q_wt2 (i := 106) (by decide +kernel) rfl), rfl, rfl⟩
theorem fl_X9_77 : q_fl RX9 77 9 14 11 true := ⟨_, _, rfl, by decide, (q_wt2 (i := 107) (by decide +kernel) rfl), rfl, rfl⟩
theorem fl_X9_80 : q_fl RX9 80 9 14 12 true := ⟨_, _, rfl, by decide, (q_wt2 (i := 108) (by decide +kernel) rfl), rfl, rfl⟩
